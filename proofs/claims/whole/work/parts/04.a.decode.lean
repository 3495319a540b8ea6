theorem dX0_init_0 : decode cX0_init 0 = .ok (.aload_n 0, 1) := by decide +kernel
theorem dX0_init_1 : decode cX0_init 1 = .ok (.invokespecial 3, 3) := by decide +kernel
theorem dX0_init_4 : decode cX0_init 4 = .ok (.aload_n 0, 1) := by decide +kernel
theorem dX0_init_5 : decode cX0_init 5 = .ok (.bipush 9, 2) := by decide +kernel
theorem dX0_init_7 : decode cX0_init 7 = .ok (.anewarray 9, 3) := by decide +kernel
theorem dX0_init_10 : decode cX0_init 10 = .ok (.putfield 11, 3) := by decide +kernel
theorem dX0_init_13 : decode cX0_init 13 = .ok (.aload_n 0, 1) := by decide +kernel
theorem dX0_init_14 : decode cX0_init 14 = .ok (.iload_n 1, 1) := by decide +kernel
theorem dX0_init_15 : decode cX0_init 15 = .ok (.putfield 17, 3) := by decide +kernel
theorem dX0_init_18 : decode cX0_init 18 = .ok (.aload_n 0, 1) := by decide +kernel
theorem dX0_init_19 : decode cX0_init 19 = .ok (.iload_n 2, 1) := by decide +kernel
theorem dX0_init_20 : decode cX0_init 20 = .ok (.putfield 21, 3) := by decide +kernel
theorem dX0_init_23 : decode cX0_init 23 = .ok (.return_, 1) := by decide +kernel
theorem dX0_tell_0 : decode cX0_tell 0 = .ok (.iload_n 1, 1) := by decide +kernel
theorem dX0_tell_1 : decode cX0_tell 1 = .ok (.ifCond .lt 35, 3) := by decide +kernel
theorem dX0_tell_4 : decode cX0_tell 4 = .ok (.iload_n 1, 1) := by decide +kernel
theorem dX0_tell_5 : decode cX0_tell 5 = .ok (.aload_n 0, 1) := by decide +kernel
theorem dX0_tell_6 : decode cX0_tell 6 = .ok (.getfield 11, 3) := by decide +kernel
theorem dX0_tell_9 : decode cX0_tell 9 = .ok (.arraylength, 1) := by decide +kernel
theorem dX0_tell_10 : decode cX0_tell 10 = .ok (.if_icmp .ge 26, 3) := by decide +kernel
theorem dX0_tell_13 : decode cX0_tell 13 = .ok (.aload_n 0, 1) := by decide +kernel
theorem dX0_tell_14 : decode cX0_tell 14 = .ok (.getfield 11, 3) := by decide +kernel
theorem dX0_tell_17 : decode cX0_tell 17 = .ok (.iload_n 1, 1) := by decide +kernel
theorem dX0_tell_18 : decode cX0_tell 18 = .ok (.new 9, 3) := by decide +kernel
theorem dX0_tell_21 : decode cX0_tell 21 = .ok (.dup, 1) := by decide +kernel
theorem dX0_tell_22 : decode cX0_tell 22 = .ok (.iload_n 2, 1) := by decide +kernel
theorem dX0_tell_23 : decode cX0_tell 23 = .ok (.iload_n 3, 1) := by decide +kernel
theorem dX0_tell_24 : decode cX0_tell 24 = .ok (.iload 4, 2) := by decide +kernel
theorem dX0_tell_26 : decode cX0_tell 26 = .ok (.aload_n 0, 1) := by decide +kernel
theorem dX0_tell_27 : decode cX0_tell 27 = .ok (.getfield 11, 3) := by decide +kernel
theorem dX0_tell_30 : decode cX0_tell 30 = .ok (.iload_n 1, 1) := by decide +kernel
theorem dX0_tell_31 : decode cX0_tell 31 = .ok (.aaload, 1) := by decide +kernel
theorem dX0_tell_32 : decode cX0_tell 32 = .ok (.invokespecial 24, 3) := by decide +kernel
theorem dX0_tell_35 : decode cX0_tell 35 = .ok (.aastore, 1) := by decide +kernel
theorem dX0_tell_36 : decode cX0_tell 36 = .ok (.return_, 1) := by decide +kernel
theorem dX0_counted_0 : decode cX0_counted 0 = .ok (.iload_n 1, 1) := by decide +kernel
theorem dX0_counted_1 : decode cX0_counted 1 = .ok (.ifCond .lt 12, 3) := by decide +kernel
theorem dX0_counted_4 : decode cX0_counted 4 = .ok (.iload_n 1, 1) := by decide +kernel
theorem dX0_counted_5 : decode cX0_counted 5 = .ok (.aload_n 0, 1) := by decide +kernel
theorem dX0_counted_6 : decode cX0_counted 6 = .ok (.getfield 11, 3) := by decide +kernel
theorem dX0_counted_9 : decode cX0_counted 9 = .ok (.arraylength, 1) := by decide +kernel
theorem dX0_counted_10 : decode cX0_counted 10 = .ok (.if_icmp .lt 5, 3) := by decide +kernel
theorem dX0_counted_13 : decode cX0_counted 13 = .ok (.iconst 0, 1) := by decide +kernel
theorem dX0_counted_14 : decode cX0_counted 14 = .ok (.ireturn, 1) := by decide +kernel
theorem dX0_counted_15 : decode cX0_counted 15 = .ok (.iconst 0, 1) := by decide +kernel
theorem dX0_counted_16 : decode cX0_counted 16 = .ok (.istore 4, 2) := by decide +kernel
theorem dX0_counted_18 : decode cX0_counted 18 = .ok (.iconst (-1), 1) := by decide +kernel
theorem dX0_counted_19 : decode cX0_counted 19 = .ok (.istore 5, 2) := by decide +kernel
theorem dX0_counted_21 : decode cX0_counted 21 = .ok (.aload_n 0, 1) := by decide +kernel
theorem dX0_counted_22 : decode cX0_counted 22 = .ok (.getfield 11, 3) := by decide +kernel
theorem dX0_counted_25 : decode cX0_counted 25 = .ok (.iload_n 1, 1) := by decide +kernel
theorem dX0_counted_26 : decode cX0_counted 26 = .ok (.aaload, 1) := by decide +kernel
theorem dX0_counted_27 : decode cX0_counted 27 = .ok (.astore 6, 2) := by decide +kernel
theorem dX0_counted_29 : decode cX0_counted 29 = .ok (.aload 6, 2) := by decide +kernel
theorem dX0_counted_31 : decode cX0_counted 31 = .ok (.ifnull 55, 3) := by decide +kernel
theorem dX0_counted_34 : decode cX0_counted 34 = .ok (.aload 6, 2) := by decide +kernel
theorem dX0_counted_36 : decode cX0_counted 36 = .ok (.getfield 27, 3) := by decide +kernel
theorem dX0_counted_39 : decode cX0_counted 39 = .ok (.iload_n 3, 1) := by decide +kernel
theorem dX0_counted_40 : decode cX0_counted 40 = .ok (.if_icmp .gt 36, 3) := by decide +kernel
theorem dX0_counted_43 : decode cX0_counted 43 = .ok (.aload 6, 2) := by decide +kernel
theorem dX0_counted_45 : decode cX0_counted 45 = .ok (.getfield 30, 3) := by decide +kernel
theorem dX0_counted_48 : decode cX0_counted 48 = .ok (.iload_n 2, 1) := by decide +kernel
theorem dX0_counted_49 : decode cX0_counted 49 = .ok (.if_icmp .gt 27, 3) := by decide +kernel
theorem dX0_counted_52 : decode cX0_counted 52 = .ok (.aload 6, 2) := by decide +kernel
theorem dX0_counted_54 : decode cX0_counted 54 = .ok (.getfield 30, 3) := by decide +kernel
theorem dX0_counted_57 : decode cX0_counted 57 = .ok (.iload 5, 2) := by decide +kernel
theorem dX0_counted_59 : decode cX0_counted 59 = .ok (.if_icmp .le 17, 3) := by decide +kernel
theorem dX0_counted_62 : decode cX0_counted 62 = .ok (.aload 6, 2) := by decide +kernel
theorem dX0_counted_64 : decode cX0_counted 64 = .ok (.getfield 33, 3) := by decide +kernel
theorem dX0_counted_67 : decode cX0_counted 67 = .ok (.istore 4, 2) := by decide +kernel
theorem dX0_counted_69 : decode cX0_counted 69 = .ok (.aload 6, 2) := by decide +kernel
theorem dX0_counted_71 : decode cX0_counted 71 = .ok (.getfield 30, 3) := by decide +kernel
theorem dX0_counted_74 : decode cX0_counted 74 = .ok (.istore 5, 2) := by decide +kernel
theorem dX0_counted_76 : decode cX0_counted 76 = .ok (.aload 6, 2) := by decide +kernel
theorem dX0_counted_78 : decode cX0_counted 78 = .ok (.getfield 36, 3) := by decide +kernel
theorem dX0_counted_81 : decode cX0_counted 81 = .ok (.astore 6, 2) := by decide +kernel
theorem dX0_counted_83 : decode cX0_counted 83 = .ok (.goto (-54), 3) := by decide +kernel
theorem dX0_counted_86 : decode cX0_counted 86 = .ok (.iload 4, 2) := by decide +kernel
theorem dX0_counted_88 : decode cX0_counted 88 = .ok (.ireturn, 1) := by decide +kernel
theorem dX1_init_0 : decode cX1_init 0 = .ok (.aload_n 0, 1) := by decide +kernel
theorem dX1_init_1 : decode cX1_init 1 = .ok (.invokespecial 3, 3) := by decide +kernel
theorem dX1_init_4 : decode cX1_init 4 = .ok (.aload_n 0, 1) := by decide +kernel
theorem dX1_init_5 : decode cX1_init 5 = .ok (.iconst 3, 1) := by decide +kernel
theorem dX1_init_6 : decode cX1_init 6 = .ok (.newarray .int, 2) := by decide +kernel
theorem dX1_init_8 : decode cX1_init 8 = .ok (.putfield 9, 3) := by decide +kernel
theorem dX1_init_11 : decode cX1_init 11 = .ok (.aload_n 0, 1) := by decide +kernel
theorem dX1_init_12 : decode cX1_init 12 = .ok (.bipush 12, 2) := by decide +kernel
theorem dX1_init_14 : decode cX1_init 14 = .ok (.newarray .int, 2) := by decide +kernel
theorem dX1_init_16 : decode cX1_init 16 = .ok (.putfield 15, 3) := by decide +kernel
theorem dX1_init_19 : decode cX1_init 19 = .ok (.aload_n 0, 1) := by decide +kernel
theorem dX1_init_20 : decode cX1_init 20 = .ok (.bipush 12, 2) := by decide +kernel
theorem dX1_init_22 : decode cX1_init 22 = .ok (.newarray .long, 2) := by decide +kernel
theorem dX1_init_24 : decode cX1_init 24 = .ok (.putfield 18, 3) := by decide +kernel
theorem dX1_init_27 : decode cX1_init 27 = .ok (.aload_n 0, 1) := by decide +kernel
theorem dX1_init_28 : decode cX1_init 28 = .ok (.iload_n 1, 1) := by decide +kernel
theorem dX1_init_29 : decode cX1_init 29 = .ok (.putfield 22, 3) := by decide +kernel
theorem dX1_init_32 : decode cX1_init 32 = .ok (.aload_n 0, 1) := by decide +kernel
theorem dX1_init_33 : decode cX1_init 33 = .ok (.iload_n 2, 1) := by decide +kernel
theorem dX1_init_34 : decode cX1_init 34 = .ok (.putfield 26, 3) := by decide +kernel
theorem dX1_init_37 : decode cX1_init 37 = .ok (.aload_n 0, 1) := by decide +kernel
theorem dX1_init_38 : decode cX1_init 38 = .ok (.iload_n 3, 1) := by decide +kernel
theorem dX1_init_39 : decode cX1_init 39 = .ok (.putfield 29, 3) := by decide +kernel
theorem dX1_init_42 : decode cX1_init 42 = .ok (.return_, 1) := by decide +kernel
theorem dX1_addJudge_0 : decode cX1_addJudge 0 = .ok (.aload_n 0, 1) := by decide +kernel
theorem dX1_addJudge_1 : decode cX1_addJudge 1 = .ok (.getfield 32, 3) := by decide +kernel
theorem dX1_addJudge_4 : decode cX1_addJudge 4 = .ok (.ifCond .lt 35, 3) := by decide +kernel
theorem dX1_addJudge_7 : decode cX1_addJudge 7 = .ok (.aload_n 0, 1) := by decide +kernel
theorem dX1_addJudge_8 : decode cX1_addJudge 8 = .ok (.getfield 32, 3) := by decide +kernel
theorem dX1_addJudge_11 : decode cX1_addJudge 11 = .ok (.aload_n 0, 1) := by decide +kernel
theorem dX1_addJudge_12 : decode cX1_addJudge 12 = .ok (.getfield 9, 3) := by decide +kernel
theorem dX1_addJudge_15 : decode cX1_addJudge 15 = .ok (.arraylength, 1) := by decide +kernel
theorem dX1_addJudge_16 : decode cX1_addJudge 16 = .ok (.if_icmp .ge 23, 3) := by decide +kernel
theorem dX1_addJudge_19 : decode cX1_addJudge 19 = .ok (.aload_n 0, 1) := by decide +kernel
theorem dX1_addJudge_20 : decode cX1_addJudge 20 = .ok (.getfield 9, 3) := by decide +kernel
theorem dX1_addJudge_23 : decode cX1_addJudge 23 = .ok (.aload_n 0, 1) := by decide +kernel
theorem dX1_addJudge_24 : decode cX1_addJudge 24 = .ok (.getfield 32, 3) := by decide +kernel
theorem dX1_addJudge_27 : decode cX1_addJudge 27 = .ok (.iload_n 1, 1) := by decide +kernel
theorem dX1_addJudge_28 : decode cX1_addJudge 28 = .ok (.iastore, 1) := by decide +kernel
theorem dX1_addJudge_29 : decode cX1_addJudge 29 = .ok (.aload_n 0, 1) := by decide +kernel
theorem dX1_addJudge_30 : decode cX1_addJudge 30 = .ok (.dup, 1) := by decide +kernel
theorem dX1_addJudge_31 : decode cX1_addJudge 31 = .ok (.getfield 32, 3) := by decide +kernel
theorem dX1_addJudge_34 : decode cX1_addJudge 34 = .ok (.iconst 1, 1) := by decide +kernel
theorem dX1_addJudge_35 : decode cX1_addJudge 35 = .ok (.iadd, 1) := by decide +kernel
theorem dX1_addJudge_36 : decode cX1_addJudge 36 = .ok (.putfield 32, 3) := by decide +kernel
theorem dX1_addJudge_39 : decode cX1_addJudge 39 = .ok (.return_, 1) := by decide +kernel
theorem dX1_hasJudge_0 : decode cX1_hasJudge 0 = .ok (.iload_n 1, 1) := by decide +kernel
theorem dX1_hasJudge_1 : decode cX1_hasJudge 1 = .ok (.ifCond .lt 15, 3) := by decide +kernel
theorem dX1_hasJudge_4 : decode cX1_hasJudge 4 = .ok (.iload_n 1, 1) := by decide +kernel
theorem dX1_hasJudge_5 : decode cX1_hasJudge 5 = .ok (.aload_n 0, 1) := by decide +kernel
theorem dX1_hasJudge_6 : decode cX1_hasJudge 6 = .ok (.getfield 32, 3) := by decide +kernel
theorem dX1_hasJudge_9 : decode cX1_hasJudge 9 = .ok (.if_icmp .ge 7, 3) := by decide +kernel
theorem dX1_hasJudge_12 : decode cX1_hasJudge 12 = .ok (.iconst 1, 1) := by decide +kernel
theorem dX1_hasJudge_13 : decode cX1_hasJudge 13 = .ok (.goto 4, 3) := by decide +kernel
theorem dX1_hasJudge_16 : decode cX1_hasJudge 16 = .ok (.iconst 0, 1) := by decide +kernel
theorem dX1_hasJudge_17 : decode cX1_hasJudge 17 = .ok (.ireturn, 1) := by decide +kernel
theorem dX1_judgeAt_0 : decode cX1_judgeAt 0 = .ok (.iload_n 1, 1) := by decide +kernel
theorem dX1_judgeAt_1 : decode cX1_judgeAt 1 = .ok (.ifCond .lt 21, 3) := by decide +kernel
theorem dX1_judgeAt_4 : decode cX1_judgeAt 4 = .ok (.iload_n 1, 1) := by decide +kernel
theorem dX1_judgeAt_5 : decode cX1_judgeAt 5 = .ok (.aload_n 0, 1) := by decide +kernel
theorem dX1_judgeAt_6 : decode cX1_judgeAt 6 = .ok (.getfield 9, 3) := by decide +kernel
theorem dX1_judgeAt_9 : decode cX1_judgeAt 9 = .ok (.arraylength, 1) := by decide +kernel
theorem dX1_judgeAt_10 : decode cX1_judgeAt 10 = .ok (.if_icmp .ge 12, 3) := by decide +kernel
theorem dX1_judgeAt_13 : decode cX1_judgeAt 13 = .ok (.aload_n 0, 1) := by decide +kernel
theorem dX1_judgeAt_14 : decode cX1_judgeAt 14 = .ok (.getfield 9, 3) := by decide +kernel
theorem dX1_judgeAt_17 : decode cX1_judgeAt 17 = .ok (.iload_n 1, 1) := by decide +kernel
theorem dX1_judgeAt_18 : decode cX1_judgeAt 18 = .ok (.iaload, 1) := by decide +kernel
theorem dX1_judgeAt_19 : decode cX1_judgeAt 19 = .ok (.goto 4, 3) := by decide +kernel
theorem dX1_judgeAt_22 : decode cX1_judgeAt 22 = .ok (.iconst (-1), 1) := by decide +kernel
theorem dX1_judgeAt_23 : decode cX1_judgeAt 23 = .ok (.ireturn, 1) := by decide +kernel
theorem dX1_isJudge_0 : decode cX1_isJudge 0 = .ok (.iconst 0, 1) := by decide +kernel
theorem dX1_isJudge_1 : decode cX1_isJudge 1 = .ok (.istore_n 2, 1) := by decide +kernel
theorem dX1_isJudge_2 : decode cX1_isJudge 2 = .ok (.iload_n 2, 1) := by decide +kernel
theorem dX1_isJudge_3 : decode cX1_isJudge 3 = .ok (.aload_n 0, 1) := by decide +kernel
theorem dX1_isJudge_4 : decode cX1_isJudge 4 = .ok (.getfield 32, 3) := by decide +kernel
theorem dX1_isJudge_7 : decode cX1_isJudge 7 = .ok (.if_icmp .ge 20, 3) := by decide +kernel
theorem dX1_isJudge_10 : decode cX1_isJudge 10 = .ok (.aload_n 0, 1) := by decide +kernel
theorem dX1_isJudge_11 : decode cX1_isJudge 11 = .ok (.iload_n 2, 1) := by decide +kernel
theorem dX1_isJudge_12 : decode cX1_isJudge 12 = .ok (.invokevirtual 35, 3) := by decide +kernel
theorem dX1_isJudge_15 : decode cX1_isJudge 15 = .ok (.iload_n 1, 1) := by decide +kernel
theorem dX1_isJudge_16 : decode cX1_isJudge 16 = .ok (.if_icmp .ne 5, 3) := by decide +kernel
theorem dX1_isJudge_19 : decode cX1_isJudge 19 = .ok (.iconst 1, 1) := by decide +kernel
theorem dX1_isJudge_20 : decode cX1_isJudge 20 = .ok (.ireturn, 1) := by decide +kernel
theorem dX1_isJudge_21 : decode cX1_isJudge 21 = .ok (.iinc 2 1, 3) := by decide +kernel
theorem dX1_isJudge_24 : decode cX1_isJudge 24 = .ok (.goto (-22), 3) := by decide +kernel
theorem dX1_isJudge_27 : decode cX1_isJudge 27 = .ok (.iconst 0, 1) := by decide +kernel
theorem dX1_isJudge_28 : decode cX1_isJudge 28 = .ok (.ireturn, 1) := by decide +kernel
theorem dX1_hear_0 : decode cX1_hear 0 = .ok (.iload_n 1, 1) := by decide +kernel
theorem dX1_hear_1 : decode cX1_hear 1 = .ok (.iconst 4, 1) := by decide +kernel
theorem dX1_hear_2 : decode cX1_hear 2 = .ok (.imul, 1) := by decide +kernel
theorem dX1_hear_3 : decode cX1_hear 3 = .ok (.iload_n 2, 1) := by decide +kernel
theorem dX1_hear_4 : decode cX1_hear 4 = .ok (.iadd, 1) := by decide +kernel
theorem dX1_hear_5 : decode cX1_hear 5 = .ok (.istore 4, 2) := by decide +kernel
theorem dX1_hear_7 : decode cX1_hear 7 = .ok (.iload 4, 2) := by decide +kernel
theorem dX1_hear_9 : decode cX1_hear 9 = .ok (.ifCond .lt 21, 3) := by decide +kernel
theorem dX1_hear_12 : decode cX1_hear 12 = .ok (.iload 4, 2) := by decide +kernel
theorem dX1_hear_14 : decode cX1_hear 14 = .ok (.aload_n 0, 1) := by decide +kernel
theorem dX1_hear_15 : decode cX1_hear 15 = .ok (.getfield 15, 3) := by decide +kernel
theorem dX1_hear_18 : decode cX1_hear 18 = .ok (.arraylength, 1) := by decide +kernel
theorem dX1_hear_19 : decode cX1_hear 19 = .ok (.if_icmp .ge 11, 3) := by decide +kernel
theorem dX1_hear_22 : decode cX1_hear 22 = .ok (.aload_n 0, 1) := by decide +kernel
theorem dX1_hear_23 : decode cX1_hear 23 = .ok (.getfield 15, 3) := by decide +kernel
theorem dX1_hear_26 : decode cX1_hear 26 = .ok (.iload 4, 2) := by decide +kernel
theorem dX1_hear_28 : decode cX1_hear 28 = .ok (.iload_n 3, 1) := by decide +kernel
theorem dX1_hear_29 : decode cX1_hear 29 = .ok (.iastore, 1) := by decide +kernel
theorem dX1_hear_30 : decode cX1_hear 30 = .ok (.return_, 1) := by decide +kernel
theorem dX1_lost_0 : decode cX1_lost 0 = .ok (.aload_n 0, 1) := by decide +kernel
theorem dX1_lost_1 : decode cX1_lost 1 = .ok (.iconst 0, 1) := by decide +kernel
theorem dX1_lost_2 : decode cX1_lost 2 = .ok (.iload_n 1, 1) := by decide +kernel
theorem dX1_lost_3 : decode cX1_lost 3 = .ok (.invokevirtual 39, 3) := by decide +kernel
theorem dX1_lost_6 : decode cX1_lost 6 = .ok (.istore_n 2, 1) := by decide +kernel
theorem dX1_lost_7 : decode cX1_lost 7 = .ok (.aload_n 0, 1) := by decide +kernel
theorem dX1_lost_8 : decode cX1_lost 8 = .ok (.iconst 1, 1) := by decide +kernel
theorem dX1_lost_9 : decode cX1_lost 9 = .ok (.iload_n 1, 1) := by decide +kernel
theorem dX1_lost_10 : decode cX1_lost 10 = .ok (.invokevirtual 39, 3) := by decide +kernel
theorem dX1_lost_13 : decode cX1_lost 13 = .ok (.istore_n 3, 1) := by decide +kernel
theorem dX1_lost_14 : decode cX1_lost 14 = .ok (.aload_n 0, 1) := by decide +kernel
theorem dX1_lost_15 : decode cX1_lost 15 = .ok (.iconst 2, 1) := by decide +kernel
theorem dX1_lost_16 : decode cX1_lost 16 = .ok (.iload_n 1, 1) := by decide +kernel
theorem dX1_lost_17 : decode cX1_lost 17 = .ok (.invokevirtual 39, 3) := by decide +kernel
theorem dX1_lost_20 : decode cX1_lost 20 = .ok (.istore 4, 2) := by decide +kernel
theorem dX1_lost_22 : decode cX1_lost 22 = .ok (.aload_n 0, 1) := by decide +kernel
theorem dX1_lost_23 : decode cX1_lost 23 = .ok (.getfield 32, 3) := by decide +kernel
theorem dX1_lost_26 : decode cX1_lost 26 = .ok (.iconst 2, 1) := by decide +kernel
theorem dX1_lost_27 : decode cX1_lost 27 = .ok (.if_icmp .ge 5, 3) := by decide +kernel
theorem dX1_lost_30 : decode cX1_lost 30 = .ok (.iload_n 2, 1) := by decide +kernel
theorem dX1_lost_31 : decode cX1_lost 31 = .ok (.ireturn, 1) := by decide +kernel
theorem dX1_lost_32 : decode cX1_lost 32 = .ok (.aload_n 0, 1) := by decide +kernel
theorem dX1_lost_33 : decode cX1_lost 33 = .ok (.getfield 32, 3) := by decide +kernel
theorem dX1_lost_36 : decode cX1_lost 36 = .ok (.iconst 2, 1) := by decide +kernel
theorem dX1_lost_37 : decode cX1_lost 37 = .ok (.if_icmp .ne 9, 3) := by decide +kernel
theorem dX1_lost_40 : decode cX1_lost 40 = .ok (.iload_n 2, 1) := by decide +kernel
theorem dX1_lost_41 : decode cX1_lost 41 = .ok (.iload_n 3, 1) := by decide +kernel
theorem dX1_lost_42 : decode cX1_lost 42 = .ok (.invokestatic 43, 3) := by decide +kernel
theorem dX1_lost_45 : decode cX1_lost 45 = .ok (.ireturn, 1) := by decide +kernel
theorem dX1_lost_46 : decode cX1_lost 46 = .ok (.iload_n 2, 1) := by decide +kernel
theorem dX1_lost_47 : decode cX1_lost 47 = .ok (.iload_n 3, 1) := by decide +kernel
theorem dX1_lost_48 : decode cX1_lost 48 = .ok (.invokestatic 43, 3) := by decide +kernel
theorem dX1_lost_51 : decode cX1_lost 51 = .ok (.iload_n 2, 1) := by decide +kernel
theorem dX1_lost_52 : decode cX1_lost 52 = .ok (.iload_n 3, 1) := by decide +kernel
theorem dX1_lost_53 : decode cX1_lost 53 = .ok (.invokestatic 48, 3) := by decide +kernel
theorem dX1_lost_56 : decode cX1_lost 56 = .ok (.iload 4, 2) := by decide +kernel
theorem dX1_lost_58 : decode cX1_lost 58 = .ok (.invokestatic 43, 3) := by decide +kernel
theorem dX1_lost_61 : decode cX1_lost 61 = .ok (.invokestatic 48, 3) := by decide +kernel
theorem dX1_lost_64 : decode cX1_lost 64 = .ok (.ireturn, 1) := by decide +kernel
theorem dX1_settledOf_0 : decode cX1_settledOf 0 = .ok (.iload_n 1, 1) := by decide +kernel
theorem dX1_settledOf_1 : decode cX1_settledOf 1 = .ok (.ifCond .lt 21, 3) := by decide +kernel
theorem dX1_settledOf_4 : decode cX1_settledOf 4 = .ok (.iload_n 1, 1) := by decide +kernel
theorem dX1_settledOf_5 : decode cX1_settledOf 5 = .ok (.aload_n 0, 1) := by decide +kernel
theorem dX1_settledOf_6 : decode cX1_settledOf 6 = .ok (.getfield 18, 3) := by decide +kernel
theorem dX1_settledOf_9 : decode cX1_settledOf 9 = .ok (.arraylength, 1) := by decide +kernel
theorem dX1_settledOf_10 : decode cX1_settledOf 10 = .ok (.if_icmp .ge 12, 3) := by decide +kernel
theorem dX1_settledOf_13 : decode cX1_settledOf 13 = .ok (.aload_n 0, 1) := by decide +kernel
theorem dX1_settledOf_14 : decode cX1_settledOf 14 = .ok (.getfield 18, 3) := by decide +kernel
theorem dX1_settledOf_17 : decode cX1_settledOf 17 = .ok (.iload_n 1, 1) := by decide +kernel
theorem dX1_settledOf_18 : decode cX1_settledOf 18 = .ok (.laload, 1) := by decide +kernel
theorem dX1_settledOf_19 : decode cX1_settledOf 19 = .ok (.goto 4, 3) := by decide +kernel
theorem dX1_settledOf_22 : decode cX1_settledOf 22 = .ok (.lconst 0, 1) := by decide +kernel
theorem dX1_settledOf_23 : decode cX1_settledOf 23 = .ok (.lreturn, 1) := by decide +kernel
theorem dX1_settle_0 : decode cX1_settle 0 = .ok (.iload_n 1, 1) := by decide +kernel
theorem dX1_settle_1 : decode cX1_settle 1 = .ok (.ifCond .lt 19, 3) := by decide +kernel
theorem dX1_settle_4 : decode cX1_settle 4 = .ok (.iload_n 1, 1) := by decide +kernel
theorem dX1_settle_5 : decode cX1_settle 5 = .ok (.aload_n 0, 1) := by decide +kernel
theorem dX1_settle_6 : decode cX1_settle 6 = .ok (.getfield 18, 3) := by decide +kernel
theorem dX1_settle_9 : decode cX1_settle 9 = .ok (.arraylength, 1) := by decide +kernel
theorem dX1_settle_10 : decode cX1_settle 10 = .ok (.if_icmp .ge 10, 3) := by decide +kernel
theorem dX1_settle_13 : decode cX1_settle 13 = .ok (.aload_n 0, 1) := by decide +kernel
theorem dX1_settle_14 : decode cX1_settle 14 = .ok (.getfield 18, 3) := by decide +kernel
theorem dX1_settle_17 : decode cX1_settle 17 = .ok (.iload_n 1, 1) := by decide +kernel
theorem dX1_settle_18 : decode cX1_settle 18 = .ok (.lload_n 2, 1) := by decide +kernel
theorem dX1_settle_19 : decode cX1_settle 19 = .ok (.lastore, 1) := by decide +kernel
theorem dX1_settle_20 : decode cX1_settle 20 = .ok (.return_, 1) := by decide +kernel
theorem dX1_heardAt_0 : decode cX1_heardAt 0 = .ok (.iload_n 1, 1) := by decide +kernel
theorem dX1_heardAt_1 : decode cX1_heardAt 1 = .ok (.iconst 4, 1) := by decide +kernel
theorem dX1_heardAt_2 : decode cX1_heardAt 2 = .ok (.imul, 1) := by decide +kernel
theorem dX1_heardAt_3 : decode cX1_heardAt 3 = .ok (.iload_n 2, 1) := by decide +kernel
theorem dX1_heardAt_4 : decode cX1_heardAt 4 = .ok (.iadd, 1) := by decide +kernel
theorem dX1_heardAt_5 : decode cX1_heardAt 5 = .ok (.istore_n 3, 1) := by decide +kernel
theorem dX1_heardAt_6 : decode cX1_heardAt 6 = .ok (.iload_n 3, 1) := by decide +kernel
theorem dX1_heardAt_7 : decode cX1_heardAt 7 = .ok (.ifCond .lt 21, 3) := by decide +kernel
theorem dX1_heardAt_10 : decode cX1_heardAt 10 = .ok (.iload_n 3, 1) := by decide +kernel
theorem dX1_heardAt_11 : decode cX1_heardAt 11 = .ok (.aload_n 0, 1) := by decide +kernel
theorem dX1_heardAt_12 : decode cX1_heardAt 12 = .ok (.getfield 15, 3) := by decide +kernel
theorem dX1_heardAt_15 : decode cX1_heardAt 15 = .ok (.arraylength, 1) := by decide +kernel
theorem dX1_heardAt_16 : decode cX1_heardAt 16 = .ok (.if_icmp .ge 12, 3) := by decide +kernel
theorem dX1_heardAt_19 : decode cX1_heardAt 19 = .ok (.aload_n 0, 1) := by decide +kernel
theorem dX1_heardAt_20 : decode cX1_heardAt 20 = .ok (.getfield 15, 3) := by decide +kernel
theorem dX1_heardAt_23 : decode cX1_heardAt 23 = .ok (.iload_n 3, 1) := by decide +kernel
theorem dX1_heardAt_24 : decode cX1_heardAt 24 = .ok (.iaload, 1) := by decide +kernel
theorem dX1_heardAt_25 : decode cX1_heardAt 25 = .ok (.goto 4, 3) := by decide +kernel
theorem dX1_heardAt_28 : decode cX1_heardAt 28 = .ok (.iconst 0, 1) := by decide +kernel
theorem dX1_heardAt_29 : decode cX1_heardAt 29 = .ok (.ireturn, 1) := by decide +kernel
theorem dX2_init_0 : decode cX2_init 0 = .ok (.aload_n 0, 1) := by decide +kernel
theorem dX2_init_1 : decode cX2_init 1 = .ok (.invokespecial 3, 3) := by decide +kernel
theorem dX2_init_4 : decode cX2_init 4 = .ok (.aload_n 0, 1) := by decide +kernel
theorem dX2_init_5 : decode cX2_init 5 = .ok (.sipush 144, 3) := by decide +kernel
theorem dX2_init_8 : decode cX2_init 8 = .ok (.newarray .int, 2) := by decide +kernel
theorem dX2_init_10 : decode cX2_init 10 = .ok (.putfield 9, 3) := by decide +kernel
theorem dX2_init_13 : decode cX2_init 13 = .ok (.aload_n 0, 1) := by decide +kernel
theorem dX2_init_14 : decode cX2_init 14 = .ok (.sipush 144, 3) := by decide +kernel
theorem dX2_init_17 : decode cX2_init 17 = .ok (.newarray .int, 2) := by decide +kernel
theorem dX2_init_19 : decode cX2_init 19 = .ok (.putfield 15, 3) := by decide +kernel
theorem dX2_init_22 : decode cX2_init 22 = .ok (.aload_n 0, 1) := by decide +kernel
theorem dX2_init_23 : decode cX2_init 23 = .ok (.sipush 144, 3) := by decide +kernel
theorem dX2_init_26 : decode cX2_init 26 = .ok (.newarray .long, 2) := by decide +kernel
theorem dX2_init_28 : decode cX2_init 28 = .ok (.putfield 18, 3) := by decide +kernel
theorem dX2_init_31 : decode cX2_init 31 = .ok (.return_, 1) := by decide +kernel
theorem dX2_startPage_0 : decode cX2_startPage 0 = .ok (.aload_n 0, 1) := by decide +kernel
theorem dX2_startPage_1 : decode cX2_startPage 1 = .ok (.iconst 0, 1) := by decide +kernel
theorem dX2_startPage_2 : decode cX2_startPage 2 = .ok (.putfield 22, 3) := by decide +kernel
theorem dX2_startPage_5 : decode cX2_startPage 5 = .ok (.return_, 1) := by decide +kernel
theorem dX2_write_0 : decode cX2_write 0 = .ok (.aload_n 0, 1) := by decide +kernel
theorem dX2_write_1 : decode cX2_write 1 = .ok (.getfield 22, 3) := by decide +kernel
theorem dX2_write_4 : decode cX2_write 4 = .ok (.ifCond .lt 63, 3) := by decide +kernel
theorem dX2_write_7 : decode cX2_write 7 = .ok (.aload_n 0, 1) := by decide +kernel
theorem dX2_write_8 : decode cX2_write 8 = .ok (.getfield 22, 3) := by decide +kernel
theorem dX2_write_11 : decode cX2_write 11 = .ok (.sipush 144, 3) := by decide +kernel
theorem dX2_write_14 : decode cX2_write 14 = .ok (.if_icmp .ge 53, 3) := by decide +kernel
theorem dX2_write_17 : decode cX2_write 17 = .ok (.aload_n 0, 1) := by decide +kernel
theorem dX2_write_18 : decode cX2_write 18 = .ok (.getfield 9, 3) := by decide +kernel
theorem dX2_write_21 : decode cX2_write 21 = .ok (.aload_n 0, 1) := by decide +kernel
theorem dX2_write_22 : decode cX2_write 22 = .ok (.getfield 22, 3) := by decide +kernel
theorem dX2_write_25 : decode cX2_write 25 = .ok (.iload_n 1, 1) := by decide +kernel
theorem dX2_write_26 : decode cX2_write 26 = .ok (.iastore, 1) := by decide +kernel
theorem dX2_write_27 : decode cX2_write 27 = .ok (.aload_n 0, 1) := by decide +kernel
theorem dX2_write_28 : decode cX2_write 28 = .ok (.getfield 15, 3) := by decide +kernel
theorem dX2_write_31 : decode cX2_write 31 = .ok (.aload_n 0, 1) := by decide +kernel
theorem dX2_write_32 : decode cX2_write 32 = .ok (.getfield 22, 3) := by decide +kernel
theorem dX2_write_35 : decode cX2_write 35 = .ok (.iload_n 2, 1) := by decide +kernel
theorem dX2_write_36 : decode cX2_write 36 = .ok (.iastore, 1) := by decide +kernel
theorem dX2_write_37 : decode cX2_write 37 = .ok (.aload_n 0, 1) := by decide +kernel
theorem dX2_write_38 : decode cX2_write 38 = .ok (.getfield 18, 3) := by decide +kernel
theorem dX2_write_41 : decode cX2_write 41 = .ok (.aload_n 0, 1) := by decide +kernel
theorem dX2_write_42 : decode cX2_write 42 = .ok (.getfield 22, 3) := by decide +kernel
theorem dX2_write_45 : decode cX2_write 45 = .ok (.lload_n 3, 1) := by decide +kernel
theorem dX2_write_46 : decode cX2_write 46 = .ok (.lastore, 1) := by decide +kernel
theorem dX2_write_47 : decode cX2_write 47 = .ok (.aload_n 0, 1) := by decide +kernel
theorem dX2_write_48 : decode cX2_write 48 = .ok (.dup, 1) := by decide +kernel
theorem dX2_write_49 : decode cX2_write 49 = .ok (.getfield 22, 3) := by decide +kernel
theorem dX2_write_52 : decode cX2_write 52 = .ok (.iconst 1, 1) := by decide +kernel
theorem dX2_write_53 : decode cX2_write 53 = .ok (.iadd, 1) := by decide +kernel
theorem dX2_write_54 : decode cX2_write 54 = .ok (.putfield 22, 3) := by decide +kernel
theorem dX2_write_57 : decode cX2_write 57 = .ok (.aload_n 0, 1) := by decide +kernel
theorem dX2_write_58 : decode cX2_write 58 = .ok (.dup, 1) := by decide +kernel
theorem dX2_write_59 : decode cX2_write 59 = .ok (.getfield 26, 3) := by decide +kernel
theorem dX2_write_62 : decode cX2_write 62 = .ok (.iconst 1, 1) := by decide +kernel
theorem dX2_write_63 : decode cX2_write 63 = .ok (.iadd, 1) := by decide +kernel
theorem dX2_write_64 : decode cX2_write 64 = .ok (.putfield 26, 3) := by decide +kernel
theorem dX2_write_67 : decode cX2_write 67 = .ok (.return_, 1) := by decide +kernel
theorem dX2_entry_0 : decode cX2_entry 0 = .ok (.iload_n 1, 1) := by decide +kernel
theorem dX2_entry_1 : decode cX2_entry 1 = .ok (.ifCond .lt 18, 3) := by decide +kernel
theorem dX2_entry_4 : decode cX2_entry 4 = .ok (.iload_n 1, 1) := by decide +kernel
theorem dX2_entry_5 : decode cX2_entry 5 = .ok (.aload_n 0, 1) := by decide +kernel
theorem dX2_entry_6 : decode cX2_entry 6 = .ok (.getfield 22, 3) := by decide +kernel
theorem dX2_entry_9 : decode cX2_entry 9 = .ok (.if_icmp .ge 10, 3) := by decide +kernel
theorem dX2_entry_12 : decode cX2_entry 12 = .ok (.iload_n 1, 1) := by decide +kernel
theorem dX2_entry_13 : decode cX2_entry 13 = .ok (.sipush 144, 3) := by decide +kernel
theorem dX2_entry_16 : decode cX2_entry 16 = .ok (.if_icmp .lt 7, 3) := by decide +kernel
theorem dX2_entry_19 : decode cX2_entry 19 = .ok (.ldc2_w 29, 3) := by decide +kernel
theorem dX2_entry_22 : decode cX2_entry 22 = .ok (.lreturn, 1) := by decide +kernel
theorem dX2_entry_23 : decode cX2_entry 23 = .ok (.iload_n 2, 1) := by decide +kernel
theorem dX2_entry_24 : decode cX2_entry 24 = .ok (.tableswitch 51 0 2 #[28, 36, 44], 28) := by decide +kernel
theorem dX2_entry_52 : decode cX2_entry 52 = .ok (.aload_n 0, 1) := by decide +kernel
theorem dX2_entry_53 : decode cX2_entry 53 = .ok (.getfield 9, 3) := by decide +kernel
theorem dX2_entry_56 : decode cX2_entry 56 = .ok (.iload_n 1, 1) := by decide +kernel
theorem dX2_entry_57 : decode cX2_entry 57 = .ok (.iaload, 1) := by decide +kernel
theorem dX2_entry_58 : decode cX2_entry 58 = .ok (.i2l, 1) := by decide +kernel
theorem dX2_entry_59 : decode cX2_entry 59 = .ok (.lreturn, 1) := by decide +kernel
theorem dX2_entry_60 : decode cX2_entry 60 = .ok (.aload_n 0, 1) := by decide +kernel
theorem dX2_entry_61 : decode cX2_entry 61 = .ok (.getfield 15, 3) := by decide +kernel
theorem dX2_entry_64 : decode cX2_entry 64 = .ok (.iload_n 1, 1) := by decide +kernel
theorem dX2_entry_65 : decode cX2_entry 65 = .ok (.iaload, 1) := by decide +kernel
theorem dX2_entry_66 : decode cX2_entry 66 = .ok (.i2l, 1) := by decide +kernel
theorem dX2_entry_67 : decode cX2_entry 67 = .ok (.lreturn, 1) := by decide +kernel
theorem dX2_entry_68 : decode cX2_entry 68 = .ok (.aload_n 0, 1) := by decide +kernel
theorem dX2_entry_69 : decode cX2_entry 69 = .ok (.getfield 18, 3) := by decide +kernel
theorem dX2_entry_72 : decode cX2_entry 72 = .ok (.iload_n 1, 1) := by decide +kernel
theorem dX2_entry_73 : decode cX2_entry 73 = .ok (.laload, 1) := by decide +kernel
theorem dX2_entry_74 : decode cX2_entry 74 = .ok (.lreturn, 1) := by decide +kernel
theorem dX2_entry_75 : decode cX2_entry 75 = .ok (.ldc2_w 29, 3) := by decide +kernel
theorem dX2_entry_78 : decode cX2_entry 78 = .ok (.lreturn, 1) := by decide +kernel
theorem dX3_init_0 : decode cX3_init 0 = .ok (.aload_n 0, 1) := by decide +kernel
theorem dX3_init_1 : decode cX3_init 1 = .ok (.invokespecial 1, 3) := by decide +kernel
theorem dX3_init_4 : decode cX3_init 4 = .ok (.aload_n 0, 1) := by decide +kernel
theorem dX3_init_5 : decode cX3_init 5 = .ok (.iload_n 1, 1) := by decide +kernel
theorem dX3_init_6 : decode cX3_init 6 = .ok (.putfield 7, 3) := by decide +kernel
theorem dX3_init_9 : decode cX3_init 9 = .ok (.aload_n 0, 1) := by decide +kernel
theorem dX3_init_10 : decode cX3_init 10 = .ok (.iload_n 2, 1) := by decide +kernel
theorem dX3_init_11 : decode cX3_init 11 = .ok (.putfield 13, 3) := by decide +kernel
theorem dX3_init_14 : decode cX3_init 14 = .ok (.aload_n 0, 1) := by decide +kernel
theorem dX3_init_15 : decode cX3_init 15 = .ok (.iload_n 3, 1) := by decide +kernel
theorem dX3_init_16 : decode cX3_init 16 = .ok (.putfield 16, 3) := by decide +kernel
theorem dX3_init_19 : decode cX3_init 19 = .ok (.aload_n 0, 1) := by decide +kernel
theorem dX3_init_20 : decode cX3_init 20 = .ok (.aload 4, 2) := by decide +kernel
theorem dX3_init_22 : decode cX3_init 22 = .ok (.putfield 19, 3) := by decide +kernel
theorem dX3_init_25 : decode cX3_init 25 = .ok (.return_, 1) := by decide +kernel
theorem dX4_init_0 : decode cX4_init 0 = .ok (.aload_n 0, 1) := by decide +kernel
theorem dX4_init_1 : decode cX4_init 1 = .ok (.invokespecial 3, 3) := by decide +kernel
theorem dX4_init_4 : decode cX4_init 4 = .ok (.aload_n 0, 1) := by decide +kernel
theorem dX4_init_5 : decode cX4_init 5 = .ok (.bipush 6, 2) := by decide +kernel
theorem dX4_init_7 : decode cX4_init 7 = .ok (.newarray .long, 2) := by decide +kernel
theorem dX4_init_9 : decode cX4_init 9 = .ok (.putfield 9, 3) := by decide +kernel
theorem dX4_init_12 : decode cX4_init 12 = .ok (.return_, 1) := by decide +kernel
theorem dX4_start_0 : decode cX4_start 0 = .ok (.iconst 0, 1) := by decide +kernel
theorem dX4_start_1 : decode cX4_start 1 = .ok (.istore_n 3, 1) := by decide +kernel
theorem dX4_start_2 : decode cX4_start 2 = .ok (.iload_n 3, 1) := by decide +kernel
theorem dX4_start_3 : decode cX4_start 3 = .ok (.aload_n 0, 1) := by decide +kernel
theorem dX4_start_4 : decode cX4_start 4 = .ok (.getfield 9, 3) := by decide +kernel
theorem dX4_start_7 : decode cX4_start 7 = .ok (.arraylength, 1) := by decide +kernel
theorem dX4_start_8 : decode cX4_start 8 = .ok (.if_icmp .ge 29, 3) := by decide +kernel
theorem dX4_start_11 : decode cX4_start 11 = .ok (.aload_n 0, 1) := by decide +kernel
theorem dX4_start_12 : decode cX4_start 12 = .ok (.getfield 9, 3) := by decide +kernel
theorem dX4_start_15 : decode cX4_start 15 = .ok (.iload_n 3, 1) := by decide +kernel
theorem dX4_start_16 : decode cX4_start 16 = .ok (.iload_n 3, 1) := by decide +kernel
theorem dX4_start_17 : decode cX4_start 17 = .ok (.ifCond .eq 8, 3) := by decide +kernel
theorem dX4_start_20 : decode cX4_start 20 = .ok (.iload_n 3, 1) := by decide +kernel
theorem dX4_start_21 : decode cX4_start 21 = .ok (.iconst 5, 1) := by decide +kernel
theorem dX4_start_22 : decode cX4_start 22 = .ok (.if_icmp .ne 7, 3) := by decide +kernel
theorem dX4_start_25 : decode cX4_start 25 = .ok (.lload_n 1, 1) := by decide +kernel
theorem dX4_start_26 : decode cX4_start 26 = .ok (.goto 4, 3) := by decide +kernel
theorem dX4_start_29 : decode cX4_start 29 = .ok (.lconst 0, 1) := by decide +kernel
theorem dX4_start_30 : decode cX4_start 30 = .ok (.lastore, 1) := by decide +kernel
theorem dX4_start_31 : decode cX4_start 31 = .ok (.iinc 3 1, 3) := by decide +kernel
theorem dX4_start_34 : decode cX4_start 34 = .ok (.goto (-32), 3) := by decide +kernel
theorem dX4_start_37 : decode cX4_start 37 = .ok (.return_, 1) := by decide +kernel
theorem dX4_bear_0 : decode cX4_bear 0 = .ok (.iload_n 1, 1) := by decide +kernel
theorem dX4_bear_1 : decode cX4_bear 1 = .ok (.ifCond .lt 43, 3) := by decide +kernel
theorem dX4_bear_4 : decode cX4_bear 4 = .ok (.iload_n 1, 1) := by decide +kernel
theorem dX4_bear_5 : decode cX4_bear 5 = .ok (.aload_n 0, 1) := by decide +kernel
theorem dX4_bear_6 : decode cX4_bear 6 = .ok (.getfield 9, 3) := by decide +kernel
theorem dX4_bear_9 : decode cX4_bear 9 = .ok (.arraylength, 1) := by decide +kernel
theorem dX4_bear_10 : decode cX4_bear 10 = .ok (.if_icmp .ge 34, 3) := by decide +kernel
theorem dX4_bear_13 : decode cX4_bear 13 = .ok (.lload_n 2, 1) := by decide +kernel
theorem dX4_bear_14 : decode cX4_bear 14 = .ok (.aload_n 0, 1) := by decide +kernel
theorem dX4_bear_15 : decode cX4_bear 15 = .ok (.getfield 9, 3) := by decide +kernel
theorem dX4_bear_18 : decode cX4_bear 18 = .ok (.iconst 5, 1) := by decide +kernel
theorem dX4_bear_19 : decode cX4_bear 19 = .ok (.laload, 1) := by decide +kernel
theorem dX4_bear_20 : decode cX4_bear 20 = .ok (.invokestatic 15, 3) := by decide +kernel
theorem dX4_bear_23 : decode cX4_bear 23 = .ok (.lstore 4, 2) := by decide +kernel
theorem dX4_bear_25 : decode cX4_bear 25 = .ok (.aload_n 0, 1) := by decide +kernel
theorem dX4_bear_26 : decode cX4_bear 26 = .ok (.getfield 9, 3) := by decide +kernel
theorem dX4_bear_29 : decode cX4_bear 29 = .ok (.iload_n 1, 1) := by decide +kernel
theorem dX4_bear_30 : decode cX4_bear 30 = .ok (.lload 4, 2) := by decide +kernel
theorem dX4_bear_32 : decode cX4_bear 32 = .ok (.lastore, 1) := by decide +kernel
theorem dX4_bear_33 : decode cX4_bear 33 = .ok (.aload_n 0, 1) := by decide +kernel
theorem dX4_bear_34 : decode cX4_bear 34 = .ok (.getfield 9, 3) := by decide +kernel
theorem dX4_bear_37 : decode cX4_bear 37 = .ok (.iconst 5, 1) := by decide +kernel
theorem dX4_bear_38 : decode cX4_bear 38 = .ok (.dup2, 1) := by decide +kernel
theorem dX4_bear_39 : decode cX4_bear 39 = .ok (.laload, 1) := by decide +kernel
theorem dX4_bear_40 : decode cX4_bear 40 = .ok (.lload 4, 2) := by decide +kernel
theorem dX4_bear_42 : decode cX4_bear 42 = .ok (.lsub, 1) := by decide +kernel
theorem dX4_bear_43 : decode cX4_bear 43 = .ok (.lastore, 1) := by decide +kernel
theorem dX4_bear_44 : decode cX4_bear 44 = .ok (.return_, 1) := by decide +kernel
theorem dX4_coins_0 : decode cX4_coins 0 = .ok (.iload_n 1, 1) := by decide +kernel
theorem dX4_coins_1 : decode cX4_coins 1 = .ok (.ifCond .lt 21, 3) := by decide +kernel
theorem dX4_coins_4 : decode cX4_coins 4 = .ok (.iload_n 1, 1) := by decide +kernel
theorem dX4_coins_5 : decode cX4_coins 5 = .ok (.aload_n 0, 1) := by decide +kernel
theorem dX4_coins_6 : decode cX4_coins 6 = .ok (.getfield 9, 3) := by decide +kernel
theorem dX4_coins_9 : decode cX4_coins 9 = .ok (.arraylength, 1) := by decide +kernel
theorem dX4_coins_10 : decode cX4_coins 10 = .ok (.if_icmp .ge 12, 3) := by decide +kernel
theorem dX4_coins_13 : decode cX4_coins 13 = .ok (.aload_n 0, 1) := by decide +kernel
theorem dX4_coins_14 : decode cX4_coins 14 = .ok (.getfield 9, 3) := by decide +kernel
theorem dX4_coins_17 : decode cX4_coins 17 = .ok (.iload_n 1, 1) := by decide +kernel
theorem dX4_coins_18 : decode cX4_coins 18 = .ok (.laload, 1) := by decide +kernel
theorem dX4_coins_19 : decode cX4_coins 19 = .ok (.goto 4, 3) := by decide +kernel
theorem dX4_coins_22 : decode cX4_coins 22 = .ok (.lconst 0, 1) := by decide +kernel
theorem dX4_coins_23 : decode cX4_coins 23 = .ok (.lreturn, 1) := by decide +kernel
theorem dX5_init_0 : decode cX5_init 0 = .ok (.aload_n 0, 1) := by decide +kernel
theorem dX5_init_1 : decode cX5_init 1 = .ok (.invokespecial 3, 3) := by decide +kernel
theorem dX5_init_4 : decode cX5_init 4 = .ok (.aload_n 0, 1) := by decide +kernel
theorem dX5_init_5 : decode cX5_init 5 = .ok (.new 9, 3) := by decide +kernel
theorem dX5_init_8 : decode cX5_init 8 = .ok (.dup, 1) := by decide +kernel
theorem dX5_init_9 : decode cX5_init 9 = .ok (.invokespecial 11, 3) := by decide +kernel
theorem dX5_init_12 : decode cX5_init 12 = .ok (.putfield 12, 3) := by decide +kernel
theorem dX5_init_15 : decode cX5_init 15 = .ok (.aload_n 0, 1) := by decide +kernel
theorem dX5_init_16 : decode cX5_init 16 = .ok (.iconst (-1), 1) := by decide +kernel
theorem dX5_init_17 : decode cX5_init 17 = .ok (.putfield 18, 3) := by decide +kernel
theorem dX5_init_20 : decode cX5_init 20 = .ok (.aload_n 0, 1) := by decide +kernel
theorem dX5_init_21 : decode cX5_init 21 = .ok (.bipush 12, 2) := by decide +kernel
theorem dX5_init_23 : decode cX5_init 23 = .ok (.newarray .int, 2) := by decide +kernel
theorem dX5_init_25 : decode cX5_init 25 = .ok (.putfield 22, 3) := by decide +kernel
theorem dX5_init_28 : decode cX5_init 28 = .ok (.return_, 1) := by decide +kernel
theorem dX5_readText_0 : decode cX5_readText 0 = .ok (.aload_n 0, 1) := by decide +kernel
theorem dX5_readText_1 : decode cX5_readText 1 = .ok (.iconst 0, 1) := by decide +kernel
theorem dX5_readText_2 : decode cX5_readText 2 = .ok (.putfield 26, 3) := by decide +kernel
theorem dX5_readText_5 : decode cX5_readText 5 = .ok (.aload_n 0, 1) := by decide +kernel
theorem dX5_readText_6 : decode cX5_readText 6 = .ok (.iconst (-1), 1) := by decide +kernel
theorem dX5_readText_7 : decode cX5_readText 7 = .ok (.putfield 18, 3) := by decide +kernel
theorem dX5_readText_10 : decode cX5_readText 10 = .ok (.aload_n 0, 1) := by decide +kernel
theorem dX5_readText_11 : decode cX5_readText 11 = .ok (.getfield 12, 3) := by decide +kernel
theorem dX5_readText_14 : decode cX5_readText 14 = .ok (.iload_n 1, 1) := by decide +kernel
theorem dX5_readText_15 : decode cX5_readText 15 = .ok (.invokevirtual 29, 3) := by decide +kernel
theorem dX5_readText_18 : decode cX5_readText 18 = .ok (.iconst 0, 1) := by decide +kernel
theorem dX5_readText_19 : decode cX5_readText 19 = .ok (.istore_n 3, 1) := by decide +kernel
theorem dX5_readText_20 : decode cX5_readText 20 = .ok (.iload_n 3, 1) := by decide +kernel
theorem dX5_readText_21 : decode cX5_readText 21 = .ok (.sipush 1000, 3) := by decide +kernel
theorem dX5_readText_24 : decode cX5_readText 24 = .ok (.if_icmp .ge 38, 3) := by decide +kernel
theorem dX5_readText_27 : decode cX5_readText 27 = .ok (.aload_n 0, 1) := by decide +kernel
theorem dX5_readText_28 : decode cX5_readText 28 = .ok (.getfield 12, 3) := by decide +kernel
theorem dX5_readText_31 : decode cX5_readText 31 = .ok (.getfield 33, 3) := by decide +kernel
theorem dX5_readText_34 : decode cX5_readText 34 = .ok (.ifCond .eq 28, 3) := by decide +kernel
theorem dX5_readText_37 : decode cX5_readText 37 = .ok (.aload_n 0, 1) := by decide +kernel
theorem dX5_readText_38 : decode cX5_readText 38 = .ok (.aload_n 2, 1) := by decide +kernel
theorem dX5_readText_39 : decode cX5_readText 39 = .ok (.invokevirtual 36, 3) := by decide +kernel
theorem dX5_readText_42 : decode cX5_readText 42 = .ok (.ifCond .eq 12, 3) := by decide +kernel
theorem dX5_readText_45 : decode cX5_readText 45 = .ok (.aload_n 0, 1) := by decide +kernel
theorem dX5_readText_46 : decode cX5_readText 46 = .ok (.bipush 59, 2) := by decide +kernel
theorem dX5_readText_48 : decode cX5_readText 48 = .ok (.invokevirtual 40, 3) := by decide +kernel
theorem dX5_readText_51 : decode cX5_readText 51 = .ok (.ifCond .ne 5, 3) := by decide +kernel
theorem dX5_readText_54 : decode cX5_readText 54 = .ok (.iconst 0, 1) := by decide +kernel
theorem dX5_readText_55 : decode cX5_readText 55 = .ok (.ireturn, 1) := by decide +kernel
theorem dX5_readText_56 : decode cX5_readText 56 = .ok (.iinc 3 1, 3) := by decide +kernel
theorem dX5_readText_59 : decode cX5_readText 59 = .ok (.goto (-39), 3) := by decide +kernel
theorem dX5_readText_62 : decode cX5_readText 62 = .ok (.iconst 1, 1) := by decide +kernel
theorem dX5_readText_63 : decode cX5_readText 63 = .ok (.ireturn, 1) := by decide +kernel
theorem dX5_readLine_0 : decode cX5_readLine 0 = .ok (.aload_n 0, 1) := by decide +kernel
theorem dX5_readLine_1 : decode cX5_readLine 1 = .ok (.getfield 12, 3) := by decide +kernel
theorem dX5_readLine_4 : decode cX5_readLine 4 = .ok (.getfield 44, 3) := by decide +kernel
theorem dX5_readLine_7 : decode cX5_readLine 7 = .ok (.istore_n 2, 1) := by decide +kernel
theorem dX5_readLine_8 : decode cX5_readLine 8 = .ok (.aload_n 0, 1) := by decide +kernel
theorem dX5_readLine_9 : decode cX5_readLine 9 = .ok (.ldc 47, 2) := by decide +kernel
theorem dX5_readLine_11 : decode cX5_readLine 11 = .ok (.invokevirtual 49, 3) := by decide +kernel
theorem dX5_readLine_14 : decode cX5_readLine 14 = .ok (.ifCond .eq 10, 3) := by decide +kernel
theorem dX5_readLine_17 : decode cX5_readLine 17 = .ok (.aload_n 0, 1) := by decide +kernel
theorem dX5_readLine_18 : decode cX5_readLine 18 = .ok (.iload_n 2, 1) := by decide +kernel
theorem dX5_readLine_19 : decode cX5_readLine 19 = .ok (.aload_n 1, 1) := by decide +kernel
theorem dX5_readLine_20 : decode cX5_readLine 20 = .ok (.invokevirtual 53, 3) := by decide +kernel
theorem dX5_readLine_23 : decode cX5_readLine 23 = .ok (.ireturn, 1) := by decide +kernel
theorem dX5_readLine_24 : decode cX5_readLine 24 = .ok (.aload_n 0, 1) := by decide +kernel
theorem dX5_readLine_25 : decode cX5_readLine 25 = .ok (.ldc 57, 2) := by decide +kernel
theorem dX5_readLine_27 : decode cX5_readLine 27 = .ok (.invokevirtual 49, 3) := by decide +kernel
theorem dX5_readLine_30 : decode cX5_readLine 30 = .ok (.ifCond .eq 10, 3) := by decide +kernel
theorem dX5_readLine_33 : decode cX5_readLine 33 = .ok (.aload_n 0, 1) := by decide +kernel
theorem dX5_readLine_34 : decode cX5_readLine 34 = .ok (.iload_n 2, 1) := by decide +kernel
theorem dX5_readLine_35 : decode cX5_readLine 35 = .ok (.aload_n 1, 1) := by decide +kernel
theorem dX5_readLine_36 : decode cX5_readLine 36 = .ok (.invokevirtual 59, 3) := by decide +kernel
theorem dX5_readLine_39 : decode cX5_readLine 39 = .ok (.ireturn, 1) := by decide +kernel
theorem dX5_readLine_40 : decode cX5_readLine 40 = .ok (.aload_n 0, 1) := by decide +kernel
theorem dX5_readLine_41 : decode cX5_readLine 41 = .ok (.ldc 62, 2) := by decide +kernel
theorem dX5_readLine_43 : decode cX5_readLine 43 = .ok (.invokevirtual 49, 3) := by decide +kernel
theorem dX5_readLine_46 : decode cX5_readLine 46 = .ok (.ifCond .eq 10, 3) := by decide +kernel
theorem dX5_readLine_49 : decode cX5_readLine 49 = .ok (.aload_n 0, 1) := by decide +kernel
theorem dX5_readLine_50 : decode cX5_readLine 50 = .ok (.iload_n 2, 1) := by decide +kernel
theorem dX5_readLine_51 : decode cX5_readLine 51 = .ok (.aload_n 1, 1) := by decide +kernel
theorem dX5_readLine_52 : decode cX5_readLine 52 = .ok (.invokevirtual 64, 3) := by decide +kernel
theorem dX5_readLine_55 : decode cX5_readLine 55 = .ok (.ireturn, 1) := by decide +kernel
theorem dX5_readLine_56 : decode cX5_readLine 56 = .ok (.aload_n 0, 1) := by decide +kernel
theorem dX5_readLine_57 : decode cX5_readLine 57 = .ok (.ldc 67, 2) := by decide +kernel
theorem dX5_readLine_59 : decode cX5_readLine 59 = .ok (.invokevirtual 49, 3) := by decide +kernel
theorem dX5_readLine_62 : decode cX5_readLine 62 = .ok (.ifCond .eq 10, 3) := by decide +kernel
theorem dX5_readLine_65 : decode cX5_readLine 65 = .ok (.aload_n 0, 1) := by decide +kernel
theorem dX5_readLine_66 : decode cX5_readLine 66 = .ok (.iload_n 2, 1) := by decide +kernel
theorem dX5_readLine_67 : decode cX5_readLine 67 = .ok (.aload_n 1, 1) := by decide +kernel
theorem dX5_readLine_68 : decode cX5_readLine 68 = .ok (.invokevirtual 69, 3) := by decide +kernel
theorem dX5_readLine_71 : decode cX5_readLine 71 = .ok (.ireturn, 1) := by decide +kernel
theorem dX5_readLine_72 : decode cX5_readLine 72 = .ok (.aload_n 0, 1) := by decide +kernel
theorem dX5_readLine_73 : decode cX5_readLine 73 = .ok (.ldc 72, 2) := by decide +kernel
theorem dX5_readLine_75 : decode cX5_readLine 75 = .ok (.invokevirtual 49, 3) := by decide +kernel
theorem dX5_readLine_78 : decode cX5_readLine 78 = .ok (.ifCond .eq 31, 3) := by decide +kernel
theorem dX5_readLine_81 : decode cX5_readLine 81 = .ok (.aload_n 0, 1) := by decide +kernel
theorem dX5_readLine_82 : decode cX5_readLine 82 = .ok (.iconst 0, 1) := by decide +kernel
theorem dX5_readLine_83 : decode cX5_readLine 83 = .ok (.bipush 100, 2) := by decide +kernel
theorem dX5_readLine_85 : decode cX5_readLine 85 = .ok (.invokevirtual 74, 3) := by decide +kernel
theorem dX5_readLine_88 : decode cX5_readLine 88 = .ok (.ifCond .eq 19, 3) := by decide +kernel
theorem dX5_readLine_91 : decode cX5_readLine 91 = .ok (.aload_n 0, 1) := by decide +kernel
theorem dX5_readLine_92 : decode cX5_readLine 92 = .ok (.iload_n 2, 1) := by decide +kernel
theorem dX5_readLine_93 : decode cX5_readLine 93 = .ok (.bipush 58, 2) := by decide +kernel
theorem dX5_readLine_95 : decode cX5_readLine 95 = .ok (.iconst 1, 1) := by decide +kernel
theorem dX5_readLine_96 : decode cX5_readLine 96 = .ok (.aload_n 1, 1) := by decide +kernel
theorem dX5_readLine_97 : decode cX5_readLine 97 = .ok (.invokevirtual 78, 3) := by decide +kernel
theorem dX5_readLine_100 : decode cX5_readLine 100 = .ok (.ifCond .eq 7, 3) := by decide +kernel
theorem dX5_readLine_103 : decode cX5_readLine 103 = .ok (.iconst 1, 1) := by decide +kernel
theorem dX5_readLine_104 : decode cX5_readLine 104 = .ok (.goto 4, 3) := by decide +kernel
theorem dX5_readLine_107 : decode cX5_readLine 107 = .ok (.iconst 0, 1) := by decide +kernel
theorem dX5_readLine_108 : decode cX5_readLine 108 = .ok (.ireturn, 1) := by decide +kernel
theorem dX5_readLine_109 : decode cX5_readLine 109 = .ok (.aload_n 0, 1) := by decide +kernel
theorem dX5_readLine_110 : decode cX5_readLine 110 = .ok (.ldc 82, 2) := by decide +kernel
theorem dX5_readLine_112 : decode cX5_readLine 112 = .ok (.invokevirtual 49, 3) := by decide +kernel
theorem dX5_readLine_115 : decode cX5_readLine 115 = .ok (.ifCond .eq 32, 3) := by decide +kernel
theorem dX5_readLine_118 : decode cX5_readLine 118 = .ok (.aload_n 0, 1) := by decide +kernel
theorem dX5_readLine_119 : decode cX5_readLine 119 = .ok (.iconst 0, 1) := by decide +kernel
theorem dX5_readLine_120 : decode cX5_readLine 120 = .ok (.sipush 1000, 3) := by decide +kernel
theorem dX5_readLine_123 : decode cX5_readLine 123 = .ok (.invokevirtual 74, 3) := by decide +kernel
theorem dX5_readLine_126 : decode cX5_readLine 126 = .ok (.ifCond .eq 19, 3) := by decide +kernel
theorem dX5_readLine_129 : decode cX5_readLine 129 = .ok (.aload_n 0, 1) := by decide +kernel
theorem dX5_readLine_130 : decode cX5_readLine 130 = .ok (.iload_n 2, 1) := by decide +kernel
theorem dX5_readLine_131 : decode cX5_readLine 131 = .ok (.bipush 59, 2) := by decide +kernel
theorem dX5_readLine_133 : decode cX5_readLine 133 = .ok (.iconst 1, 1) := by decide +kernel
theorem dX5_readLine_134 : decode cX5_readLine 134 = .ok (.aload_n 1, 1) := by decide +kernel
theorem dX5_readLine_135 : decode cX5_readLine 135 = .ok (.invokevirtual 78, 3) := by decide +kernel
theorem dX5_readLine_138 : decode cX5_readLine 138 = .ok (.ifCond .eq 7, 3) := by decide +kernel
theorem dX5_readLine_141 : decode cX5_readLine 141 = .ok (.iconst 1, 1) := by decide +kernel
theorem dX5_readLine_142 : decode cX5_readLine 142 = .ok (.goto 4, 3) := by decide +kernel
theorem dX5_readLine_145 : decode cX5_readLine 145 = .ok (.iconst 0, 1) := by decide +kernel
theorem dX5_readLine_146 : decode cX5_readLine 146 = .ok (.ireturn, 1) := by decide +kernel
theorem dX5_readLine_147 : decode cX5_readLine 147 = .ok (.aload_n 0, 1) := by decide +kernel
theorem dX5_readLine_148 : decode cX5_readLine 148 = .ok (.ldc 84, 2) := by decide +kernel
theorem dX5_readLine_150 : decode cX5_readLine 150 = .ok (.invokevirtual 49, 3) := by decide +kernel
theorem dX5_readLine_153 : decode cX5_readLine 153 = .ok (.ifCond .eq 10, 3) := by decide +kernel
theorem dX5_readLine_156 : decode cX5_readLine 156 = .ok (.aload_n 0, 1) := by decide +kernel
theorem dX5_readLine_157 : decode cX5_readLine 157 = .ok (.iload_n 2, 1) := by decide +kernel
theorem dX5_readLine_158 : decode cX5_readLine 158 = .ok (.aload_n 1, 1) := by decide +kernel
theorem dX5_readLine_159 : decode cX5_readLine 159 = .ok (.invokevirtual 86, 3) := by decide +kernel
theorem dX5_readLine_162 : decode cX5_readLine 162 = .ok (.ireturn, 1) := by decide +kernel
theorem dX5_readLine_163 : decode cX5_readLine 163 = .ok (.aload_n 0, 1) := by decide +kernel
theorem dX5_readLine_164 : decode cX5_readLine 164 = .ok (.iconst 1, 1) := by decide +kernel
theorem dX5_readLine_165 : decode cX5_readLine 165 = .ok (.iload_n 2, 1) := by decide +kernel
theorem dX5_readLine_166 : decode cX5_readLine 166 = .ok (.invokevirtual 89, 3) := by decide +kernel
theorem dX5_readLine_169 : decode cX5_readLine 169 = .ok (.ireturn, 1) := by decide +kernel
theorem dX5_readRate_0 : decode cX5_readRate 0 = .ok (.aload_n 0, 1) := by decide +kernel
theorem dX5_readRate_1 : decode cX5_readRate 1 = .ok (.invokevirtual 92, 3) := by decide +kernel
theorem dX5_readRate_4 : decode cX5_readRate 4 = .ok (.istore_n 3, 1) := by decide +kernel
theorem dX5_readRate_5 : decode cX5_readRate 5 = .ok (.iload_n 3, 1) := by decide +kernel
theorem dX5_readRate_6 : decode cX5_readRate 6 = .ok (.iconst (-1), 1) := by decide +kernel
theorem dX5_readRate_7 : decode cX5_readRate 7 = .ok (.if_icmp .eq 31, 3) := by decide +kernel
theorem dX5_readRate_10 : decode cX5_readRate 10 = .ok (.aload_n 0, 1) := by decide +kernel
theorem dX5_readRate_11 : decode cX5_readRate 11 = .ok (.iconst 0, 1) := by decide +kernel
theorem dX5_readRate_12 : decode cX5_readRate 12 = .ok (.sipush 1000, 3) := by decide +kernel
theorem dX5_readRate_15 : decode cX5_readRate 15 = .ok (.invokevirtual 74, 3) := by decide +kernel
theorem dX5_readRate_18 : decode cX5_readRate 18 = .ok (.ifCond .eq 20, 3) := by decide +kernel
theorem dX5_readRate_21 : decode cX5_readRate 21 = .ok (.aload_n 0, 1) := by decide +kernel
theorem dX5_readRate_22 : decode cX5_readRate 22 = .ok (.iload_n 1, 1) := by decide +kernel
theorem dX5_readRate_23 : decode cX5_readRate 23 = .ok (.iconst 0, 1) := by decide +kernel
theorem dX5_readRate_24 : decode cX5_readRate 24 = .ok (.iload_n 3, 1) := by decide +kernel
theorem dX5_readRate_25 : decode cX5_readRate 25 = .ok (.iadd, 1) := by decide +kernel
theorem dX5_readRate_26 : decode cX5_readRate 26 = .ok (.iconst 1, 1) := by decide +kernel
theorem dX5_readRate_27 : decode cX5_readRate 27 = .ok (.aload_n 2, 1) := by decide +kernel
theorem dX5_readRate_28 : decode cX5_readRate 28 = .ok (.invokevirtual 78, 3) := by decide +kernel
theorem dX5_readRate_31 : decode cX5_readRate 31 = .ok (.ifCond .eq 7, 3) := by decide +kernel
theorem dX5_readRate_34 : decode cX5_readRate 34 = .ok (.iconst 1, 1) := by decide +kernel
theorem dX5_readRate_35 : decode cX5_readRate 35 = .ok (.goto 4, 3) := by decide +kernel
theorem dX5_readRate_38 : decode cX5_readRate 38 = .ok (.iconst 0, 1) := by decide +kernel
theorem dX5_readRate_39 : decode cX5_readRate 39 = .ok (.ireturn, 1) := by decide +kernel
theorem dX5_readSeason_0 : decode cX5_readSeason 0 = .ok (.aload_n 0, 1) := by decide +kernel
theorem dX5_readSeason_1 : decode cX5_readSeason 1 = .ok (.invokevirtual 92, 3) := by decide +kernel
theorem dX5_readSeason_4 : decode cX5_readSeason 4 = .ok (.istore_n 3, 1) := by decide +kernel
theorem dX5_readSeason_5 : decode cX5_readSeason 5 = .ok (.iload_n 3, 1) := by decide +kernel
theorem dX5_readSeason_6 : decode cX5_readSeason 6 = .ok (.iconst (-1), 1) := by decide +kernel
theorem dX5_readSeason_7 : decode cX5_readSeason 7 = .ok (.if_icmp .eq 12, 3) := by decide +kernel
theorem dX5_readSeason_10 : decode cX5_readSeason 10 = .ok (.aload_n 0, 1) := by decide +kernel
theorem dX5_readSeason_11 : decode cX5_readSeason 11 = .ok (.bipush 58, 2) := by decide +kernel
theorem dX5_readSeason_13 : decode cX5_readSeason 13 = .ok (.invokevirtual 40, 3) := by decide +kernel
theorem dX5_readSeason_16 : decode cX5_readSeason 16 = .ok (.ifCond .ne 5, 3) := by decide +kernel
theorem dX5_readSeason_19 : decode cX5_readSeason 19 = .ok (.iconst 0, 1) := by decide +kernel
theorem dX5_readSeason_20 : decode cX5_readSeason 20 = .ok (.ireturn, 1) := by decide +kernel
theorem dX5_readSeason_21 : decode cX5_readSeason 21 = .ok (.iconst 0, 1) := by decide +kernel
theorem dX5_readSeason_22 : decode cX5_readSeason 22 = .ok (.istore 4, 2) := by decide +kernel
theorem dX5_readSeason_24 : decode cX5_readSeason 24 = .ok (.iload 4, 2) := by decide +kernel
theorem dX5_readSeason_26 : decode cX5_readSeason 26 = .ok (.bipush 12, 2) := by decide +kernel
theorem dX5_readSeason_28 : decode cX5_readSeason 28 = .ok (.if_icmp .ge 39, 3) := by decide +kernel
theorem dX5_readSeason_31 : decode cX5_readSeason 31 = .ok (.iload 4, 2) := by decide +kernel
theorem dX5_readSeason_33 : decode cX5_readSeason 33 = .ok (.ifCond .le 14, 3) := by decide +kernel
theorem dX5_readSeason_36 : decode cX5_readSeason 36 = .ok (.aload_n 0, 1) := by decide +kernel
theorem dX5_readSeason_37 : decode cX5_readSeason 37 = .ok (.bipush 44, 2) := by decide +kernel
theorem dX5_readSeason_39 : decode cX5_readSeason 39 = .ok (.invokevirtual 40, 3) := by decide +kernel
theorem dX5_readSeason_42 : decode cX5_readSeason 42 = .ok (.ifCond .ne 5, 3) := by decide +kernel
theorem dX5_readSeason_45 : decode cX5_readSeason 45 = .ok (.iconst 0, 1) := by decide +kernel
theorem dX5_readSeason_46 : decode cX5_readSeason 46 = .ok (.ireturn, 1) := by decide +kernel
theorem dX5_readSeason_47 : decode cX5_readSeason 47 = .ok (.aload_n 0, 1) := by decide +kernel
theorem dX5_readSeason_48 : decode cX5_readSeason 48 = .ok (.iload 4, 2) := by decide +kernel
theorem dX5_readSeason_50 : decode cX5_readSeason 50 = .ok (.sipush 1000, 3) := by decide +kernel
theorem dX5_readSeason_53 : decode cX5_readSeason 53 = .ok (.invokevirtual 74, 3) := by decide +kernel
theorem dX5_readSeason_56 : decode cX5_readSeason 56 = .ok (.ifCond .ne 5, 3) := by decide +kernel
theorem dX5_readSeason_59 : decode cX5_readSeason 59 = .ok (.iconst 0, 1) := by decide +kernel
theorem dX5_readSeason_60 : decode cX5_readSeason 60 = .ok (.ireturn, 1) := by decide +kernel
theorem dX5_readSeason_61 : decode cX5_readSeason 61 = .ok (.iinc 4 1, 3) := by decide +kernel
theorem dX5_readSeason_64 : decode cX5_readSeason 64 = .ok (.goto (-40), 3) := by decide +kernel
theorem dX5_readSeason_67 : decode cX5_readSeason 67 = .ok (.aload_n 0, 1) := by decide +kernel
theorem dX5_readSeason_68 : decode cX5_readSeason 68 = .ok (.getfield 12, 3) := by decide +kernel
theorem dX5_readSeason_71 : decode cX5_readSeason 71 = .ok (.bipush 44, 2) := by decide +kernel
theorem dX5_readSeason_73 : decode cX5_readSeason 73 = .ok (.invokevirtual 96, 3) := by decide +kernel
theorem dX5_readSeason_76 : decode cX5_readSeason 76 = .ok (.ifCond .eq 38, 3) := by decide +kernel
theorem dX5_readSeason_79 : decode cX5_readSeason 79 = .ok (.aload_n 0, 1) := by decide +kernel
theorem dX5_readSeason_80 : decode cX5_readSeason 80 = .ok (.getfield 12, 3) := by decide +kernel
theorem dX5_readSeason_83 : decode cX5_readSeason 83 = .ok (.invokevirtual 99, 3) := by decide +kernel
theorem dX5_readSeason_86 : decode cX5_readSeason 86 = .ok (.aload_n 0, 1) := by decide +kernel
theorem dX5_readSeason_87 : decode cX5_readSeason 87 = .ok (.aload_n 0, 1) := by decide +kernel
theorem dX5_readSeason_88 : decode cX5_readSeason 88 = .ok (.getfield 12, 3) := by decide +kernel
theorem dX5_readSeason_91 : decode cX5_readSeason 91 = .ok (.getfield 33, 3) := by decide +kernel
theorem dX5_readSeason_94 : decode cX5_readSeason 94 = .ok (.iconst 2, 1) := by decide +kernel
theorem dX5_readSeason_95 : decode cX5_readSeason 95 = .ok (.if_icmp .ne 7, 3) := by decide +kernel
theorem dX5_readSeason_98 : decode cX5_readSeason 98 = .ok (.iconst 2, 1) := by decide +kernel
theorem dX5_readSeason_99 : decode cX5_readSeason 99 = .ok (.goto 4, 3) := by decide +kernel
theorem dX5_readSeason_102 : decode cX5_readSeason 102 = .ok (.iconst 1, 1) := by decide +kernel
theorem dX5_readSeason_103 : decode cX5_readSeason 103 = .ok (.aload_n 0, 1) := by decide +kernel
theorem dX5_readSeason_104 : decode cX5_readSeason 104 = .ok (.getfield 12, 3) := by decide +kernel
theorem dX5_readSeason_107 : decode cX5_readSeason 107 = .ok (.getfield 44, 3) := by decide +kernel
theorem dX5_readSeason_110 : decode cX5_readSeason 110 = .ok (.invokevirtual 89, 3) := by decide +kernel
theorem dX5_readSeason_113 : decode cX5_readSeason 113 = .ok (.ireturn, 1) := by decide +kernel
theorem dX5_readSeason_114 : decode cX5_readSeason 114 = .ok (.aload_n 0, 1) := by decide +kernel
theorem dX5_readSeason_115 : decode cX5_readSeason 115 = .ok (.iload_n 1, 1) := by decide +kernel
theorem dX5_readSeason_116 : decode cX5_readSeason 116 = .ok (.iconst 4, 1) := by decide +kernel
theorem dX5_readSeason_117 : decode cX5_readSeason 117 = .ok (.iload_n 3, 1) := by decide +kernel
theorem dX5_readSeason_118 : decode cX5_readSeason 118 = .ok (.bipush 12, 2) := by decide +kernel
theorem dX5_readSeason_120 : decode cX5_readSeason 120 = .ok (.imul, 1) := by decide +kernel
theorem dX5_readSeason_121 : decode cX5_readSeason 121 = .ok (.iadd, 1) := by decide +kernel
theorem dX5_readSeason_122 : decode cX5_readSeason 122 = .ok (.bipush 12, 2) := by decide +kernel
theorem dX5_readSeason_124 : decode cX5_readSeason 124 = .ok (.aload_n 2, 1) := by decide +kernel
theorem dX5_readSeason_125 : decode cX5_readSeason 125 = .ok (.invokevirtual 78, 3) := by decide +kernel
theorem dX5_readSeason_128 : decode cX5_readSeason 128 = .ok (.ireturn, 1) := by decide +kernel
theorem dX5_readDuty_0 : decode cX5_readDuty 0 = .ok (.aload_n 0, 1) := by decide +kernel
theorem dX5_readDuty_1 : decode cX5_readDuty 1 = .ok (.iconst 0, 1) := by decide +kernel
theorem dX5_readDuty_2 : decode cX5_readDuty 2 = .ok (.sipush 1000, 3) := by decide +kernel
theorem dX5_readDuty_5 : decode cX5_readDuty 5 = .ok (.invokevirtual 74, 3) := by decide +kernel
theorem dX5_readDuty_8 : decode cX5_readDuty 8 = .ok (.ifCond .ne 5, 3) := by decide +kernel
theorem dX5_readDuty_11 : decode cX5_readDuty 11 = .ok (.iconst 0, 1) := by decide +kernel
theorem dX5_readDuty_12 : decode cX5_readDuty 12 = .ok (.ireturn, 1) := by decide +kernel
theorem dX5_readDuty_13 : decode cX5_readDuty 13 = .ok (.aload_n 0, 1) := by decide +kernel
theorem dX5_readDuty_14 : decode cX5_readDuty 14 = .ok (.ldc 102, 2) := by decide +kernel
theorem dX5_readDuty_16 : decode cX5_readDuty 16 = .ok (.invokevirtual 49, 3) := by decide +kernel
theorem dX5_readDuty_19 : decode cX5_readDuty 19 = .ok (.ifCond .ne 16, 3) := by decide +kernel
theorem dX5_readDuty_22 : decode cX5_readDuty 22 = .ok (.aload_n 0, 1) := by decide +kernel
theorem dX5_readDuty_23 : decode cX5_readDuty 23 = .ok (.iconst 1, 1) := by decide +kernel
theorem dX5_readDuty_24 : decode cX5_readDuty 24 = .ok (.aload_n 0, 1) := by decide +kernel
theorem dX5_readDuty_25 : decode cX5_readDuty 25 = .ok (.getfield 12, 3) := by decide +kernel
theorem dX5_readDuty_28 : decode cX5_readDuty 28 = .ok (.getfield 44, 3) := by decide +kernel
theorem dX5_readDuty_31 : decode cX5_readDuty 31 = .ok (.invokevirtual 89, 3) := by decide +kernel
theorem dX5_readDuty_34 : decode cX5_readDuty 34 = .ok (.ireturn, 1) := by decide +kernel
theorem dX5_readDuty_35 : decode cX5_readDuty 35 = .ok (.aload_n 0, 1) := by decide +kernel
theorem dX5_readDuty_36 : decode cX5_readDuty 36 = .ok (.iconst 1, 1) := by decide +kernel
theorem dX5_readDuty_37 : decode cX5_readDuty 37 = .ok (.bipush 100, 2) := by decide +kernel
theorem dX5_readDuty_39 : decode cX5_readDuty 39 = .ok (.invokevirtual 74, 3) := by decide +kernel
theorem dX5_readDuty_42 : decode cX5_readDuty 42 = .ok (.ifCond .eq 19, 3) := by decide +kernel
theorem dX5_readDuty_45 : decode cX5_readDuty 45 = .ok (.aload_n 0, 1) := by decide +kernel
theorem dX5_readDuty_46 : decode cX5_readDuty 46 = .ok (.iload_n 1, 1) := by decide +kernel
theorem dX5_readDuty_47 : decode cX5_readDuty 47 = .ok (.bipush 56, 2) := by decide +kernel
theorem dX5_readDuty_49 : decode cX5_readDuty 49 = .ok (.iconst 2, 1) := by decide +kernel
theorem dX5_readDuty_50 : decode cX5_readDuty 50 = .ok (.aload_n 2, 1) := by decide +kernel
theorem dX5_readDuty_51 : decode cX5_readDuty 51 = .ok (.invokevirtual 78, 3) := by decide +kernel
theorem dX5_readDuty_54 : decode cX5_readDuty 54 = .ok (.ifCond .eq 7, 3) := by decide +kernel
theorem dX5_readDuty_57 : decode cX5_readDuty 57 = .ok (.iconst 1, 1) := by decide +kernel
theorem dX5_readDuty_58 : decode cX5_readDuty 58 = .ok (.goto 4, 3) := by decide +kernel
theorem dX5_readDuty_61 : decode cX5_readDuty 61 = .ok (.iconst 0, 1) := by decide +kernel
theorem dX5_readDuty_62 : decode cX5_readDuty 62 = .ok (.ireturn, 1) := by decide +kernel
theorem dX5_readNone_0 : decode cX5_readNone 0 = .ok (.aload_n 0, 1) := by decide +kernel
theorem dX5_readNone_1 : decode cX5_readNone 1 = .ok (.invokevirtual 92, 3) := by decide +kernel
theorem dX5_readNone_4 : decode cX5_readNone 4 = .ok (.istore_n 3, 1) := by decide +kernel
theorem dX5_readNone_5 : decode cX5_readNone 5 = .ok (.aload_n 0, 1) := by decide +kernel
theorem dX5_readNone_6 : decode cX5_readNone 6 = .ok (.getfield 22, 3) := by decide +kernel
theorem dX5_readNone_9 : decode cX5_readNone 9 = .ok (.iconst 0, 1) := by decide +kernel
theorem dX5_readNone_10 : decode cX5_readNone 10 = .ok (.iconst 0, 1) := by decide +kernel
theorem dX5_readNone_11 : decode cX5_readNone 11 = .ok (.iastore, 1) := by decide +kernel
theorem dX5_readNone_12 : decode cX5_readNone 12 = .ok (.iload_n 3, 1) := by decide +kernel
theorem dX5_readNone_13 : decode cX5_readNone 13 = .ok (.iconst (-1), 1) := by decide +kernel
theorem dX5_readNone_14 : decode cX5_readNone 14 = .ok (.if_icmp .eq 21, 3) := by decide +kernel
theorem dX5_readNone_17 : decode cX5_readNone 17 = .ok (.aload_n 0, 1) := by decide +kernel
theorem dX5_readNone_18 : decode cX5_readNone 18 = .ok (.iload_n 1, 1) := by decide +kernel
theorem dX5_readNone_19 : decode cX5_readNone 19 = .ok (.bipush 52, 2) := by decide +kernel
theorem dX5_readNone_21 : decode cX5_readNone 21 = .ok (.iload_n 3, 1) := by decide +kernel
theorem dX5_readNone_22 : decode cX5_readNone 22 = .ok (.iadd, 1) := by decide +kernel
theorem dX5_readNone_23 : decode cX5_readNone 23 = .ok (.iconst 1, 1) := by decide +kernel
theorem dX5_readNone_24 : decode cX5_readNone 24 = .ok (.aload_n 2, 1) := by decide +kernel
theorem dX5_readNone_25 : decode cX5_readNone 25 = .ok (.invokevirtual 78, 3) := by decide +kernel
theorem dX5_readNone_28 : decode cX5_readNone 28 = .ok (.ifCond .eq 7, 3) := by decide +kernel
theorem dX5_readNone_31 : decode cX5_readNone 31 = .ok (.iconst 1, 1) := by decide +kernel
theorem dX5_readNone_32 : decode cX5_readNone 32 = .ok (.goto 4, 3) := by decide +kernel
theorem dX5_readNone_35 : decode cX5_readNone 35 = .ok (.iconst 0, 1) := by decide +kernel
theorem dX5_readNone_36 : decode cX5_readNone 36 = .ok (.ireturn, 1) := by decide +kernel
theorem dX5_readOther_0 : decode cX5_readOther 0 = .ok (.aload_n 0, 1) := by decide +kernel
theorem dX5_readOther_1 : decode cX5_readOther 1 = .ok (.iconst 0, 1) := by decide +kernel
theorem dX5_readOther_2 : decode cX5_readOther 2 = .ok (.iconst 2, 1) := by decide +kernel
theorem dX5_readOther_3 : decode cX5_readOther 3 = .ok (.invokevirtual 74, 3) := by decide +kernel
theorem dX5_readOther_6 : decode cX5_readOther 6 = .ok (.ifCond .ne 5, 3) := by decide +kernel
theorem dX5_readOther_9 : decode cX5_readOther 9 = .ok (.iconst 0, 1) := by decide +kernel
theorem dX5_readOther_10 : decode cX5_readOther 10 = .ok (.ireturn, 1) := by decide +kernel
theorem dX5_readOther_11 : decode cX5_readOther 11 = .ok (.bipush 60, 2) := by decide +kernel
theorem dX5_readOther_13 : decode cX5_readOther 13 = .ok (.aload_n 0, 1) := by decide +kernel
theorem dX5_readOther_14 : decode cX5_readOther 14 = .ok (.getfield 22, 3) := by decide +kernel
theorem dX5_readOther_17 : decode cX5_readOther 17 = .ok (.iconst 0, 1) := by decide +kernel
theorem dX5_readOther_18 : decode cX5_readOther 18 = .ok (.iaload, 1) := by decide +kernel
theorem dX5_readOther_19 : decode cX5_readOther 19 = .ok (.iadd, 1) := by decide +kernel
theorem dX5_readOther_20 : decode cX5_readOther 20 = .ok (.istore_n 3, 1) := by decide +kernel
theorem dX5_readOther_21 : decode cX5_readOther 21 = .ok (.aload_n 0, 1) := by decide +kernel
theorem dX5_readOther_22 : decode cX5_readOther 22 = .ok (.iconst 0, 1) := by decide +kernel
theorem dX5_readOther_23 : decode cX5_readOther 23 = .ok (.sipush 1000, 3) := by decide +kernel
theorem dX5_readOther_26 : decode cX5_readOther 26 = .ok (.invokevirtual 74, 3) := by decide +kernel
theorem dX5_readOther_29 : decode cX5_readOther 29 = .ok (.ifCond .eq 18, 3) := by decide +kernel
theorem dX5_readOther_32 : decode cX5_readOther 32 = .ok (.aload_n 0, 1) := by decide +kernel
theorem dX5_readOther_33 : decode cX5_readOther 33 = .ok (.iload_n 1, 1) := by decide +kernel
theorem dX5_readOther_34 : decode cX5_readOther 34 = .ok (.iload_n 3, 1) := by decide +kernel
theorem dX5_readOther_35 : decode cX5_readOther 35 = .ok (.iconst 1, 1) := by decide +kernel
theorem dX5_readOther_36 : decode cX5_readOther 36 = .ok (.aload_n 2, 1) := by decide +kernel
theorem dX5_readOther_37 : decode cX5_readOther 37 = .ok (.invokevirtual 78, 3) := by decide +kernel
theorem dX5_readOther_40 : decode cX5_readOther 40 = .ok (.ifCond .eq 7, 3) := by decide +kernel
theorem dX5_readOther_43 : decode cX5_readOther 43 = .ok (.iconst 1, 1) := by decide +kernel
theorem dX5_readOther_44 : decode cX5_readOther 44 = .ok (.goto 4, 3) := by decide +kernel
theorem dX5_readOther_47 : decode cX5_readOther 47 = .ok (.iconst 0, 1) := by decide +kernel
theorem dX5_readOther_48 : decode cX5_readOther 48 = .ok (.ireturn, 1) := by decide +kernel
theorem dX5_takeClass_0 : decode cX5_takeClass 0 = .ok (.iconst (-1), 1) := by decide +kernel
theorem dX5_takeClass_1 : decode cX5_takeClass 1 = .ok (.istore_n 1, 1) := by decide +kernel
theorem dX5_takeClass_2 : decode cX5_takeClass 2 = .ok (.aload_n 0, 1) := by decide +kernel
theorem dX5_takeClass_3 : decode cX5_takeClass 3 = .ok (.getfield 12, 3) := by decide +kernel
theorem dX5_takeClass_6 : decode cX5_takeClass 6 = .ok (.ldc 104, 2) := by decide +kernel
theorem dX5_takeClass_8 : decode cX5_takeClass 8 = .ok (.invokevirtual 106, 3) := by decide +kernel
theorem dX5_takeClass_11 : decode cX5_takeClass 11 = .ok (.ifCond .eq 8, 3) := by decide +kernel
theorem dX5_takeClass_14 : decode cX5_takeClass 14 = .ok (.iconst 0, 1) := by decide +kernel
theorem dX5_takeClass_15 : decode cX5_takeClass 15 = .ok (.istore_n 1, 1) := by decide +kernel
theorem dX5_takeClass_16 : decode cX5_takeClass 16 = .ok (.goto 69, 3) := by decide +kernel
theorem dX5_takeClass_19 : decode cX5_takeClass 19 = .ok (.aload_n 0, 1) := by decide +kernel
theorem dX5_takeClass_20 : decode cX5_takeClass 20 = .ok (.getfield 12, 3) := by decide +kernel
theorem dX5_takeClass_23 : decode cX5_takeClass 23 = .ok (.ldc 109, 2) := by decide +kernel
theorem dX5_takeClass_25 : decode cX5_takeClass 25 = .ok (.invokevirtual 106, 3) := by decide +kernel
theorem dX5_takeClass_28 : decode cX5_takeClass 28 = .ok (.ifCond .eq 8, 3) := by decide +kernel
theorem dX5_takeClass_31 : decode cX5_takeClass 31 = .ok (.iconst 1, 1) := by decide +kernel
theorem dX5_takeClass_32 : decode cX5_takeClass 32 = .ok (.istore_n 1, 1) := by decide +kernel
theorem dX5_takeClass_33 : decode cX5_takeClass 33 = .ok (.goto 52, 3) := by decide +kernel
theorem dX5_takeClass_36 : decode cX5_takeClass 36 = .ok (.aload_n 0, 1) := by decide +kernel
theorem dX5_takeClass_37 : decode cX5_takeClass 37 = .ok (.getfield 12, 3) := by decide +kernel
theorem dX5_takeClass_40 : decode cX5_takeClass 40 = .ok (.ldc 111, 2) := by decide +kernel
theorem dX5_takeClass_42 : decode cX5_takeClass 42 = .ok (.invokevirtual 106, 3) := by decide +kernel
theorem dX5_takeClass_45 : decode cX5_takeClass 45 = .ok (.ifCond .eq 8, 3) := by decide +kernel
theorem dX5_takeClass_48 : decode cX5_takeClass 48 = .ok (.iconst 2, 1) := by decide +kernel
theorem dX5_takeClass_49 : decode cX5_takeClass 49 = .ok (.istore_n 1, 1) := by decide +kernel
theorem dX5_takeClass_50 : decode cX5_takeClass 50 = .ok (.goto 35, 3) := by decide +kernel
theorem dX5_takeClass_53 : decode cX5_takeClass 53 = .ok (.aload_n 0, 1) := by decide +kernel
theorem dX5_takeClass_54 : decode cX5_takeClass 54 = .ok (.getfield 12, 3) := by decide +kernel
theorem dX5_takeClass_57 : decode cX5_takeClass 57 = .ok (.ldc 113, 2) := by decide +kernel
theorem dX5_takeClass_59 : decode cX5_takeClass 59 = .ok (.invokevirtual 106, 3) := by decide +kernel
theorem dX5_takeClass_62 : decode cX5_takeClass 62 = .ok (.ifCond .eq 8, 3) := by decide +kernel
theorem dX5_takeClass_65 : decode cX5_takeClass 65 = .ok (.iconst 3, 1) := by decide +kernel
theorem dX5_takeClass_66 : decode cX5_takeClass 66 = .ok (.istore_n 1, 1) := by decide +kernel
theorem dX5_takeClass_67 : decode cX5_takeClass 67 = .ok (.goto 18, 3) := by decide +kernel
theorem dX5_takeClass_70 : decode cX5_takeClass 70 = .ok (.aload_n 0, 1) := by decide +kernel
theorem dX5_takeClass_71 : decode cX5_takeClass 71 = .ok (.iconst 1, 1) := by decide +kernel
theorem dX5_takeClass_72 : decode cX5_takeClass 72 = .ok (.aload_n 0, 1) := by decide +kernel
theorem dX5_takeClass_73 : decode cX5_takeClass 73 = .ok (.getfield 12, 3) := by decide +kernel
theorem dX5_takeClass_76 : decode cX5_takeClass 76 = .ok (.getfield 44, 3) := by decide +kernel
theorem dX5_takeClass_79 : decode cX5_takeClass 79 = .ok (.invokevirtual 89, 3) := by decide +kernel
theorem dX5_takeClass_82 : decode cX5_takeClass 82 = .ok (.pop, 1) := by decide +kernel
theorem dX5_takeClass_83 : decode cX5_takeClass 83 = .ok (.iconst (-1), 1) := by decide +kernel
theorem dX5_takeClass_84 : decode cX5_takeClass 84 = .ok (.ireturn, 1) := by decide +kernel
theorem dX5_takeClass_85 : decode cX5_takeClass 85 = .ok (.aload_n 0, 1) := by decide +kernel
theorem dX5_takeClass_86 : decode cX5_takeClass 86 = .ok (.getfield 12, 3) := by decide +kernel
theorem dX5_takeClass_89 : decode cX5_takeClass 89 = .ok (.invokevirtual 99, 3) := by decide +kernel
theorem dX5_takeClass_92 : decode cX5_takeClass 92 = .ok (.iload_n 1, 1) := by decide +kernel
theorem dX5_takeClass_93 : decode cX5_takeClass 93 = .ok (.ireturn, 1) := by decide +kernel
theorem dX5_takeWord_0 : decode cX5_takeWord 0 = .ok (.aload_n 0, 1) := by decide +kernel
theorem dX5_takeWord_1 : decode cX5_takeWord 1 = .ok (.getfield 12, 3) := by decide +kernel
theorem dX5_takeWord_4 : decode cX5_takeWord 4 = .ok (.aload_n 1, 1) := by decide +kernel
theorem dX5_takeWord_5 : decode cX5_takeWord 5 = .ok (.invokevirtual 106, 3) := by decide +kernel
theorem dX5_takeWord_8 : decode cX5_takeWord 8 = .ok (.ifCond .ne 5, 3) := by decide +kernel
theorem dX5_takeWord_11 : decode cX5_takeWord 11 = .ok (.iconst 0, 1) := by decide +kernel
theorem dX5_takeWord_12 : decode cX5_takeWord 12 = .ok (.ireturn, 1) := by decide +kernel
theorem dX5_takeWord_13 : decode cX5_takeWord 13 = .ok (.aload_n 0, 1) := by decide +kernel
theorem dX5_takeWord_14 : decode cX5_takeWord 14 = .ok (.getfield 12, 3) := by decide +kernel
theorem dX5_takeWord_17 : decode cX5_takeWord 17 = .ok (.invokevirtual 99, 3) := by decide +kernel
theorem dX5_takeWord_20 : decode cX5_takeWord 20 = .ok (.iconst 1, 1) := by decide +kernel
theorem dX5_takeWord_21 : decode cX5_takeWord 21 = .ok (.ireturn, 1) := by decide +kernel
theorem dX5_takeMark_0 : decode cX5_takeMark 0 = .ok (.aload_n 0, 1) := by decide +kernel
theorem dX5_takeMark_1 : decode cX5_takeMark 1 = .ok (.getfield 12, 3) := by decide +kernel
theorem dX5_takeMark_4 : decode cX5_takeMark 4 = .ok (.iload_n 1, 1) := by decide +kernel
theorem dX5_takeMark_5 : decode cX5_takeMark 5 = .ok (.invokevirtual 96, 3) := by decide +kernel
theorem dX5_takeMark_8 : decode cX5_takeMark 8 = .ok (.ifCond .ne 16, 3) := by decide +kernel
theorem dX5_takeMark_11 : decode cX5_takeMark 11 = .ok (.aload_n 0, 1) := by decide +kernel
theorem dX5_takeMark_12 : decode cX5_takeMark 12 = .ok (.iconst 1, 1) := by decide +kernel
theorem dX5_takeMark_13 : decode cX5_takeMark 13 = .ok (.aload_n 0, 1) := by decide +kernel
theorem dX5_takeMark_14 : decode cX5_takeMark 14 = .ok (.getfield 12, 3) := by decide +kernel
theorem dX5_takeMark_17 : decode cX5_takeMark 17 = .ok (.getfield 44, 3) := by decide +kernel
theorem dX5_takeMark_20 : decode cX5_takeMark 20 = .ok (.invokevirtual 89, 3) := by decide +kernel
theorem dX5_takeMark_23 : decode cX5_takeMark 23 = .ok (.ireturn, 1) := by decide +kernel
theorem dX5_takeMark_24 : decode cX5_takeMark 24 = .ok (.aload_n 0, 1) := by decide +kernel
theorem dX5_takeMark_25 : decode cX5_takeMark 25 = .ok (.getfield 12, 3) := by decide +kernel
theorem dX5_takeMark_28 : decode cX5_takeMark 28 = .ok (.invokevirtual 99, 3) := by decide +kernel
theorem dX5_takeMark_31 : decode cX5_takeMark 31 = .ok (.iconst 1, 1) := by decide +kernel
theorem dX5_takeMark_32 : decode cX5_takeMark 32 = .ok (.ireturn, 1) := by decide +kernel
theorem dX5_takeNumber_0 : decode cX5_takeNumber 0 = .ok (.aload_n 0, 1) := by decide +kernel
theorem dX5_takeNumber_1 : decode cX5_takeNumber 1 = .ok (.getfield 12, 3) := by decide +kernel
theorem dX5_takeNumber_4 : decode cX5_takeNumber 4 = .ok (.getfield 33, 3) := by decide +kernel
theorem dX5_takeNumber_7 : decode cX5_takeNumber 7 = .ok (.iconst 2, 1) := by decide +kernel
theorem dX5_takeNumber_8 : decode cX5_takeNumber 8 = .ok (.if_icmp .ne 16, 3) := by decide +kernel
theorem dX5_takeNumber_11 : decode cX5_takeNumber 11 = .ok (.iload_n 1, 1) := by decide +kernel
theorem dX5_takeNumber_12 : decode cX5_takeNumber 12 = .ok (.ifCond .lt 12, 3) := by decide +kernel
theorem dX5_takeNumber_15 : decode cX5_takeNumber 15 = .ok (.iload_n 1, 1) := by decide +kernel
theorem dX5_takeNumber_16 : decode cX5_takeNumber 16 = .ok (.aload_n 0, 1) := by decide +kernel
theorem dX5_takeNumber_17 : decode cX5_takeNumber 17 = .ok (.getfield 22, 3) := by decide +kernel
theorem dX5_takeNumber_20 : decode cX5_takeNumber 20 = .ok (.arraylength, 1) := by decide +kernel
theorem dX5_takeNumber_21 : decode cX5_takeNumber 21 = .ok (.if_icmp .lt 16, 3) := by decide +kernel
theorem dX5_takeNumber_24 : decode cX5_takeNumber 24 = .ok (.aload_n 0, 1) := by decide +kernel
theorem dX5_takeNumber_25 : decode cX5_takeNumber 25 = .ok (.iconst 1, 1) := by decide +kernel
theorem dX5_takeNumber_26 : decode cX5_takeNumber 26 = .ok (.aload_n 0, 1) := by decide +kernel
theorem dX5_takeNumber_27 : decode cX5_takeNumber 27 = .ok (.getfield 12, 3) := by decide +kernel
theorem dX5_takeNumber_30 : decode cX5_takeNumber 30 = .ok (.getfield 44, 3) := by decide +kernel
theorem dX5_takeNumber_33 : decode cX5_takeNumber 33 = .ok (.invokevirtual 89, 3) := by decide +kernel
theorem dX5_takeNumber_36 : decode cX5_takeNumber 36 = .ok (.ireturn, 1) := by decide +kernel
theorem dX5_takeNumber_37 : decode cX5_takeNumber 37 = .ok (.aload_n 0, 1) := by decide +kernel
theorem dX5_takeNumber_38 : decode cX5_takeNumber 38 = .ok (.getfield 12, 3) := by decide +kernel
theorem dX5_takeNumber_41 : decode cX5_takeNumber 41 = .ok (.getfield 115, 3) := by decide +kernel
theorem dX5_takeNumber_44 : decode cX5_takeNumber 44 = .ok (.iload_n 2, 1) := by decide +kernel
theorem dX5_takeNumber_45 : decode cX5_takeNumber 45 = .ok (.if_icmp .le 16, 3) := by decide +kernel
theorem dX5_takeNumber_48 : decode cX5_takeNumber 48 = .ok (.aload_n 0, 1) := by decide +kernel
theorem dX5_takeNumber_49 : decode cX5_takeNumber 49 = .ok (.iconst 2, 1) := by decide +kernel
theorem dX5_takeNumber_50 : decode cX5_takeNumber 50 = .ok (.aload_n 0, 1) := by decide +kernel
theorem dX5_takeNumber_51 : decode cX5_takeNumber 51 = .ok (.getfield 12, 3) := by decide +kernel
theorem dX5_takeNumber_54 : decode cX5_takeNumber 54 = .ok (.getfield 44, 3) := by decide +kernel
theorem dX5_takeNumber_57 : decode cX5_takeNumber 57 = .ok (.invokevirtual 89, 3) := by decide +kernel
theorem dX5_takeNumber_60 : decode cX5_takeNumber 60 = .ok (.ireturn, 1) := by decide +kernel
theorem dX5_takeNumber_61 : decode cX5_takeNumber 61 = .ok (.aload_n 0, 1) := by decide +kernel
theorem dX5_takeNumber_62 : decode cX5_takeNumber 62 = .ok (.getfield 22, 3) := by decide +kernel
theorem dX5_takeNumber_65 : decode cX5_takeNumber 65 = .ok (.iload_n 1, 1) := by decide +kernel
theorem dX5_takeNumber_66 : decode cX5_takeNumber 66 = .ok (.aload_n 0, 1) := by decide +kernel
theorem dX5_takeNumber_67 : decode cX5_takeNumber 67 = .ok (.getfield 12, 3) := by decide +kernel
theorem dX5_takeNumber_70 : decode cX5_takeNumber 70 = .ok (.getfield 115, 3) := by decide +kernel
theorem dX5_takeNumber_73 : decode cX5_takeNumber 73 = .ok (.iastore, 1) := by decide +kernel
theorem dX5_takeNumber_74 : decode cX5_takeNumber 74 = .ok (.aload_n 0, 1) := by decide +kernel
theorem dX5_takeNumber_75 : decode cX5_takeNumber 75 = .ok (.getfield 12, 3) := by decide +kernel
theorem dX5_takeNumber_78 : decode cX5_takeNumber 78 = .ok (.invokevirtual 99, 3) := by decide +kernel
theorem dX5_takeNumber_81 : decode cX5_takeNumber 81 = .ok (.iconst 1, 1) := by decide +kernel
theorem dX5_takeNumber_82 : decode cX5_takeNumber 82 = .ok (.ireturn, 1) := by decide +kernel
theorem dX5_keep_0 : decode cX5_keep 0 = .ok (.aload 4, 2) := by decide +kernel
theorem dX5_keep_2 : decode cX5_keep 2 = .ok (.iload_n 2, 1) := by decide +kernel
theorem dX5_keep_3 : decode cX5_keep 3 = .ok (.invokevirtual 118, 3) := by decide +kernel
theorem dX5_keep_6 : decode cX5_keep 6 = .ok (.iconst (-1), 1) := by decide +kernel
theorem dX5_keep_7 : decode cX5_keep 7 = .ok (.if_icmp .eq 10, 3) := by decide +kernel
theorem dX5_keep_10 : decode cX5_keep 10 = .ok (.aload_n 0, 1) := by decide +kernel
theorem dX5_keep_11 : decode cX5_keep 11 = .ok (.iconst 3, 1) := by decide +kernel
theorem dX5_keep_12 : decode cX5_keep 12 = .ok (.iload_n 1, 1) := by decide +kernel
theorem dX5_keep_13 : decode cX5_keep 13 = .ok (.invokevirtual 89, 3) := by decide +kernel
theorem dX5_keep_16 : decode cX5_keep 16 = .ok (.ireturn, 1) := by decide +kernel
theorem dX5_keep_17 : decode cX5_keep 17 = .ok (.iconst 0, 1) := by decide +kernel
theorem dX5_keep_18 : decode cX5_keep 18 = .ok (.istore 5, 2) := by decide +kernel
theorem dX5_keep_20 : decode cX5_keep 20 = .ok (.iload 5, 2) := by decide +kernel
theorem dX5_keep_22 : decode cX5_keep 22 = .ok (.iload_n 3, 1) := by decide +kernel
theorem dX5_keep_23 : decode cX5_keep 23 = .ok (.if_icmp .ge 35, 3) := by decide +kernel
theorem dX5_keep_26 : decode cX5_keep 26 = .ok (.iload 5, 2) := by decide +kernel
theorem dX5_keep_28 : decode cX5_keep 28 = .ok (.aload_n 0, 1) := by decide +kernel
theorem dX5_keep_29 : decode cX5_keep 29 = .ok (.getfield 22, 3) := by decide +kernel
theorem dX5_keep_32 : decode cX5_keep 32 = .ok (.arraylength, 1) := by decide +kernel
theorem dX5_keep_33 : decode cX5_keep 33 = .ok (.if_icmp .ge 25, 3) := by decide +kernel
theorem dX5_keep_36 : decode cX5_keep 36 = .ok (.aload 4, 2) := by decide +kernel
theorem dX5_keep_38 : decode cX5_keep 38 = .ok (.iload_n 2, 1) := by decide +kernel
theorem dX5_keep_39 : decode cX5_keep 39 = .ok (.iload 5, 2) := by decide +kernel
theorem dX5_keep_41 : decode cX5_keep 41 = .ok (.iadd, 1) := by decide +kernel
theorem dX5_keep_42 : decode cX5_keep 42 = .ok (.aload_n 0, 1) := by decide +kernel
theorem dX5_keep_43 : decode cX5_keep 43 = .ok (.getfield 22, 3) := by decide +kernel
theorem dX5_keep_46 : decode cX5_keep 46 = .ok (.iload 5, 2) := by decide +kernel
theorem dX5_keep_48 : decode cX5_keep 48 = .ok (.iaload, 1) := by decide +kernel
theorem dX5_keep_49 : decode cX5_keep 49 = .ok (.invokevirtual 124, 3) := by decide +kernel
theorem dX5_keep_52 : decode cX5_keep 52 = .ok (.iinc 5 1, 3) := by decide +kernel
theorem dX5_keep_55 : decode cX5_keep 55 = .ok (.goto (-35), 3) := by decide +kernel
theorem dX5_keep_58 : decode cX5_keep 58 = .ok (.aload 4, 2) := by decide +kernel
theorem dX5_keep_60 : decode cX5_keep 60 = .ok (.dup, 1) := by decide +kernel
theorem dX5_keep_61 : decode cX5_keep 61 = .ok (.getfield 128, 3) := by decide +kernel
theorem dX5_keep_64 : decode cX5_keep 64 = .ok (.iconst 1, 1) := by decide +kernel
theorem dX5_keep_65 : decode cX5_keep 65 = .ok (.iadd, 1) := by decide +kernel
theorem dX5_keep_66 : decode cX5_keep 66 = .ok (.putfield 128, 3) := by decide +kernel
theorem dX5_keep_69 : decode cX5_keep 69 = .ok (.iconst 1, 1) := by decide +kernel
theorem dX5_keep_70 : decode cX5_keep 70 = .ok (.ireturn, 1) := by decide +kernel
theorem dX5_fail_0 : decode cX5_fail 0 = .ok (.aload_n 0, 1) := by decide +kernel
theorem dX5_fail_1 : decode cX5_fail 1 = .ok (.iload_n 1, 1) := by decide +kernel
theorem dX5_fail_2 : decode cX5_fail 2 = .ok (.putfield 26, 3) := by decide +kernel
theorem dX5_fail_5 : decode cX5_fail 5 = .ok (.aload_n 0, 1) := by decide +kernel
theorem dX5_fail_6 : decode cX5_fail 6 = .ok (.iload_n 2, 1) := by decide +kernel
theorem dX5_fail_7 : decode cX5_fail 7 = .ok (.putfield 18, 3) := by decide +kernel
theorem dX5_fail_10 : decode cX5_fail 10 = .ok (.iconst 0, 1) := by decide +kernel
theorem dX5_fail_11 : decode cX5_fail 11 = .ok (.ireturn, 1) := by decide +kernel
theorem dX6_init_0 : decode cX6_init 0 = .ok (.aload_n 0, 1) := by decide +kernel
theorem dX6_init_1 : decode cX6_init 1 = .ok (.invokespecial 3, 3) := by decide +kernel
theorem dX6_init_4 : decode cX6_init 4 = .ok (.aload_n 0, 1) := by decide +kernel
theorem dX6_init_5 : decode cX6_init 5 = .ok (.bipush 12, 2) := by decide +kernel
theorem dX6_init_7 : decode cX6_init 7 = .ok (.newarray .long, 2) := by decide +kernel
theorem dX6_init_9 : decode cX6_init 9 = .ok (.putfield 9, 3) := by decide +kernel
theorem dX6_init_12 : decode cX6_init 12 = .ok (.aload_n 0, 1) := by decide +kernel
theorem dX6_init_13 : decode cX6_init 13 = .ok (.bipush 12, 2) := by decide +kernel
theorem dX6_init_15 : decode cX6_init 15 = .ok (.newarray .long, 2) := by decide +kernel
theorem dX6_init_17 : decode cX6_init 17 = .ok (.putfield 15, 3) := by decide +kernel
theorem dX6_init_20 : decode cX6_init 20 = .ok (.aload_n 0, 1) := by decide +kernel
theorem dX6_init_21 : decode cX6_init 21 = .ok (.bipush 12, 2) := by decide +kernel
theorem dX6_init_23 : decode cX6_init 23 = .ok (.newarray .long, 2) := by decide +kernel
theorem dX6_init_25 : decode cX6_init 25 = .ok (.putfield 18, 3) := by decide +kernel
theorem dX6_init_28 : decode cX6_init 28 = .ok (.return_, 1) := by decide +kernel
theorem dX6_start_0 : decode cX6_start 0 = .ok (.iconst 0, 1) := by decide +kernel
theorem dX6_start_1 : decode cX6_start 1 = .ok (.istore_n 1, 1) := by decide +kernel
theorem dX6_start_2 : decode cX6_start 2 = .ok (.iload_n 1, 1) := by decide +kernel
theorem dX6_start_3 : decode cX6_start 3 = .ok (.bipush 12, 2) := by decide +kernel
theorem dX6_start_5 : decode cX6_start 5 = .ok (.if_icmp .ge 30, 3) := by decide +kernel
theorem dX6_start_8 : decode cX6_start 8 = .ok (.aload_n 0, 1) := by decide +kernel
theorem dX6_start_9 : decode cX6_start 9 = .ok (.getfield 9, 3) := by decide +kernel
theorem dX6_start_12 : decode cX6_start 12 = .ok (.iload_n 1, 1) := by decide +kernel
theorem dX6_start_13 : decode cX6_start 13 = .ok (.lconst 0, 1) := by decide +kernel
theorem dX6_start_14 : decode cX6_start 14 = .ok (.lastore, 1) := by decide +kernel
theorem dX6_start_15 : decode cX6_start 15 = .ok (.aload_n 0, 1) := by decide +kernel
theorem dX6_start_16 : decode cX6_start 16 = .ok (.getfield 15, 3) := by decide +kernel
theorem dX6_start_19 : decode cX6_start 19 = .ok (.iload_n 1, 1) := by decide +kernel
theorem dX6_start_20 : decode cX6_start 20 = .ok (.lconst 0, 1) := by decide +kernel
theorem dX6_start_21 : decode cX6_start 21 = .ok (.lastore, 1) := by decide +kernel
theorem dX6_start_22 : decode cX6_start 22 = .ok (.aload_n 0, 1) := by decide +kernel
theorem dX6_start_23 : decode cX6_start 23 = .ok (.getfield 18, 3) := by decide +kernel
theorem dX6_start_26 : decode cX6_start 26 = .ok (.iload_n 1, 1) := by decide +kernel
theorem dX6_start_27 : decode cX6_start 27 = .ok (.lconst 0, 1) := by decide +kernel
theorem dX6_start_28 : decode cX6_start 28 = .ok (.lastore, 1) := by decide +kernel
theorem dX6_start_29 : decode cX6_start 29 = .ok (.iinc 1 1, 3) := by decide +kernel
theorem dX6_start_32 : decode cX6_start 32 = .ok (.goto (-30), 3) := by decide +kernel
theorem dX6_start_35 : decode cX6_start 35 = .ok (.return_, 1) := by decide +kernel
theorem dX6_weigh_0 : decode cX6_weigh 0 = .ok (.iload_n 1, 1) := by decide +kernel
theorem dX6_weigh_1 : decode cX6_weigh 1 = .ok (.ifCond .lt 22, 3) := by decide +kernel
theorem dX6_weigh_4 : decode cX6_weigh 4 = .ok (.iload_n 1, 1) := by decide +kernel
theorem dX6_weigh_5 : decode cX6_weigh 5 = .ok (.aload_n 0, 1) := by decide +kernel
theorem dX6_weigh_6 : decode cX6_weigh 6 = .ok (.getfield 9, 3) := by decide +kernel
theorem dX6_weigh_9 : decode cX6_weigh 9 = .ok (.arraylength, 1) := by decide +kernel
theorem dX6_weigh_10 : decode cX6_weigh 10 = .ok (.if_icmp .ge 13, 3) := by decide +kernel
theorem dX6_weigh_13 : decode cX6_weigh 13 = .ok (.aload_n 0, 1) := by decide +kernel
theorem dX6_weigh_14 : decode cX6_weigh 14 = .ok (.getfield 9, 3) := by decide +kernel
theorem dX6_weigh_17 : decode cX6_weigh 17 = .ok (.iload_n 1, 1) := by decide +kernel
theorem dX6_weigh_18 : decode cX6_weigh 18 = .ok (.dup2, 1) := by decide +kernel
theorem dX6_weigh_19 : decode cX6_weigh 19 = .ok (.laload, 1) := by decide +kernel
theorem dX6_weigh_20 : decode cX6_weigh 20 = .ok (.lload_n 2, 1) := by decide +kernel
theorem dX6_weigh_21 : decode cX6_weigh 21 = .ok (.ladd, 1) := by decide +kernel
theorem dX6_weigh_22 : decode cX6_weigh 22 = .ok (.lastore, 1) := by decide +kernel
theorem dX6_weigh_23 : decode cX6_weigh 23 = .ok (.return_, 1) := by decide +kernel
theorem dX6_spread_0 : decode cX6_spread 0 = .ok (.lconst 0, 1) := by decide +kernel
theorem dX6_spread_1 : decode cX6_spread 1 = .ok (.lstore_n 3, 1) := by decide +kernel
theorem dX6_spread_2 : decode cX6_spread 2 = .ok (.iconst 0, 1) := by decide +kernel
theorem dX6_spread_3 : decode cX6_spread 3 = .ok (.istore 5, 2) := by decide +kernel
theorem dX6_spread_5 : decode cX6_spread 5 = .ok (.iload 5, 2) := by decide +kernel
theorem dX6_spread_7 : decode cX6_spread 7 = .ok (.aload_n 0, 1) := by decide +kernel
theorem dX6_spread_8 : decode cX6_spread 8 = .ok (.getfield 9, 3) := by decide +kernel
theorem dX6_spread_11 : decode cX6_spread 11 = .ok (.arraylength, 1) := by decide +kernel
theorem dX6_spread_12 : decode cX6_spread 12 = .ok (.if_icmp .ge 19, 3) := by decide +kernel
theorem dX6_spread_15 : decode cX6_spread 15 = .ok (.lload_n 3, 1) := by decide +kernel
theorem dX6_spread_16 : decode cX6_spread 16 = .ok (.aload_n 0, 1) := by decide +kernel
theorem dX6_spread_17 : decode cX6_spread 17 = .ok (.getfield 9, 3) := by decide +kernel
theorem dX6_spread_20 : decode cX6_spread 20 = .ok (.iload 5, 2) := by decide +kernel
theorem dX6_spread_22 : decode cX6_spread 22 = .ok (.laload, 1) := by decide +kernel
theorem dX6_spread_23 : decode cX6_spread 23 = .ok (.ladd, 1) := by decide +kernel
theorem dX6_spread_24 : decode cX6_spread 24 = .ok (.lstore_n 3, 1) := by decide +kernel
theorem dX6_spread_25 : decode cX6_spread 25 = .ok (.iinc 5 1, 3) := by decide +kernel
theorem dX6_spread_28 : decode cX6_spread 28 = .ok (.goto (-23), 3) := by decide +kernel
theorem dX6_spread_31 : decode cX6_spread 31 = .ok (.lload_n 3, 1) := by decide +kernel
theorem dX6_spread_32 : decode cX6_spread 32 = .ok (.lconst 0, 1) := by decide +kernel
theorem dX6_spread_33 : decode cX6_spread 33 = .ok (.lcmp, 1) := by decide +kernel
theorem dX6_spread_34 : decode cX6_spread 34 = .ok (.ifCond .gt 11, 3) := by decide +kernel
theorem dX6_spread_37 : decode cX6_spread 37 = .ok (.aload_n 0, 1) := by decide +kernel
theorem dX6_spread_38 : decode cX6_spread 38 = .ok (.getfield 15, 3) := by decide +kernel
theorem dX6_spread_41 : decode cX6_spread 41 = .ok (.iconst 0, 1) := by decide +kernel
theorem dX6_spread_42 : decode cX6_spread 42 = .ok (.lload_n 1, 1) := by decide +kernel
theorem dX6_spread_43 : decode cX6_spread 43 = .ok (.lastore, 1) := by decide +kernel
theorem dX6_spread_44 : decode cX6_spread 44 = .ok (.return_, 1) := by decide +kernel
theorem dX6_spread_45 : decode cX6_spread 45 = .ok (.lload_n 1, 1) := by decide +kernel
theorem dX6_spread_46 : decode cX6_spread 46 = .ok (.lstore 5, 2) := by decide +kernel
theorem dX6_spread_48 : decode cX6_spread 48 = .ok (.iconst 0, 1) := by decide +kernel
theorem dX6_spread_49 : decode cX6_spread 49 = .ok (.istore 7, 2) := by decide +kernel
theorem dX6_spread_51 : decode cX6_spread 51 = .ok (.iload 7, 2) := by decide +kernel
theorem dX6_spread_53 : decode cX6_spread 53 = .ok (.bipush 12, 2) := by decide +kernel
theorem dX6_spread_55 : decode cX6_spread 55 = .ok (.if_icmp .ge 57, 3) := by decide +kernel
theorem dX6_spread_58 : decode cX6_spread 58 = .ok (.aload_n 0, 1) := by decide +kernel
theorem dX6_spread_59 : decode cX6_spread 59 = .ok (.getfield 15, 3) := by decide +kernel
theorem dX6_spread_62 : decode cX6_spread 62 = .ok (.iload 7, 2) := by decide +kernel
theorem dX6_spread_64 : decode cX6_spread 64 = .ok (.lload_n 1, 1) := by decide +kernel
theorem dX6_spread_65 : decode cX6_spread 65 = .ok (.aload_n 0, 1) := by decide +kernel
theorem dX6_spread_66 : decode cX6_spread 66 = .ok (.getfield 9, 3) := by decide +kernel
theorem dX6_spread_69 : decode cX6_spread 69 = .ok (.iload 7, 2) := by decide +kernel
theorem dX6_spread_71 : decode cX6_spread 71 = .ok (.laload, 1) := by decide +kernel
theorem dX6_spread_72 : decode cX6_spread 72 = .ok (.lmul, 1) := by decide +kernel
theorem dX6_spread_73 : decode cX6_spread 73 = .ok (.lload_n 3, 1) := by decide +kernel
theorem dX6_spread_74 : decode cX6_spread 74 = .ok (.ldiv, 1) := by decide +kernel
theorem dX6_spread_75 : decode cX6_spread 75 = .ok (.lastore, 1) := by decide +kernel
theorem dX6_spread_76 : decode cX6_spread 76 = .ok (.aload_n 0, 1) := by decide +kernel
theorem dX6_spread_77 : decode cX6_spread 77 = .ok (.getfield 18, 3) := by decide +kernel
theorem dX6_spread_80 : decode cX6_spread 80 = .ok (.iload 7, 2) := by decide +kernel
theorem dX6_spread_82 : decode cX6_spread 82 = .ok (.lload_n 1, 1) := by decide +kernel
theorem dX6_spread_83 : decode cX6_spread 83 = .ok (.aload_n 0, 1) := by decide +kernel
theorem dX6_spread_84 : decode cX6_spread 84 = .ok (.getfield 9, 3) := by decide +kernel
theorem dX6_spread_87 : decode cX6_spread 87 = .ok (.iload 7, 2) := by decide +kernel
theorem dX6_spread_89 : decode cX6_spread 89 = .ok (.laload, 1) := by decide +kernel
theorem dX6_spread_90 : decode cX6_spread 90 = .ok (.lmul, 1) := by decide +kernel
theorem dX6_spread_91 : decode cX6_spread 91 = .ok (.lload_n 3, 1) := by decide +kernel
theorem dX6_spread_92 : decode cX6_spread 92 = .ok (.lrem, 1) := by decide +kernel
theorem dX6_spread_93 : decode cX6_spread 93 = .ok (.lastore, 1) := by decide +kernel
theorem dX6_spread_94 : decode cX6_spread 94 = .ok (.lload 5, 2) := by decide +kernel
theorem dX6_spread_96 : decode cX6_spread 96 = .ok (.aload_n 0, 1) := by decide +kernel
theorem dX6_spread_97 : decode cX6_spread 97 = .ok (.getfield 15, 3) := by decide +kernel
theorem dX6_spread_100 : decode cX6_spread 100 = .ok (.iload 7, 2) := by decide +kernel
theorem dX6_spread_102 : decode cX6_spread 102 = .ok (.laload, 1) := by decide +kernel
theorem dX6_spread_103 : decode cX6_spread 103 = .ok (.lsub, 1) := by decide +kernel
theorem dX6_spread_104 : decode cX6_spread 104 = .ok (.lstore 5, 2) := by decide +kernel
theorem dX6_spread_106 : decode cX6_spread 106 = .ok (.iinc 7 1, 3) := by decide +kernel
theorem dX6_spread_109 : decode cX6_spread 109 = .ok (.goto (-58), 3) := by decide +kernel
theorem dX6_spread_112 : decode cX6_spread 112 = .ok (.iconst 0, 1) := by decide +kernel
theorem dX6_spread_113 : decode cX6_spread 113 = .ok (.istore 7, 2) := by decide +kernel
theorem dX6_spread_115 : decode cX6_spread 115 = .ok (.iload 7, 2) := by decide +kernel
theorem dX6_spread_117 : decode cX6_spread 117 = .ok (.bipush 12, 2) := by decide +kernel
theorem dX6_spread_119 : decode cX6_spread 119 = .ok (.if_icmp .ge 26, 3) := by decide +kernel
theorem dX6_spread_122 : decode cX6_spread 122 = .ok (.lload 5, 2) := by decide +kernel
theorem dX6_spread_124 : decode cX6_spread 124 = .ok (.lconst 0, 1) := by decide +kernel
theorem dX6_spread_125 : decode cX6_spread 125 = .ok (.lcmp, 1) := by decide +kernel
theorem dX6_spread_126 : decode cX6_spread 126 = .ok (.ifCond .le 19, 3) := by decide +kernel
theorem dX6_spread_129 : decode cX6_spread 129 = .ok (.aload_n 0, 1) := by decide +kernel
theorem dX6_spread_130 : decode cX6_spread 130 = .ok (.invokevirtual 21, 3) := by decide +kernel
theorem dX6_spread_133 : decode cX6_spread 133 = .ok (.lload 5, 2) := by decide +kernel
theorem dX6_spread_135 : decode cX6_spread 135 = .ok (.lconst 1, 1) := by decide +kernel
theorem dX6_spread_136 : decode cX6_spread 136 = .ok (.lsub, 1) := by decide +kernel
theorem dX6_spread_137 : decode cX6_spread 137 = .ok (.lstore 5, 2) := by decide +kernel
theorem dX6_spread_139 : decode cX6_spread 139 = .ok (.iinc 7 1, 3) := by decide +kernel
theorem dX6_spread_142 : decode cX6_spread 142 = .ok (.goto (-27), 3) := by decide +kernel
theorem dX6_spread_145 : decode cX6_spread 145 = .ok (.return_, 1) := by decide +kernel
theorem dX6_coins_0 : decode cX6_coins 0 = .ok (.iload_n 1, 1) := by decide +kernel
theorem dX6_coins_1 : decode cX6_coins 1 = .ok (.ifCond .lt 21, 3) := by decide +kernel
theorem dX6_coins_4 : decode cX6_coins 4 = .ok (.iload_n 1, 1) := by decide +kernel
theorem dX6_coins_5 : decode cX6_coins 5 = .ok (.aload_n 0, 1) := by decide +kernel
theorem dX6_coins_6 : decode cX6_coins 6 = .ok (.getfield 15, 3) := by decide +kernel
theorem dX6_coins_9 : decode cX6_coins 9 = .ok (.arraylength, 1) := by decide +kernel
theorem dX6_coins_10 : decode cX6_coins 10 = .ok (.if_icmp .ge 12, 3) := by decide +kernel
theorem dX6_coins_13 : decode cX6_coins 13 = .ok (.aload_n 0, 1) := by decide +kernel
theorem dX6_coins_14 : decode cX6_coins 14 = .ok (.getfield 15, 3) := by decide +kernel
theorem dX6_coins_17 : decode cX6_coins 17 = .ok (.iload_n 1, 1) := by decide +kernel
theorem dX6_coins_18 : decode cX6_coins 18 = .ok (.laload, 1) := by decide +kernel
theorem dX6_coins_19 : decode cX6_coins 19 = .ok (.goto 4, 3) := by decide +kernel
theorem dX6_coins_22 : decode cX6_coins 22 = .ok (.lconst 0, 1) := by decide +kernel
theorem dX6_coins_23 : decode cX6_coins 23 = .ok (.lreturn, 1) := by decide +kernel
theorem dX6_addCoin_0 : decode cX6_addCoin 0 = .ok (.iconst 0, 1) := by decide +kernel
theorem dX6_addCoin_1 : decode cX6_addCoin 1 = .ok (.istore_n 1, 1) := by decide +kernel
theorem dX6_addCoin_2 : decode cX6_addCoin 2 = .ok (.iconst 1, 1) := by decide +kernel
theorem dX6_addCoin_3 : decode cX6_addCoin 3 = .ok (.istore_n 2, 1) := by decide +kernel
theorem dX6_addCoin_4 : decode cX6_addCoin 4 = .ok (.iload_n 2, 1) := by decide +kernel
theorem dX6_addCoin_5 : decode cX6_addCoin 5 = .ok (.aload_n 0, 1) := by decide +kernel
theorem dX6_addCoin_6 : decode cX6_addCoin 6 = .ok (.getfield 18, 3) := by decide +kernel
theorem dX6_addCoin_9 : decode cX6_addCoin 9 = .ok (.arraylength, 1) := by decide +kernel
theorem dX6_addCoin_10 : decode cX6_addCoin 10 = .ok (.if_icmp .ge 27, 3) := by decide +kernel
theorem dX6_addCoin_13 : decode cX6_addCoin 13 = .ok (.aload_n 0, 1) := by decide +kernel
theorem dX6_addCoin_14 : decode cX6_addCoin 14 = .ok (.getfield 18, 3) := by decide +kernel
theorem dX6_addCoin_17 : decode cX6_addCoin 17 = .ok (.iload_n 2, 1) := by decide +kernel
theorem dX6_addCoin_18 : decode cX6_addCoin 18 = .ok (.laload, 1) := by decide +kernel
theorem dX6_addCoin_19 : decode cX6_addCoin 19 = .ok (.aload_n 0, 1) := by decide +kernel
theorem dX6_addCoin_20 : decode cX6_addCoin 20 = .ok (.getfield 18, 3) := by decide +kernel
theorem dX6_addCoin_23 : decode cX6_addCoin 23 = .ok (.iload_n 1, 1) := by decide +kernel
theorem dX6_addCoin_24 : decode cX6_addCoin 24 = .ok (.laload, 1) := by decide +kernel
theorem dX6_addCoin_25 : decode cX6_addCoin 25 = .ok (.lcmp, 1) := by decide +kernel
theorem dX6_addCoin_26 : decode cX6_addCoin 26 = .ok (.ifCond .le 5, 3) := by decide +kernel
theorem dX6_addCoin_29 : decode cX6_addCoin 29 = .ok (.iload_n 2, 1) := by decide +kernel
theorem dX6_addCoin_30 : decode cX6_addCoin 30 = .ok (.istore_n 1, 1) := by decide +kernel
theorem dX6_addCoin_31 : decode cX6_addCoin 31 = .ok (.iinc 2 1, 3) := by decide +kernel
theorem dX6_addCoin_34 : decode cX6_addCoin 34 = .ok (.goto (-30), 3) := by decide +kernel
theorem dX6_addCoin_37 : decode cX6_addCoin 37 = .ok (.aload_n 0, 1) := by decide +kernel
theorem dX6_addCoin_38 : decode cX6_addCoin 38 = .ok (.getfield 15, 3) := by decide +kernel
theorem dX6_addCoin_41 : decode cX6_addCoin 41 = .ok (.iload_n 1, 1) := by decide +kernel
theorem dX6_addCoin_42 : decode cX6_addCoin 42 = .ok (.dup2, 1) := by decide +kernel
theorem dX6_addCoin_43 : decode cX6_addCoin 43 = .ok (.laload, 1) := by decide +kernel
theorem dX6_addCoin_44 : decode cX6_addCoin 44 = .ok (.lconst 1, 1) := by decide +kernel
theorem dX6_addCoin_45 : decode cX6_addCoin 45 = .ok (.ladd, 1) := by decide +kernel
theorem dX6_addCoin_46 : decode cX6_addCoin 46 = .ok (.lastore, 1) := by decide +kernel
theorem dX6_addCoin_47 : decode cX6_addCoin 47 = .ok (.aload_n 0, 1) := by decide +kernel
theorem dX6_addCoin_48 : decode cX6_addCoin 48 = .ok (.getfield 18, 3) := by decide +kernel
theorem dX6_addCoin_51 : decode cX6_addCoin 51 = .ok (.iload_n 1, 1) := by decide +kernel
theorem dX6_addCoin_52 : decode cX6_addCoin 52 = .ok (.ldc2_w 24, 3) := by decide +kernel
theorem dX6_addCoin_55 : decode cX6_addCoin 55 = .ok (.lastore, 1) := by decide +kernel
theorem dX6_addCoin_56 : decode cX6_addCoin 56 = .ok (.return_, 1) := by decide +kernel
theorem dX7_init_0 : decode cX7_init 0 = .ok (.aload_n 0, 1) := by decide +kernel
theorem dX7_init_1 : decode cX7_init 1 = .ok (.invokespecial 3, 3) := by decide +kernel
theorem dX7_init_4 : decode cX7_init 4 = .ok (.aload_n 0, 1) := by decide +kernel
theorem dX7_init_5 : decode cX7_init 5 = .ok (.sipush 720, 3) := by decide +kernel
theorem dX7_init_8 : decode cX7_init 8 = .ok (.putfield 9, 3) := by decide +kernel
theorem dX7_init_11 : decode cX7_init 11 = .ok (.aload_n 0, 1) := by decide +kernel
theorem dX7_init_12 : decode cX7_init 12 = .ok (.bipush 63, 2) := by decide +kernel
theorem dX7_init_14 : decode cX7_init 14 = .ok (.newarray .int, 2) := by decide +kernel
theorem dX7_init_16 : decode cX7_init 16 = .ok (.putfield 15, 3) := by decide +kernel
theorem dX7_init_19 : decode cX7_init 19 = .ok (.aload_n 0, 1) := by decide +kernel
theorem dX7_init_20 : decode cX7_init 20 = .ok (.iload_n 1, 1) := by decide +kernel
theorem dX7_init_21 : decode cX7_init 21 = .ok (.putfield 19, 3) := by decide +kernel
theorem dX7_init_24 : decode cX7_init 24 = .ok (.aload_n 0, 1) := by decide +kernel
theorem dX7_init_25 : decode cX7_init 25 = .ok (.iload_n 2, 1) := by decide +kernel
theorem dX7_init_26 : decode cX7_init 26 = .ok (.putfield 22, 3) := by decide +kernel
theorem dX7_init_29 : decode cX7_init 29 = .ok (.iconst 0, 1) := by decide +kernel
theorem dX7_init_30 : decode cX7_init 30 = .ok (.istore_n 3, 1) := by decide +kernel
theorem dX7_init_31 : decode cX7_init 31 = .ok (.iload_n 3, 1) := by decide +kernel
theorem dX7_init_32 : decode cX7_init 32 = .ok (.aload_n 0, 1) := by decide +kernel
theorem dX7_init_33 : decode cX7_init 33 = .ok (.getfield 15, 3) := by decide +kernel
theorem dX7_init_36 : decode cX7_init 36 = .ok (.arraylength, 1) := by decide +kernel
theorem dX7_init_37 : decode cX7_init 37 = .ok (.if_icmp .ge 16, 3) := by decide +kernel
theorem dX7_init_40 : decode cX7_init 40 = .ok (.aload_n 0, 1) := by decide +kernel
theorem dX7_init_41 : decode cX7_init 41 = .ok (.getfield 15, 3) := by decide +kernel
theorem dX7_init_44 : decode cX7_init 44 = .ok (.iload_n 3, 1) := by decide +kernel
theorem dX7_init_45 : decode cX7_init 45 = .ok (.iconst (-1), 1) := by decide +kernel
theorem dX7_init_46 : decode cX7_init 46 = .ok (.iastore, 1) := by decide +kernel
theorem dX7_init_47 : decode cX7_init 47 = .ok (.iinc 3 1, 3) := by decide +kernel
theorem dX7_init_50 : decode cX7_init 50 = .ok (.goto (-19), 3) := by decide +kernel
theorem dX7_init_53 : decode cX7_init 53 = .ok (.return_, 1) := by decide +kernel
theorem dX7_isInForce_0 : decode cX7_isInForce 0 = .ok (.aload_n 0, 1) := by decide +kernel
theorem dX7_isInForce_1 : decode cX7_isInForce 1 = .ok (.getfield 22, 3) := by decide +kernel
theorem dX7_isInForce_4 : decode cX7_isInForce 4 = .ok (.iload_n 1, 1) := by decide +kernel
theorem dX7_isInForce_5 : decode cX7_isInForce 5 = .ok (.if_icmp .gt 23, 3) := by decide +kernel
theorem dX7_isInForce_8 : decode cX7_isInForce 8 = .ok (.aload_n 0, 1) := by decide +kernel
theorem dX7_isInForce_9 : decode cX7_isInForce 9 = .ok (.getfield 19, 3) := by decide +kernel
theorem dX7_isInForce_12 : decode cX7_isInForce 12 = .ok (.iload_n 2, 1) := by decide +kernel
theorem dX7_isInForce_13 : decode cX7_isInForce 13 = .ok (.if_icmp .gt 15, 3) := by decide +kernel
theorem dX7_isInForce_16 : decode cX7_isInForce 16 = .ok (.aload_n 0, 1) := by decide +kernel
theorem dX7_isInForce_17 : decode cX7_isInForce 17 = .ok (.getfield 9, 3) := by decide +kernel
theorem dX7_isInForce_20 : decode cX7_isInForce 20 = .ok (.iload_n 2, 1) := by decide +kernel
theorem dX7_isInForce_21 : decode cX7_isInForce 21 = .ok (.if_icmp .le 7, 3) := by decide +kernel
theorem dX7_isInForce_24 : decode cX7_isInForce 24 = .ok (.iconst 1, 1) := by decide +kernel
theorem dX7_isInForce_25 : decode cX7_isInForce 25 = .ok (.goto 4, 3) := by decide +kernel
theorem dX7_isInForce_28 : decode cX7_isInForce 28 = .ok (.iconst 0, 1) := by decide +kernel
theorem dX7_isInForce_29 : decode cX7_isInForce 29 = .ok (.ireturn, 1) := by decide +kernel
theorem dX7_numberAt_0 : decode cX7_numberAt 0 = .ok (.iload_n 1, 1) := by decide +kernel
theorem dX7_numberAt_1 : decode cX7_numberAt 1 = .ok (.ifCond .lt 21, 3) := by decide +kernel
theorem dX7_numberAt_4 : decode cX7_numberAt 4 = .ok (.iload_n 1, 1) := by decide +kernel
theorem dX7_numberAt_5 : decode cX7_numberAt 5 = .ok (.aload_n 0, 1) := by decide +kernel
theorem dX7_numberAt_6 : decode cX7_numberAt 6 = .ok (.getfield 15, 3) := by decide +kernel
theorem dX7_numberAt_9 : decode cX7_numberAt 9 = .ok (.arraylength, 1) := by decide +kernel
theorem dX7_numberAt_10 : decode cX7_numberAt 10 = .ok (.if_icmp .ge 12, 3) := by decide +kernel
theorem dX7_numberAt_13 : decode cX7_numberAt 13 = .ok (.aload_n 0, 1) := by decide +kernel
theorem dX7_numberAt_14 : decode cX7_numberAt 14 = .ok (.getfield 15, 3) := by decide +kernel
theorem dX7_numberAt_17 : decode cX7_numberAt 17 = .ok (.iload_n 1, 1) := by decide +kernel
theorem dX7_numberAt_18 : decode cX7_numberAt 18 = .ok (.iaload, 1) := by decide +kernel
theorem dX7_numberAt_19 : decode cX7_numberAt 19 = .ok (.goto 4, 3) := by decide +kernel
theorem dX7_numberAt_22 : decode cX7_numberAt 22 = .ok (.iconst (-1), 1) := by decide +kernel
theorem dX7_numberAt_23 : decode cX7_numberAt 23 = .ok (.ireturn, 1) := by decide +kernel
theorem dX7_setNumber_0 : decode cX7_setNumber 0 = .ok (.iload_n 1, 1) := by decide +kernel
theorem dX7_setNumber_1 : decode cX7_setNumber 1 = .ok (.ifCond .lt 19, 3) := by decide +kernel
theorem dX7_setNumber_4 : decode cX7_setNumber 4 = .ok (.iload_n 1, 1) := by decide +kernel
theorem dX7_setNumber_5 : decode cX7_setNumber 5 = .ok (.aload_n 0, 1) := by decide +kernel
theorem dX7_setNumber_6 : decode cX7_setNumber 6 = .ok (.getfield 15, 3) := by decide +kernel
theorem dX7_setNumber_9 : decode cX7_setNumber 9 = .ok (.arraylength, 1) := by decide +kernel
theorem dX7_setNumber_10 : decode cX7_setNumber 10 = .ok (.if_icmp .ge 10, 3) := by decide +kernel
theorem dX7_setNumber_13 : decode cX7_setNumber 13 = .ok (.aload_n 0, 1) := by decide +kernel
theorem dX7_setNumber_14 : decode cX7_setNumber 14 = .ok (.getfield 15, 3) := by decide +kernel
theorem dX7_setNumber_17 : decode cX7_setNumber 17 = .ok (.iload_n 1, 1) := by decide +kernel
theorem dX7_setNumber_18 : decode cX7_setNumber 18 = .ok (.iload_n 2, 1) := by decide +kernel
theorem dX7_setNumber_19 : decode cX7_setNumber 19 = .ok (.iastore, 1) := by decide +kernel
theorem dX7_setNumber_20 : decode cX7_setNumber 20 = .ok (.return_, 1) := by decide +kernel
theorem dX8_init_0 : decode cX8_init 0 = .ok (.aload_n 0, 1) := by decide +kernel
theorem dX8_init_1 : decode cX8_init 1 = .ok (.invokespecial 3, 3) := by decide +kernel
theorem dX8_init_4 : decode cX8_init 4 = .ok (.aload_n 0, 1) := by decide +kernel
theorem dX8_init_5 : decode cX8_init 5 = .ok (.bipush 10, 2) := by decide +kernel
theorem dX8_init_7 : decode cX8_init 7 = .ok (.anewarray 9, 3) := by decide +kernel
theorem dX8_init_10 : decode cX8_init 10 = .ok (.putfield 11, 3) := by decide +kernel
theorem dX8_init_13 : decode cX8_init 13 = .ok (.return_, 1) := by decide +kernel
theorem dX8_isFull_0 : decode cX8_isFull 0 = .ok (.aload_n 0, 1) := by decide +kernel
theorem dX8_isFull_1 : decode cX8_isFull 1 = .ok (.getfield 17, 3) := by decide +kernel
theorem dX8_isFull_4 : decode cX8_isFull 4 = .ok (.aload_n 0, 1) := by decide +kernel
theorem dX8_isFull_5 : decode cX8_isFull 5 = .ok (.getfield 11, 3) := by decide +kernel
theorem dX8_isFull_8 : decode cX8_isFull 8 = .ok (.arraylength, 1) := by decide +kernel
theorem dX8_isFull_9 : decode cX8_isFull 9 = .ok (.if_icmp .lt 7, 3) := by decide +kernel
theorem dX8_isFull_12 : decode cX8_isFull 12 = .ok (.iconst 1, 1) := by decide +kernel
theorem dX8_isFull_13 : decode cX8_isFull 13 = .ok (.goto 4, 3) := by decide +kernel
theorem dX8_isFull_16 : decode cX8_isFull 16 = .ok (.iconst 0, 1) := by decide +kernel
theorem dX8_isFull_17 : decode cX8_isFull 17 = .ok (.ireturn, 1) := by decide +kernel
theorem dX8_textAt_0 : decode cX8_textAt 0 = .ok (.iload_n 1, 1) := by decide +kernel
theorem dX8_textAt_1 : decode cX8_textAt 1 = .ok (.ifCond .lt 29, 3) := by decide +kernel
theorem dX8_textAt_4 : decode cX8_textAt 4 = .ok (.iload_n 1, 1) := by decide +kernel
theorem dX8_textAt_5 : decode cX8_textAt 5 = .ok (.aload_n 0, 1) := by decide +kernel
theorem dX8_textAt_6 : decode cX8_textAt 6 = .ok (.getfield 17, 3) := by decide +kernel
theorem dX8_textAt_9 : decode cX8_textAt 9 = .ok (.if_icmp .ge 21, 3) := by decide +kernel
theorem dX8_textAt_12 : decode cX8_textAt 12 = .ok (.iload_n 1, 1) := by decide +kernel
theorem dX8_textAt_13 : decode cX8_textAt 13 = .ok (.aload_n 0, 1) := by decide +kernel
theorem dX8_textAt_14 : decode cX8_textAt 14 = .ok (.getfield 11, 3) := by decide +kernel
theorem dX8_textAt_17 : decode cX8_textAt 17 = .ok (.arraylength, 1) := by decide +kernel
theorem dX8_textAt_18 : decode cX8_textAt 18 = .ok (.if_icmp .ge 12, 3) := by decide +kernel
theorem dX8_textAt_21 : decode cX8_textAt 21 = .ok (.aload_n 0, 1) := by decide +kernel
theorem dX8_textAt_22 : decode cX8_textAt 22 = .ok (.getfield 11, 3) := by decide +kernel
theorem dX8_textAt_25 : decode cX8_textAt 25 = .ok (.iload_n 1, 1) := by decide +kernel
theorem dX8_textAt_26 : decode cX8_textAt 26 = .ok (.aaload, 1) := by decide +kernel
theorem dX8_textAt_27 : decode cX8_textAt 27 = .ok (.goto 4, 3) := by decide +kernel
theorem dX8_textAt_30 : decode cX8_textAt 30 = .ok (.aconst_null, 1) := by decide +kernel
theorem dX8_textAt_31 : decode cX8_textAt 31 = .ok (.areturn, 1) := by decide +kernel
theorem dX8_enact_0 : decode cX8_enact 0 = .ok (.aload_n 0, 1) := by decide +kernel
theorem dX8_enact_1 : decode cX8_enact 1 = .ok (.getfield 17, 3) := by decide +kernel
theorem dX8_enact_4 : decode cX8_enact 4 = .ok (.ifCond .lt 15, 3) := by decide +kernel
theorem dX8_enact_7 : decode cX8_enact 7 = .ok (.aload_n 0, 1) := by decide +kernel
theorem dX8_enact_8 : decode cX8_enact 8 = .ok (.getfield 17, 3) := by decide +kernel
theorem dX8_enact_11 : decode cX8_enact 11 = .ok (.aload_n 0, 1) := by decide +kernel
theorem dX8_enact_12 : decode cX8_enact 12 = .ok (.getfield 11, 3) := by decide +kernel
theorem dX8_enact_15 : decode cX8_enact 15 = .ok (.arraylength, 1) := by decide +kernel
theorem dX8_enact_16 : decode cX8_enact 16 = .ok (.if_icmp .lt 6, 3) := by decide +kernel
theorem dX8_enact_19 : decode cX8_enact 19 = .ok (.bipush (-2), 2) := by decide +kernel
theorem dX8_enact_21 : decode cX8_enact 21 = .ok (.ireturn, 1) := by decide +kernel
theorem dX8_enact_22 : decode cX8_enact 22 = .ok (.aload_n 0, 1) := by decide +kernel
theorem dX8_enact_23 : decode cX8_enact 23 = .ok (.getfield 11, 3) := by decide +kernel
theorem dX8_enact_26 : decode cX8_enact 26 = .ok (.aload_n 0, 1) := by decide +kernel
theorem dX8_enact_27 : decode cX8_enact 27 = .ok (.getfield 17, 3) := by decide +kernel
theorem dX8_enact_30 : decode cX8_enact 30 = .ok (.aload_n 1, 1) := by decide +kernel
theorem dX8_enact_31 : decode cX8_enact 31 = .ok (.aastore, 1) := by decide +kernel
theorem dX8_enact_32 : decode cX8_enact 32 = .ok (.aload_n 0, 1) := by decide +kernel
theorem dX8_enact_33 : decode cX8_enact 33 = .ok (.dup, 1) := by decide +kernel
theorem dX8_enact_34 : decode cX8_enact 34 = .ok (.getfield 17, 3) := by decide +kernel
theorem dX8_enact_37 : decode cX8_enact 37 = .ok (.iconst 1, 1) := by decide +kernel
theorem dX8_enact_38 : decode cX8_enact 38 = .ok (.iadd, 1) := by decide +kernel
theorem dX8_enact_39 : decode cX8_enact 39 = .ok (.putfield 17, 3) := by decide +kernel
theorem dX8_enact_42 : decode cX8_enact 42 = .ok (.aload_n 0, 1) := by decide +kernel
theorem dX8_enact_43 : decode cX8_enact 43 = .ok (.dup, 1) := by decide +kernel
theorem dX8_enact_44 : decode cX8_enact 44 = .ok (.getfield 21, 3) := by decide +kernel
theorem dX8_enact_47 : decode cX8_enact 47 = .ok (.aload_n 1, 1) := by decide +kernel
theorem dX8_enact_48 : decode cX8_enact 48 = .ok (.getfield 24, 3) := by decide +kernel
theorem dX8_enact_51 : decode cX8_enact 51 = .ok (.iadd, 1) := by decide +kernel
theorem dX8_enact_52 : decode cX8_enact 52 = .ok (.putfield 21, 3) := by decide +kernel
theorem dX8_enact_55 : decode cX8_enact 55 = .ok (.aload_n 0, 1) := by decide +kernel
theorem dX8_enact_56 : decode cX8_enact 56 = .ok (.getfield 17, 3) := by decide +kernel
theorem dX8_enact_59 : decode cX8_enact 59 = .ok (.iconst 1, 1) := by decide +kernel
theorem dX8_enact_60 : decode cX8_enact 60 = .ok (.isub, 1) := by decide +kernel
theorem dX8_enact_61 : decode cX8_enact 61 = .ok (.ireturn, 1) := by decide +kernel
theorem dX8_says_0 : decode cX8_says 0 = .ok (.iload_n 1, 1) := by decide +kernel
theorem dX8_says_1 : decode cX8_says 1 = .ok (.iconst 4, 1) := by decide +kernel
theorem dX8_says_2 : decode cX8_says 2 = .ok (.if_icmp .ge 16, 3) := by decide +kernel
theorem dX8_says_5 : decode cX8_says 5 = .ok (.aload_n 0, 1) := by decide +kernel
theorem dX8_says_6 : decode cX8_says 6 = .ok (.iconst 0, 1) := by decide +kernel
theorem dX8_says_7 : decode cX8_says 7 = .ok (.iload_n 1, 1) := by decide +kernel
theorem dX8_says_8 : decode cX8_says 8 = .ok (.iadd, 1) := by decide +kernel
theorem dX8_says_9 : decode cX8_says 9 = .ok (.iconst 0, 1) := by decide +kernel
theorem dX8_says_10 : decode cX8_says 10 = .ok (.isub, 1) := by decide +kernel
theorem dX8_says_11 : decode cX8_says 11 = .ok (.iconst 1, 1) := by decide +kernel
theorem dX8_says_12 : decode cX8_says 12 = .ok (.iload_n 2, 1) := by decide +kernel
theorem dX8_says_13 : decode cX8_says 13 = .ok (.iload_n 3, 1) := by decide +kernel
theorem dX8_says_14 : decode cX8_says 14 = .ok (.invokevirtual 25, 3) := by decide +kernel
theorem dX8_says_17 : decode cX8_says 17 = .ok (.ireturn, 1) := by decide +kernel
theorem dX8_says_18 : decode cX8_says 18 = .ok (.iload_n 1, 1) := by decide +kernel
theorem dX8_says_19 : decode cX8_says 19 = .ok (.bipush 8, 2) := by decide +kernel
theorem dX8_says_21 : decode cX8_says 21 = .ok (.if_icmp .ge 36, 3) := by decide +kernel
theorem dX8_says_24 : decode cX8_says 24 = .ok (.iload_n 2, 1) := by decide +kernel
theorem dX8_says_25 : decode cX8_says 25 = .ok (.bipush 30, 2) := by decide +kernel
theorem dX8_says_27 : decode cX8_says 27 = .ok (.idiv, 1) := by decide +kernel
theorem dX8_says_28 : decode cX8_says 28 = .ok (.bipush 12, 2) := by decide +kernel
theorem dX8_says_30 : decode cX8_says 30 = .ok (.irem, 1) := by decide +kernel
theorem dX8_says_31 : decode cX8_says 31 = .ok (.istore 4, 2) := by decide +kernel
theorem dX8_says_33 : decode cX8_says 33 = .ok (.iconst 4, 1) := by decide +kernel
theorem dX8_says_34 : decode cX8_says 34 = .ok (.iload_n 1, 1) := by decide +kernel
theorem dX8_says_35 : decode cX8_says 35 = .ok (.iconst 4, 1) := by decide +kernel
theorem dX8_says_36 : decode cX8_says 36 = .ok (.isub, 1) := by decide +kernel
theorem dX8_says_37 : decode cX8_says 37 = .ok (.bipush 12, 2) := by decide +kernel
theorem dX8_says_39 : decode cX8_says 39 = .ok (.imul, 1) := by decide +kernel
theorem dX8_says_40 : decode cX8_says 40 = .ok (.iadd, 1) := by decide +kernel
theorem dX8_says_41 : decode cX8_says 41 = .ok (.iload 4, 2) := by decide +kernel
theorem dX8_says_43 : decode cX8_says 43 = .ok (.iadd, 1) := by decide +kernel
theorem dX8_says_44 : decode cX8_says 44 = .ok (.istore 5, 2) := by decide +kernel
theorem dX8_says_46 : decode cX8_says 46 = .ok (.aload_n 0, 1) := by decide +kernel
theorem dX8_says_47 : decode cX8_says 47 = .ok (.iload 5, 2) := by decide +kernel
theorem dX8_says_49 : decode cX8_says 49 = .ok (.bipush 100, 2) := by decide +kernel
theorem dX8_says_51 : decode cX8_says 51 = .ok (.iload_n 2, 1) := by decide +kernel
theorem dX8_says_52 : decode cX8_says 52 = .ok (.iload_n 3, 1) := by decide +kernel
theorem dX8_says_53 : decode cX8_says 53 = .ok (.invokevirtual 25, 3) := by decide +kernel
theorem dX8_says_56 : decode cX8_says 56 = .ok (.ireturn, 1) := by decide +kernel
theorem dX8_says_57 : decode cX8_says 57 = .ok (.iload_n 1, 1) := by decide +kernel
theorem dX8_says_58 : decode cX8_says 58 = .ok (.bipush 12, 2) := by decide +kernel
theorem dX8_says_60 : decode cX8_says 60 = .ok (.if_icmp .ge 18, 3) := by decide +kernel
theorem dX8_says_63 : decode cX8_says 63 = .ok (.aload_n 0, 1) := by decide +kernel
theorem dX8_says_64 : decode cX8_says 64 = .ok (.bipush 52, 2) := by decide +kernel
theorem dX8_says_66 : decode cX8_says 66 = .ok (.iload_n 1, 1) := by decide +kernel
theorem dX8_says_67 : decode cX8_says 67 = .ok (.iadd, 1) := by decide +kernel
theorem dX8_says_68 : decode cX8_says 68 = .ok (.bipush 8, 2) := by decide +kernel
theorem dX8_says_70 : decode cX8_says 70 = .ok (.isub, 1) := by decide +kernel
theorem dX8_says_71 : decode cX8_says 71 = .ok (.iconst 1, 1) := by decide +kernel
theorem dX8_says_72 : decode cX8_says 72 = .ok (.iload_n 2, 1) := by decide +kernel
theorem dX8_says_73 : decode cX8_says 73 = .ok (.iload_n 3, 1) := by decide +kernel
theorem dX8_says_74 : decode cX8_says 74 = .ok (.invokevirtual 25, 3) := by decide +kernel
theorem dX8_says_77 : decode cX8_says 77 = .ok (.ireturn, 1) := by decide +kernel
theorem dX8_says_78 : decode cX8_says 78 = .ok (.aload_n 0, 1) := by decide +kernel
theorem dX8_says_79 : decode cX8_says 79 = .ok (.bipush 56, 2) := by decide +kernel
theorem dX8_says_81 : decode cX8_says 81 = .ok (.iload_n 1, 1) := by decide +kernel
theorem dX8_says_82 : decode cX8_says 82 = .ok (.iadd, 1) := by decide +kernel
theorem dX8_says_83 : decode cX8_says 83 = .ok (.bipush 12, 2) := by decide +kernel
theorem dX8_says_85 : decode cX8_says 85 = .ok (.isub, 1) := by decide +kernel
theorem dX8_says_86 : decode cX8_says 86 = .ok (.iconst 0, 1) := by decide +kernel
theorem dX8_says_87 : decode cX8_says 87 = .ok (.iload_n 2, 1) := by decide +kernel
theorem dX8_says_88 : decode cX8_says 88 = .ok (.iload_n 3, 1) := by decide +kernel
theorem dX8_says_89 : decode cX8_says 89 = .ok (.invokevirtual 25, 3) := by decide +kernel
theorem dX8_says_92 : decode cX8_says 92 = .ok (.ireturn, 1) := by decide +kernel
theorem dX8_counted_0 : decode cX8_counted 0 = .ok (.iload_n 2, 1) := by decide +kernel
theorem dX8_counted_1 : decode cX8_counted 1 = .ok (.istore 5, 2) := by decide +kernel
theorem dX8_counted_3 : decode cX8_counted 3 = .ok (.iconst (-1), 1) := by decide +kernel
theorem dX8_counted_4 : decode cX8_counted 4 = .ok (.istore 6, 2) := by decide +kernel
theorem dX8_counted_6 : decode cX8_counted 6 = .ok (.iconst 0, 1) := by decide +kernel
theorem dX8_counted_7 : decode cX8_counted 7 = .ok (.istore 7, 2) := by decide +kernel
theorem dX8_counted_9 : decode cX8_counted 9 = .ok (.iload 7, 2) := by decide +kernel
theorem dX8_counted_11 : decode cX8_counted 11 = .ok (.aload_n 0, 1) := by decide +kernel
theorem dX8_counted_12 : decode cX8_counted 12 = .ok (.getfield 17, 3) := by decide +kernel
theorem dX8_counted_15 : decode cX8_counted 15 = .ok (.if_icmp .ge 71, 3) := by decide +kernel
theorem dX8_counted_18 : decode cX8_counted 18 = .ok (.aload_n 0, 1) := by decide +kernel
theorem dX8_counted_19 : decode cX8_counted 19 = .ok (.iload 7, 2) := by decide +kernel
theorem dX8_counted_21 : decode cX8_counted 21 = .ok (.invokevirtual 29, 3) := by decide +kernel
theorem dX8_counted_24 : decode cX8_counted 24 = .ok (.astore 8, 2) := by decide +kernel
theorem dX8_counted_26 : decode cX8_counted 26 = .ok (.aload 8, 2) := by decide +kernel
theorem dX8_counted_28 : decode cX8_counted 28 = .ok (.ifnull 52, 3) := by decide +kernel
theorem dX8_counted_31 : decode cX8_counted 31 = .ok (.aload 8, 2) := by decide +kernel
theorem dX8_counted_33 : decode cX8_counted 33 = .ok (.getfield 33, 3) := by decide +kernel
theorem dX8_counted_36 : decode cX8_counted 36 = .ok (.iload 6, 2) := by decide +kernel
theorem dX8_counted_38 : decode cX8_counted 38 = .ok (.if_icmp .lt 42, 3) := by decide +kernel
theorem dX8_counted_41 : decode cX8_counted 41 = .ok (.aload 8, 2) := by decide +kernel
theorem dX8_counted_43 : decode cX8_counted 43 = .ok (.iload_n 3, 1) := by decide +kernel
theorem dX8_counted_44 : decode cX8_counted 44 = .ok (.iload 4, 2) := by decide +kernel
theorem dX8_counted_46 : decode cX8_counted 46 = .ok (.invokevirtual 36, 3) := by decide +kernel
theorem dX8_counted_49 : decode cX8_counted 49 = .ok (.ifCond .ne 6, 3) := by decide +kernel
theorem dX8_counted_52 : decode cX8_counted 52 = .ok (.goto 28, 3) := by decide +kernel
theorem dX8_counted_55 : decode cX8_counted 55 = .ok (.aload 8, 2) := by decide +kernel
theorem dX8_counted_57 : decode cX8_counted 57 = .ok (.iload_n 1, 1) := by decide +kernel
theorem dX8_counted_58 : decode cX8_counted 58 = .ok (.invokevirtual 40, 3) := by decide +kernel
theorem dX8_counted_61 : decode cX8_counted 61 = .ok (.iconst (-1), 1) := by decide +kernel
theorem dX8_counted_62 : decode cX8_counted 62 = .ok (.if_icmp .eq 18, 3) := by decide +kernel
theorem dX8_counted_65 : decode cX8_counted 65 = .ok (.aload 8, 2) := by decide +kernel
theorem dX8_counted_67 : decode cX8_counted 67 = .ok (.iload_n 1, 1) := by decide +kernel
theorem dX8_counted_68 : decode cX8_counted 68 = .ok (.invokevirtual 40, 3) := by decide +kernel
theorem dX8_counted_71 : decode cX8_counted 71 = .ok (.istore 5, 2) := by decide +kernel
theorem dX8_counted_73 : decode cX8_counted 73 = .ok (.aload 8, 2) := by decide +kernel
theorem dX8_counted_75 : decode cX8_counted 75 = .ok (.getfield 33, 3) := by decide +kernel
theorem dX8_counted_78 : decode cX8_counted 78 = .ok (.istore 6, 2) := by decide +kernel
theorem dX8_counted_80 : decode cX8_counted 80 = .ok (.iinc 7 1, 3) := by decide +kernel
theorem dX8_counted_83 : decode cX8_counted 83 = .ok (.goto (-74), 3) := by decide +kernel
theorem dX8_counted_86 : decode cX8_counted 86 = .ok (.iload 5, 2) := by decide +kernel
theorem dX8_counted_88 : decode cX8_counted 88 = .ok (.ireturn, 1) := by decide +kernel
theorem dX9_init_0 : decode cX9_init 0 = .ok (.aload_n 0, 1) := by decide +kernel
theorem dX9_init_1 : decode cX9_init 1 = .ok (.invokespecial 3, 3) := by decide +kernel
theorem dX9_init_4 : decode cX9_init 4 = .ok (.aload_n 0, 1) := by decide +kernel
theorem dX9_init_5 : decode cX9_init 5 = .ok (.sipush 1000, 3) := by decide +kernel
theorem dX9_init_8 : decode cX9_init 8 = .ok (.newarray .byte, 2) := by decide +kernel
theorem dX9_init_10 : decode cX9_init 10 = .ok (.putfield 9, 3) := by decide +kernel
theorem dX9_init_13 : decode cX9_init 13 = .ok (.return_, 1) := by decide +kernel
theorem dX9_hasRoom_0 : decode cX9_hasRoom 0 = .ok (.aload_n 0, 1) := by decide +kernel
theorem dX9_hasRoom_1 : decode cX9_hasRoom 1 = .ok (.getfield 15, 3) := by decide +kernel
theorem dX9_hasRoom_4 : decode cX9_hasRoom 4 = .ok (.iload_n 1, 1) := by decide +kernel
theorem dX9_hasRoom_5 : decode cX9_hasRoom 5 = .ok (.iadd, 1) := by decide +kernel
theorem dX9_hasRoom_6 : decode cX9_hasRoom 6 = .ok (.aload_n 0, 1) := by decide +kernel
theorem dX9_hasRoom_7 : decode cX9_hasRoom 7 = .ok (.getfield 9, 3) := by decide +kernel
theorem dX9_hasRoom_10 : decode cX9_hasRoom 10 = .ok (.arraylength, 1) := by decide +kernel
theorem dX9_hasRoom_11 : decode cX9_hasRoom 11 = .ok (.if_icmp .gt 7, 3) := by decide +kernel
theorem dX9_hasRoom_14 : decode cX9_hasRoom 14 = .ok (.iconst 1, 1) := by decide +kernel
theorem dX9_hasRoom_15 : decode cX9_hasRoom 15 = .ok (.goto 4, 3) := by decide +kernel
theorem dX9_hasRoom_18 : decode cX9_hasRoom 18 = .ok (.iconst 0, 1) := by decide +kernel
theorem dX9_hasRoom_19 : decode cX9_hasRoom 19 = .ok (.ireturn, 1) := by decide +kernel
theorem dX9_put_0 : decode cX9_put 0 = .ok (.bipush 24, 2) := by decide +kernel
theorem dX9_put_2 : decode cX9_put 2 = .ok (.istore_n 2, 1) := by decide +kernel
theorem dX9_put_3 : decode cX9_put 3 = .ok (.iload_n 2, 1) := by decide +kernel
theorem dX9_put_4 : decode cX9_put 4 = .ok (.ifCond .lt 51, 3) := by decide +kernel
theorem dX9_put_7 : decode cX9_put 7 = .ok (.aload_n 0, 1) := by decide +kernel
theorem dX9_put_8 : decode cX9_put 8 = .ok (.getfield 15, 3) := by decide +kernel
theorem dX9_put_11 : decode cX9_put 11 = .ok (.ifCond .lt 38, 3) := by decide +kernel
theorem dX9_put_14 : decode cX9_put 14 = .ok (.aload_n 0, 1) := by decide +kernel
theorem dX9_put_15 : decode cX9_put 15 = .ok (.getfield 15, 3) := by decide +kernel
theorem dX9_put_18 : decode cX9_put 18 = .ok (.aload_n 0, 1) := by decide +kernel
theorem dX9_put_19 : decode cX9_put 19 = .ok (.getfield 9, 3) := by decide +kernel
theorem dX9_put_22 : decode cX9_put 22 = .ok (.arraylength, 1) := by decide +kernel
theorem dX9_put_23 : decode cX9_put 23 = .ok (.if_icmp .ge 26, 3) := by decide +kernel
theorem dX9_put_26 : decode cX9_put 26 = .ok (.aload_n 0, 1) := by decide +kernel
theorem dX9_put_27 : decode cX9_put 27 = .ok (.getfield 9, 3) := by decide +kernel
theorem dX9_put_30 : decode cX9_put 30 = .ok (.aload_n 0, 1) := by decide +kernel
theorem dX9_put_31 : decode cX9_put 31 = .ok (.getfield 15, 3) := by decide +kernel
theorem dX9_put_34 : decode cX9_put 34 = .ok (.iload_n 1, 1) := by decide +kernel
theorem dX9_put_35 : decode cX9_put 35 = .ok (.iload_n 2, 1) := by decide +kernel
theorem dX9_put_36 : decode cX9_put 36 = .ok (.ishr, 1) := by decide +kernel
theorem dX9_put_37 : decode cX9_put 37 = .ok (.i2b, 1) := by decide +kernel
theorem dX9_put_38 : decode cX9_put 38 = .ok (.bastore, 1) := by decide +kernel
theorem dX9_put_39 : decode cX9_put 39 = .ok (.aload_n 0, 1) := by decide +kernel
theorem dX9_put_40 : decode cX9_put 40 = .ok (.dup, 1) := by decide +kernel
theorem dX9_put_41 : decode cX9_put 41 = .ok (.getfield 15, 3) := by decide +kernel
theorem dX9_put_44 : decode cX9_put 44 = .ok (.iconst 1, 1) := by decide +kernel
theorem dX9_put_45 : decode cX9_put 45 = .ok (.iadd, 1) := by decide +kernel
theorem dX9_put_46 : decode cX9_put 46 = .ok (.putfield 15, 3) := by decide +kernel
theorem dX9_put_49 : decode cX9_put 49 = .ok (.iinc 2 (-8), 3) := by decide +kernel
theorem dX9_put_52 : decode cX9_put 52 = .ok (.goto (-49), 3) := by decide +kernel
theorem dX9_put_55 : decode cX9_put 55 = .ok (.return_, 1) := by decide +kernel
theorem dX9_clear_0 : decode cX9_clear 0 = .ok (.aload_n 0, 1) := by decide +kernel
theorem dX9_clear_1 : decode cX9_clear 1 = .ok (.iconst 0, 1) := by decide +kernel
theorem dX9_clear_2 : decode cX9_clear 2 = .ok (.putfield 15, 3) := by decide +kernel
theorem dX9_clear_5 : decode cX9_clear 5 = .ok (.return_, 1) := by decide +kernel
theorem dX9_start_0 : decode cX9_start 0 = .ok (.aload_n 0, 1) := by decide +kernel
theorem dX9_start_1 : decode cX9_start 1 = .ok (.iload_n 1, 1) := by decide +kernel
theorem dX9_start_2 : decode cX9_start 2 = .ok (.putfield 19, 3) := by decide +kernel
theorem dX9_start_5 : decode cX9_start 5 = .ok (.aload_n 0, 1) := by decide +kernel
theorem dX9_start_6 : decode cX9_start 6 = .ok (.iconst 0, 1) := by decide +kernel
theorem dX9_start_7 : decode cX9_start 7 = .ok (.putfield 22, 3) := by decide +kernel
theorem dX9_start_10 : decode cX9_start 10 = .ok (.aload_n 0, 1) := by decide +kernel
theorem dX9_start_11 : decode cX9_start 11 = .ok (.invokevirtual 25, 3) := by decide +kernel
theorem dX9_start_14 : decode cX9_start 14 = .ok (.return_, 1) := by decide +kernel
theorem dX9_advance_0 : decode cX9_advance 0 = .ok (.aload_n 0, 1) := by decide +kernel
theorem dX9_advance_1 : decode cX9_advance 1 = .ok (.getfield 22, 3) := by decide +kernel
theorem dX9_advance_4 : decode cX9_advance 4 = .ok (.aload_n 0, 1) := by decide +kernel
theorem dX9_advance_5 : decode cX9_advance 5 = .ok (.getfield 19, 3) := by decide +kernel
theorem dX9_advance_8 : decode cX9_advance 8 = .ok (.if_icmp .ge 30, 3) := by decide +kernel
theorem dX9_advance_11 : decode cX9_advance 11 = .ok (.aload_n 0, 1) := by decide +kernel
theorem dX9_advance_12 : decode cX9_advance 12 = .ok (.aload_n 0, 1) := by decide +kernel
theorem dX9_advance_13 : decode cX9_advance 13 = .ok (.getfield 22, 3) := by decide +kernel
theorem dX9_advance_16 : decode cX9_advance 16 = .ok (.invokevirtual 28, 3) := by decide +kernel
theorem dX9_advance_19 : decode cX9_advance 19 = .ok (.invokestatic 32, 3) := by decide +kernel
theorem dX9_advance_22 : decode cX9_advance 22 = .ok (.ifCond .eq 16, 3) := by decide +kernel
theorem dX9_advance_25 : decode cX9_advance 25 = .ok (.aload_n 0, 1) := by decide +kernel
theorem dX9_advance_26 : decode cX9_advance 26 = .ok (.dup, 1) := by decide +kernel
theorem dX9_advance_27 : decode cX9_advance 27 = .ok (.getfield 22, 3) := by decide +kernel
theorem dX9_advance_30 : decode cX9_advance 30 = .ok (.iconst 1, 1) := by decide +kernel
theorem dX9_advance_31 : decode cX9_advance 31 = .ok (.iadd, 1) := by decide +kernel
theorem dX9_advance_32 : decode cX9_advance 32 = .ok (.putfield 22, 3) := by decide +kernel
theorem dX9_advance_35 : decode cX9_advance 35 = .ok (.goto (-35), 3) := by decide +kernel
theorem dX9_advance_38 : decode cX9_advance 38 = .ok (.aload_n 0, 1) := by decide +kernel
theorem dX9_advance_39 : decode cX9_advance 39 = .ok (.aload_n 0, 1) := by decide +kernel
theorem dX9_advance_40 : decode cX9_advance 40 = .ok (.getfield 22, 3) := by decide +kernel
theorem dX9_advance_43 : decode cX9_advance 43 = .ok (.putfield 36, 3) := by decide +kernel
theorem dX9_advance_46 : decode cX9_advance 46 = .ok (.aload_n 0, 1) := by decide +kernel
theorem dX9_advance_47 : decode cX9_advance 47 = .ok (.aload_n 0, 1) := by decide +kernel
theorem dX9_advance_48 : decode cX9_advance 48 = .ok (.getfield 22, 3) := by decide +kernel
theorem dX9_advance_51 : decode cX9_advance 51 = .ok (.invokevirtual 28, 3) := by decide +kernel
theorem dX9_advance_54 : decode cX9_advance 54 = .ok (.istore_n 1, 1) := by decide +kernel
theorem dX9_advance_55 : decode cX9_advance 55 = .ok (.aload_n 0, 1) := by decide +kernel
theorem dX9_advance_56 : decode cX9_advance 56 = .ok (.getfield 22, 3) := by decide +kernel
theorem dX9_advance_59 : decode cX9_advance 59 = .ok (.aload_n 0, 1) := by decide +kernel
theorem dX9_advance_60 : decode cX9_advance 60 = .ok (.getfield 19, 3) := by decide +kernel
theorem dX9_advance_63 : decode cX9_advance 63 = .ok (.if_icmp .lt 11, 3) := by decide +kernel
theorem dX9_advance_66 : decode cX9_advance 66 = .ok (.aload_n 0, 1) := by decide +kernel
theorem dX9_advance_67 : decode cX9_advance 67 = .ok (.iconst 0, 1) := by decide +kernel
theorem dX9_advance_68 : decode cX9_advance 68 = .ok (.putfield 39, 3) := by decide +kernel
theorem dX9_advance_71 : decode cX9_advance 71 = .ok (.goto 179, 3) := by decide +kernel
theorem dX9_advance_74 : decode cX9_advance 74 = .ok (.iload_n 1, 1) := by decide +kernel
theorem dX9_advance_75 : decode cX9_advance 75 = .ok (.invokestatic 42, 3) := by decide +kernel
theorem dX9_advance_78 : decode cX9_advance 78 = .ok (.ifCond .eq 46, 3) := by decide +kernel
theorem dX9_advance_81 : decode cX9_advance 81 = .ok (.aload_n 0, 1) := by decide +kernel
theorem dX9_advance_82 : decode cX9_advance 82 = .ok (.iconst 1, 1) := by decide +kernel
theorem dX9_advance_83 : decode cX9_advance 83 = .ok (.putfield 39, 3) := by decide +kernel
theorem dX9_advance_86 : decode cX9_advance 86 = .ok (.aload_n 0, 1) := by decide +kernel
theorem dX9_advance_87 : decode cX9_advance 87 = .ok (.getfield 22, 3) := by decide +kernel
theorem dX9_advance_90 : decode cX9_advance 90 = .ok (.aload_n 0, 1) := by decide +kernel
theorem dX9_advance_91 : decode cX9_advance 91 = .ok (.getfield 19, 3) := by decide +kernel
theorem dX9_advance_94 : decode cX9_advance 94 = .ok (.if_icmp .ge 156, 3) := by decide +kernel
theorem dX9_advance_97 : decode cX9_advance 97 = .ok (.aload_n 0, 1) := by decide +kernel
theorem dX9_advance_98 : decode cX9_advance 98 = .ok (.aload_n 0, 1) := by decide +kernel
theorem dX9_advance_99 : decode cX9_advance 99 = .ok (.getfield 22, 3) := by decide +kernel
theorem dX9_advance_102 : decode cX9_advance 102 = .ok (.invokevirtual 28, 3) := by decide +kernel
theorem dX9_advance_105 : decode cX9_advance 105 = .ok (.invokestatic 42, 3) := by decide +kernel
theorem dX9_advance_108 : decode cX9_advance 108 = .ok (.ifCond .eq 142, 3) := by decide +kernel
theorem dX9_advance_111 : decode cX9_advance 111 = .ok (.aload_n 0, 1) := by decide +kernel
theorem dX9_advance_112 : decode cX9_advance 112 = .ok (.dup, 1) := by decide +kernel
theorem dX9_advance_113 : decode cX9_advance 113 = .ok (.getfield 22, 3) := by decide +kernel
theorem dX9_advance_116 : decode cX9_advance 116 = .ok (.iconst 1, 1) := by decide +kernel
theorem dX9_advance_117 : decode cX9_advance 117 = .ok (.iadd, 1) := by decide +kernel
theorem dX9_advance_118 : decode cX9_advance 118 = .ok (.putfield 22, 3) := by decide +kernel
theorem dX9_advance_121 : decode cX9_advance 121 = .ok (.goto (-35), 3) := by decide +kernel
theorem dX9_advance_124 : decode cX9_advance 124 = .ok (.iload_n 1, 1) := by decide +kernel
theorem dX9_advance_125 : decode cX9_advance 125 = .ok (.invokestatic 45, 3) := by decide +kernel
theorem dX9_advance_128 : decode cX9_advance 128 = .ok (.ifCond .eq 80, 3) := by decide +kernel
theorem dX9_advance_131 : decode cX9_advance 131 = .ok (.aload_n 0, 1) := by decide +kernel
theorem dX9_advance_132 : decode cX9_advance 132 = .ok (.iconst 2, 1) := by decide +kernel
theorem dX9_advance_133 : decode cX9_advance 133 = .ok (.putfield 39, 3) := by decide +kernel
theorem dX9_advance_136 : decode cX9_advance 136 = .ok (.aload_n 0, 1) := by decide +kernel
theorem dX9_advance_137 : decode cX9_advance 137 = .ok (.iconst 0, 1) := by decide +kernel
theorem dX9_advance_138 : decode cX9_advance 138 = .ok (.putfield 48, 3) := by decide +kernel
theorem dX9_advance_141 : decode cX9_advance 141 = .ok (.aload_n 0, 1) := by decide +kernel
theorem dX9_advance_142 : decode cX9_advance 142 = .ok (.getfield 22, 3) := by decide +kernel
theorem dX9_advance_145 : decode cX9_advance 145 = .ok (.aload_n 0, 1) := by decide +kernel
theorem dX9_advance_146 : decode cX9_advance 146 = .ok (.getfield 19, 3) := by decide +kernel
theorem dX9_advance_149 : decode cX9_advance 149 = .ok (.if_icmp .ge 101, 3) := by decide +kernel
theorem dX9_advance_152 : decode cX9_advance 152 = .ok (.aload_n 0, 1) := by decide +kernel
theorem dX9_advance_153 : decode cX9_advance 153 = .ok (.aload_n 0, 1) := by decide +kernel
theorem dX9_advance_154 : decode cX9_advance 154 = .ok (.getfield 22, 3) := by decide +kernel
theorem dX9_advance_157 : decode cX9_advance 157 = .ok (.invokevirtual 28, 3) := by decide +kernel
theorem dX9_advance_160 : decode cX9_advance 160 = .ok (.invokestatic 45, 3) := by decide +kernel
theorem dX9_advance_163 : decode cX9_advance 163 = .ok (.ifCond .eq 87, 3) := by decide +kernel
theorem dX9_advance_166 : decode cX9_advance 166 = .ok (.aload_n 0, 1) := by decide +kernel
theorem dX9_advance_167 : decode cX9_advance 167 = .ok (.sipush 1001, 3) := by decide +kernel
theorem dX9_advance_170 : decode cX9_advance 170 = .ok (.aload_n 0, 1) := by decide +kernel
theorem dX9_advance_171 : decode cX9_advance 171 = .ok (.getfield 48, 3) := by decide +kernel
theorem dX9_advance_174 : decode cX9_advance 174 = .ok (.bipush 10, 2) := by decide +kernel
theorem dX9_advance_176 : decode cX9_advance 176 = .ok (.imul, 1) := by decide +kernel
theorem dX9_advance_177 : decode cX9_advance 177 = .ok (.aload_n 0, 1) := by decide +kernel
theorem dX9_advance_178 : decode cX9_advance 178 = .ok (.aload_n 0, 1) := by decide +kernel
theorem dX9_advance_179 : decode cX9_advance 179 = .ok (.getfield 22, 3) := by decide +kernel
theorem dX9_advance_182 : decode cX9_advance 182 = .ok (.invokevirtual 28, 3) := by decide +kernel
theorem dX9_advance_185 : decode cX9_advance 185 = .ok (.iadd, 1) := by decide +kernel
theorem dX9_advance_186 : decode cX9_advance 186 = .ok (.bipush 48, 2) := by decide +kernel
theorem dX9_advance_188 : decode cX9_advance 188 = .ok (.isub, 1) := by decide +kernel
theorem dX9_advance_189 : decode cX9_advance 189 = .ok (.invokestatic 51, 3) := by decide +kernel
theorem dX9_advance_192 : decode cX9_advance 192 = .ok (.putfield 48, 3) := by decide +kernel
theorem dX9_advance_195 : decode cX9_advance 195 = .ok (.aload_n 0, 1) := by decide +kernel
theorem dX9_advance_196 : decode cX9_advance 196 = .ok (.dup, 1) := by decide +kernel
theorem dX9_advance_197 : decode cX9_advance 197 = .ok (.getfield 22, 3) := by decide +kernel
theorem dX9_advance_200 : decode cX9_advance 200 = .ok (.iconst 1, 1) := by decide +kernel
theorem dX9_advance_201 : decode cX9_advance 201 = .ok (.iadd, 1) := by decide +kernel
theorem dX9_advance_202 : decode cX9_advance 202 = .ok (.putfield 22, 3) := by decide +kernel
theorem dX9_advance_205 : decode cX9_advance 205 = .ok (.goto (-64), 3) := by decide +kernel
theorem dX9_advance_208 : decode cX9_advance 208 = .ok (.aload_n 0, 1) := by decide +kernel
theorem dX9_advance_209 : decode cX9_advance 209 = .ok (.iload_n 1, 1) := by decide +kernel
theorem dX9_advance_210 : decode cX9_advance 210 = .ok (.bipush 59, 2) := by decide +kernel
theorem dX9_advance_212 : decode cX9_advance 212 = .ok (.if_icmp .eq 15, 3) := by decide +kernel
theorem dX9_advance_215 : decode cX9_advance 215 = .ok (.iload_n 1, 1) := by decide +kernel
theorem dX9_advance_216 : decode cX9_advance 216 = .ok (.bipush 58, 2) := by decide +kernel
theorem dX9_advance_218 : decode cX9_advance 218 = .ok (.if_icmp .eq 9, 3) := by decide +kernel
theorem dX9_advance_221 : decode cX9_advance 221 = .ok (.iload_n 1, 1) := by decide +kernel
theorem dX9_advance_222 : decode cX9_advance 222 = .ok (.bipush 44, 2) := by decide +kernel
theorem dX9_advance_224 : decode cX9_advance 224 = .ok (.if_icmp .ne 7, 3) := by decide +kernel
theorem dX9_advance_227 : decode cX9_advance 227 = .ok (.iconst 3, 1) := by decide +kernel
theorem dX9_advance_228 : decode cX9_advance 228 = .ok (.goto 4, 3) := by decide +kernel
theorem dX9_advance_231 : decode cX9_advance 231 = .ok (.iconst 4, 1) := by decide +kernel
theorem dX9_advance_232 : decode cX9_advance 232 = .ok (.putfield 39, 3) := by decide +kernel
theorem dX9_advance_235 : decode cX9_advance 235 = .ok (.aload_n 0, 1) := by decide +kernel
theorem dX9_advance_236 : decode cX9_advance 236 = .ok (.iload_n 1, 1) := by decide +kernel
theorem dX9_advance_237 : decode cX9_advance 237 = .ok (.putfield 48, 3) := by decide +kernel
theorem dX9_advance_240 : decode cX9_advance 240 = .ok (.aload_n 0, 1) := by decide +kernel
theorem dX9_advance_241 : decode cX9_advance 241 = .ok (.dup, 1) := by decide +kernel
theorem dX9_advance_242 : decode cX9_advance 242 = .ok (.getfield 22, 3) := by decide +kernel
theorem dX9_advance_245 : decode cX9_advance 245 = .ok (.iconst 1, 1) := by decide +kernel
theorem dX9_advance_246 : decode cX9_advance 246 = .ok (.iadd, 1) := by decide +kernel
theorem dX9_advance_247 : decode cX9_advance 247 = .ok (.putfield 22, 3) := by decide +kernel
theorem dX9_advance_250 : decode cX9_advance 250 = .ok (.return_, 1) := by decide +kernel
theorem dX9_isMark_0 : decode cX9_isMark 0 = .ok (.aload_n 0, 1) := by decide +kernel
theorem dX9_isMark_1 : decode cX9_isMark 1 = .ok (.getfield 39, 3) := by decide +kernel
theorem dX9_isMark_4 : decode cX9_isMark 4 = .ok (.iconst 3, 1) := by decide +kernel
theorem dX9_isMark_5 : decode cX9_isMark 5 = .ok (.if_icmp .ne 15, 3) := by decide +kernel
theorem dX9_isMark_8 : decode cX9_isMark 8 = .ok (.aload_n 0, 1) := by decide +kernel
theorem dX9_isMark_9 : decode cX9_isMark 9 = .ok (.getfield 48, 3) := by decide +kernel
theorem dX9_isMark_12 : decode cX9_isMark 12 = .ok (.iload_n 1, 1) := by decide +kernel
theorem dX9_isMark_13 : decode cX9_isMark 13 = .ok (.if_icmp .ne 7, 3) := by decide +kernel
theorem dX9_isMark_16 : decode cX9_isMark 16 = .ok (.iconst 1, 1) := by decide +kernel
theorem dX9_isMark_17 : decode cX9_isMark 17 = .ok (.goto 4, 3) := by decide +kernel
theorem dX9_isMark_20 : decode cX9_isMark 20 = .ok (.iconst 0, 1) := by decide +kernel
theorem dX9_isMark_21 : decode cX9_isMark 21 = .ok (.ireturn, 1) := by decide +kernel
theorem dX9_isWord_0 : decode cX9_isWord 0 = .ok (.aload_n 0, 1) := by decide +kernel
theorem dX9_isWord_1 : decode cX9_isWord 1 = .ok (.getfield 39, 3) := by decide +kernel
theorem dX9_isWord_4 : decode cX9_isWord 4 = .ok (.iconst 1, 1) := by decide +kernel
theorem dX9_isWord_5 : decode cX9_isWord 5 = .ok (.if_icmp .ne 19, 3) := by decide +kernel
theorem dX9_isWord_8 : decode cX9_isWord 8 = .ok (.aload_n 0, 1) := by decide +kernel
theorem dX9_isWord_9 : decode cX9_isWord 9 = .ok (.getfield 22, 3) := by decide +kernel
theorem dX9_isWord_12 : decode cX9_isWord 12 = .ok (.aload_n 0, 1) := by decide +kernel
theorem dX9_isWord_13 : decode cX9_isWord 13 = .ok (.getfield 36, 3) := by decide +kernel
theorem dX9_isWord_16 : decode cX9_isWord 16 = .ok (.isub, 1) := by decide +kernel
theorem dX9_isWord_17 : decode cX9_isWord 17 = .ok (.aload_n 1, 1) := by decide +kernel
theorem dX9_isWord_18 : decode cX9_isWord 18 = .ok (.invokevirtual 57, 3) := by decide +kernel
theorem dX9_isWord_21 : decode cX9_isWord 21 = .ok (.if_icmp .eq 5, 3) := by decide +kernel
theorem dX9_isWord_24 : decode cX9_isWord 24 = .ok (.iconst 0, 1) := by decide +kernel
theorem dX9_isWord_25 : decode cX9_isWord 25 = .ok (.ireturn, 1) := by decide +kernel
theorem dX9_isWord_26 : decode cX9_isWord 26 = .ok (.iconst 0, 1) := by decide +kernel
theorem dX9_isWord_27 : decode cX9_isWord 27 = .ok (.istore_n 2, 1) := by decide +kernel
theorem dX9_isWord_28 : decode cX9_isWord 28 = .ok (.iload_n 2, 1) := by decide +kernel
theorem dX9_isWord_29 : decode cX9_isWord 29 = .ok (.aload_n 1, 1) := by decide +kernel
theorem dX9_isWord_30 : decode cX9_isWord 30 = .ok (.invokevirtual 57, 3) := by decide +kernel
theorem dX9_isWord_33 : decode cX9_isWord 33 = .ok (.if_icmp .ge 29, 3) := by decide +kernel
theorem dX9_isWord_36 : decode cX9_isWord 36 = .ok (.aload_n 0, 1) := by decide +kernel
theorem dX9_isWord_37 : decode cX9_isWord 37 = .ok (.aload_n 0, 1) := by decide +kernel
theorem dX9_isWord_38 : decode cX9_isWord 38 = .ok (.getfield 36, 3) := by decide +kernel
theorem dX9_isWord_41 : decode cX9_isWord 41 = .ok (.iload_n 2, 1) := by decide +kernel
theorem dX9_isWord_42 : decode cX9_isWord 42 = .ok (.iadd, 1) := by decide +kernel
theorem dX9_isWord_43 : decode cX9_isWord 43 = .ok (.invokevirtual 28, 3) := by decide +kernel
theorem dX9_isWord_46 : decode cX9_isWord 46 = .ok (.aload_n 1, 1) := by decide +kernel
theorem dX9_isWord_47 : decode cX9_isWord 47 = .ok (.iload_n 2, 1) := by decide +kernel
theorem dX9_isWord_48 : decode cX9_isWord 48 = .ok (.invokevirtual 62, 3) := by decide +kernel
theorem dX9_isWord_51 : decode cX9_isWord 51 = .ok (.if_icmp .eq 5, 3) := by decide +kernel
theorem dX9_isWord_54 : decode cX9_isWord 54 = .ok (.iconst 0, 1) := by decide +kernel
theorem dX9_isWord_55 : decode cX9_isWord 55 = .ok (.ireturn, 1) := by decide +kernel
theorem dX9_isWord_56 : decode cX9_isWord 56 = .ok (.iinc 2 1, 3) := by decide +kernel
theorem dX9_isWord_59 : decode cX9_isWord 59 = .ok (.goto (-31), 3) := by decide +kernel
theorem dX9_isWord_62 : decode cX9_isWord 62 = .ok (.iconst 1, 1) := by decide +kernel
theorem dX9_isWord_63 : decode cX9_isWord 63 = .ok (.ireturn, 1) := by decide +kernel
theorem dX9_signAt_0 : decode cX9_signAt 0 = .ok (.iload_n 1, 1) := by decide +kernel
theorem dX9_signAt_1 : decode cX9_signAt 1 = .ok (.ifCond .lt 33, 3) := by decide +kernel
theorem dX9_signAt_4 : decode cX9_signAt 4 = .ok (.iload_n 1, 1) := by decide +kernel
theorem dX9_signAt_5 : decode cX9_signAt 5 = .ok (.aload_n 0, 1) := by decide +kernel
theorem dX9_signAt_6 : decode cX9_signAt 6 = .ok (.getfield 19, 3) := by decide +kernel
theorem dX9_signAt_9 : decode cX9_signAt 9 = .ok (.if_icmp .ge 25, 3) := by decide +kernel
theorem dX9_signAt_12 : decode cX9_signAt 12 = .ok (.iload_n 1, 1) := by decide +kernel
theorem dX9_signAt_13 : decode cX9_signAt 13 = .ok (.aload_n 0, 1) := by decide +kernel
theorem dX9_signAt_14 : decode cX9_signAt 14 = .ok (.getfield 9, 3) := by decide +kernel
theorem dX9_signAt_17 : decode cX9_signAt 17 = .ok (.arraylength, 1) := by decide +kernel
theorem dX9_signAt_18 : decode cX9_signAt 18 = .ok (.if_icmp .ge 16, 3) := by decide +kernel
theorem dX9_signAt_21 : decode cX9_signAt 21 = .ok (.aload_n 0, 1) := by decide +kernel
theorem dX9_signAt_22 : decode cX9_signAt 22 = .ok (.getfield 9, 3) := by decide +kernel
theorem dX9_signAt_25 : decode cX9_signAt 25 = .ok (.iload_n 1, 1) := by decide +kernel
theorem dX9_signAt_26 : decode cX9_signAt 26 = .ok (.baload, 1) := by decide +kernel
theorem dX9_signAt_27 : decode cX9_signAt 27 = .ok (.sipush 255, 3) := by decide +kernel
theorem dX9_signAt_30 : decode cX9_signAt 30 = .ok (.iand, 1) := by decide +kernel
theorem dX9_signAt_31 : decode cX9_signAt 31 = .ok (.goto 4, 3) := by decide +kernel
theorem dX9_signAt_34 : decode cX9_signAt 34 = .ok (.iconst (-1), 1) := by decide +kernel
theorem dX9_signAt_35 : decode cX9_signAt 35 = .ok (.ireturn, 1) := by decide +kernel
theorem dX9_isBlank_0 : decode cX9_isBlank 0 = .ok (.iload_n 0, 1) := by decide +kernel
theorem dX9_isBlank_1 : decode cX9_isBlank 1 = .ok (.bipush 10, 2) := by decide +kernel
theorem dX9_isBlank_3 : decode cX9_isBlank 3 = .ok (.if_icmp .eq 9, 3) := by decide +kernel
theorem dX9_isBlank_6 : decode cX9_isBlank 6 = .ok (.iload_n 0, 1) := by decide +kernel
theorem dX9_isBlank_7 : decode cX9_isBlank 7 = .ok (.bipush 32, 2) := by decide +kernel
theorem dX9_isBlank_9 : decode cX9_isBlank 9 = .ok (.if_icmp .ne 7, 3) := by decide +kernel
theorem dX9_isBlank_12 : decode cX9_isBlank 12 = .ok (.iconst 1, 1) := by decide +kernel
theorem dX9_isBlank_13 : decode cX9_isBlank 13 = .ok (.goto 4, 3) := by decide +kernel
theorem dX9_isBlank_16 : decode cX9_isBlank 16 = .ok (.iconst 0, 1) := by decide +kernel
theorem dX9_isBlank_17 : decode cX9_isBlank 17 = .ok (.ireturn, 1) := by decide +kernel
theorem dX9_isSmallLetter_0 : decode cX9_isSmallLetter 0 = .ok (.iload_n 0, 1) := by decide +kernel
theorem dX9_isSmallLetter_1 : decode cX9_isSmallLetter 1 = .ok (.bipush 97, 2) := by decide +kernel
theorem dX9_isSmallLetter_3 : decode cX9_isSmallLetter 3 = .ok (.if_icmp .lt 13, 3) := by decide +kernel
theorem dX9_isSmallLetter_6 : decode cX9_isSmallLetter 6 = .ok (.iload_n 0, 1) := by decide +kernel
theorem dX9_isSmallLetter_7 : decode cX9_isSmallLetter 7 = .ok (.bipush 122, 2) := by decide +kernel
theorem dX9_isSmallLetter_9 : decode cX9_isSmallLetter 9 = .ok (.if_icmp .gt 7, 3) := by decide +kernel
theorem dX9_isSmallLetter_12 : decode cX9_isSmallLetter 12 = .ok (.iconst 1, 1) := by decide +kernel
theorem dX9_isSmallLetter_13 : decode cX9_isSmallLetter 13 = .ok (.goto 4, 3) := by decide +kernel
theorem dX9_isSmallLetter_16 : decode cX9_isSmallLetter 16 = .ok (.iconst 0, 1) := by decide +kernel
theorem dX9_isSmallLetter_17 : decode cX9_isSmallLetter 17 = .ok (.ireturn, 1) := by decide +kernel
theorem dX9_isDigit_0 : decode cX9_isDigit 0 = .ok (.iload_n 0, 1) := by decide +kernel
theorem dX9_isDigit_1 : decode cX9_isDigit 1 = .ok (.bipush 48, 2) := by decide +kernel
theorem dX9_isDigit_3 : decode cX9_isDigit 3 = .ok (.if_icmp .lt 13, 3) := by decide +kernel
theorem dX9_isDigit_6 : decode cX9_isDigit 6 = .ok (.iload_n 0, 1) := by decide +kernel
theorem dX9_isDigit_7 : decode cX9_isDigit 7 = .ok (.bipush 57, 2) := by decide +kernel
theorem dX9_isDigit_9 : decode cX9_isDigit 9 = .ok (.if_icmp .gt 7, 3) := by decide +kernel
theorem dX9_isDigit_12 : decode cX9_isDigit 12 = .ok (.iconst 1, 1) := by decide +kernel
theorem dX9_isDigit_13 : decode cX9_isDigit 13 = .ok (.goto 4, 3) := by decide +kernel
theorem dX9_isDigit_16 : decode cX9_isDigit 16 = .ok (.iconst 0, 1) := by decide +kernel
theorem dX9_isDigit_17 : decode cX9_isDigit 17 = .ok (.ireturn, 1) := by decide +kernel
theorem dX10_init_0 : decode cX10_init 0 = .ok (.aload_n 0, 1) := by decide +kernel
theorem dX10_init_1 : decode cX10_init 1 = .ok (.invokespecial 3, 3) := by decide +kernel
theorem dX10_init_4 : decode cX10_init 4 = .ok (.aload_n 0, 1) := by decide +kernel
theorem dX10_init_5 : decode cX10_init 5 = .ok (.new 9, 3) := by decide +kernel
theorem dX10_init_8 : decode cX10_init 8 = .ok (.dup, 1) := by decide +kernel
theorem dX10_init_9 : decode cX10_init 9 = .ok (.invokespecial 11, 3) := by decide +kernel
theorem dX10_init_12 : decode cX10_init 12 = .ok (.putfield 12, 3) := by decide +kernel
theorem dX10_init_15 : decode cX10_init 15 = .ok (.aload_n 0, 1) := by decide +kernel
theorem dX10_init_16 : decode cX10_init 16 = .ok (.new 16, 3) := by decide +kernel
theorem dX10_init_19 : decode cX10_init 19 = .ok (.dup, 1) := by decide +kernel
theorem dX10_init_20 : decode cX10_init 20 = .ok (.invokespecial 18, 3) := by decide +kernel
theorem dX10_init_23 : decode cX10_init 23 = .ok (.putfield 19, 3) := by decide +kernel
theorem dX10_init_26 : decode cX10_init 26 = .ok (.aload_n 0, 1) := by decide +kernel
theorem dX10_init_27 : decode cX10_init 27 = .ok (.bipush 12, 2) := by decide +kernel
theorem dX10_init_29 : decode cX10_init 29 = .ok (.anewarray 23, 3) := by decide +kernel
theorem dX10_init_32 : decode cX10_init 32 = .ok (.putfield 25, 3) := by decide +kernel
theorem dX10_init_35 : decode cX10_init 35 = .ok (.aload_n 0, 1) := by decide +kernel
theorem dX10_init_36 : decode cX10_init 36 = .ok (.bipush 12, 2) := by decide +kernel
theorem dX10_init_38 : decode cX10_init 38 = .ok (.anewarray 29, 3) := by decide +kernel
theorem dX10_init_41 : decode cX10_init 41 = .ok (.putfield 31, 3) := by decide +kernel
theorem dX10_init_44 : decode cX10_init 44 = .ok (.aload_n 0, 1) := by decide +kernel
theorem dX10_init_45 : decode cX10_init 45 = .ok (.new 35, 3) := by decide +kernel
theorem dX10_init_48 : decode cX10_init 48 = .ok (.dup, 1) := by decide +kernel
theorem dX10_init_49 : decode cX10_init 49 = .ok (.invokespecial 37, 3) := by decide +kernel
theorem dX10_init_52 : decode cX10_init 52 = .ok (.putfield 38, 3) := by decide +kernel
theorem dX10_init_55 : decode cX10_init 55 = .ok (.aload_n 0, 1) := by decide +kernel
theorem dX10_init_56 : decode cX10_init 56 = .ok (.new 42, 3) := by decide +kernel
theorem dX10_init_59 : decode cX10_init 59 = .ok (.dup, 1) := by decide +kernel
theorem dX10_init_60 : decode cX10_init 60 = .ok (.invokespecial 44, 3) := by decide +kernel
theorem dX10_init_63 : decode cX10_init 63 = .ok (.putfield 45, 3) := by decide +kernel
theorem dX10_init_66 : decode cX10_init 66 = .ok (.aload_n 0, 1) := by decide +kernel
theorem dX10_init_67 : decode cX10_init 67 = .ok (.new 49, 3) := by decide +kernel
theorem dX10_init_70 : decode cX10_init 70 = .ok (.dup, 1) := by decide +kernel
theorem dX10_init_71 : decode cX10_init 71 = .ok (.invokespecial 51, 3) := by decide +kernel
theorem dX10_init_74 : decode cX10_init 74 = .ok (.putfield 52, 3) := by decide +kernel
theorem dX10_init_77 : decode cX10_init 77 = .ok (.return_, 1) := by decide +kernel
theorem dX10_feed_0 : decode cX10_feed 0 = .ok (.aload_n 0, 1) := by decide +kernel
theorem dX10_feed_1 : decode cX10_feed 1 = .ok (.getfield 12, 3) := by decide +kernel
