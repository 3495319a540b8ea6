theorem dX10_feed_4 : decode cX10_feed 4 = .ok (.getfield 56, 3) := by decide +kernel
theorem dX10_feed_7 : decode cX10_feed 7 = .ok (.astore 6, 2) := by decide +kernel
theorem dX10_feed_9 : decode cX10_feed 9 = .ok (.aload 6, 2) := by decide +kernel
theorem dX10_feed_11 : decode cX10_feed 11 = .ok (.bipush 20, 2) := by decide +kernel
theorem dX10_feed_13 : decode cX10_feed 13 = .ok (.invokevirtual 60, 3) := by decide +kernel
theorem dX10_feed_16 : decode cX10_feed 16 = .ok (.ifCond .ne 5, 3) := by decide +kernel
theorem dX10_feed_19 : decode cX10_feed 19 = .ok (.iconst (-1), 1) := by decide +kernel
theorem dX10_feed_20 : decode cX10_feed 20 = .ok (.ireturn, 1) := by decide +kernel
theorem dX10_feed_21 : decode cX10_feed 21 = .ok (.aload 6, 2) := by decide +kernel
theorem dX10_feed_23 : decode cX10_feed 23 = .ok (.iload_n 1, 1) := by decide +kernel
theorem dX10_feed_24 : decode cX10_feed 24 = .ok (.invokevirtual 66, 3) := by decide +kernel
theorem dX10_feed_27 : decode cX10_feed 27 = .ok (.aload 6, 2) := by decide +kernel
theorem dX10_feed_29 : decode cX10_feed 29 = .ok (.iload_n 2, 1) := by decide +kernel
theorem dX10_feed_30 : decode cX10_feed 30 = .ok (.invokevirtual 66, 3) := by decide +kernel
theorem dX10_feed_33 : decode cX10_feed 33 = .ok (.aload 6, 2) := by decide +kernel
theorem dX10_feed_35 : decode cX10_feed 35 = .ok (.iload_n 3, 1) := by decide +kernel
theorem dX10_feed_36 : decode cX10_feed 36 = .ok (.invokevirtual 66, 3) := by decide +kernel
theorem dX10_feed_39 : decode cX10_feed 39 = .ok (.aload 6, 2) := by decide +kernel
theorem dX10_feed_41 : decode cX10_feed 41 = .ok (.iload 4, 2) := by decide +kernel
theorem dX10_feed_43 : decode cX10_feed 43 = .ok (.invokevirtual 66, 3) := by decide +kernel
theorem dX10_feed_46 : decode cX10_feed 46 = .ok (.aload 6, 2) := by decide +kernel
theorem dX10_feed_48 : decode cX10_feed 48 = .ok (.iload 5, 2) := by decide +kernel
theorem dX10_feed_50 : decode cX10_feed 50 = .ok (.invokevirtual 66, 3) := by decide +kernel
theorem dX10_feed_53 : decode cX10_feed 53 = .ok (.aload 6, 2) := by decide +kernel
theorem dX10_feed_55 : decode cX10_feed 55 = .ok (.getfield 70, 3) := by decide +kernel
theorem dX10_feed_58 : decode cX10_feed 58 = .ok (.ireturn, 1) := by decide +kernel
theorem dX10_vote_0 : decode cX10_vote 0 = .ok (.iload_n 1, 1) := by decide +kernel
theorem dX10_vote_1 : decode cX10_vote 1 = .ok (.ifCond .lt 34, 3) := by decide +kernel
theorem dX10_vote_4 : decode cX10_vote 4 = .ok (.iload_n 1, 1) := by decide +kernel
theorem dX10_vote_5 : decode cX10_vote 5 = .ok (.aload_n 0, 1) := by decide +kernel
theorem dX10_vote_6 : decode cX10_vote 6 = .ok (.getfield 12, 3) := by decide +kernel
theorem dX10_vote_9 : decode cX10_vote 9 = .ok (.getfield 56, 3) := by decide +kernel
theorem dX10_vote_12 : decode cX10_vote 12 = .ok (.getfield 70, 3) := by decide +kernel
theorem dX10_vote_15 : decode cX10_vote 15 = .ok (.if_icmp .gt 20, 3) := by decide +kernel
theorem dX10_vote_18 : decode cX10_vote 18 = .ok (.iload_n 2, 1) := by decide +kernel
theorem dX10_vote_19 : decode cX10_vote 19 = .ok (.invokestatic 74, 3) := by decide +kernel
theorem dX10_vote_22 : decode cX10_vote 22 = .ok (.ifCond .eq 13, 3) := by decide +kernel
theorem dX10_vote_25 : decode cX10_vote 25 = .ok (.aload_n 0, 1) := by decide +kernel
theorem dX10_vote_26 : decode cX10_vote 26 = .ok (.getfield 19, 3) := by decide +kernel
theorem dX10_vote_29 : decode cX10_vote 29 = .ok (.invokevirtual 77, 3) := by decide +kernel
theorem dX10_vote_32 : decode cX10_vote 32 = .ok (.ifCond .eq 6, 3) := by decide +kernel
theorem dX10_vote_35 : decode cX10_vote 35 = .ok (.bipush (-2), 2) := by decide +kernel
theorem dX10_vote_37 : decode cX10_vote 37 = .ok (.ireturn, 1) := by decide +kernel
theorem dX10_vote_38 : decode cX10_vote 38 = .ok (.new 81, 3) := by decide +kernel
theorem dX10_vote_41 : decode cX10_vote 41 = .ok (.dup, 1) := by decide +kernel
theorem dX10_vote_42 : decode cX10_vote 42 = .ok (.aload_n 0, 1) := by decide +kernel
theorem dX10_vote_43 : decode cX10_vote 43 = .ok (.getfield 83, 3) := by decide +kernel
theorem dX10_vote_46 : decode cX10_vote 46 = .ok (.iload_n 2, 1) := by decide +kernel
theorem dX10_vote_47 : decode cX10_vote 47 = .ok (.invokespecial 86, 3) := by decide +kernel
theorem dX10_vote_50 : decode cX10_vote 50 = .ok (.astore_n 3, 1) := by decide +kernel
theorem dX10_vote_51 : decode cX10_vote 51 = .ok (.aload_n 0, 1) := by decide +kernel
theorem dX10_vote_52 : decode cX10_vote 52 = .ok (.getfield 12, 3) := by decide +kernel
theorem dX10_vote_55 : decode cX10_vote 55 = .ok (.iload_n 1, 1) := by decide +kernel
theorem dX10_vote_56 : decode cX10_vote 56 = .ok (.aload_n 3, 1) := by decide +kernel
theorem dX10_vote_57 : decode cX10_vote 57 = .ok (.invokevirtual 89, 3) := by decide +kernel
theorem dX10_vote_60 : decode cX10_vote 60 = .ok (.istore 4, 2) := by decide +kernel
theorem dX10_vote_62 : decode cX10_vote 62 = .ok (.aload_n 0, 1) := by decide +kernel
theorem dX10_vote_63 : decode cX10_vote 63 = .ok (.getfield 12, 3) := by decide +kernel
theorem dX10_vote_66 : decode cX10_vote 66 = .ok (.getfield 56, 3) := by decide +kernel
theorem dX10_vote_69 : decode cX10_vote 69 = .ok (.invokevirtual 93, 3) := by decide +kernel
theorem dX10_vote_72 : decode cX10_vote 72 = .ok (.iload 4, 2) := by decide +kernel
theorem dX10_vote_74 : decode cX10_vote 74 = .ok (.ifCond .eq 14, 3) := by decide +kernel
theorem dX10_vote_77 : decode cX10_vote 77 = .ok (.aload_n 0, 1) := by decide +kernel
theorem dX10_vote_78 : decode cX10_vote 78 = .ok (.getfield 19, 3) := by decide +kernel
theorem dX10_vote_81 : decode cX10_vote 81 = .ok (.aload_n 3, 1) := by decide +kernel
theorem dX10_vote_82 : decode cX10_vote 82 = .ok (.invokevirtual 96, 3) := by decide +kernel
theorem dX10_vote_85 : decode cX10_vote 85 = .ok (.goto 4, 3) := by decide +kernel
theorem dX10_vote_88 : decode cX10_vote 88 = .ok (.iconst (-1), 1) := by decide +kernel
theorem dX10_vote_89 : decode cX10_vote 89 = .ok (.ireturn, 1) := by decide +kernel
theorem dX10_fault_0 : decode cX10_fault 0 = .ok (.iload_n 1, 1) := by decide +kernel
theorem dX10_fault_1 : decode cX10_fault 1 = .ok (.ifCond .ne 11, 3) := by decide +kernel
theorem dX10_fault_4 : decode cX10_fault 4 = .ok (.aload_n 0, 1) := by decide +kernel
theorem dX10_fault_5 : decode cX10_fault 5 = .ok (.getfield 12, 3) := by decide +kernel
theorem dX10_fault_8 : decode cX10_fault 8 = .ok (.getfield 100, 3) := by decide +kernel
theorem dX10_fault_11 : decode cX10_fault 11 = .ok (.ireturn, 1) := by decide +kernel
theorem dX10_fault_12 : decode cX10_fault 12 = .ok (.iload_n 1, 1) := by decide +kernel
theorem dX10_fault_13 : decode cX10_fault 13 = .ok (.iconst 1, 1) := by decide +kernel
theorem dX10_fault_14 : decode cX10_fault 14 = .ok (.if_icmp .ne 13, 3) := by decide +kernel
theorem dX10_fault_17 : decode cX10_fault 17 = .ok (.aload_n 0, 1) := by decide +kernel
theorem dX10_fault_18 : decode cX10_fault 18 = .ok (.getfield 12, 3) := by decide +kernel
theorem dX10_fault_21 : decode cX10_fault 21 = .ok (.getfield 103, 3) := by decide +kernel
theorem dX10_fault_24 : decode cX10_fault 24 = .ok (.goto 4, 3) := by decide +kernel
theorem dX10_fault_27 : decode cX10_fault 27 = .ok (.iconst (-1), 1) := by decide +kernel
theorem dX10_fault_28 : decode cX10_fault 28 = .ok (.ireturn, 1) := by decide +kernel
theorem dX10_undo_0 : decode cX10_undo 0 = .ok (.aload_n 0, 1) := by decide +kernel
theorem dX10_undo_1 : decode cX10_undo 1 = .ok (.getfield 19, 3) := by decide +kernel
theorem dX10_undo_4 : decode cX10_undo 4 = .ok (.iload_n 1, 1) := by decide +kernel
theorem dX10_undo_5 : decode cX10_undo 5 = .ok (.invokevirtual 106, 3) := by decide +kernel
theorem dX10_undo_8 : decode cX10_undo 8 = .ok (.astore_n 2, 1) := by decide +kernel
theorem dX10_undo_9 : decode cX10_undo 9 = .ok (.aload_n 2, 1) := by decide +kernel
theorem dX10_undo_10 : decode cX10_undo 10 = .ok (.ifnull 13, 3) := by decide +kernel
theorem dX10_undo_13 : decode cX10_undo 13 = .ok (.aload_n 2, 1) := by decide +kernel
theorem dX10_undo_14 : decode cX10_undo 14 = .ok (.getfield 110, 3) := by decide +kernel
theorem dX10_undo_17 : decode cX10_undo 17 = .ok (.sipush 720, 3) := by decide +kernel
theorem dX10_undo_20 : decode cX10_undo 20 = .ok (.if_icmp .eq 5, 3) := by decide +kernel
theorem dX10_undo_23 : decode cX10_undo 23 = .ok (.iconst 0, 1) := by decide +kernel
theorem dX10_undo_24 : decode cX10_undo 24 = .ok (.ireturn, 1) := by decide +kernel
theorem dX10_undo_25 : decode cX10_undo 25 = .ok (.aload_n 2, 1) := by decide +kernel
theorem dX10_undo_26 : decode cX10_undo 26 = .ok (.aload_n 0, 1) := by decide +kernel
theorem dX10_undo_27 : decode cX10_undo 27 = .ok (.getfield 83, 3) := by decide +kernel
theorem dX10_undo_30 : decode cX10_undo 30 = .ok (.putfield 110, 3) := by decide +kernel
theorem dX10_undo_33 : decode cX10_undo 33 = .ok (.iconst 1, 1) := by decide +kernel
theorem dX10_undo_34 : decode cX10_undo 34 = .ok (.ireturn, 1) := by decide +kernel
theorem dX10_pass_0 : decode cX10_pass 0 = .ok (.iload_n 1, 1) := by decide +kernel
theorem dX10_pass_1 : decode cX10_pass 1 = .ok (.ifCond .lt 22, 3) := by decide +kernel
theorem dX10_pass_4 : decode cX10_pass 4 = .ok (.iload_n 1, 1) := by decide +kernel
theorem dX10_pass_5 : decode cX10_pass 5 = .ok (.sipush 720, 3) := by decide +kernel
theorem dX10_pass_8 : decode cX10_pass 8 = .ok (.if_icmp .gt 15, 3) := by decide +kernel
theorem dX10_pass_11 : decode cX10_pass 11 = .ok (.aload_n 0, 1) := by decide +kernel
theorem dX10_pass_12 : decode cX10_pass 12 = .ok (.getfield 83, 3) := by decide +kernel
theorem dX10_pass_15 : decode cX10_pass 15 = .ok (.iload_n 1, 1) := by decide +kernel
theorem dX10_pass_16 : decode cX10_pass 16 = .ok (.iadd, 1) := by decide +kernel
theorem dX10_pass_17 : decode cX10_pass 17 = .ok (.invokestatic 74, 3) := by decide +kernel
theorem dX10_pass_20 : decode cX10_pass 20 = .ok (.ifCond .ne 5, 3) := by decide +kernel
theorem dX10_pass_23 : decode cX10_pass 23 = .ok (.iconst (-1), 1) := by decide +kernel
theorem dX10_pass_24 : decode cX10_pass 24 = .ok (.ireturn, 1) := by decide +kernel
theorem dX10_pass_25 : decode cX10_pass 25 = .ok (.aload_n 0, 1) := by decide +kernel
theorem dX10_pass_26 : decode cX10_pass 26 = .ok (.dup, 1) := by decide +kernel
theorem dX10_pass_27 : decode cX10_pass 27 = .ok (.getfield 83, 3) := by decide +kernel
theorem dX10_pass_30 : decode cX10_pass 30 = .ok (.iload_n 1, 1) := by decide +kernel
theorem dX10_pass_31 : decode cX10_pass 31 = .ok (.iadd, 1) := by decide +kernel
theorem dX10_pass_32 : decode cX10_pass 32 = .ok (.putfield 83, 3) := by decide +kernel
theorem dX10_pass_35 : decode cX10_pass 35 = .ok (.aload_n 0, 1) := by decide +kernel
theorem dX10_pass_36 : decode cX10_pass 36 = .ok (.getfield 83, 3) := by decide +kernel
theorem dX10_pass_39 : decode cX10_pass 39 = .ok (.ireturn, 1) := by decide +kernel
theorem dX10_farm_0 : decode cX10_farm 0 = .ok (.iload_n 1, 1) := by decide +kernel
theorem dX10_farm_1 : decode cX10_farm 1 = .ok (.ifCond .lt 28, 3) := by decide +kernel
theorem dX10_farm_4 : decode cX10_farm 4 = .ok (.iload_n 1, 1) := by decide +kernel
theorem dX10_farm_5 : decode cX10_farm 5 = .ok (.bipush 10, 2) := by decide +kernel
theorem dX10_farm_7 : decode cX10_farm 7 = .ok (.if_icmp .ge 22, 3) := by decide +kernel
theorem dX10_farm_10 : decode cX10_farm 10 = .ok (.aload_n 0, 1) := by decide +kernel
theorem dX10_farm_11 : decode cX10_farm 11 = .ok (.getfield 113, 3) := by decide +kernel
theorem dX10_farm_14 : decode cX10_farm 14 = .ok (.ifCond .lt 15, 3) := by decide +kernel
theorem dX10_farm_17 : decode cX10_farm 17 = .ok (.aload_n 0, 1) := by decide +kernel
theorem dX10_farm_18 : decode cX10_farm 18 = .ok (.getfield 113, 3) := by decide +kernel
theorem dX10_farm_21 : decode cX10_farm 21 = .ok (.aload_n 0, 1) := by decide +kernel
theorem dX10_farm_22 : decode cX10_farm 22 = .ok (.getfield 25, 3) := by decide +kernel
theorem dX10_farm_25 : decode cX10_farm 25 = .ok (.arraylength, 1) := by decide +kernel
theorem dX10_farm_26 : decode cX10_farm 26 = .ok (.if_icmp .lt 5, 3) := by decide +kernel
theorem dX10_farm_29 : decode cX10_farm 29 = .ok (.iconst (-1), 1) := by decide +kernel
theorem dX10_farm_30 : decode cX10_farm 30 = .ok (.ireturn, 1) := by decide +kernel
theorem dX10_farm_31 : decode cX10_farm 31 = .ok (.aload_n 0, 1) := by decide +kernel
theorem dX10_farm_32 : decode cX10_farm 32 = .ok (.getfield 25, 3) := by decide +kernel
theorem dX10_farm_35 : decode cX10_farm 35 = .ok (.aload_n 0, 1) := by decide +kernel
theorem dX10_farm_36 : decode cX10_farm 36 = .ok (.getfield 113, 3) := by decide +kernel
theorem dX10_farm_39 : decode cX10_farm 39 = .ok (.new 23, 3) := by decide +kernel
theorem dX10_farm_42 : decode cX10_farm 42 = .ok (.dup, 1) := by decide +kernel
theorem dX10_farm_43 : decode cX10_farm 43 = .ok (.iload_n 1, 1) := by decide +kernel
theorem dX10_farm_44 : decode cX10_farm 44 = .ok (.aload_n 0, 1) := by decide +kernel
theorem dX10_farm_45 : decode cX10_farm 45 = .ok (.getfield 83, 3) := by decide +kernel
theorem dX10_farm_48 : decode cX10_farm 48 = .ok (.invokespecial 116, 3) := by decide +kernel
theorem dX10_farm_51 : decode cX10_farm 51 = .ok (.aastore, 1) := by decide +kernel
theorem dX10_farm_52 : decode cX10_farm 52 = .ok (.aload_n 0, 1) := by decide +kernel
theorem dX10_farm_53 : decode cX10_farm 53 = .ok (.dup, 1) := by decide +kernel
theorem dX10_farm_54 : decode cX10_farm 54 = .ok (.getfield 113, 3) := by decide +kernel
theorem dX10_farm_57 : decode cX10_farm 57 = .ok (.iconst 1, 1) := by decide +kernel
theorem dX10_farm_58 : decode cX10_farm 58 = .ok (.iadd, 1) := by decide +kernel
theorem dX10_farm_59 : decode cX10_farm 59 = .ok (.putfield 113, 3) := by decide +kernel
theorem dX10_farm_62 : decode cX10_farm 62 = .ok (.aload_n 0, 1) := by decide +kernel
theorem dX10_farm_63 : decode cX10_farm 63 = .ok (.getfield 113, 3) := by decide +kernel
theorem dX10_farm_66 : decode cX10_farm 66 = .ok (.iconst 1, 1) := by decide +kernel
theorem dX10_farm_67 : decode cX10_farm 67 = .ok (.isub, 1) := by decide +kernel
theorem dX10_farm_68 : decode cX10_farm 68 = .ok (.ireturn, 1) := by decide +kernel
theorem dX10_note_0 : decode cX10_note 0 = .ok (.aload_n 0, 1) := by decide +kernel
theorem dX10_note_1 : decode cX10_note 1 = .ok (.iload_n 1, 1) := by decide +kernel
theorem dX10_note_2 : decode cX10_note 2 = .ok (.invokevirtual 117, 3) := by decide +kernel
theorem dX10_note_5 : decode cX10_note 5 = .ok (.astore 5, 2) := by decide +kernel
theorem dX10_note_7 : decode cX10_note 7 = .ok (.aload 5, 2) := by decide +kernel
theorem dX10_note_9 : decode cX10_note 9 = .ok (.ifnull 27, 3) := by decide +kernel
theorem dX10_note_12 : decode cX10_note 12 = .ok (.iload_n 2, 1) := by decide +kernel
theorem dX10_note_13 : decode cX10_note 13 = .ok (.invokestatic 121, 3) := by decide +kernel
theorem dX10_note_16 : decode cX10_note 16 = .ok (.ifCond .eq 20, 3) := by decide +kernel
theorem dX10_note_19 : decode cX10_note 19 = .ok (.iload_n 3, 1) := by decide +kernel
theorem dX10_note_20 : decode cX10_note 20 = .ok (.invokestatic 74, 3) := by decide +kernel
theorem dX10_note_23 : decode cX10_note 23 = .ok (.ifCond .eq 13, 3) := by decide +kernel
theorem dX10_note_26 : decode cX10_note 26 = .ok (.aload_n 0, 1) := by decide +kernel
theorem dX10_note_27 : decode cX10_note 27 = .ok (.getfield 124, 3) := by decide +kernel
theorem dX10_note_30 : decode cX10_note 30 = .ok (.sipush 200, 3) := by decide +kernel
theorem dX10_note_33 : decode cX10_note 33 = .ok (.if_icmp .lt 5, 3) := by decide +kernel
theorem dX10_note_36 : decode cX10_note 36 = .ok (.iconst (-1), 1) := by decide +kernel
theorem dX10_note_37 : decode cX10_note 37 = .ok (.ireturn, 1) := by decide +kernel
theorem dX10_note_38 : decode cX10_note 38 = .ok (.iload 4, 2) := by decide +kernel
theorem dX10_note_40 : decode cX10_note 40 = .ok (.ifCond .lt 22, 3) := by decide +kernel
theorem dX10_note_43 : decode cX10_note 43 = .ok (.iload 4, 2) := by decide +kernel
theorem dX10_note_45 : decode cX10_note 45 = .ok (.iload_n 2, 1) := by decide +kernel
theorem dX10_note_46 : decode cX10_note 46 = .ok (.bipush 8, 2) := by decide +kernel
theorem dX10_note_48 : decode cX10_note 48 = .ok (.if_icmp .ne 8, 3) := by decide +kernel
theorem dX10_note_51 : decode cX10_note 51 = .ok (.bipush 99, 2) := by decide +kernel
theorem dX10_note_53 : decode cX10_note 53 = .ok (.goto 6, 3) := by decide +kernel
theorem dX10_note_56 : decode cX10_note 56 = .ok (.sipush 10000, 3) := by decide +kernel
theorem dX10_note_59 : decode cX10_note 59 = .ok (.if_icmp .le 5, 3) := by decide +kernel
theorem dX10_note_62 : decode cX10_note 62 = .ok (.iconst (-1), 1) := by decide +kernel
theorem dX10_note_63 : decode cX10_note 63 = .ok (.ireturn, 1) := by decide +kernel
theorem dX10_note_64 : decode cX10_note 64 = .ok (.aload 5, 2) := by decide +kernel
theorem dX10_note_66 : decode cX10_note 66 = .ok (.iload_n 2, 1) := by decide +kernel
theorem dX10_note_67 : decode cX10_note 67 = .ok (.aload_n 0, 1) := by decide +kernel
theorem dX10_note_68 : decode cX10_note 68 = .ok (.getfield 83, 3) := by decide +kernel
theorem dX10_note_71 : decode cX10_note 71 = .ok (.iload_n 3, 1) := by decide +kernel
theorem dX10_note_72 : decode cX10_note 72 = .ok (.iload 4, 2) := by decide +kernel
theorem dX10_note_74 : decode cX10_note 74 = .ok (.invokevirtual 127, 3) := by decide +kernel
theorem dX10_note_77 : decode cX10_note 77 = .ok (.aload_n 0, 1) := by decide +kernel
theorem dX10_note_78 : decode cX10_note 78 = .ok (.dup, 1) := by decide +kernel
theorem dX10_note_79 : decode cX10_note 79 = .ok (.getfield 124, 3) := by decide +kernel
theorem dX10_note_82 : decode cX10_note 82 = .ok (.iconst 1, 1) := by decide +kernel
theorem dX10_note_83 : decode cX10_note 83 = .ok (.iadd, 1) := by decide +kernel
theorem dX10_note_84 : decode cX10_note 84 = .ok (.putfield 124, 3) := by decide +kernel
theorem dX10_note_87 : decode cX10_note 87 = .ok (.aload_n 0, 1) := by decide +kernel
theorem dX10_note_88 : decode cX10_note 88 = .ok (.getfield 124, 3) := by decide +kernel
theorem dX10_note_91 : decode cX10_note 91 = .ok (.ireturn, 1) := by decide +kernel
theorem dX10_worth_0 : decode cX10_worth 0 = .ok (.aload_n 0, 1) := by decide +kernel
theorem dX10_worth_1 : decode cX10_worth 1 = .ok (.iload_n 1, 1) := by decide +kernel
theorem dX10_worth_2 : decode cX10_worth 2 = .ok (.invokevirtual 117, 3) := by decide +kernel
theorem dX10_worth_5 : decode cX10_worth 5 = .ok (.astore 5, 2) := by decide +kernel
theorem dX10_worth_7 : decode cX10_worth 7 = .ok (.aload 5, 2) := by decide +kernel
theorem dX10_worth_9 : decode cX10_worth 9 = .ok (.ifnull 26, 3) := by decide +kernel
theorem dX10_worth_12 : decode cX10_worth 12 = .ok (.iload_n 2, 1) := by decide +kernel
theorem dX10_worth_13 : decode cX10_worth 13 = .ok (.invokestatic 121, 3) := by decide +kernel
theorem dX10_worth_16 : decode cX10_worth 16 = .ok (.ifCond .eq 19, 3) := by decide +kernel
theorem dX10_worth_19 : decode cX10_worth 19 = .ok (.iload_n 3, 1) := by decide +kernel
theorem dX10_worth_20 : decode cX10_worth 20 = .ok (.invokestatic 74, 3) := by decide +kernel
theorem dX10_worth_23 : decode cX10_worth 23 = .ok (.ifCond .eq 12, 3) := by decide +kernel
theorem dX10_worth_26 : decode cX10_worth 26 = .ok (.aload_n 0, 1) := by decide +kernel
theorem dX10_worth_27 : decode cX10_worth 27 = .ok (.iload 4, 2) := by decide +kernel
theorem dX10_worth_29 : decode cX10_worth 29 = .ok (.invokevirtual 131, 3) := by decide +kernel
theorem dX10_worth_32 : decode cX10_worth 32 = .ok (.ifCond .ne 5, 3) := by decide +kernel
theorem dX10_worth_35 : decode cX10_worth 35 = .ok (.iconst (-1), 1) := by decide +kernel
theorem dX10_worth_36 : decode cX10_worth 36 = .ok (.ireturn, 1) := by decide +kernel
theorem dX10_worth_37 : decode cX10_worth 37 = .ok (.aload 5, 2) := by decide +kernel
theorem dX10_worth_39 : decode cX10_worth 39 = .ok (.iload_n 2, 1) := by decide +kernel
theorem dX10_worth_40 : decode cX10_worth 40 = .ok (.iload_n 3, 1) := by decide +kernel
theorem dX10_worth_41 : decode cX10_worth 41 = .ok (.iload 4, 2) := by decide +kernel
theorem dX10_worth_43 : decode cX10_worth 43 = .ok (.invokevirtual 134, 3) := by decide +kernel
theorem dX10_worth_46 : decode cX10_worth 46 = .ok (.ireturn, 1) := by decide +kernel
theorem dX10_law_0 : decode cX10_law 0 = .ok (.iload_n 1, 1) := by decide +kernel
theorem dX10_law_1 : decode cX10_law 1 = .ok (.ifCond .lt 24, 3) := by decide +kernel
theorem dX10_law_4 : decode cX10_law 4 = .ok (.iload_n 1, 1) := by decide +kernel
theorem dX10_law_5 : decode cX10_law 5 = .ok (.bipush 19, 2) := by decide +kernel
theorem dX10_law_7 : decode cX10_law 7 = .ok (.if_icmp .ge 18, 3) := by decide +kernel
theorem dX10_law_10 : decode cX10_law 10 = .ok (.iload_n 2, 1) := by decide +kernel
theorem dX10_law_11 : decode cX10_law 11 = .ok (.invokestatic 74, 3) := by decide +kernel
theorem dX10_law_14 : decode cX10_law 14 = .ok (.ifCond .eq 11, 3) := by decide +kernel
theorem dX10_law_17 : decode cX10_law 17 = .ok (.aload_n 0, 1) := by decide +kernel
theorem dX10_law_18 : decode cX10_law 18 = .ok (.iload_n 3, 1) := by decide +kernel
theorem dX10_law_19 : decode cX10_law 19 = .ok (.invokevirtual 131, 3) := by decide +kernel
theorem dX10_law_22 : decode cX10_law 22 = .ok (.ifCond .ne 5, 3) := by decide +kernel
theorem dX10_law_25 : decode cX10_law 25 = .ok (.iconst (-1), 1) := by decide +kernel
theorem dX10_law_26 : decode cX10_law 26 = .ok (.ireturn, 1) := by decide +kernel
theorem dX10_law_27 : decode cX10_law 27 = .ok (.aload_n 0, 1) := by decide +kernel
theorem dX10_law_28 : decode cX10_law 28 = .ok (.getfield 19, 3) := by decide +kernel
theorem dX10_law_31 : decode cX10_law 31 = .ok (.iload_n 1, 1) := by decide +kernel
theorem dX10_law_32 : decode cX10_law 32 = .ok (.iload_n 2, 1) := by decide +kernel
theorem dX10_law_33 : decode cX10_law 33 = .ok (.iload_n 3, 1) := by decide +kernel
theorem dX10_law_34 : decode cX10_law 34 = .ok (.invokevirtual 138, 3) := by decide +kernel
theorem dX10_law_37 : decode cX10_law 37 = .ok (.ireturn, 1) := by decide +kernel
theorem dX10_fire_0 : decode cX10_fire 0 = .ok (.aload_n 0, 1) := by decide +kernel
theorem dX10_fire_1 : decode cX10_fire 1 = .ok (.iload_n 1, 1) := by decide +kernel
theorem dX10_fire_2 : decode cX10_fire 2 = .ok (.invokevirtual 117, 3) := by decide +kernel
theorem dX10_fire_5 : decode cX10_fire 5 = .ok (.astore_n 3, 1) := by decide +kernel
theorem dX10_fire_6 : decode cX10_fire 6 = .ok (.aload_n 3, 1) := by decide +kernel
theorem dX10_fire_7 : decode cX10_fire 7 = .ok (.ifnull 22, 3) := by decide +kernel
theorem dX10_fire_10 : decode cX10_fire 10 = .ok (.aload_n 0, 1) := by decide +kernel
theorem dX10_fire_11 : decode cX10_fire 11 = .ok (.getfield 141, 3) := by decide +kernel
theorem dX10_fire_14 : decode cX10_fire 14 = .ok (.ifCond .lt 15, 3) := by decide +kernel
theorem dX10_fire_17 : decode cX10_fire 17 = .ok (.aload_n 0, 1) := by decide +kernel
theorem dX10_fire_18 : decode cX10_fire 18 = .ok (.getfield 141, 3) := by decide +kernel
theorem dX10_fire_21 : decode cX10_fire 21 = .ok (.aload_n 0, 1) := by decide +kernel
theorem dX10_fire_22 : decode cX10_fire 22 = .ok (.getfield 31, 3) := by decide +kernel
theorem dX10_fire_25 : decode cX10_fire 25 = .ok (.arraylength, 1) := by decide +kernel
theorem dX10_fire_26 : decode cX10_fire 26 = .ok (.if_icmp .lt 5, 3) := by decide +kernel
theorem dX10_fire_29 : decode cX10_fire 29 = .ok (.iconst (-1), 1) := by decide +kernel
theorem dX10_fire_30 : decode cX10_fire 30 = .ok (.ireturn, 1) := by decide +kernel
theorem dX10_fire_31 : decode cX10_fire 31 = .ok (.new 29, 3) := by decide +kernel
theorem dX10_fire_34 : decode cX10_fire 34 = .ok (.dup, 1) := by decide +kernel
theorem dX10_fire_35 : decode cX10_fire 35 = .ok (.aload_n 0, 1) := by decide +kernel
theorem dX10_fire_36 : decode cX10_fire 36 = .ok (.getfield 141, 3) := by decide +kernel
theorem dX10_fire_39 : decode cX10_fire 39 = .ok (.iload_n 1, 1) := by decide +kernel
theorem dX10_fire_40 : decode cX10_fire 40 = .ok (.aload_n 0, 1) := by decide +kernel
theorem dX10_fire_41 : decode cX10_fire 41 = .ok (.getfield 83, 3) := by decide +kernel
theorem dX10_fire_44 : decode cX10_fire 44 = .ok (.invokespecial 144, 3) := by decide +kernel
theorem dX10_fire_47 : decode cX10_fire 47 = .ok (.astore 4, 2) := by decide +kernel
theorem dX10_fire_49 : decode cX10_fire 49 = .ok (.aload_n 0, 1) := by decide +kernel
theorem dX10_fire_50 : decode cX10_fire 50 = .ok (.aload 4, 2) := by decide +kernel
theorem dX10_fire_52 : decode cX10_fire 52 = .ok (.aload_n 3, 1) := by decide +kernel
theorem dX10_fire_53 : decode cX10_fire 53 = .ok (.getfield 147, 3) := by decide +kernel
theorem dX10_fire_56 : decode cX10_fire 56 = .ok (.iload_n 2, 1) := by decide +kernel
theorem dX10_fire_57 : decode cX10_fire 57 = .ok (.invokevirtual 150, 3) := by decide +kernel
theorem dX10_fire_60 : decode cX10_fire 60 = .ok (.aload_n 0, 1) := by decide +kernel
theorem dX10_fire_61 : decode cX10_fire 61 = .ok (.getfield 31, 3) := by decide +kernel
theorem dX10_fire_64 : decode cX10_fire 64 = .ok (.aload_n 0, 1) := by decide +kernel
theorem dX10_fire_65 : decode cX10_fire 65 = .ok (.getfield 141, 3) := by decide +kernel
theorem dX10_fire_68 : decode cX10_fire 68 = .ok (.aload 4, 2) := by decide +kernel
theorem dX10_fire_70 : decode cX10_fire 70 = .ok (.aastore, 1) := by decide +kernel
theorem dX10_fire_71 : decode cX10_fire 71 = .ok (.aload_n 0, 1) := by decide +kernel
theorem dX10_fire_72 : decode cX10_fire 72 = .ok (.dup, 1) := by decide +kernel
theorem dX10_fire_73 : decode cX10_fire 73 = .ok (.getfield 141, 3) := by decide +kernel
theorem dX10_fire_76 : decode cX10_fire 76 = .ok (.iconst 1, 1) := by decide +kernel
theorem dX10_fire_77 : decode cX10_fire 77 = .ok (.iadd, 1) := by decide +kernel
theorem dX10_fire_78 : decode cX10_fire 78 = .ok (.putfield 141, 3) := by decide +kernel
theorem dX10_fire_81 : decode cX10_fire 81 = .ok (.aload 4, 2) := by decide +kernel
theorem dX10_fire_83 : decode cX10_fire 83 = .ok (.getfield 154, 3) := by decide +kernel
theorem dX10_fire_86 : decode cX10_fire 86 = .ok (.ireturn, 1) := by decide +kernel
theorem dX10_judge_0 : decode cX10_judge 0 = .ok (.aload_n 0, 1) := by decide +kernel
theorem dX10_judge_1 : decode cX10_judge 1 = .ok (.iload_n 1, 1) := by decide +kernel
theorem dX10_judge_2 : decode cX10_judge 2 = .ok (.invokevirtual 157, 3) := by decide +kernel
theorem dX10_judge_5 : decode cX10_judge 5 = .ok (.astore_n 3, 1) := by decide +kernel
theorem dX10_judge_6 : decode cX10_judge 6 = .ok (.aload_n 3, 1) := by decide +kernel
theorem dX10_judge_7 : decode cX10_judge 7 = .ok (.ifnonnull 13, 3) := by decide +kernel
theorem dX10_judge_10 : decode cX10_judge 10 = .ok (.new 161, 3) := by decide +kernel
theorem dX10_judge_13 : decode cX10_judge 13 = .ok (.dup, 1) := by decide +kernel
theorem dX10_judge_14 : decode cX10_judge 14 = .ok (.ldc 163, 2) := by decide +kernel
theorem dX10_judge_16 : decode cX10_judge 16 = .ok (.invokespecial 165, 3) := by decide +kernel
theorem dX10_judge_19 : decode cX10_judge 19 = .ok (.athrow, 1) := by decide +kernel
theorem dX10_judge_20 : decode cX10_judge 20 = .ok (.aload_n 3, 1) := by decide +kernel
theorem dX10_judge_21 : decode cX10_judge 21 = .ok (.iload_n 2, 1) := by decide +kernel
theorem dX10_judge_22 : decode cX10_judge 22 = .ok (.invokevirtual 168, 3) := by decide +kernel
theorem dX10_judge_25 : decode cX10_judge 25 = .ok (.ifCond .ne 13, 3) := by decide +kernel
theorem dX10_judge_28 : decode cX10_judge 28 = .ok (.new 171, 3) := by decide +kernel
theorem dX10_judge_31 : decode cX10_judge 31 = .ok (.dup, 1) := by decide +kernel
theorem dX10_judge_32 : decode cX10_judge 32 = .ok (.ldc 173, 2) := by decide +kernel
theorem dX10_judge_34 : decode cX10_judge 34 = .ok (.invokespecial 175, 3) := by decide +kernel
theorem dX10_judge_37 : decode cX10_judge 37 = .ok (.athrow, 1) := by decide +kernel
theorem dX10_judge_38 : decode cX10_judge 38 = .ok (.aload_n 3, 1) := by decide +kernel
theorem dX10_judge_39 : decode cX10_judge 39 = .ok (.iload_n 2, 1) := by decide +kernel
theorem dX10_judge_40 : decode cX10_judge 40 = .ok (.invokevirtual 176, 3) := by decide +kernel
theorem dX10_judge_43 : decode cX10_judge 43 = .ok (.ireturn, 1) := by decide +kernel
theorem dX10_say_0 : decode cX10_say 0 = .ok (.aload_n 0, 1) := by decide +kernel
theorem dX10_say_1 : decode cX10_say 1 = .ok (.iload_n 1, 1) := by decide +kernel
theorem dX10_say_2 : decode cX10_say 2 = .ok (.invokevirtual 157, 3) := by decide +kernel
theorem dX10_say_5 : decode cX10_say 5 = .ok (.astore 5, 2) := by decide +kernel
theorem dX10_say_7 : decode cX10_say 7 = .ok (.aload 5, 2) := by decide +kernel
theorem dX10_say_9 : decode cX10_say 9 = .ok (.ifnull 27, 3) := by decide +kernel
theorem dX10_say_12 : decode cX10_say 12 = .ok (.aload 5, 2) := by decide +kernel
theorem dX10_say_14 : decode cX10_say 14 = .ok (.getfield 180, 3) := by decide +kernel
theorem dX10_say_17 : decode cX10_say 17 = .ok (.ifCond .ne 19, 3) := by decide +kernel
theorem dX10_say_20 : decode cX10_say 20 = .ok (.aload 5, 2) := by decide +kernel
theorem dX10_say_22 : decode cX10_say 22 = .ok (.iload_n 2, 1) := by decide +kernel
theorem dX10_say_23 : decode cX10_say 23 = .ok (.invokevirtual 168, 3) := by decide +kernel
theorem dX10_say_26 : decode cX10_say 26 = .ok (.ifCond .eq 10, 3) := by decide +kernel
theorem dX10_say_29 : decode cX10_say 29 = .ok (.iload_n 3, 1) := by decide +kernel
theorem dX10_say_30 : decode cX10_say 30 = .ok (.invokestatic 184, 3) := by decide +kernel
theorem dX10_say_33 : decode cX10_say 33 = .ok (.ifCond .ne 5, 3) := by decide +kernel
theorem dX10_say_36 : decode cX10_say 36 = .ok (.iconst 0, 1) := by decide +kernel
theorem dX10_say_37 : decode cX10_say 37 = .ok (.ireturn, 1) := by decide +kernel
theorem dX10_say_38 : decode cX10_say 38 = .ok (.iload 4, 2) := by decide +kernel
theorem dX10_say_40 : decode cX10_say 40 = .ok (.ifCond .lt 10, 3) := by decide +kernel
theorem dX10_say_43 : decode cX10_say 43 = .ok (.iload 4, 2) := by decide +kernel
theorem dX10_say_45 : decode cX10_say 45 = .ok (.bipush 100, 2) := by decide +kernel
theorem dX10_say_47 : decode cX10_say 47 = .ok (.if_icmp .le 5, 3) := by decide +kernel
theorem dX10_say_50 : decode cX10_say 50 = .ok (.iconst 0, 1) := by decide +kernel
theorem dX10_say_51 : decode cX10_say 51 = .ok (.ireturn, 1) := by decide +kernel
theorem dX10_say_52 : decode cX10_say 52 = .ok (.aload 5, 2) := by decide +kernel
theorem dX10_say_54 : decode cX10_say 54 = .ok (.iload_n 2, 1) := by decide +kernel
theorem dX10_say_55 : decode cX10_say 55 = .ok (.iload_n 3, 1) := by decide +kernel
theorem dX10_say_56 : decode cX10_say 56 = .ok (.iload 4, 2) := by decide +kernel
theorem dX10_say_58 : decode cX10_say 58 = .ok (.invokevirtual 187, 3) := by decide +kernel
theorem dX10_say_61 : decode cX10_say 61 = .ok (.iconst 1, 1) := by decide +kernel
theorem dX10_say_62 : decode cX10_say 62 = .ok (.ireturn, 1) := by decide +kernel
theorem dX10_close_0 : decode cX10_close 0 = .ok (.aload_n 0, 1) := by decide +kernel
theorem dX10_close_1 : decode cX10_close 1 = .ok (.iload_n 1, 1) := by decide +kernel
theorem dX10_close_2 : decode cX10_close 2 = .ok (.invokevirtual 157, 3) := by decide +kernel
theorem dX10_close_5 : decode cX10_close 5 = .ok (.astore_n 2, 1) := by decide +kernel
theorem dX10_close_6 : decode cX10_close 6 = .ok (.aload_n 2, 1) := by decide +kernel
theorem dX10_close_7 : decode cX10_close 7 = .ok (.ifnull 10, 3) := by decide +kernel
theorem dX10_close_10 : decode cX10_close 10 = .ok (.aload_n 2, 1) := by decide +kernel
theorem dX10_close_11 : decode cX10_close 11 = .ok (.getfield 180, 3) := by decide +kernel
theorem dX10_close_14 : decode cX10_close 14 = .ok (.ifCond .eq 5, 3) := by decide +kernel
theorem dX10_close_17 : decode cX10_close 17 = .ok (.iconst 0, 1) := by decide +kernel
theorem dX10_close_18 : decode cX10_close 18 = .ok (.ireturn, 1) := by decide +kernel
theorem dX10_close_19 : decode cX10_close 19 = .ok (.aload_n 2, 1) := by decide +kernel
theorem dX10_close_20 : decode cX10_close 20 = .ok (.iconst 1, 1) := by decide +kernel
theorem dX10_close_21 : decode cX10_close 21 = .ok (.putfield 180, 3) := by decide +kernel
theorem dX10_close_24 : decode cX10_close 24 = .ok (.iconst 1, 1) := by decide +kernel
theorem dX10_close_25 : decode cX10_close 25 = .ok (.ireturn, 1) := by decide +kernel
theorem dX10_look_0 : decode cX10_look 0 = .ok (.aload_n 0, 1) := by decide +kernel
theorem dX10_look_1 : decode cX10_look 1 = .ok (.iload_n 1, 1) := by decide +kernel
theorem dX10_look_2 : decode cX10_look 2 = .ok (.invokevirtual 157, 3) := by decide +kernel
theorem dX10_look_5 : decode cX10_look 5 = .ok (.astore_n 3, 1) := by decide +kernel
theorem dX10_look_6 : decode cX10_look 6 = .ok (.aload_n 3, 1) := by decide +kernel
theorem dX10_look_7 : decode cX10_look 7 = .ok (.ifnonnull 13, 3) := by decide +kernel
theorem dX10_look_10 : decode cX10_look 10 = .ok (.new 161, 3) := by decide +kernel
theorem dX10_look_13 : decode cX10_look 13 = .ok (.dup, 1) := by decide +kernel
theorem dX10_look_14 : decode cX10_look 14 = .ok (.ldc 163, 2) := by decide +kernel
theorem dX10_look_16 : decode cX10_look 16 = .ok (.invokespecial 165, 3) := by decide +kernel
theorem dX10_look_19 : decode cX10_look 19 = .ok (.athrow, 1) := by decide +kernel
theorem dX10_look_20 : decode cX10_look 20 = .ok (.iload_n 2, 1) := by decide +kernel
theorem dX10_look_21 : decode cX10_look 21 = .ok (.tableswitch 83 0 7 #[47, 52, 57, 62, 75, 75, 75, 75], 47) := by decide +kernel
theorem dX10_look_68 : decode cX10_look 68 = .ok (.aload_n 3, 1) := by decide +kernel
theorem dX10_look_69 : decode cX10_look 69 = .ok (.getfield 190, 3) := by decide +kernel
theorem dX10_look_72 : decode cX10_look 72 = .ok (.ireturn, 1) := by decide +kernel
theorem dX10_look_73 : decode cX10_look 73 = .ok (.aload_n 3, 1) := by decide +kernel
theorem dX10_look_74 : decode cX10_look 74 = .ok (.getfield 193, 3) := by decide +kernel
theorem dX10_look_77 : decode cX10_look 77 = .ok (.ireturn, 1) := by decide +kernel
theorem dX10_look_78 : decode cX10_look 78 = .ok (.aload_n 3, 1) := by decide +kernel
theorem dX10_look_79 : decode cX10_look 79 = .ok (.getfield 196, 3) := by decide +kernel
theorem dX10_look_82 : decode cX10_look 82 = .ok (.ireturn, 1) := by decide +kernel
theorem dX10_look_83 : decode cX10_look 83 = .ok (.aload_n 3, 1) := by decide +kernel
theorem dX10_look_84 : decode cX10_look 84 = .ok (.getfield 180, 3) := by decide +kernel
theorem dX10_look_87 : decode cX10_look 87 = .ok (.ifCond .eq 7, 3) := by decide +kernel
theorem dX10_look_90 : decode cX10_look 90 = .ok (.iconst 1, 1) := by decide +kernel
theorem dX10_look_91 : decode cX10_look 91 = .ok (.goto 4, 3) := by decide +kernel
theorem dX10_look_94 : decode cX10_look 94 = .ok (.iconst 0, 1) := by decide +kernel
theorem dX10_look_95 : decode cX10_look 95 = .ok (.ireturn, 1) := by decide +kernel
theorem dX10_look_96 : decode cX10_look 96 = .ok (.aload_n 3, 1) := by decide +kernel
theorem dX10_look_97 : decode cX10_look 97 = .ok (.iload_n 2, 1) := by decide +kernel
theorem dX10_look_98 : decode cX10_look 98 = .ok (.iconst 4, 1) := by decide +kernel
theorem dX10_look_99 : decode cX10_look 99 = .ok (.isub, 1) := by decide +kernel
theorem dX10_look_100 : decode cX10_look 100 = .ok (.invokevirtual 199, 3) := by decide +kernel
theorem dX10_look_103 : decode cX10_look 103 = .ok (.ireturn, 1) := by decide +kernel
theorem dX10_look_104 : decode cX10_look 104 = .ok (.new 171, 3) := by decide +kernel
theorem dX10_look_107 : decode cX10_look 107 = .ok (.dup, 1) := by decide +kernel
theorem dX10_look_108 : decode cX10_look 108 = .ok (.ldc 202, 2) := by decide +kernel
theorem dX10_look_110 : decode cX10_look 110 = .ok (.invokespecial 175, 3) := by decide +kernel
theorem dX10_look_113 : decode cX10_look 113 = .ok (.athrow, 1) := by decide +kernel
theorem dX10_award_0 : decode cX10_award 0 = .ok (.aload_n 0, 1) := by decide +kernel
theorem dX10_award_1 : decode cX10_award 1 = .ok (.iload_n 1, 1) := by decide +kernel
theorem dX10_award_2 : decode cX10_award 2 = .ok (.invokevirtual 157, 3) := by decide +kernel
theorem dX10_award_5 : decode cX10_award 5 = .ok (.astore 4, 2) := by decide +kernel
theorem dX10_award_7 : decode cX10_award 7 = .ok (.aload 4, 2) := by decide +kernel
theorem dX10_award_9 : decode cX10_award 9 = .ok (.ifnull 23, 3) := by decide +kernel
theorem dX10_award_12 : decode cX10_award 12 = .ok (.iload_n 3, 1) := by decide +kernel
theorem dX10_award_13 : decode cX10_award 13 = .ok (.ifCond .lt 19, 3) := by decide +kernel
theorem dX10_award_16 : decode cX10_award 16 = .ok (.iload_n 3, 1) := by decide +kernel
theorem dX10_award_17 : decode cX10_award 17 = .ok (.bipush 6, 2) := by decide +kernel
theorem dX10_award_19 : decode cX10_award 19 = .ok (.if_icmp .ge 13, 3) := by decide +kernel
theorem dX10_award_22 : decode cX10_award 22 = .ok (.aload_n 0, 1) := by decide +kernel
theorem dX10_award_23 : decode cX10_award 23 = .ok (.aload 4, 2) := by decide +kernel
theorem dX10_award_25 : decode cX10_award 25 = .ok (.iload_n 2, 1) := by decide +kernel
theorem dX10_award_26 : decode cX10_award 26 = .ok (.invokevirtual 204, 3) := by decide +kernel
theorem dX10_award_29 : decode cX10_award 29 = .ok (.ifCond .ne 7, 3) := by decide +kernel
theorem dX10_award_32 : decode cX10_award 32 = .ok (.ldc2_w 208, 3) := by decide +kernel
theorem dX10_award_35 : decode cX10_award 35 = .ok (.lreturn, 1) := by decide +kernel
theorem dX10_award_36 : decode cX10_award 36 = .ok (.aload_n 0, 1) := by decide +kernel
theorem dX10_award_37 : decode cX10_award 37 = .ok (.aload 4, 2) := by decide +kernel
theorem dX10_award_39 : decode cX10_award 39 = .ok (.iload_n 2, 1) := by decide +kernel
theorem dX10_award_40 : decode cX10_award 40 = .ok (.invokevirtual 210, 3) := by decide +kernel
theorem dX10_award_43 : decode cX10_award 43 = .ok (.aload_n 0, 1) := by decide +kernel
theorem dX10_award_44 : decode cX10_award 44 = .ok (.getfield 38, 3) := by decide +kernel
theorem dX10_award_47 : decode cX10_award 47 = .ok (.iload_n 3, 1) := by decide +kernel
theorem dX10_award_48 : decode cX10_award 48 = .ok (.invokevirtual 214, 3) := by decide +kernel
theorem dX10_award_51 : decode cX10_award 51 = .ok (.lreturn, 1) := by decide +kernel
theorem dX10_call_0 : decode cX10_call 0 = .ok (.aload_n 0, 1) := by decide +kernel
theorem dX10_call_1 : decode cX10_call 1 = .ok (.iload_n 1, 1) := by decide +kernel
theorem dX10_call_2 : decode cX10_call 2 = .ok (.invokevirtual 157, 3) := by decide +kernel
theorem dX10_call_5 : decode cX10_call 5 = .ok (.astore 4, 2) := by decide +kernel
theorem dX10_call_7 : decode cX10_call 7 = .ok (.aload 4, 2) := by decide +kernel
theorem dX10_call_9 : decode cX10_call 9 = .ok (.ifnull 21, 3) := by decide +kernel
theorem dX10_call_12 : decode cX10_call 12 = .ok (.aload_n 0, 1) := by decide +kernel
theorem dX10_call_13 : decode cX10_call 13 = .ok (.iload_n 2, 1) := by decide +kernel
theorem dX10_call_14 : decode cX10_call 14 = .ok (.invokevirtual 117, 3) := by decide +kernel
theorem dX10_call_17 : decode cX10_call 17 = .ok (.ifnull 13, 3) := by decide +kernel
theorem dX10_call_20 : decode cX10_call 20 = .ok (.aload_n 0, 1) := by decide +kernel
theorem dX10_call_21 : decode cX10_call 21 = .ok (.aload 4, 2) := by decide +kernel
theorem dX10_call_23 : decode cX10_call 23 = .ok (.iload_n 3, 1) := by decide +kernel
theorem dX10_call_24 : decode cX10_call 24 = .ok (.invokevirtual 204, 3) := by decide +kernel
theorem dX10_call_27 : decode cX10_call 27 = .ok (.ifCond .ne 7, 3) := by decide +kernel
theorem dX10_call_30 : decode cX10_call 30 = .ok (.ldc2_w 208, 3) := by decide +kernel
theorem dX10_call_33 : decode cX10_call 33 = .ok (.lreturn, 1) := by decide +kernel
theorem dX10_call_34 : decode cX10_call 34 = .ok (.aload_n 0, 1) := by decide +kernel
theorem dX10_call_35 : decode cX10_call 35 = .ok (.aload 4, 2) := by decide +kernel
theorem dX10_call_37 : decode cX10_call 37 = .ok (.iload_n 3, 1) := by decide +kernel
theorem dX10_call_38 : decode cX10_call 38 = .ok (.invokevirtual 210, 3) := by decide +kernel
theorem dX10_call_41 : decode cX10_call 41 = .ok (.aload_n 0, 1) := by decide +kernel
theorem dX10_call_42 : decode cX10_call 42 = .ok (.aload 4, 2) := by decide +kernel
theorem dX10_call_44 : decode cX10_call 44 = .ok (.iload_n 3, 1) := by decide +kernel
theorem dX10_call_45 : decode cX10_call 45 = .ok (.invokevirtual 218, 3) := by decide +kernel
theorem dX10_call_48 : decode cX10_call 48 = .ok (.aload_n 0, 1) := by decide +kernel
theorem dX10_call_49 : decode cX10_call 49 = .ok (.getfield 45, 3) := by decide +kernel
theorem dX10_call_52 : decode cX10_call 52 = .ok (.iload_n 2, 1) := by decide +kernel
theorem dX10_call_53 : decode cX10_call 53 = .ok (.invokevirtual 221, 3) := by decide +kernel
theorem dX10_call_56 : decode cX10_call 56 = .ok (.lreturn, 1) := by decide +kernel
theorem dX10_book_0 : decode cX10_book 0 = .ok (.aload_n 0, 1) := by decide +kernel
theorem dX10_book_1 : decode cX10_book 1 = .ok (.getfield 52, 3) := by decide +kernel
theorem dX10_book_4 : decode cX10_book 4 = .ok (.invokevirtual 222, 3) := by decide +kernel
theorem dX10_book_7 : decode cX10_book 7 = .ok (.iconst 0, 1) := by decide +kernel
theorem dX10_book_8 : decode cX10_book 8 = .ok (.istore_n 1, 1) := by decide +kernel
theorem dX10_book_9 : decode cX10_book 9 = .ok (.iload_n 1, 1) := by decide +kernel
theorem dX10_book_10 : decode cX10_book 10 = .ok (.aload_n 0, 1) := by decide +kernel
theorem dX10_book_11 : decode cX10_book 11 = .ok (.getfield 141, 3) := by decide +kernel
theorem dX10_book_14 : decode cX10_book 14 = .ok (.if_icmp .ge 49, 3) := by decide +kernel
theorem dX10_book_17 : decode cX10_book 17 = .ok (.aload_n 0, 1) := by decide +kernel
theorem dX10_book_18 : decode cX10_book 18 = .ok (.iload_n 1, 1) := by decide +kernel
theorem dX10_book_19 : decode cX10_book 19 = .ok (.invokevirtual 157, 3) := by decide +kernel
theorem dX10_book_22 : decode cX10_book 22 = .ok (.astore_n 2, 1) := by decide +kernel
theorem dX10_book_23 : decode cX10_book 23 = .ok (.aload_n 2, 1) := by decide +kernel
theorem dX10_book_24 : decode cX10_book 24 = .ok (.ifnull 33, 3) := by decide +kernel
theorem dX10_book_27 : decode cX10_book 27 = .ok (.aload_n 2, 1) := by decide +kernel
theorem dX10_book_28 : decode cX10_book 28 = .ok (.getfield 180, 3) := by decide +kernel
theorem dX10_book_31 : decode cX10_book 31 = .ok (.ifCond .eq 26, 3) := by decide +kernel
theorem dX10_book_34 : decode cX10_book 34 = .ok (.aload_n 0, 1) := by decide +kernel
theorem dX10_book_35 : decode cX10_book 35 = .ok (.aload_n 2, 1) := by decide +kernel
theorem dX10_book_36 : decode cX10_book 36 = .ok (.aload_n 0, 1) := by decide +kernel
theorem dX10_book_37 : decode cX10_book 37 = .ok (.getfield 83, 3) := by decide +kernel
theorem dX10_book_40 : decode cX10_book 40 = .ok (.invokevirtual 210, 3) := by decide +kernel
theorem dX10_book_43 : decode cX10_book 43 = .ok (.aload_n 0, 1) := by decide +kernel
theorem dX10_book_44 : decode cX10_book 44 = .ok (.aload_n 2, 1) := by decide +kernel
theorem dX10_book_45 : decode cX10_book 45 = .ok (.aload_n 0, 1) := by decide +kernel
theorem dX10_book_46 : decode cX10_book 46 = .ok (.getfield 83, 3) := by decide +kernel
theorem dX10_book_49 : decode cX10_book 49 = .ok (.invokevirtual 218, 3) := by decide +kernel
theorem dX10_book_52 : decode cX10_book 52 = .ok (.aload_n 0, 1) := by decide +kernel
theorem dX10_book_53 : decode cX10_book 53 = .ok (.aload_n 2, 1) := by decide +kernel
theorem dX10_book_54 : decode cX10_book 54 = .ok (.invokevirtual 225, 3) := by decide +kernel
theorem dX10_book_57 : decode cX10_book 57 = .ok (.iinc 1 1, 3) := by decide +kernel
theorem dX10_book_60 : decode cX10_book 60 = .ok (.goto (-51), 3) := by decide +kernel
theorem dX10_book_63 : decode cX10_book 63 = .ok (.aload_n 0, 1) := by decide +kernel
theorem dX10_book_64 : decode cX10_book 64 = .ok (.getfield 52, 3) := by decide +kernel
theorem dX10_book_67 : decode cX10_book 67 = .ok (.getfield 229, 3) := by decide +kernel
theorem dX10_book_70 : decode cX10_book 70 = .ok (.ireturn, 1) := by decide +kernel
theorem dX10_booked_0 : decode cX10_booked 0 = .ok (.aload_n 0, 1) := by decide +kernel
theorem dX10_booked_1 : decode cX10_booked 1 = .ok (.getfield 52, 3) := by decide +kernel
theorem dX10_booked_4 : decode cX10_booked 4 = .ok (.iload_n 1, 1) := by decide +kernel
theorem dX10_booked_5 : decode cX10_booked 5 = .ok (.iload_n 2, 1) := by decide +kernel
theorem dX10_booked_6 : decode cX10_booked 6 = .ok (.invokevirtual 232, 3) := by decide +kernel
theorem dX10_booked_9 : decode cX10_booked 9 = .ok (.lreturn, 1) := by decide +kernel
theorem dX10_account_0 : decode cX10_account 0 = .ok (.aload_n 0, 1) := by decide +kernel
theorem dX10_account_1 : decode cX10_account 1 = .ok (.iload_n 1, 1) := by decide +kernel
theorem dX10_account_2 : decode cX10_account 2 = .ok (.invokevirtual 117, 3) := by decide +kernel
theorem dX10_account_5 : decode cX10_account 5 = .ok (.astore_n 2, 1) := by decide +kernel
theorem dX10_account_6 : decode cX10_account 6 = .ok (.aload_n 2, 1) := by decide +kernel
theorem dX10_account_7 : decode cX10_account 7 = .ok (.ifnonnull 13, 3) := by decide +kernel
theorem dX10_account_10 : decode cX10_account 10 = .ok (.new 171, 3) := by decide +kernel
theorem dX10_account_13 : decode cX10_account 13 = .ok (.dup, 1) := by decide +kernel
theorem dX10_account_14 : decode cX10_account 14 = .ok (.ldc 236, 2) := by decide +kernel
theorem dX10_account_16 : decode cX10_account 16 = .ok (.invokespecial 175, 3) := by decide +kernel
theorem dX10_account_19 : decode cX10_account 19 = .ok (.athrow, 1) := by decide +kernel
theorem dX10_account_20 : decode cX10_account 20 = .ok (.aload_n 2, 1) := by decide +kernel
theorem dX10_account_21 : decode cX10_account 21 = .ok (.getfield 238, 3) := by decide +kernel
theorem dX10_account_24 : decode cX10_account 24 = .ok (.lreturn, 1) := by decide +kernel
theorem dX10_count_0 : decode cX10_count 0 = .ok (.iload_n 1, 1) := by decide +kernel
theorem dX10_count_1 : decode cX10_count 1 = .ok (.tableswitch 87 0 6 #[43, 48, 53, 61, 66, 71, 79], 43) := by decide +kernel
theorem dX10_count_44 : decode cX10_count 44 = .ok (.aload_n 0, 1) := by decide +kernel
theorem dX10_count_45 : decode cX10_count 45 = .ok (.getfield 83, 3) := by decide +kernel
theorem dX10_count_48 : decode cX10_count 48 = .ok (.ireturn, 1) := by decide +kernel
theorem dX10_count_49 : decode cX10_count 49 = .ok (.aload_n 0, 1) := by decide +kernel
theorem dX10_count_50 : decode cX10_count 50 = .ok (.getfield 113, 3) := by decide +kernel
theorem dX10_count_53 : decode cX10_count 53 = .ok (.ireturn, 1) := by decide +kernel
theorem dX10_count_54 : decode cX10_count 54 = .ok (.aload_n 0, 1) := by decide +kernel
theorem dX10_count_55 : decode cX10_count 55 = .ok (.getfield 19, 3) := by decide +kernel
theorem dX10_count_58 : decode cX10_count 58 = .ok (.getfield 242, 3) := by decide +kernel
theorem dX10_count_61 : decode cX10_count 61 = .ok (.ireturn, 1) := by decide +kernel
theorem dX10_count_62 : decode cX10_count 62 = .ok (.aload_n 0, 1) := by decide +kernel
theorem dX10_count_63 : decode cX10_count 63 = .ok (.getfield 124, 3) := by decide +kernel
theorem dX10_count_66 : decode cX10_count 66 = .ok (.ireturn, 1) := by decide +kernel
theorem dX10_count_67 : decode cX10_count 67 = .ok (.aload_n 0, 1) := by decide +kernel
theorem dX10_count_68 : decode cX10_count 68 = .ok (.getfield 141, 3) := by decide +kernel
theorem dX10_count_71 : decode cX10_count 71 = .ok (.ireturn, 1) := by decide +kernel
theorem dX10_count_72 : decode cX10_count 72 = .ok (.aload_n 0, 1) := by decide +kernel
theorem dX10_count_73 : decode cX10_count 73 = .ok (.getfield 19, 3) := by decide +kernel
theorem dX10_count_76 : decode cX10_count 76 = .ok (.getfield 245, 3) := by decide +kernel
theorem dX10_count_79 : decode cX10_count 79 = .ok (.ireturn, 1) := by decide +kernel
theorem dX10_count_80 : decode cX10_count 80 = .ok (.aload_n 0, 1) := by decide +kernel
theorem dX10_count_81 : decode cX10_count 81 = .ok (.getfield 52, 3) := by decide +kernel
theorem dX10_count_84 : decode cX10_count 84 = .ok (.getfield 248, 3) := by decide +kernel
theorem dX10_count_87 : decode cX10_count 87 = .ok (.ireturn, 1) := by decide +kernel
theorem dX10_count_88 : decode cX10_count 88 = .ok (.iconst (-1), 1) := by decide +kernel
theorem dX10_count_89 : decode cX10_count 89 = .ok (.ireturn, 1) := by decide +kernel
theorem dX10_isDay_0 : decode cX10_isDay 0 = .ok (.iload_n 0, 1) := by decide +kernel
theorem dX10_isDay_1 : decode cX10_isDay 1 = .ok (.ifCond .lt 14, 3) := by decide +kernel
theorem dX10_isDay_4 : decode cX10_isDay 4 = .ok (.iload_n 0, 1) := by decide +kernel
theorem dX10_isDay_5 : decode cX10_isDay 5 = .ok (.sipush 720, 3) := by decide +kernel
theorem dX10_isDay_8 : decode cX10_isDay 8 = .ok (.if_icmp .ge 7, 3) := by decide +kernel
theorem dX10_isDay_11 : decode cX10_isDay 11 = .ok (.iconst 1, 1) := by decide +kernel
theorem dX10_isDay_12 : decode cX10_isDay 12 = .ok (.goto 4, 3) := by decide +kernel
theorem dX10_isDay_15 : decode cX10_isDay 15 = .ok (.iconst 0, 1) := by decide +kernel
theorem dX10_isDay_16 : decode cX10_isDay 16 = .ok (.ireturn, 1) := by decide +kernel
theorem dX10_isClass_0 : decode cX10_isClass 0 = .ok (.iload_n 0, 1) := by decide +kernel
theorem dX10_isClass_1 : decode cX10_isClass 1 = .ok (.ifCond .lt 12, 3) := by decide +kernel
theorem dX10_isClass_4 : decode cX10_isClass 4 = .ok (.iload_n 0, 1) := by decide +kernel
theorem dX10_isClass_5 : decode cX10_isClass 5 = .ok (.iconst 4, 1) := by decide +kernel
theorem dX10_isClass_6 : decode cX10_isClass 6 = .ok (.if_icmp .ge 7, 3) := by decide +kernel
theorem dX10_isClass_9 : decode cX10_isClass 9 = .ok (.iconst 1, 1) := by decide +kernel
theorem dX10_isClass_10 : decode cX10_isClass 10 = .ok (.goto 4, 3) := by decide +kernel
theorem dX10_isClass_13 : decode cX10_isClass 13 = .ok (.iconst 0, 1) := by decide +kernel
theorem dX10_isClass_14 : decode cX10_isClass 14 = .ok (.ireturn, 1) := by decide +kernel
theorem dX10_isToldKind_0 : decode cX10_isToldKind 0 = .ok (.iload_n 0, 1) := by decide +kernel
theorem dX10_isToldKind_1 : decode cX10_isToldKind 1 = .ok (.ifCond .lt 13, 3) := by decide +kernel
theorem dX10_isToldKind_4 : decode cX10_isToldKind 4 = .ok (.iload_n 0, 1) := by decide +kernel
theorem dX10_isToldKind_5 : decode cX10_isToldKind 5 = .ok (.bipush 9, 2) := by decide +kernel
theorem dX10_isToldKind_7 : decode cX10_isToldKind 7 = .ok (.if_icmp .ge 7, 3) := by decide +kernel
theorem dX10_isToldKind_10 : decode cX10_isToldKind 10 = .ok (.iconst 1, 1) := by decide +kernel
theorem dX10_isToldKind_11 : decode cX10_isToldKind 11 = .ok (.goto 4, 3) := by decide +kernel
theorem dX10_isToldKind_14 : decode cX10_isToldKind 14 = .ok (.iconst 0, 1) := by decide +kernel
theorem dX10_isToldKind_15 : decode cX10_isToldKind 15 = .ok (.ireturn, 1) := by decide +kernel
theorem dX10_isKnowable_0 : decode cX10_isKnowable 0 = .ok (.iload_n 1, 1) := by decide +kernel
theorem dX10_isKnowable_1 : decode cX10_isKnowable 1 = .ok (.ifCond .lt 15, 3) := by decide +kernel
theorem dX10_isKnowable_4 : decode cX10_isKnowable 4 = .ok (.iload_n 1, 1) := by decide +kernel
theorem dX10_isKnowable_5 : decode cX10_isKnowable 5 = .ok (.aload_n 0, 1) := by decide +kernel
theorem dX10_isKnowable_6 : decode cX10_isKnowable 6 = .ok (.getfield 83, 3) := by decide +kernel
theorem dX10_isKnowable_9 : decode cX10_isKnowable 9 = .ok (.if_icmp .gt 7, 3) := by decide +kernel
theorem dX10_isKnowable_12 : decode cX10_isKnowable 12 = .ok (.iconst 1, 1) := by decide +kernel
theorem dX10_isKnowable_13 : decode cX10_isKnowable 13 = .ok (.goto 4, 3) := by decide +kernel
theorem dX10_isKnowable_16 : decode cX10_isKnowable 16 = .ok (.iconst 0, 1) := by decide +kernel
theorem dX10_isKnowable_17 : decode cX10_isKnowable 17 = .ok (.ireturn, 1) := by decide +kernel
theorem dX10_isKnowableOf_0 : decode cX10_isKnowableOf 0 = .ok (.iload_n 2, 1) := by decide +kernel
theorem dX10_isKnowableOf_1 : decode cX10_isKnowableOf 1 = .ok (.aload_n 1, 1) := by decide +kernel
theorem dX10_isKnowableOf_2 : decode cX10_isKnowableOf 2 = .ok (.getfield 193, 3) := by decide +kernel
theorem dX10_isKnowableOf_5 : decode cX10_isKnowableOf 5 = .ok (.if_icmp .lt 15, 3) := by decide +kernel
theorem dX10_isKnowableOf_8 : decode cX10_isKnowableOf 8 = .ok (.iload_n 2, 1) := by decide +kernel
theorem dX10_isKnowableOf_9 : decode cX10_isKnowableOf 9 = .ok (.aload_n 0, 1) := by decide +kernel
theorem dX10_isKnowableOf_10 : decode cX10_isKnowableOf 10 = .ok (.getfield 83, 3) := by decide +kernel
theorem dX10_isKnowableOf_13 : decode cX10_isKnowableOf 13 = .ok (.if_icmp .gt 7, 3) := by decide +kernel
theorem dX10_isKnowableOf_16 : decode cX10_isKnowableOf 16 = .ok (.iconst 1, 1) := by decide +kernel
theorem dX10_isKnowableOf_17 : decode cX10_isKnowableOf 17 = .ok (.goto 4, 3) := by decide +kernel
theorem dX10_isKnowableOf_20 : decode cX10_isKnowableOf 20 = .ok (.iconst 0, 1) := by decide +kernel
theorem dX10_isKnowableOf_21 : decode cX10_isKnowableOf 21 = .ok (.ireturn, 1) := by decide +kernel
theorem dX10_farmAt_0 : decode cX10_farmAt 0 = .ok (.iload_n 1, 1) := by decide +kernel
theorem dX10_farmAt_1 : decode cX10_farmAt 1 = .ok (.ifCond .lt 29, 3) := by decide +kernel
theorem dX10_farmAt_4 : decode cX10_farmAt 4 = .ok (.iload_n 1, 1) := by decide +kernel
theorem dX10_farmAt_5 : decode cX10_farmAt 5 = .ok (.aload_n 0, 1) := by decide +kernel
theorem dX10_farmAt_6 : decode cX10_farmAt 6 = .ok (.getfield 113, 3) := by decide +kernel
theorem dX10_farmAt_9 : decode cX10_farmAt 9 = .ok (.if_icmp .ge 21, 3) := by decide +kernel
theorem dX10_farmAt_12 : decode cX10_farmAt 12 = .ok (.iload_n 1, 1) := by decide +kernel
theorem dX10_farmAt_13 : decode cX10_farmAt 13 = .ok (.aload_n 0, 1) := by decide +kernel
theorem dX10_farmAt_14 : decode cX10_farmAt 14 = .ok (.getfield 25, 3) := by decide +kernel
theorem dX10_farmAt_17 : decode cX10_farmAt 17 = .ok (.arraylength, 1) := by decide +kernel
theorem dX10_farmAt_18 : decode cX10_farmAt 18 = .ok (.if_icmp .ge 12, 3) := by decide +kernel
theorem dX10_farmAt_21 : decode cX10_farmAt 21 = .ok (.aload_n 0, 1) := by decide +kernel
theorem dX10_farmAt_22 : decode cX10_farmAt 22 = .ok (.getfield 25, 3) := by decide +kernel
theorem dX10_farmAt_25 : decode cX10_farmAt 25 = .ok (.iload_n 1, 1) := by decide +kernel
theorem dX10_farmAt_26 : decode cX10_farmAt 26 = .ok (.aaload, 1) := by decide +kernel
theorem dX10_farmAt_27 : decode cX10_farmAt 27 = .ok (.goto 4, 3) := by decide +kernel
theorem dX10_farmAt_30 : decode cX10_farmAt 30 = .ok (.aconst_null, 1) := by decide +kernel
theorem dX10_farmAt_31 : decode cX10_farmAt 31 = .ok (.areturn, 1) := by decide +kernel
theorem dX10_fireAt_0 : decode cX10_fireAt 0 = .ok (.iload_n 1, 1) := by decide +kernel
theorem dX10_fireAt_1 : decode cX10_fireAt 1 = .ok (.ifCond .lt 29, 3) := by decide +kernel
theorem dX10_fireAt_4 : decode cX10_fireAt 4 = .ok (.iload_n 1, 1) := by decide +kernel
theorem dX10_fireAt_5 : decode cX10_fireAt 5 = .ok (.aload_n 0, 1) := by decide +kernel
theorem dX10_fireAt_6 : decode cX10_fireAt 6 = .ok (.getfield 141, 3) := by decide +kernel
theorem dX10_fireAt_9 : decode cX10_fireAt 9 = .ok (.if_icmp .ge 21, 3) := by decide +kernel
theorem dX10_fireAt_12 : decode cX10_fireAt 12 = .ok (.iload_n 1, 1) := by decide +kernel
theorem dX10_fireAt_13 : decode cX10_fireAt 13 = .ok (.aload_n 0, 1) := by decide +kernel
theorem dX10_fireAt_14 : decode cX10_fireAt 14 = .ok (.getfield 31, 3) := by decide +kernel
theorem dX10_fireAt_17 : decode cX10_fireAt 17 = .ok (.arraylength, 1) := by decide +kernel
theorem dX10_fireAt_18 : decode cX10_fireAt 18 = .ok (.if_icmp .ge 12, 3) := by decide +kernel
theorem dX10_fireAt_21 : decode cX10_fireAt 21 = .ok (.aload_n 0, 1) := by decide +kernel
theorem dX10_fireAt_22 : decode cX10_fireAt 22 = .ok (.getfield 31, 3) := by decide +kernel
theorem dX10_fireAt_25 : decode cX10_fireAt 25 = .ok (.iload_n 1, 1) := by decide +kernel
theorem dX10_fireAt_26 : decode cX10_fireAt 26 = .ok (.aaload, 1) := by decide +kernel
theorem dX10_fireAt_27 : decode cX10_fireAt 27 = .ok (.goto 4, 3) := by decide +kernel
theorem dX10_fireAt_30 : decode cX10_fireAt 30 = .ok (.aconst_null, 1) := by decide +kernel
theorem dX10_fireAt_31 : decode cX10_fireAt 31 = .ok (.areturn, 1) := by decide +kernel
theorem dX10_drawJudges_0 : decode cX10_drawJudges 0 = .ok (.iload_n 3, 1) := by decide +kernel
theorem dX10_drawJudges_1 : decode cX10_drawJudges 1 = .ok (.istore 4, 2) := by decide +kernel
theorem dX10_drawJudges_3 : decode cX10_drawJudges 3 = .ok (.iconst 0, 1) := by decide +kernel
theorem dX10_drawJudges_4 : decode cX10_drawJudges 4 = .ok (.istore 5, 2) := by decide +kernel
theorem dX10_drawJudges_6 : decode cX10_drawJudges 6 = .ok (.iload 5, 2) := by decide +kernel
theorem dX10_drawJudges_8 : decode cX10_drawJudges 8 = .ok (.iconst 3, 1) := by decide +kernel
theorem dX10_drawJudges_9 : decode cX10_drawJudges 9 = .ok (.if_icmp .ge 56, 3) := by decide +kernel
theorem dX10_drawJudges_12 : decode cX10_drawJudges 12 = .ok (.aload_n 0, 1) := by decide +kernel
theorem dX10_drawJudges_13 : decode cX10_drawJudges 13 = .ok (.aload_n 1, 1) := by decide +kernel
theorem dX10_drawJudges_14 : decode cX10_drawJudges 14 = .ok (.iload_n 2, 1) := by decide +kernel
theorem dX10_drawJudges_15 : decode cX10_drawJudges 15 = .ok (.invokevirtual 251, 3) := by decide +kernel
theorem dX10_drawJudges_18 : decode cX10_drawJudges 18 = .ok (.istore 6, 2) := by decide +kernel
theorem dX10_drawJudges_20 : decode cX10_drawJudges 20 = .ok (.iload 6, 2) := by decide +kernel
theorem dX10_drawJudges_22 : decode cX10_drawJudges 22 = .ok (.ifCond .gt 4, 3) := by decide +kernel
theorem dX10_drawJudges_25 : decode cX10_drawJudges 25 = .ok (.return_, 1) := by decide +kernel
theorem dX10_drawJudges_26 : decode cX10_drawJudges 26 = .ok (.ldc 255, 2) := by decide +kernel
theorem dX10_drawJudges_28 : decode cX10_drawJudges 28 = .ok (.iload 4, 2) := by decide +kernel
theorem dX10_drawJudges_30 : decode cX10_drawJudges 30 = .ok (.imul, 1) := by decide +kernel
theorem dX10_drawJudges_31 : decode cX10_drawJudges 31 = .ok (.sipush 12345, 3) := by decide +kernel
theorem dX10_drawJudges_34 : decode cX10_drawJudges 34 = .ok (.iadd, 1) := by decide +kernel
theorem dX10_drawJudges_35 : decode cX10_drawJudges 35 = .ok (.istore 4, 2) := by decide +kernel
theorem dX10_drawJudges_37 : decode cX10_drawJudges 37 = .ok (.aload_n 1, 1) := by decide +kernel
theorem dX10_drawJudges_38 : decode cX10_drawJudges 38 = .ok (.aload_n 0, 1) := by decide +kernel
theorem dX10_drawJudges_39 : decode cX10_drawJudges 39 = .ok (.aload_n 1, 1) := by decide +kernel
theorem dX10_drawJudges_40 : decode cX10_drawJudges 40 = .ok (.iload_n 2, 1) := by decide +kernel
theorem dX10_drawJudges_41 : decode cX10_drawJudges 41 = .ok (.iload 4, 2) := by decide +kernel
theorem dX10_drawJudges_43 : decode cX10_drawJudges 43 = .ok (.bipush 16, 2) := by decide +kernel
theorem dX10_drawJudges_45 : decode cX10_drawJudges 45 = .ok (.ishr, 1) := by decide +kernel
theorem dX10_drawJudges_46 : decode cX10_drawJudges 46 = .ok (.sipush 32767, 3) := by decide +kernel
theorem dX10_drawJudges_49 : decode cX10_drawJudges 49 = .ok (.iand, 1) := by decide +kernel
theorem dX10_drawJudges_50 : decode cX10_drawJudges 50 = .ok (.iload 6, 2) := by decide +kernel
theorem dX10_drawJudges_52 : decode cX10_drawJudges 52 = .ok (.irem, 1) := by decide +kernel
theorem dX10_drawJudges_53 : decode cX10_drawJudges 53 = .ok (.invokevirtual 256, 3) := by decide +kernel
theorem dX10_drawJudges_56 : decode cX10_drawJudges 56 = .ok (.invokevirtual 260, 3) := by decide +kernel
theorem dX10_drawJudges_59 : decode cX10_drawJudges 59 = .ok (.iinc 5 1, 3) := by decide +kernel
theorem dX10_drawJudges_62 : decode cX10_drawJudges 62 = .ok (.goto (-56), 3) := by decide +kernel
theorem dX10_drawJudges_65 : decode cX10_drawJudges 65 = .ok (.return_, 1) := by decide +kernel
theorem dX10_eligibleCount_0 : decode cX10_eligibleCount 0 = .ok (.iconst 0, 1) := by decide +kernel
theorem dX10_eligibleCount_1 : decode cX10_eligibleCount 1 = .ok (.istore_n 3, 1) := by decide +kernel
theorem dX10_eligibleCount_2 : decode cX10_eligibleCount 2 = .ok (.iconst 0, 1) := by decide +kernel
theorem dX10_eligibleCount_3 : decode cX10_eligibleCount 3 = .ok (.istore 4, 2) := by decide +kernel
theorem dX10_eligibleCount_5 : decode cX10_eligibleCount 5 = .ok (.iload 4, 2) := by decide +kernel
theorem dX10_eligibleCount_7 : decode cX10_eligibleCount 7 = .ok (.aload_n 0, 1) := by decide +kernel
theorem dX10_eligibleCount_8 : decode cX10_eligibleCount 8 = .ok (.getfield 113, 3) := by decide +kernel
theorem dX10_eligibleCount_11 : decode cX10_eligibleCount 11 = .ok (.if_icmp .ge 23, 3) := by decide +kernel
theorem dX10_eligibleCount_14 : decode cX10_eligibleCount 14 = .ok (.aload_n 0, 1) := by decide +kernel
theorem dX10_eligibleCount_15 : decode cX10_eligibleCount 15 = .ok (.iload 4, 2) := by decide +kernel
theorem dX10_eligibleCount_17 : decode cX10_eligibleCount 17 = .ok (.aload_n 1, 1) := by decide +kernel
theorem dX10_eligibleCount_18 : decode cX10_eligibleCount 18 = .ok (.iload_n 2, 1) := by decide +kernel
theorem dX10_eligibleCount_19 : decode cX10_eligibleCount 19 = .ok (.invokevirtual 263, 3) := by decide +kernel
theorem dX10_eligibleCount_22 : decode cX10_eligibleCount 22 = .ok (.ifCond .eq 6, 3) := by decide +kernel
theorem dX10_eligibleCount_25 : decode cX10_eligibleCount 25 = .ok (.iinc 3 1, 3) := by decide +kernel
theorem dX10_eligibleCount_28 : decode cX10_eligibleCount 28 = .ok (.iinc 4 1, 3) := by decide +kernel
theorem dX10_eligibleCount_31 : decode cX10_eligibleCount 31 = .ok (.goto (-26), 3) := by decide +kernel
theorem dX10_eligibleCount_34 : decode cX10_eligibleCount 34 = .ok (.iload_n 3, 1) := by decide +kernel
theorem dX10_eligibleCount_35 : decode cX10_eligibleCount 35 = .ok (.ireturn, 1) := by decide +kernel
theorem dX10_eligibleAt_0 : decode cX10_eligibleAt 0 = .ok (.iload_n 3, 1) := by decide +kernel
theorem dX10_eligibleAt_1 : decode cX10_eligibleAt 1 = .ok (.istore 4, 2) := by decide +kernel
theorem dX10_eligibleAt_3 : decode cX10_eligibleAt 3 = .ok (.iconst 0, 1) := by decide +kernel
theorem dX10_eligibleAt_4 : decode cX10_eligibleAt 4 = .ok (.istore 5, 2) := by decide +kernel
theorem dX10_eligibleAt_6 : decode cX10_eligibleAt 6 = .ok (.iload 5, 2) := by decide +kernel
theorem dX10_eligibleAt_8 : decode cX10_eligibleAt 8 = .ok (.aload_n 0, 1) := by decide +kernel
theorem dX10_eligibleAt_9 : decode cX10_eligibleAt 9 = .ok (.getfield 113, 3) := by decide +kernel
theorem dX10_eligibleAt_12 : decode cX10_eligibleAt 12 = .ok (.if_icmp .ge 31, 3) := by decide +kernel
theorem dX10_eligibleAt_15 : decode cX10_eligibleAt 15 = .ok (.aload_n 0, 1) := by decide +kernel
theorem dX10_eligibleAt_16 : decode cX10_eligibleAt 16 = .ok (.iload 5, 2) := by decide +kernel
theorem dX10_eligibleAt_18 : decode cX10_eligibleAt 18 = .ok (.aload_n 1, 1) := by decide +kernel
theorem dX10_eligibleAt_19 : decode cX10_eligibleAt 19 = .ok (.iload_n 2, 1) := by decide +kernel
theorem dX10_eligibleAt_20 : decode cX10_eligibleAt 20 = .ok (.invokevirtual 263, 3) := by decide +kernel
theorem dX10_eligibleAt_23 : decode cX10_eligibleAt 23 = .ok (.ifCond .eq 14, 3) := by decide +kernel
theorem dX10_eligibleAt_26 : decode cX10_eligibleAt 26 = .ok (.iload 4, 2) := by decide +kernel
theorem dX10_eligibleAt_28 : decode cX10_eligibleAt 28 = .ok (.ifCond .ne 6, 3) := by decide +kernel
theorem dX10_eligibleAt_31 : decode cX10_eligibleAt 31 = .ok (.iload 5, 2) := by decide +kernel
theorem dX10_eligibleAt_33 : decode cX10_eligibleAt 33 = .ok (.ireturn, 1) := by decide +kernel
theorem dX10_eligibleAt_34 : decode cX10_eligibleAt 34 = .ok (.iinc 4 (-1), 3) := by decide +kernel
theorem dX10_eligibleAt_37 : decode cX10_eligibleAt 37 = .ok (.iinc 5 1, 3) := by decide +kernel
theorem dX10_eligibleAt_40 : decode cX10_eligibleAt 40 = .ok (.goto (-34), 3) := by decide +kernel
theorem dX10_eligibleAt_43 : decode cX10_eligibleAt 43 = .ok (.iconst (-1), 1) := by decide +kernel
theorem dX10_eligibleAt_44 : decode cX10_eligibleAt 44 = .ok (.ireturn, 1) := by decide +kernel
theorem dX10_isEligible_0 : decode cX10_isEligible 0 = .ok (.aload_n 0, 1) := by decide +kernel
theorem dX10_isEligible_1 : decode cX10_isEligible 1 = .ok (.iload_n 1, 1) := by decide +kernel
theorem dX10_isEligible_2 : decode cX10_isEligible 2 = .ok (.invokevirtual 117, 3) := by decide +kernel
theorem dX10_isEligible_5 : decode cX10_isEligible 5 = .ok (.astore 4, 2) := by decide +kernel
theorem dX10_isEligible_7 : decode cX10_isEligible 7 = .ok (.aload 4, 2) := by decide +kernel
theorem dX10_isEligible_9 : decode cX10_isEligible 9 = .ok (.ifnull 24, 3) := by decide +kernel
theorem dX10_isEligible_12 : decode cX10_isEligible 12 = .ok (.aload 4, 2) := by decide +kernel
theorem dX10_isEligible_14 : decode cX10_isEligible 14 = .ok (.getfield 147, 3) := by decide +kernel
theorem dX10_isEligible_17 : decode cX10_isEligible 17 = .ok (.iload_n 3, 1) := by decide +kernel
theorem dX10_isEligible_18 : decode cX10_isEligible 18 = .ok (.if_icmp .eq 15, 3) := by decide +kernel
theorem dX10_isEligible_21 : decode cX10_isEligible 21 = .ok (.aload_n 2, 1) := by decide +kernel
theorem dX10_isEligible_22 : decode cX10_isEligible 22 = .ok (.iload_n 1, 1) := by decide +kernel
theorem dX10_isEligible_23 : decode cX10_isEligible 23 = .ok (.invokevirtual 267, 3) := by decide +kernel
theorem dX10_isEligible_26 : decode cX10_isEligible 26 = .ok (.ifCond .ne 7, 3) := by decide +kernel
theorem dX10_isEligible_29 : decode cX10_isEligible 29 = .ok (.iconst 1, 1) := by decide +kernel
theorem dX10_isEligible_30 : decode cX10_isEligible 30 = .ok (.goto 4, 3) := by decide +kernel
theorem dX10_isEligible_33 : decode cX10_isEligible 33 = .ok (.iconst 0, 1) := by decide +kernel
theorem dX10_isEligible_34 : decode cX10_isEligible 34 = .ok (.ireturn, 1) := by decide +kernel
theorem dX10_reckonParts_0 : decode cX10_reckonParts 0 = .ok (.aload_n 0, 1) := by decide +kernel
theorem dX10_reckonParts_1 : decode cX10_reckonParts 1 = .ok (.getfield 38, 3) := by decide +kernel
theorem dX10_reckonParts_4 : decode cX10_reckonParts 4 = .ok (.aload_n 0, 1) := by decide +kernel
theorem dX10_reckonParts_5 : decode cX10_reckonParts 5 = .ok (.aload_n 1, 1) := by decide +kernel
theorem dX10_reckonParts_6 : decode cX10_reckonParts 6 = .ok (.iload_n 2, 1) := by decide +kernel
theorem dX10_reckonParts_7 : decode cX10_reckonParts 7 = .ok (.invokevirtual 270, 3) := by decide +kernel
theorem dX10_reckonParts_10 : decode cX10_reckonParts 10 = .ok (.invokevirtual 274, 3) := by decide +kernel
theorem dX10_reckonParts_13 : decode cX10_reckonParts 13 = .ok (.aload_n 0, 1) := by decide +kernel
theorem dX10_reckonParts_14 : decode cX10_reckonParts 14 = .ok (.getfield 38, 3) := by decide +kernel
theorem dX10_reckonParts_17 : decode cX10_reckonParts 17 = .ok (.iconst 1, 1) := by decide +kernel
theorem dX10_reckonParts_18 : decode cX10_reckonParts 18 = .ok (.aload_n 0, 1) := by decide +kernel
theorem dX10_reckonParts_19 : decode cX10_reckonParts 19 = .ok (.getfield 19, 3) := by decide +kernel
theorem dX10_reckonParts_22 : decode cX10_reckonParts 22 = .ok (.bipush 15, 2) := by decide +kernel
theorem dX10_reckonParts_24 : decode cX10_reckonParts 24 = .ok (.aload_n 1, 1) := by decide +kernel
theorem dX10_reckonParts_25 : decode cX10_reckonParts 25 = .ok (.getfield 193, 3) := by decide +kernel
theorem dX10_reckonParts_28 : decode cX10_reckonParts 28 = .ok (.iload_n 2, 1) := by decide +kernel
theorem dX10_reckonParts_29 : decode cX10_reckonParts 29 = .ok (.invokevirtual 138, 3) := by decide +kernel
theorem dX10_reckonParts_32 : decode cX10_reckonParts 32 = .ok (.i2l, 1) := by decide +kernel
theorem dX10_reckonParts_33 : decode cX10_reckonParts 33 = .ok (.invokevirtual 278, 3) := by decide +kernel
theorem dX10_reckonParts_36 : decode cX10_reckonParts 36 = .ok (.iconst 0, 1) := by decide +kernel
theorem dX10_reckonParts_37 : decode cX10_reckonParts 37 = .ok (.istore_n 3, 1) := by decide +kernel
theorem dX10_reckonParts_38 : decode cX10_reckonParts 38 = .ok (.iload_n 3, 1) := by decide +kernel
theorem dX10_reckonParts_39 : decode cX10_reckonParts 39 = .ok (.iconst 3, 1) := by decide +kernel
theorem dX10_reckonParts_40 : decode cX10_reckonParts 40 = .ok (.if_icmp .ge 48, 3) := by decide +kernel
theorem dX10_reckonParts_43 : decode cX10_reckonParts 43 = .ok (.aload_n 1, 1) := by decide +kernel
theorem dX10_reckonParts_44 : decode cX10_reckonParts 44 = .ok (.getfield 154, 3) := by decide +kernel
theorem dX10_reckonParts_47 : decode cX10_reckonParts 47 = .ok (.iload_n 3, 1) := by decide +kernel
theorem dX10_reckonParts_48 : decode cX10_reckonParts 48 = .ok (.iadd, 1) := by decide +kernel
theorem dX10_reckonParts_49 : decode cX10_reckonParts 49 = .ok (.iconst 3, 1) := by decide +kernel
theorem dX10_reckonParts_50 : decode cX10_reckonParts 50 = .ok (.irem, 1) := by decide +kernel
theorem dX10_reckonParts_51 : decode cX10_reckonParts 51 = .ok (.istore 4, 2) := by decide +kernel
theorem dX10_reckonParts_53 : decode cX10_reckonParts 53 = .ok (.aload_n 0, 1) := by decide +kernel
theorem dX10_reckonParts_54 : decode cX10_reckonParts 54 = .ok (.getfield 38, 3) := by decide +kernel
theorem dX10_reckonParts_57 : decode cX10_reckonParts 57 = .ok (.iconst 2, 1) := by decide +kernel
theorem dX10_reckonParts_58 : decode cX10_reckonParts 58 = .ok (.iload 4, 2) := by decide +kernel
theorem dX10_reckonParts_60 : decode cX10_reckonParts 60 = .ok (.iadd, 1) := by decide +kernel
theorem dX10_reckonParts_61 : decode cX10_reckonParts 61 = .ok (.aload_n 0, 1) := by decide +kernel
theorem dX10_reckonParts_62 : decode cX10_reckonParts 62 = .ok (.getfield 19, 3) := by decide +kernel
theorem dX10_reckonParts_65 : decode cX10_reckonParts 65 = .ok (.bipush 16, 2) := by decide +kernel
theorem dX10_reckonParts_67 : decode cX10_reckonParts 67 = .ok (.iload 4, 2) := by decide +kernel
theorem dX10_reckonParts_69 : decode cX10_reckonParts 69 = .ok (.iadd, 1) := by decide +kernel
theorem dX10_reckonParts_70 : decode cX10_reckonParts 70 = .ok (.aload_n 1, 1) := by decide +kernel
theorem dX10_reckonParts_71 : decode cX10_reckonParts 71 = .ok (.getfield 193, 3) := by decide +kernel
theorem dX10_reckonParts_74 : decode cX10_reckonParts 74 = .ok (.iload_n 2, 1) := by decide +kernel
theorem dX10_reckonParts_75 : decode cX10_reckonParts 75 = .ok (.invokevirtual 138, 3) := by decide +kernel
theorem dX10_reckonParts_78 : decode cX10_reckonParts 78 = .ok (.i2l, 1) := by decide +kernel
theorem dX10_reckonParts_79 : decode cX10_reckonParts 79 = .ok (.invokevirtual 278, 3) := by decide +kernel
theorem dX10_reckonParts_82 : decode cX10_reckonParts 82 = .ok (.iinc 3 1, 3) := by decide +kernel
theorem dX10_reckonParts_85 : decode cX10_reckonParts 85 = .ok (.goto (-47), 3) := by decide +kernel
theorem dX10_reckonParts_88 : decode cX10_reckonParts 88 = .ok (.return_, 1) := by decide +kernel
theorem dX10_reckonAward_0 : decode cX10_reckonAward 0 = .ok (.aload_n 0, 1) := by decide +kernel
theorem dX10_reckonAward_1 : decode cX10_reckonAward 1 = .ok (.aload_n 1, 1) := by decide +kernel
theorem dX10_reckonAward_2 : decode cX10_reckonAward 2 = .ok (.getfield 190, 3) := by decide +kernel
theorem dX10_reckonAward_5 : decode cX10_reckonAward 5 = .ok (.invokevirtual 117, 3) := by decide +kernel
theorem dX10_reckonAward_8 : decode cX10_reckonAward 8 = .ok (.astore_n 3, 1) := by decide +kernel
theorem dX10_reckonAward_9 : decode cX10_reckonAward 9 = .ok (.aload_n 3, 1) := by decide +kernel
theorem dX10_reckonAward_10 : decode cX10_reckonAward 10 = .ok (.ifnonnull 5, 3) := by decide +kernel
theorem dX10_reckonAward_13 : decode cX10_reckonAward 13 = .ok (.lconst 0, 1) := by decide +kernel
theorem dX10_reckonAward_14 : decode cX10_reckonAward 14 = .ok (.lreturn, 1) := by decide +kernel
theorem dX10_reckonAward_15 : decode cX10_reckonAward 15 = .ok (.lconst 0, 1) := by decide +kernel
theorem dX10_reckonAward_16 : decode cX10_reckonAward 16 = .ok (.lstore 4, 2) := by decide +kernel
theorem dX10_reckonAward_18 : decode cX10_reckonAward 18 = .ok (.iconst 0, 1) := by decide +kernel
theorem dX10_reckonAward_19 : decode cX10_reckonAward 19 = .ok (.istore 6, 2) := by decide +kernel
theorem dX10_reckonAward_21 : decode cX10_reckonAward 21 = .ok (.iload 6, 2) := by decide +kernel
theorem dX10_reckonAward_23 : decode cX10_reckonAward 23 = .ok (.iconst 4, 1) := by decide +kernel
theorem dX10_reckonAward_24 : decode cX10_reckonAward 24 = .ok (.if_icmp .ge 44, 3) := by decide +kernel
theorem dX10_reckonAward_27 : decode cX10_reckonAward 27 = .ok (.aload_n 0, 1) := by decide +kernel
theorem dX10_reckonAward_28 : decode cX10_reckonAward 28 = .ok (.getfield 19, 3) := by decide +kernel
theorem dX10_reckonAward_31 : decode cX10_reckonAward 31 = .ok (.bipush 8, 2) := by decide +kernel
theorem dX10_reckonAward_33 : decode cX10_reckonAward 33 = .ok (.iload 6, 2) := by decide +kernel
theorem dX10_reckonAward_35 : decode cX10_reckonAward 35 = .ok (.iadd, 1) := by decide +kernel
theorem dX10_reckonAward_36 : decode cX10_reckonAward 36 = .ok (.aload_n 1, 1) := by decide +kernel
theorem dX10_reckonAward_37 : decode cX10_reckonAward 37 = .ok (.getfield 193, 3) := by decide +kernel
theorem dX10_reckonAward_40 : decode cX10_reckonAward 40 = .ok (.iload_n 2, 1) := by decide +kernel
theorem dX10_reckonAward_41 : decode cX10_reckonAward 41 = .ok (.invokevirtual 138, 3) := by decide +kernel
theorem dX10_reckonAward_44 : decode cX10_reckonAward 44 = .ok (.iconst 1, 1) := by decide +kernel
theorem dX10_reckonAward_45 : decode cX10_reckonAward 45 = .ok (.if_icmp .ne 17, 3) := by decide +kernel
theorem dX10_reckonAward_48 : decode cX10_reckonAward 48 = .ok (.lload 4, 2) := by decide +kernel
theorem dX10_reckonAward_50 : decode cX10_reckonAward 50 = .ok (.aload_n 0, 1) := by decide +kernel
theorem dX10_reckonAward_51 : decode cX10_reckonAward 51 = .ok (.aload_n 3, 1) := by decide +kernel
theorem dX10_reckonAward_52 : decode cX10_reckonAward 52 = .ok (.aload_n 1, 1) := by decide +kernel
theorem dX10_reckonAward_53 : decode cX10_reckonAward 53 = .ok (.iload 6, 2) := by decide +kernel
theorem dX10_reckonAward_55 : decode cX10_reckonAward 55 = .ok (.iload_n 2, 1) := by decide +kernel
theorem dX10_reckonAward_56 : decode cX10_reckonAward 56 = .ok (.invokevirtual 282, 3) := by decide +kernel
theorem dX10_reckonAward_59 : decode cX10_reckonAward 59 = .ok (.ladd, 1) := by decide +kernel
theorem dX10_reckonAward_60 : decode cX10_reckonAward 60 = .ok (.lstore 4, 2) := by decide +kernel
theorem dX10_reckonAward_62 : decode cX10_reckonAward 62 = .ok (.iinc 6 1, 3) := by decide +kernel
theorem dX10_reckonAward_65 : decode cX10_reckonAward 65 = .ok (.goto (-44), 3) := by decide +kernel
theorem dX10_reckonAward_68 : decode cX10_reckonAward 68 = .ok (.aload_n 3, 1) := by decide +kernel
theorem dX10_reckonAward_69 : decode cX10_reckonAward 69 = .ok (.bipush 8, 2) := by decide +kernel
theorem dX10_reckonAward_71 : decode cX10_reckonAward 71 = .ok (.aload_n 1, 1) := by decide +kernel
theorem dX10_reckonAward_72 : decode cX10_reckonAward 72 = .ok (.getfield 193, 3) := by decide +kernel
theorem dX10_reckonAward_75 : decode cX10_reckonAward 75 = .ok (.iload_n 2, 1) := by decide +kernel
theorem dX10_reckonAward_76 : decode cX10_reckonAward 76 = .ok (.invokevirtual 134, 3) := by decide +kernel
theorem dX10_reckonAward_79 : decode cX10_reckonAward 79 = .ok (.aload_n 0, 1) := by decide +kernel
theorem dX10_reckonAward_80 : decode cX10_reckonAward 80 = .ok (.getfield 19, 3) := by decide +kernel
theorem dX10_reckonAward_83 : decode cX10_reckonAward 83 = .ok (.bipush 12, 2) := by decide +kernel
theorem dX10_reckonAward_85 : decode cX10_reckonAward 85 = .ok (.aload_n 1, 1) := by decide +kernel
theorem dX10_reckonAward_86 : decode cX10_reckonAward 86 = .ok (.getfield 193, 3) := by decide +kernel
theorem dX10_reckonAward_89 : decode cX10_reckonAward 89 = .ok (.iload_n 2, 1) := by decide +kernel
theorem dX10_reckonAward_90 : decode cX10_reckonAward 90 = .ok (.invokevirtual 138, 3) := by decide +kernel
theorem dX10_reckonAward_93 : decode cX10_reckonAward 93 = .ok (.if_icmp .ge 25, 3) := by decide +kernel
theorem dX10_reckonAward_96 : decode cX10_reckonAward 96 = .ok (.lload 4, 2) := by decide +kernel
theorem dX10_reckonAward_98 : decode cX10_reckonAward 98 = .ok (.aload_n 0, 1) := by decide +kernel
theorem dX10_reckonAward_99 : decode cX10_reckonAward 99 = .ok (.getfield 19, 3) := by decide +kernel
theorem dX10_reckonAward_102 : decode cX10_reckonAward 102 = .ok (.bipush 13, 2) := by decide +kernel
theorem dX10_reckonAward_104 : decode cX10_reckonAward 104 = .ok (.aload_n 1, 1) := by decide +kernel
theorem dX10_reckonAward_105 : decode cX10_reckonAward 105 = .ok (.getfield 193, 3) := by decide +kernel
theorem dX10_reckonAward_108 : decode cX10_reckonAward 108 = .ok (.iload_n 2, 1) := by decide +kernel
theorem dX10_reckonAward_109 : decode cX10_reckonAward 109 = .ok (.invokevirtual 138, 3) := by decide +kernel
theorem dX10_reckonAward_112 : decode cX10_reckonAward 112 = .ok (.i2l, 1) := by decide +kernel
theorem dX10_reckonAward_113 : decode cX10_reckonAward 113 = .ok (.invokestatic 286, 3) := by decide +kernel
theorem dX10_reckonAward_116 : decode cX10_reckonAward 116 = .ok (.lstore 4, 2) := by decide +kernel
theorem dX10_reckonAward_118 : decode cX10_reckonAward 118 = .ok (.lload 4, 2) := by decide +kernel
theorem dX10_reckonAward_120 : decode cX10_reckonAward 120 = .ok (.aload_n 0, 1) := by decide +kernel
theorem dX10_reckonAward_121 : decode cX10_reckonAward 121 = .ok (.getfield 19, 3) := by decide +kernel
theorem dX10_reckonAward_124 : decode cX10_reckonAward 124 = .ok (.bipush 14, 2) := by decide +kernel
theorem dX10_reckonAward_126 : decode cX10_reckonAward 126 = .ok (.aload_n 1, 1) := by decide +kernel
theorem dX10_reckonAward_127 : decode cX10_reckonAward 127 = .ok (.getfield 193, 3) := by decide +kernel
theorem dX10_reckonAward_130 : decode cX10_reckonAward 130 = .ok (.iload_n 2, 1) := by decide +kernel
theorem dX10_reckonAward_131 : decode cX10_reckonAward 131 = .ok (.invokevirtual 138, 3) := by decide +kernel
theorem dX10_reckonAward_134 : decode cX10_reckonAward 134 = .ok (.i2l, 1) := by decide +kernel
theorem dX10_reckonAward_135 : decode cX10_reckonAward 135 = .ok (.invokestatic 286, 3) := by decide +kernel
theorem dX10_reckonAward_138 : decode cX10_reckonAward 138 = .ok (.lreturn, 1) := by decide +kernel
theorem dX10_damage_0 : decode cX10_damage 0 = .ok (.aload_n 1, 1) := by decide +kernel
theorem dX10_damage_1 : decode cX10_damage 1 = .ok (.iload_n 3, 1) := by decide +kernel
theorem dX10_damage_2 : decode cX10_damage 2 = .ok (.aload_n 2, 1) := by decide +kernel
theorem dX10_damage_3 : decode cX10_damage 3 = .ok (.getfield 193, 3) := by decide +kernel
theorem dX10_damage_6 : decode cX10_damage 6 = .ok (.iload 4, 2) := by decide +kernel
theorem dX10_damage_8 : decode cX10_damage 8 = .ok (.invokevirtual 134, 3) := by decide +kernel
theorem dX10_damage_11 : decode cX10_damage 11 = .ok (.i2l, 1) := by decide +kernel
theorem dX10_damage_12 : decode cX10_damage 12 = .ok (.lstore 5, 2) := by decide +kernel
theorem dX10_damage_14 : decode cX10_damage 14 = .ok (.lload 5, 2) := by decide +kernel
theorem dX10_damage_16 : decode cX10_damage 16 = .ok (.aload_n 1, 1) := by decide +kernel
theorem dX10_damage_17 : decode cX10_damage 17 = .ok (.iconst 4, 1) := by decide +kernel
theorem dX10_damage_18 : decode cX10_damage 18 = .ok (.iload_n 3, 1) := by decide +kernel
theorem dX10_damage_19 : decode cX10_damage 19 = .ok (.iadd, 1) := by decide +kernel
theorem dX10_damage_20 : decode cX10_damage 20 = .ok (.aload_n 2, 1) := by decide +kernel
theorem dX10_damage_21 : decode cX10_damage 21 = .ok (.getfield 193, 3) := by decide +kernel
theorem dX10_damage_24 : decode cX10_damage 24 = .ok (.iload 4, 2) := by decide +kernel
theorem dX10_damage_26 : decode cX10_damage 26 = .ok (.invokevirtual 134, 3) := by decide +kernel
theorem dX10_damage_29 : decode cX10_damage 29 = .ok (.i2l, 1) := by decide +kernel
theorem dX10_damage_30 : decode cX10_damage 30 = .ok (.ladd, 1) := by decide +kernel
theorem dX10_damage_31 : decode cX10_damage 31 = .ok (.lstore 7, 2) := by decide +kernel
theorem dX10_damage_33 : decode cX10_damage 33 = .ok (.lload 7, 2) := by decide +kernel
theorem dX10_damage_35 : decode cX10_damage 35 = .ok (.lconst 0, 1) := by decide +kernel
theorem dX10_damage_36 : decode cX10_damage 36 = .ok (.lcmp, 1) := by decide +kernel
theorem dX10_damage_37 : decode cX10_damage 37 = .ok (.ifCond .gt 5, 3) := by decide +kernel
theorem dX10_damage_40 : decode cX10_damage 40 = .ok (.lconst 0, 1) := by decide +kernel
theorem dX10_damage_41 : decode cX10_damage 41 = .ok (.lreturn, 1) := by decide +kernel
theorem dX10_damage_42 : decode cX10_damage 42 = .ok (.aload_n 0, 1) := by decide +kernel
theorem dX10_damage_43 : decode cX10_damage 43 = .ok (.getfield 19, 3) := by decide +kernel
theorem dX10_damage_46 : decode cX10_damage 46 = .ok (.iconst 4, 1) := by decide +kernel
theorem dX10_damage_47 : decode cX10_damage 47 = .ok (.iload_n 3, 1) := by decide +kernel
theorem dX10_damage_48 : decode cX10_damage 48 = .ok (.iadd, 1) := by decide +kernel
theorem dX10_damage_49 : decode cX10_damage 49 = .ok (.aload_n 2, 1) := by decide +kernel
theorem dX10_damage_50 : decode cX10_damage 50 = .ok (.getfield 193, 3) := by decide +kernel
theorem dX10_damage_53 : decode cX10_damage 53 = .ok (.iload 4, 2) := by decide +kernel
theorem dX10_damage_55 : decode cX10_damage 55 = .ok (.invokevirtual 138, 3) := by decide +kernel
theorem dX10_damage_58 : decode cX10_damage 58 = .ok (.i2l, 1) := by decide +kernel
theorem dX10_damage_59 : decode cX10_damage 59 = .ok (.lstore 9, 2) := by decide +kernel
theorem dX10_damage_61 : decode cX10_damage 61 = .ok (.lload 5, 2) := by decide +kernel
theorem dX10_damage_63 : decode cX10_damage 63 = .ok (.lload 9, 2) := by decide +kernel
theorem dX10_damage_65 : decode cX10_damage 65 = .ok (.lmul, 1) := by decide +kernel
theorem dX10_damage_66 : decode cX10_damage 66 = .ok (.aload_n 2, 1) := by decide +kernel
theorem dX10_damage_67 : decode cX10_damage 67 = .ok (.iload_n 3, 1) := by decide +kernel
theorem dX10_damage_68 : decode cX10_damage 68 = .ok (.invokevirtual 199, 3) := by decide +kernel
theorem dX10_damage_71 : decode cX10_damage 71 = .ok (.i2l, 1) := by decide +kernel
theorem dX10_damage_72 : decode cX10_damage 72 = .ok (.lmul, 1) := by decide +kernel
theorem dX10_damage_73 : decode cX10_damage 73 = .ok (.ldc2_w 290, 3) := by decide +kernel
theorem dX10_damage_76 : decode cX10_damage 76 = .ok (.ldiv, 1) := by decide +kernel
theorem dX10_damage_77 : decode cX10_damage 77 = .ok (.lstore 11, 2) := by decide +kernel
theorem dX10_damage_79 : decode cX10_damage 79 = .ok (.lload 11, 2) := by decide +kernel
theorem dX10_damage_81 : decode cX10_damage 81 = .ok (.lload 5, 2) := by decide +kernel
theorem dX10_damage_83 : decode cX10_damage 83 = .ok (.lmul, 1) := by decide +kernel
theorem dX10_damage_84 : decode cX10_damage 84 = .ok (.lload 7, 2) := by decide +kernel
theorem dX10_damage_86 : decode cX10_damage 86 = .ok (.ldiv, 1) := by decide +kernel
theorem dX10_damage_87 : decode cX10_damage 87 = .ok (.lreturn, 1) := by decide +kernel
theorem dX10_withoutHundredths_0 : decode cX10_withoutHundredths 0 = .ok (.lload_n 0, 1) := by decide +kernel
theorem dX10_withoutHundredths_1 : decode cX10_withoutHundredths 1 = .ok (.lload_n 0, 1) := by decide +kernel
theorem dX10_withoutHundredths_2 : decode cX10_withoutHundredths 2 = .ok (.lload_n 2, 1) := by decide +kernel
theorem dX10_withoutHundredths_3 : decode cX10_withoutHundredths 3 = .ok (.lmul, 1) := by decide +kernel
theorem dX10_withoutHundredths_4 : decode cX10_withoutHundredths 4 = .ok (.ldc2_w 292, 3) := by decide +kernel
theorem dX10_withoutHundredths_7 : decode cX10_withoutHundredths 7 = .ok (.ladd, 1) := by decide +kernel
theorem dX10_withoutHundredths_8 : decode cX10_withoutHundredths 8 = .ok (.lconst 1, 1) := by decide +kernel
theorem dX10_withoutHundredths_9 : decode cX10_withoutHundredths 9 = .ok (.lsub, 1) := by decide +kernel
theorem dX10_withoutHundredths_10 : decode cX10_withoutHundredths 10 = .ok (.ldc2_w 292, 3) := by decide +kernel
theorem dX10_withoutHundredths_13 : decode cX10_withoutHundredths 13 = .ok (.ldiv, 1) := by decide +kernel
theorem dX10_withoutHundredths_14 : decode cX10_withoutHundredths 14 = .ok (.lsub, 1) := by decide +kernel
theorem dX10_withoutHundredths_15 : decode cX10_withoutHundredths 15 = .ok (.lreturn, 1) := by decide +kernel
theorem dX10_reckonCalls_0 : decode cX10_reckonCalls 0 = .ok (.aload_n 0, 1) := by decide +kernel
theorem dX10_reckonCalls_1 : decode cX10_reckonCalls 1 = .ok (.getfield 45, 3) := by decide +kernel
theorem dX10_reckonCalls_4 : decode cX10_reckonCalls 4 = .ok (.invokevirtual 294, 3) := by decide +kernel
theorem dX10_reckonCalls_7 : decode cX10_reckonCalls 7 = .ok (.iconst 0, 1) := by decide +kernel
theorem dX10_reckonCalls_8 : decode cX10_reckonCalls 8 = .ok (.istore_n 3, 1) := by decide +kernel
theorem dX10_reckonCalls_9 : decode cX10_reckonCalls 9 = .ok (.iload_n 3, 1) := by decide +kernel
theorem dX10_reckonCalls_10 : decode cX10_reckonCalls 10 = .ok (.iconst 4, 1) := by decide +kernel
theorem dX10_reckonCalls_11 : decode cX10_reckonCalls 11 = .ok (.if_icmp .ge 94, 3) := by decide +kernel
theorem dX10_reckonCalls_14 : decode cX10_reckonCalls 14 = .ok (.aload_n 0, 1) := by decide +kernel
theorem dX10_reckonCalls_15 : decode cX10_reckonCalls 15 = .ok (.getfield 19, 3) := by decide +kernel
theorem dX10_reckonCalls_18 : decode cX10_reckonCalls 18 = .ok (.iconst 0, 1) := by decide +kernel
theorem dX10_reckonCalls_19 : decode cX10_reckonCalls 19 = .ok (.iload_n 3, 1) := by decide +kernel
theorem dX10_reckonCalls_20 : decode cX10_reckonCalls 20 = .ok (.iadd, 1) := by decide +kernel
theorem dX10_reckonCalls_21 : decode cX10_reckonCalls 21 = .ok (.aload_n 1, 1) := by decide +kernel
theorem dX10_reckonCalls_22 : decode cX10_reckonCalls 22 = .ok (.getfield 193, 3) := by decide +kernel
theorem dX10_reckonCalls_25 : decode cX10_reckonCalls 25 = .ok (.iload_n 2, 1) := by decide +kernel
theorem dX10_reckonCalls_26 : decode cX10_reckonCalls 26 = .ok (.invokevirtual 138, 3) := by decide +kernel
theorem dX10_reckonCalls_29 : decode cX10_reckonCalls 29 = .ok (.i2l, 1) := by decide +kernel
theorem dX10_reckonCalls_30 : decode cX10_reckonCalls 30 = .ok (.lstore 4, 2) := by decide +kernel
theorem dX10_reckonCalls_32 : decode cX10_reckonCalls 32 = .ok (.iconst 0, 1) := by decide +kernel
theorem dX10_reckonCalls_33 : decode cX10_reckonCalls 33 = .ok (.istore 6, 2) := by decide +kernel
theorem dX10_reckonCalls_35 : decode cX10_reckonCalls 35 = .ok (.iload 6, 2) := by decide +kernel
theorem dX10_reckonCalls_37 : decode cX10_reckonCalls 37 = .ok (.aload_n 0, 1) := by decide +kernel
theorem dX10_reckonCalls_38 : decode cX10_reckonCalls 38 = .ok (.getfield 113, 3) := by decide +kernel
theorem dX10_reckonCalls_41 : decode cX10_reckonCalls 41 = .ok (.if_icmp .ge 58, 3) := by decide +kernel
theorem dX10_reckonCalls_44 : decode cX10_reckonCalls 44 = .ok (.aload_n 0, 1) := by decide +kernel
theorem dX10_reckonCalls_45 : decode cX10_reckonCalls 45 = .ok (.iload 6, 2) := by decide +kernel
theorem dX10_reckonCalls_47 : decode cX10_reckonCalls 47 = .ok (.invokevirtual 117, 3) := by decide +kernel
theorem dX10_reckonCalls_50 : decode cX10_reckonCalls 50 = .ok (.astore 7, 2) := by decide +kernel
theorem dX10_reckonCalls_52 : decode cX10_reckonCalls 52 = .ok (.aload 7, 2) := by decide +kernel
theorem dX10_reckonCalls_54 : decode cX10_reckonCalls 54 = .ok (.ifnull 39, 3) := by decide +kernel
theorem dX10_reckonCalls_57 : decode cX10_reckonCalls 57 = .ok (.aload 7, 2) := by decide +kernel
theorem dX10_reckonCalls_59 : decode cX10_reckonCalls 59 = .ok (.getfield 296, 3) := by decide +kernel
theorem dX10_reckonCalls_62 : decode cX10_reckonCalls 62 = .ok (.aload_n 1, 1) := by decide +kernel
theorem dX10_reckonCalls_63 : decode cX10_reckonCalls 63 = .ok (.getfield 193, 3) := by decide +kernel
theorem dX10_reckonCalls_66 : decode cX10_reckonCalls 66 = .ok (.if_icmp .gt 27, 3) := by decide +kernel
theorem dX10_reckonCalls_69 : decode cX10_reckonCalls 69 = .ok (.aload_n 0, 1) := by decide +kernel
theorem dX10_reckonCalls_70 : decode cX10_reckonCalls 70 = .ok (.getfield 45, 3) := by decide +kernel
theorem dX10_reckonCalls_73 : decode cX10_reckonCalls 73 = .ok (.iload 6, 2) := by decide +kernel
theorem dX10_reckonCalls_75 : decode cX10_reckonCalls 75 = .ok (.lload 4, 2) := by decide +kernel
theorem dX10_reckonCalls_77 : decode cX10_reckonCalls 77 = .ok (.aload 7, 2) := by decide +kernel
theorem dX10_reckonCalls_79 : decode cX10_reckonCalls 79 = .ok (.iload_n 3, 1) := by decide +kernel
theorem dX10_reckonCalls_80 : decode cX10_reckonCalls 80 = .ok (.aload_n 1, 1) := by decide +kernel
theorem dX10_reckonCalls_81 : decode cX10_reckonCalls 81 = .ok (.getfield 193, 3) := by decide +kernel
theorem dX10_reckonCalls_84 : decode cX10_reckonCalls 84 = .ok (.iload_n 2, 1) := by decide +kernel
theorem dX10_reckonCalls_85 : decode cX10_reckonCalls 85 = .ok (.invokevirtual 134, 3) := by decide +kernel
theorem dX10_reckonCalls_88 : decode cX10_reckonCalls 88 = .ok (.i2l, 1) := by decide +kernel
theorem dX10_reckonCalls_89 : decode cX10_reckonCalls 89 = .ok (.lmul, 1) := by decide +kernel
theorem dX10_reckonCalls_90 : decode cX10_reckonCalls 90 = .ok (.invokevirtual 299, 3) := by decide +kernel
theorem dX10_reckonCalls_93 : decode cX10_reckonCalls 93 = .ok (.iinc 6 1, 3) := by decide +kernel
theorem dX10_reckonCalls_96 : decode cX10_reckonCalls 96 = .ok (.goto (-61), 3) := by decide +kernel
theorem dX10_reckonCalls_99 : decode cX10_reckonCalls 99 = .ok (.iinc 3 1, 3) := by decide +kernel
theorem dX10_reckonCalls_102 : decode cX10_reckonCalls 102 = .ok (.goto (-93), 3) := by decide +kernel
theorem dX10_reckonCalls_105 : decode cX10_reckonCalls 105 = .ok (.aload_n 0, 1) := by decide +kernel
theorem dX10_reckonCalls_106 : decode cX10_reckonCalls 106 = .ok (.getfield 45, 3) := by decide +kernel
theorem dX10_reckonCalls_109 : decode cX10_reckonCalls 109 = .ok (.aload_n 0, 1) := by decide +kernel
theorem dX10_reckonCalls_110 : decode cX10_reckonCalls 110 = .ok (.getfield 38, 3) := by decide +kernel
theorem dX10_reckonCalls_113 : decode cX10_reckonCalls 113 = .ok (.iconst 5, 1) := by decide +kernel
theorem dX10_reckonCalls_114 : decode cX10_reckonCalls 114 = .ok (.invokevirtual 214, 3) := by decide +kernel
theorem dX10_reckonCalls_117 : decode cX10_reckonCalls 117 = .ok (.invokevirtual 302, 3) := by decide +kernel
theorem dX10_reckonCalls_120 : decode cX10_reckonCalls 120 = .ok (.return_, 1) := by decide +kernel
theorem dX10_bookFire_0 : decode cX10_bookFire 0 = .ok (.iconst 0, 1) := by decide +kernel
theorem dX10_bookFire_1 : decode cX10_bookFire 1 = .ok (.istore_n 2, 1) := by decide +kernel
theorem dX10_bookFire_2 : decode cX10_bookFire 2 = .ok (.iload_n 2, 1) := by decide +kernel
theorem dX10_bookFire_3 : decode cX10_bookFire 3 = .ok (.aload_n 0, 1) := by decide +kernel
theorem dX10_bookFire_4 : decode cX10_bookFire 4 = .ok (.getfield 113, 3) := by decide +kernel
theorem dX10_bookFire_7 : decode cX10_bookFire 7 = .ok (.if_icmp .ge 59, 3) := by decide +kernel
theorem dX10_bookFire_10 : decode cX10_bookFire 10 = .ok (.aload_n 0, 1) := by decide +kernel
theorem dX10_bookFire_11 : decode cX10_bookFire 11 = .ok (.iload_n 2, 1) := by decide +kernel
theorem dX10_bookFire_12 : decode cX10_bookFire 12 = .ok (.invokevirtual 117, 3) := by decide +kernel
theorem dX10_bookFire_15 : decode cX10_bookFire 15 = .ok (.astore_n 3, 1) := by decide +kernel
theorem dX10_bookFire_16 : decode cX10_bookFire 16 = .ok (.aload_n 3, 1) := by decide +kernel
theorem dX10_bookFire_17 : decode cX10_bookFire 17 = .ok (.ifnull 43, 3) := by decide +kernel
theorem dX10_bookFire_20 : decode cX10_bookFire 20 = .ok (.iload_n 2, 1) := by decide +kernel
theorem dX10_bookFire_21 : decode cX10_bookFire 21 = .ok (.aload_n 1, 1) := by decide +kernel
theorem dX10_bookFire_22 : decode cX10_bookFire 22 = .ok (.getfield 190, 3) := by decide +kernel
theorem dX10_bookFire_25 : decode cX10_bookFire 25 = .ok (.if_icmp .ne 14, 3) := by decide +kernel
theorem dX10_bookFire_28 : decode cX10_bookFire 28 = .ok (.aload_n 0, 1) := by decide +kernel
theorem dX10_bookFire_29 : decode cX10_bookFire 29 = .ok (.getfield 38, 3) := by decide +kernel
theorem dX10_bookFire_32 : decode cX10_bookFire 32 = .ok (.iconst 0, 1) := by decide +kernel
theorem dX10_bookFire_33 : decode cX10_bookFire 33 = .ok (.invokevirtual 214, 3) := by decide +kernel
theorem dX10_bookFire_36 : decode cX10_bookFire 36 = .ok (.goto 4, 3) := by decide +kernel
theorem dX10_bookFire_39 : decode cX10_bookFire 39 = .ok (.lconst 0, 1) := by decide +kernel
theorem dX10_bookFire_40 : decode cX10_bookFire 40 = .ok (.aload_n 0, 1) := by decide +kernel
theorem dX10_bookFire_41 : decode cX10_bookFire 41 = .ok (.getfield 45, 3) := by decide +kernel
theorem dX10_bookFire_44 : decode cX10_bookFire 44 = .ok (.iload_n 2, 1) := by decide +kernel
theorem dX10_bookFire_45 : decode cX10_bookFire 45 = .ok (.invokevirtual 221, 3) := by decide +kernel
theorem dX10_bookFire_48 : decode cX10_bookFire 48 = .ok (.lsub, 1) := by decide +kernel
theorem dX10_bookFire_49 : decode cX10_bookFire 49 = .ok (.lstore 4, 2) := by decide +kernel
theorem dX10_bookFire_51 : decode cX10_bookFire 51 = .ok (.aload_n 0, 1) := by decide +kernel
theorem dX10_bookFire_52 : decode cX10_bookFire 52 = .ok (.aload_n 1, 1) := by decide +kernel
theorem dX10_bookFire_53 : decode cX10_bookFire 53 = .ok (.iload_n 2, 1) := by decide +kernel
theorem dX10_bookFire_54 : decode cX10_bookFire 54 = .ok (.aload_n 3, 1) := by decide +kernel
theorem dX10_bookFire_55 : decode cX10_bookFire 55 = .ok (.lload 4, 2) := by decide +kernel
theorem dX10_bookFire_57 : decode cX10_bookFire 57 = .ok (.invokevirtual 305, 3) := by decide +kernel
theorem dX10_bookFire_60 : decode cX10_bookFire 60 = .ok (.iinc 2 1, 3) := by decide +kernel
theorem dX10_bookFire_63 : decode cX10_bookFire 63 = .ok (.goto (-61), 3) := by decide +kernel
theorem dX10_bookFire_66 : decode cX10_bookFire 66 = .ok (.return_, 1) := by decide +kernel
theorem dX10_bookFarm_0 : decode cX10_bookFarm 0 = .ok (.lload 4, 2) := by decide +kernel
theorem dX10_bookFarm_2 : decode cX10_bookFarm 2 = .ok (.aload_n 1, 1) := by decide +kernel
theorem dX10_bookFarm_3 : decode cX10_bookFarm 3 = .ok (.iload_n 2, 1) := by decide +kernel
theorem dX10_bookFarm_4 : decode cX10_bookFarm 4 = .ok (.invokevirtual 309, 3) := by decide +kernel
theorem dX10_bookFarm_7 : decode cX10_bookFarm 7 = .ok (.lsub, 1) := by decide +kernel
theorem dX10_bookFarm_8 : decode cX10_bookFarm 8 = .ok (.lstore 6, 2) := by decide +kernel
theorem dX10_bookFarm_10 : decode cX10_bookFarm 10 = .ok (.lload 6, 2) := by decide +kernel
theorem dX10_bookFarm_12 : decode cX10_bookFarm 12 = .ok (.lconst 0, 1) := by decide +kernel
theorem dX10_bookFarm_13 : decode cX10_bookFarm 13 = .ok (.lcmp, 1) := by decide +kernel
theorem dX10_bookFarm_14 : decode cX10_bookFarm 14 = .ok (.ifCond .eq 35, 3) := by decide +kernel
theorem dX10_bookFarm_17 : decode cX10_bookFarm 17 = .ok (.aload_n 1, 1) := by decide +kernel
theorem dX10_bookFarm_18 : decode cX10_bookFarm 18 = .ok (.iload_n 2, 1) := by decide +kernel
theorem dX10_bookFarm_19 : decode cX10_bookFarm 19 = .ok (.lload 4, 2) := by decide +kernel
theorem dX10_bookFarm_21 : decode cX10_bookFarm 21 = .ok (.invokevirtual 312, 3) := by decide +kernel
theorem dX10_bookFarm_24 : decode cX10_bookFarm 24 = .ok (.aload_n 3, 1) := by decide +kernel
theorem dX10_bookFarm_25 : decode cX10_bookFarm 25 = .ok (.dup, 1) := by decide +kernel
theorem dX10_bookFarm_26 : decode cX10_bookFarm 26 = .ok (.getfield 238, 3) := by decide +kernel
theorem dX10_bookFarm_29 : decode cX10_bookFarm 29 = .ok (.lload 6, 2) := by decide +kernel
theorem dX10_bookFarm_31 : decode cX10_bookFarm 31 = .ok (.ladd, 1) := by decide +kernel
theorem dX10_bookFarm_32 : decode cX10_bookFarm 32 = .ok (.putfield 238, 3) := by decide +kernel
theorem dX10_bookFarm_35 : decode cX10_bookFarm 35 = .ok (.aload_n 0, 1) := by decide +kernel
theorem dX10_bookFarm_36 : decode cX10_bookFarm 36 = .ok (.getfield 52, 3) := by decide +kernel
theorem dX10_bookFarm_39 : decode cX10_bookFarm 39 = .ok (.aload_n 1, 1) := by decide +kernel
theorem dX10_bookFarm_40 : decode cX10_bookFarm 40 = .ok (.getfield 154, 3) := by decide +kernel
theorem dX10_bookFarm_43 : decode cX10_bookFarm 43 = .ok (.iload_n 2, 1) := by decide +kernel
theorem dX10_bookFarm_44 : decode cX10_bookFarm 44 = .ok (.lload 6, 2) := by decide +kernel
theorem dX10_bookFarm_46 : decode cX10_bookFarm 46 = .ok (.invokevirtual 315, 3) := by decide +kernel
theorem dX10_bookFarm_49 : decode cX10_bookFarm 49 = .ok (.return_, 1) := by decide +kernel
theorem dX11_init_0 : decode cX11_init 0 = .ok (.aload_n 0, 1) := by decide +kernel
theorem dX11_init_1 : decode cX11_init 1 = .ok (.invokespecial 1, 3) := by decide +kernel
theorem dX11_init_4 : decode cX11_init 4 = .ok (.aload_n 0, 1) := by decide +kernel
theorem dX11_init_5 : decode cX11_init 5 = .ok (.sipush 1000, 3) := by decide +kernel
theorem dX11_init_8 : decode cX11_init 8 = .ok (.newarray .int, 2) := by decide +kernel
theorem dX11_init_10 : decode cX11_init 10 = .ok (.putfield 7, 3) := by decide +kernel
theorem dX11_init_13 : decode cX11_init 13 = .ok (.aload_n 0, 1) := by decide +kernel
theorem dX11_init_14 : decode cX11_init 14 = .ok (.bipush 11, 2) := by decide +kernel
theorem dX11_init_16 : decode cX11_init 16 = .ok (.newarray .int, 2) := by decide +kernel
theorem dX11_init_18 : decode cX11_init 18 = .ok (.putfield 13, 3) := by decide +kernel
theorem dX11_init_21 : decode cX11_init 21 = .ok (.aload_n 0, 1) := by decide +kernel
theorem dX11_init_22 : decode cX11_init 22 = .ok (.bipush 11, 2) := by decide +kernel
theorem dX11_init_24 : decode cX11_init 24 = .ok (.newarray .int, 2) := by decide +kernel
theorem dX11_init_26 : decode cX11_init 26 = .ok (.putfield 16, 3) := by decide +kernel
theorem dX11_init_29 : decode cX11_init 29 = .ok (.aload_n 0, 1) := by decide +kernel
theorem dX11_init_30 : decode cX11_init 30 = .ok (.bipush 11, 2) := by decide +kernel
theorem dX11_init_32 : decode cX11_init 32 = .ok (.newarray .int, 2) := by decide +kernel
theorem dX11_init_34 : decode cX11_init 34 = .ok (.putfield 19, 3) := by decide +kernel
theorem dX11_init_37 : decode cX11_init 37 = .ok (.aload_n 0, 1) := by decide +kernel
theorem dX11_init_38 : decode cX11_init 38 = .ok (.sipush 198, 3) := by decide +kernel
theorem dX11_init_41 : decode cX11_init 41 = .ok (.newarray .boolean, 2) := by decide +kernel
theorem dX11_init_43 : decode cX11_init 43 = .ok (.putfield 22, 3) := by decide +kernel
theorem dX11_init_46 : decode cX11_init 46 = .ok (.aload_n 0, 1) := by decide +kernel
theorem dX11_init_47 : decode cX11_init 47 = .ok (.sipush 198, 3) := by decide +kernel
theorem dX11_init_50 : decode cX11_init 50 = .ok (.newarray .int, 2) := by decide +kernel
theorem dX11_init_52 : decode cX11_init 52 = .ok (.putfield 26, 3) := by decide +kernel
theorem dX11_init_55 : decode cX11_init 55 = .ok (.aload_n 0, 1) := by decide +kernel
theorem dX11_init_56 : decode cX11_init 56 = .ok (.bipush 11, 2) := by decide +kernel
theorem dX11_init_58 : decode cX11_init 58 = .ok (.newarray .int, 2) := by decide +kernel
theorem dX11_init_60 : decode cX11_init 60 = .ok (.putfield 29, 3) := by decide +kernel
theorem dX11_init_63 : decode cX11_init 63 = .ok (.aload_n 0, 1) := by decide +kernel
theorem dX11_init_64 : decode cX11_init 64 = .ok (.sipush 528, 3) := by decide +kernel
theorem dX11_init_67 : decode cX11_init 67 = .ok (.newarray .int, 2) := by decide +kernel
theorem dX11_init_69 : decode cX11_init 69 = .ok (.putfield 32, 3) := by decide +kernel
theorem dX11_init_72 : decode cX11_init 72 = .ok (.aload_n 0, 1) := by decide +kernel
theorem dX11_init_73 : decode cX11_init 73 = .ok (.bipush 11, 2) := by decide +kernel
theorem dX11_init_75 : decode cX11_init 75 = .ok (.newarray .int, 2) := by decide +kernel
theorem dX11_init_77 : decode cX11_init 77 = .ok (.putfield 35, 3) := by decide +kernel
theorem dX11_init_80 : decode cX11_init 80 = .ok (.aload_n 0, 1) := by decide +kernel
theorem dX11_init_81 : decode cX11_init 81 = .ok (.iconst (-1), 1) := by decide +kernel
theorem dX11_init_82 : decode cX11_init 82 = .ok (.putfield 38, 3) := by decide +kernel
theorem dX11_init_85 : decode cX11_init 85 = .ok (.aload_n 0, 1) := by decide +kernel
theorem dX11_init_86 : decode cX11_init 86 = .ok (.bipush 12, 2) := by decide +kernel
theorem dX11_init_88 : decode cX11_init 88 = .ok (.newarray .int, 2) := by decide +kernel
theorem dX11_init_90 : decode cX11_init 90 = .ok (.putfield 42, 3) := by decide +kernel
theorem dX11_init_93 : decode cX11_init 93 = .ok (.aload_n 0, 1) := by decide +kernel
theorem dX11_init_94 : decode cX11_init 94 = .ok (.bipush 12, 2) := by decide +kernel
theorem dX11_init_96 : decode cX11_init 96 = .ok (.newarray .int, 2) := by decide +kernel
theorem dX11_init_98 : decode cX11_init 98 = .ok (.putfield 45, 3) := by decide +kernel
theorem dX11_init_101 : decode cX11_init 101 = .ok (.aload_n 0, 1) := by decide +kernel
theorem dX11_init_102 : decode cX11_init 102 = .ok (.sipush 200, 3) := by decide +kernel
theorem dX11_init_105 : decode cX11_init 105 = .ok (.newarray .int, 2) := by decide +kernel
theorem dX11_init_107 : decode cX11_init 107 = .ok (.putfield 48, 3) := by decide +kernel
theorem dX11_init_110 : decode cX11_init 110 = .ok (.aload_n 0, 1) := by decide +kernel
theorem dX11_init_111 : decode cX11_init 111 = .ok (.sipush 200, 3) := by decide +kernel
theorem dX11_init_114 : decode cX11_init 114 = .ok (.newarray .int, 2) := by decide +kernel
theorem dX11_init_116 : decode cX11_init 116 = .ok (.putfield 51, 3) := by decide +kernel
theorem dX11_init_119 : decode cX11_init 119 = .ok (.aload_n 0, 1) := by decide +kernel
theorem dX11_init_120 : decode cX11_init 120 = .ok (.sipush 200, 3) := by decide +kernel
theorem dX11_init_123 : decode cX11_init 123 = .ok (.newarray .int, 2) := by decide +kernel
theorem dX11_init_125 : decode cX11_init 125 = .ok (.putfield 54, 3) := by decide +kernel
theorem dX11_init_128 : decode cX11_init 128 = .ok (.aload_n 0, 1) := by decide +kernel
theorem dX11_init_129 : decode cX11_init 129 = .ok (.sipush 200, 3) := by decide +kernel
theorem dX11_init_132 : decode cX11_init 132 = .ok (.newarray .int, 2) := by decide +kernel
theorem dX11_init_134 : decode cX11_init 134 = .ok (.putfield 57, 3) := by decide +kernel
theorem dX11_init_137 : decode cX11_init 137 = .ok (.aload_n 0, 1) := by decide +kernel
theorem dX11_init_138 : decode cX11_init 138 = .ok (.sipush 200, 3) := by decide +kernel
theorem dX11_init_141 : decode cX11_init 141 = .ok (.newarray .int, 2) := by decide +kernel
theorem dX11_init_143 : decode cX11_init 143 = .ok (.putfield 60, 3) := by decide +kernel
theorem dX11_init_146 : decode cX11_init 146 = .ok (.aload_n 0, 1) := by decide +kernel
theorem dX11_init_147 : decode cX11_init 147 = .ok (.bipush 12, 2) := by decide +kernel
theorem dX11_init_149 : decode cX11_init 149 = .ok (.newarray .int, 2) := by decide +kernel
theorem dX11_init_151 : decode cX11_init 151 = .ok (.putfield 63, 3) := by decide +kernel
theorem dX11_init_154 : decode cX11_init 154 = .ok (.aload_n 0, 1) := by decide +kernel
theorem dX11_init_155 : decode cX11_init 155 = .ok (.bipush 12, 2) := by decide +kernel
theorem dX11_init_157 : decode cX11_init 157 = .ok (.newarray .int, 2) := by decide +kernel
theorem dX11_init_159 : decode cX11_init 159 = .ok (.putfield 66, 3) := by decide +kernel
theorem dX11_init_162 : decode cX11_init 162 = .ok (.aload_n 0, 1) := by decide +kernel
theorem dX11_init_163 : decode cX11_init 163 = .ok (.bipush 12, 2) := by decide +kernel
theorem dX11_init_165 : decode cX11_init 165 = .ok (.newarray .int, 2) := by decide +kernel
theorem dX11_init_167 : decode cX11_init 167 = .ok (.putfield 69, 3) := by decide +kernel
theorem dX11_init_170 : decode cX11_init 170 = .ok (.aload_n 0, 1) := by decide +kernel
theorem dX11_init_171 : decode cX11_init 171 = .ok (.bipush 12, 2) := by decide +kernel
theorem dX11_init_173 : decode cX11_init 173 = .ok (.newarray .boolean, 2) := by decide +kernel
theorem dX11_init_175 : decode cX11_init 175 = .ok (.putfield 72, 3) := by decide +kernel
theorem dX11_init_178 : decode cX11_init 178 = .ok (.aload_n 0, 1) := by decide +kernel
theorem dX11_init_179 : decode cX11_init 179 = .ok (.bipush 36, 2) := by decide +kernel
theorem dX11_init_181 : decode cX11_init 181 = .ok (.newarray .int, 2) := by decide +kernel
theorem dX11_init_183 : decode cX11_init 183 = .ok (.putfield 75, 3) := by decide +kernel
theorem dX11_init_186 : decode cX11_init 186 = .ok (.aload_n 0, 1) := by decide +kernel
theorem dX11_init_187 : decode cX11_init 187 = .ok (.sipush 144, 3) := by decide +kernel
theorem dX11_init_190 : decode cX11_init 190 = .ok (.newarray .int, 2) := by decide +kernel
theorem dX11_init_192 : decode cX11_init 192 = .ok (.putfield 78, 3) := by decide +kernel
theorem dX11_init_195 : decode cX11_init 195 = .ok (.aload_n 0, 1) := by decide +kernel
theorem dX11_init_196 : decode cX11_init 196 = .ok (.sipush 144, 3) := by decide +kernel
theorem dX11_init_199 : decode cX11_init 199 = .ok (.newarray .long, 2) := by decide +kernel
theorem dX11_init_201 : decode cX11_init 201 = .ok (.putfield 81, 3) := by decide +kernel
theorem dX11_init_204 : decode cX11_init 204 = .ok (.aload_n 0, 1) := by decide +kernel
theorem dX11_init_205 : decode cX11_init 205 = .ok (.bipush 12, 2) := by decide +kernel
theorem dX11_init_207 : decode cX11_init 207 = .ok (.newarray .long, 2) := by decide +kernel
theorem dX11_init_209 : decode cX11_init 209 = .ok (.putfield 85, 3) := by decide +kernel
theorem dX11_init_212 : decode cX11_init 212 = .ok (.aload_n 0, 1) := by decide +kernel
theorem dX11_init_213 : decode cX11_init 213 = .ok (.sipush 144, 3) := by decide +kernel
theorem dX11_init_216 : decode cX11_init 216 = .ok (.newarray .int, 2) := by decide +kernel
theorem dX11_init_218 : decode cX11_init 218 = .ok (.putfield 88, 3) := by decide +kernel
theorem dX11_init_221 : decode cX11_init 221 = .ok (.aload_n 0, 1) := by decide +kernel
theorem dX11_init_222 : decode cX11_init 222 = .ok (.sipush 144, 3) := by decide +kernel
theorem dX11_init_225 : decode cX11_init 225 = .ok (.newarray .int, 2) := by decide +kernel
theorem dX11_init_227 : decode cX11_init 227 = .ok (.putfield 91, 3) := by decide +kernel
theorem dX11_init_230 : decode cX11_init 230 = .ok (.aload_n 0, 1) := by decide +kernel
theorem dX11_init_231 : decode cX11_init 231 = .ok (.sipush 144, 3) := by decide +kernel
theorem dX11_init_234 : decode cX11_init 234 = .ok (.newarray .long, 2) := by decide +kernel
theorem dX11_init_236 : decode cX11_init 236 = .ok (.putfield 94, 3) := by decide +kernel
theorem dX11_init_239 : decode cX11_init 239 = .ok (.aload_n 0, 1) := by decide +kernel
theorem dX11_init_240 : decode cX11_init 240 = .ok (.bipush 67, 2) := by decide +kernel
theorem dX11_init_242 : decode cX11_init 242 = .ok (.newarray .int, 2) := by decide +kernel
theorem dX11_init_244 : decode cX11_init 244 = .ok (.dup, 1) := by decide +kernel
theorem dX11_init_245 : decode cX11_init 245 = .ok (.iconst 0, 1) := by decide +kernel
theorem dX11_init_246 : decode cX11_init 246 = .ok (.bipush 104, 2) := by decide +kernel
theorem dX11_init_248 : decode cX11_init 248 = .ok (.iastore, 1) := by decide +kernel
theorem dX11_init_249 : decode cX11_init 249 = .ok (.dup, 1) := by decide +kernel
theorem dX11_init_250 : decode cX11_init 250 = .ok (.iconst 1, 1) := by decide +kernel
theorem dX11_init_251 : decode cX11_init 251 = .ok (.bipush 111, 2) := by decide +kernel
theorem dX11_init_253 : decode cX11_init 253 = .ok (.iastore, 1) := by decide +kernel
theorem dX11_init_254 : decode cX11_init 254 = .ok (.dup, 1) := by decide +kernel
theorem dX11_init_255 : decode cX11_init 255 = .ok (.iconst 2, 1) := by decide +kernel
theorem dX11_init_256 : decode cX11_init 256 = .ok (.bipush 117, 2) := by decide +kernel
theorem dX11_init_258 : decode cX11_init 258 = .ok (.iastore, 1) := by decide +kernel
theorem dX11_init_259 : decode cX11_init 259 = .ok (.dup, 1) := by decide +kernel
theorem dX11_init_260 : decode cX11_init 260 = .ok (.iconst 3, 1) := by decide +kernel
theorem dX11_init_261 : decode cX11_init 261 = .ok (.bipush 115, 2) := by decide +kernel
theorem dX11_init_263 : decode cX11_init 263 = .ok (.iastore, 1) := by decide +kernel
theorem dX11_init_264 : decode cX11_init 264 = .ok (.dup, 1) := by decide +kernel
theorem dX11_init_265 : decode cX11_init 265 = .ok (.iconst 4, 1) := by decide +kernel
theorem dX11_init_266 : decode cX11_init 266 = .ok (.bipush 101, 2) := by decide +kernel
theorem dX11_init_268 : decode cX11_init 268 = .ok (.iastore, 1) := by decide +kernel
theorem dX11_init_269 : decode cX11_init 269 = .ok (.dup, 1) := by decide +kernel
theorem dX11_init_270 : decode cX11_init 270 = .ok (.iconst 5, 1) := by decide +kernel
theorem dX11_init_271 : decode cX11_init 271 = .ok (.bipush 32, 2) := by decide +kernel
theorem dX11_init_273 : decode cX11_init 273 = .ok (.iastore, 1) := by decide +kernel
theorem dX11_init_274 : decode cX11_init 274 = .ok (.dup, 1) := by decide +kernel
theorem dX11_init_275 : decode cX11_init 275 = .ok (.bipush 6, 2) := by decide +kernel
theorem dX11_init_277 : decode cX11_init 277 = .ok (.bipush 98, 2) := by decide +kernel
theorem dX11_init_279 : decode cX11_init 279 = .ok (.iastore, 1) := by decide +kernel
theorem dX11_init_280 : decode cX11_init 280 = .ok (.dup, 1) := by decide +kernel
theorem dX11_init_281 : decode cX11_init 281 = .ok (.bipush 7, 2) := by decide +kernel
theorem dX11_init_283 : decode cX11_init 283 = .ok (.bipush 97, 2) := by decide +kernel
theorem dX11_init_285 : decode cX11_init 285 = .ok (.iastore, 1) := by decide +kernel
theorem dX11_init_286 : decode cX11_init 286 = .ok (.dup, 1) := by decide +kernel
theorem dX11_init_287 : decode cX11_init 287 = .ok (.bipush 8, 2) := by decide +kernel
theorem dX11_init_289 : decode cX11_init 289 = .ok (.bipush 114, 2) := by decide +kernel
theorem dX11_init_291 : decode cX11_init 291 = .ok (.iastore, 1) := by decide +kernel
theorem dX11_init_292 : decode cX11_init 292 = .ok (.dup, 1) := by decide +kernel
theorem dX11_init_293 : decode cX11_init 293 = .ok (.bipush 9, 2) := by decide +kernel
theorem dX11_init_295 : decode cX11_init 295 = .ok (.bipush 110, 2) := by decide +kernel
theorem dX11_init_297 : decode cX11_init 297 = .ok (.iastore, 1) := by decide +kernel
theorem dX11_init_298 : decode cX11_init 298 = .ok (.dup, 1) := by decide +kernel
theorem dX11_init_299 : decode cX11_init 299 = .ok (.bipush 10, 2) := by decide +kernel
theorem dX11_init_301 : decode cX11_init 301 = .ok (.bipush 32, 2) := by decide +kernel
theorem dX11_init_303 : decode cX11_init 303 = .ok (.iastore, 1) := by decide +kernel
theorem dX11_init_304 : decode cX11_init 304 = .ok (.dup, 1) := by decide +kernel
theorem dX11_init_305 : decode cX11_init 305 = .ok (.bipush 11, 2) := by decide +kernel
theorem dX11_init_307 : decode cX11_init 307 = .ok (.bipush 98, 2) := by decide +kernel
theorem dX11_init_309 : decode cX11_init 309 = .ok (.iastore, 1) := by decide +kernel
theorem dX11_init_310 : decode cX11_init 310 = .ok (.dup, 1) := by decide +kernel
theorem dX11_init_311 : decode cX11_init 311 = .ok (.bipush 12, 2) := by decide +kernel
theorem dX11_init_313 : decode cX11_init 313 = .ok (.bipush 101, 2) := by decide +kernel
theorem dX11_init_315 : decode cX11_init 315 = .ok (.iastore, 1) := by decide +kernel
theorem dX11_init_316 : decode cX11_init 316 = .ok (.dup, 1) := by decide +kernel
theorem dX11_init_317 : decode cX11_init 317 = .ok (.bipush 13, 2) := by decide +kernel
theorem dX11_init_319 : decode cX11_init 319 = .ok (.bipush 97, 2) := by decide +kernel
theorem dX11_init_321 : decode cX11_init 321 = .ok (.iastore, 1) := by decide +kernel
theorem dX11_init_322 : decode cX11_init 322 = .ok (.dup, 1) := by decide +kernel
theorem dX11_init_323 : decode cX11_init 323 = .ok (.bipush 14, 2) := by decide +kernel
theorem dX11_init_325 : decode cX11_init 325 = .ok (.bipush 115, 2) := by decide +kernel
theorem dX11_init_327 : decode cX11_init 327 = .ok (.iastore, 1) := by decide +kernel
theorem dX11_init_328 : decode cX11_init 328 = .ok (.dup, 1) := by decide +kernel
theorem dX11_init_329 : decode cX11_init 329 = .ok (.bipush 15, 2) := by decide +kernel
theorem dX11_init_331 : decode cX11_init 331 = .ok (.bipush 116, 2) := by decide +kernel
theorem dX11_init_333 : decode cX11_init 333 = .ok (.iastore, 1) := by decide +kernel
theorem dX11_init_334 : decode cX11_init 334 = .ok (.dup, 1) := by decide +kernel
theorem dX11_init_335 : decode cX11_init 335 = .ok (.bipush 16, 2) := by decide +kernel
theorem dX11_init_337 : decode cX11_init 337 = .ok (.bipush 115, 2) := by decide +kernel
theorem dX11_init_339 : decode cX11_init 339 = .ok (.iastore, 1) := by decide +kernel
theorem dX11_init_340 : decode cX11_init 340 = .ok (.dup, 1) := by decide +kernel
theorem dX11_init_341 : decode cX11_init 341 = .ok (.bipush 17, 2) := by decide +kernel
theorem dX11_init_343 : decode cX11_init 343 = .ok (.bipush 32, 2) := by decide +kernel
theorem dX11_init_345 : decode cX11_init 345 = .ok (.iastore, 1) := by decide +kernel
theorem dX11_init_346 : decode cX11_init 346 = .ok (.dup, 1) := by decide +kernel
theorem dX11_init_347 : decode cX11_init 347 = .ok (.bipush 18, 2) := by decide +kernel
theorem dX11_init_349 : decode cX11_init 349 = .ok (.bipush 104, 2) := by decide +kernel
theorem dX11_init_351 : decode cX11_init 351 = .ok (.iastore, 1) := by decide +kernel
theorem dX11_init_352 : decode cX11_init 352 = .ok (.dup, 1) := by decide +kernel
theorem dX11_init_353 : decode cX11_init 353 = .ok (.bipush 19, 2) := by decide +kernel
theorem dX11_init_355 : decode cX11_init 355 = .ok (.bipush 97, 2) := by decide +kernel
theorem dX11_init_357 : decode cX11_init 357 = .ok (.iastore, 1) := by decide +kernel
theorem dX11_init_358 : decode cX11_init 358 = .ok (.dup, 1) := by decide +kernel
theorem dX11_init_359 : decode cX11_init 359 = .ok (.bipush 20, 2) := by decide +kernel
theorem dX11_init_361 : decode cX11_init 361 = .ok (.bipush 121, 2) := by decide +kernel
theorem dX11_init_363 : decode cX11_init 363 = .ok (.iastore, 1) := by decide +kernel
theorem dX11_init_364 : decode cX11_init 364 = .ok (.dup, 1) := by decide +kernel
theorem dX11_init_365 : decode cX11_init 365 = .ok (.bipush 21, 2) := by decide +kernel
theorem dX11_init_367 : decode cX11_init 367 = .ok (.bipush 32, 2) := by decide +kernel
theorem dX11_init_369 : decode cX11_init 369 = .ok (.iastore, 1) := by decide +kernel
theorem dX11_init_370 : decode cX11_init 370 = .ok (.dup, 1) := by decide +kernel
theorem dX11_init_371 : decode cX11_init 371 = .ok (.bipush 22, 2) := by decide +kernel
theorem dX11_init_373 : decode cX11_init 373 = .ok (.bipush 114, 2) := by decide +kernel
theorem dX11_init_375 : decode cX11_init 375 = .ok (.iastore, 1) := by decide +kernel
theorem dX11_init_376 : decode cX11_init 376 = .ok (.dup, 1) := by decide +kernel
theorem dX11_init_377 : decode cX11_init 377 = .ok (.bipush 23, 2) := by decide +kernel
theorem dX11_init_379 : decode cX11_init 379 = .ok (.bipush 97, 2) := by decide +kernel
theorem dX11_init_381 : decode cX11_init 381 = .ok (.iastore, 1) := by decide +kernel
theorem dX11_init_382 : decode cX11_init 382 = .ok (.dup, 1) := by decide +kernel
theorem dX11_init_383 : decode cX11_init 383 = .ok (.bipush 24, 2) := by decide +kernel
theorem dX11_init_385 : decode cX11_init 385 = .ok (.bipush 116, 2) := by decide +kernel
theorem dX11_init_387 : decode cX11_init 387 = .ok (.iastore, 1) := by decide +kernel
theorem dX11_init_388 : decode cX11_init 388 = .ok (.dup, 1) := by decide +kernel
theorem dX11_init_389 : decode cX11_init 389 = .ok (.bipush 25, 2) := by decide +kernel
theorem dX11_init_391 : decode cX11_init 391 = .ok (.bipush 101, 2) := by decide +kernel
theorem dX11_init_393 : decode cX11_init 393 = .ok (.iastore, 1) := by decide +kernel
theorem dX11_init_394 : decode cX11_init 394 = .ok (.dup, 1) := by decide +kernel
theorem dX11_init_395 : decode cX11_init 395 = .ok (.bipush 26, 2) := by decide +kernel
theorem dX11_init_397 : decode cX11_init 397 = .ok (.bipush 32, 2) := by decide +kernel
theorem dX11_init_399 : decode cX11_init 399 = .ok (.iastore, 1) := by decide +kernel
theorem dX11_init_400 : decode cX11_init 400 = .ok (.dup, 1) := by decide +kernel
theorem dX11_init_401 : decode cX11_init 401 = .ok (.bipush 27, 2) := by decide +kernel
theorem dX11_init_403 : decode cX11_init 403 = .ok (.bipush 115, 2) := by decide +kernel
theorem dX11_init_405 : decode cX11_init 405 = .ok (.iastore, 1) := by decide +kernel
theorem dX11_init_406 : decode cX11_init 406 = .ok (.dup, 1) := by decide +kernel
theorem dX11_init_407 : decode cX11_init 407 = .ok (.bipush 28, 2) := by decide +kernel
theorem dX11_init_409 : decode cX11_init 409 = .ok (.bipush 101, 2) := by decide +kernel
theorem dX11_init_411 : decode cX11_init 411 = .ok (.iastore, 1) := by decide +kernel
theorem dX11_init_412 : decode cX11_init 412 = .ok (.dup, 1) := by decide +kernel
theorem dX11_init_413 : decode cX11_init 413 = .ok (.bipush 29, 2) := by decide +kernel
theorem dX11_init_415 : decode cX11_init 415 = .ok (.bipush 97, 2) := by decide +kernel
theorem dX11_init_417 : decode cX11_init 417 = .ok (.iastore, 1) := by decide +kernel
theorem dX11_init_418 : decode cX11_init 418 = .ok (.dup, 1) := by decide +kernel
theorem dX11_init_419 : decode cX11_init 419 = .ok (.bipush 30, 2) := by decide +kernel
theorem dX11_init_421 : decode cX11_init 421 = .ok (.bipush 115, 2) := by decide +kernel
theorem dX11_init_423 : decode cX11_init 423 = .ok (.iastore, 1) := by decide +kernel
theorem dX11_init_424 : decode cX11_init 424 = .ok (.dup, 1) := by decide +kernel
theorem dX11_init_425 : decode cX11_init 425 = .ok (.bipush 31, 2) := by decide +kernel
theorem dX11_init_427 : decode cX11_init 427 = .ok (.bipush 111, 2) := by decide +kernel
theorem dX11_init_429 : decode cX11_init 429 = .ok (.iastore, 1) := by decide +kernel
theorem dX11_init_430 : decode cX11_init 430 = .ok (.dup, 1) := by decide +kernel
theorem dX11_init_431 : decode cX11_init 431 = .ok (.bipush 32, 2) := by decide +kernel
theorem dX11_init_433 : decode cX11_init 433 = .ok (.bipush 110, 2) := by decide +kernel
theorem dX11_init_435 : decode cX11_init 435 = .ok (.iastore, 1) := by decide +kernel
theorem dX11_init_436 : decode cX11_init 436 = .ok (.dup, 1) := by decide +kernel
theorem dX11_init_437 : decode cX11_init 437 = .ok (.bipush 33, 2) := by decide +kernel
theorem dX11_init_439 : decode cX11_init 439 = .ok (.bipush 32, 2) := by decide +kernel
theorem dX11_init_441 : decode cX11_init 441 = .ok (.iastore, 1) := by decide +kernel
theorem dX11_init_442 : decode cX11_init 442 = .ok (.dup, 1) := by decide +kernel
theorem dX11_init_443 : decode cX11_init 443 = .ok (.bipush 34, 2) := by decide +kernel
theorem dX11_init_445 : decode cX11_init 445 = .ok (.bipush 100, 2) := by decide +kernel
theorem dX11_init_447 : decode cX11_init 447 = .ok (.iastore, 1) := by decide +kernel
theorem dX11_init_448 : decode cX11_init 448 = .ok (.dup, 1) := by decide +kernel
theorem dX11_init_449 : decode cX11_init 449 = .ok (.bipush 35, 2) := by decide +kernel
theorem dX11_init_451 : decode cX11_init 451 = .ok (.bipush 117, 2) := by decide +kernel
theorem dX11_init_453 : decode cX11_init 453 = .ok (.iastore, 1) := by decide +kernel
theorem dX11_init_454 : decode cX11_init 454 = .ok (.dup, 1) := by decide +kernel
theorem dX11_init_455 : decode cX11_init 455 = .ok (.bipush 36, 2) := by decide +kernel
theorem dX11_init_457 : decode cX11_init 457 = .ok (.bipush 116, 2) := by decide +kernel
theorem dX11_init_459 : decode cX11_init 459 = .ok (.iastore, 1) := by decide +kernel
theorem dX11_init_460 : decode cX11_init 460 = .ok (.dup, 1) := by decide +kernel
theorem dX11_init_461 : decode cX11_init 461 = .ok (.bipush 37, 2) := by decide +kernel
theorem dX11_init_463 : decode cX11_init 463 = .ok (.bipush 121, 2) := by decide +kernel
theorem dX11_init_465 : decode cX11_init 465 = .ok (.iastore, 1) := by decide +kernel
theorem dX11_init_466 : decode cX11_init 466 = .ok (.dup, 1) := by decide +kernel
theorem dX11_init_467 : decode cX11_init 467 = .ok (.bipush 38, 2) := by decide +kernel
theorem dX11_init_469 : decode cX11_init 469 = .ok (.bipush 32, 2) := by decide +kernel
theorem dX11_init_471 : decode cX11_init 471 = .ok (.iastore, 1) := by decide +kernel
theorem dX11_init_472 : decode cX11_init 472 = .ok (.dup, 1) := by decide +kernel
theorem dX11_init_473 : decode cX11_init 473 = .ok (.bipush 39, 2) := by decide +kernel
theorem dX11_init_475 : decode cX11_init 475 = .ok (.bipush 108, 2) := by decide +kernel
theorem dX11_init_477 : decode cX11_init 477 = .ok (.iastore, 1) := by decide +kernel
theorem dX11_init_478 : decode cX11_init 478 = .ok (.dup, 1) := by decide +kernel
theorem dX11_init_479 : decode cX11_init 479 = .ok (.bipush 40, 2) := by decide +kernel
theorem dX11_init_481 : decode cX11_init 481 = .ok (.bipush 101, 2) := by decide +kernel
theorem dX11_init_483 : decode cX11_init 483 = .ok (.iastore, 1) := by decide +kernel
theorem dX11_init_484 : decode cX11_init 484 = .ok (.dup, 1) := by decide +kernel
theorem dX11_init_485 : decode cX11_init 485 = .ok (.bipush 41, 2) := by decide +kernel
theorem dX11_init_487 : decode cX11_init 487 = .ok (.bipush 115, 2) := by decide +kernel
theorem dX11_init_489 : decode cX11_init 489 = .ok (.iastore, 1) := by decide +kernel
theorem dX11_init_490 : decode cX11_init 490 = .ok (.dup, 1) := by decide +kernel
theorem dX11_init_491 : decode cX11_init 491 = .ok (.bipush 42, 2) := by decide +kernel
theorem dX11_init_493 : decode cX11_init 493 = .ok (.bipush 115, 2) := by decide +kernel
theorem dX11_init_495 : decode cX11_init 495 = .ok (.iastore, 1) := by decide +kernel
theorem dX11_init_496 : decode cX11_init 496 = .ok (.dup, 1) := by decide +kernel
theorem dX11_init_497 : decode cX11_init 497 = .ok (.bipush 43, 2) := by decide +kernel
theorem dX11_init_499 : decode cX11_init 499 = .ok (.bipush 32, 2) := by decide +kernel
theorem dX11_init_501 : decode cX11_init 501 = .ok (.iastore, 1) := by decide +kernel
theorem dX11_init_502 : decode cX11_init 502 = .ok (.dup, 1) := by decide +kernel
theorem dX11_init_503 : decode cX11_init 503 = .ok (.bipush 44, 2) := by decide +kernel
theorem dX11_init_505 : decode cX11_init 505 = .ok (.bipush 110, 2) := by decide +kernel
theorem dX11_init_507 : decode cX11_init 507 = .ok (.iastore, 1) := by decide +kernel
theorem dX11_init_508 : decode cX11_init 508 = .ok (.dup, 1) := by decide +kernel
theorem dX11_init_509 : decode cX11_init 509 = .ok (.bipush 45, 2) := by decide +kernel
theorem dX11_init_511 : decode cX11_init 511 = .ok (.bipush 111, 2) := by decide +kernel
theorem dX11_init_513 : decode cX11_init 513 = .ok (.iastore, 1) := by decide +kernel
theorem dX11_init_514 : decode cX11_init 514 = .ok (.dup, 1) := by decide +kernel
theorem dX11_init_515 : decode cX11_init 515 = .ok (.bipush 46, 2) := by decide +kernel
theorem dX11_init_517 : decode cX11_init 517 = .ok (.bipush 110, 2) := by decide +kernel
theorem dX11_init_519 : decode cX11_init 519 = .ok (.iastore, 1) := by decide +kernel
theorem dX11_init_520 : decode cX11_init 520 = .ok (.dup, 1) := by decide +kernel
theorem dX11_init_521 : decode cX11_init 521 = .ok (.bipush 47, 2) := by decide +kernel
theorem dX11_init_523 : decode cX11_init 523 = .ok (.bipush 101, 2) := by decide +kernel
theorem dX11_init_525 : decode cX11_init 525 = .ok (.iastore, 1) := by decide +kernel
theorem dX11_init_526 : decode cX11_init 526 = .ok (.dup, 1) := by decide +kernel
theorem dX11_init_527 : decode cX11_init 527 = .ok (.bipush 48, 2) := by decide +kernel
theorem dX11_init_529 : decode cX11_init 529 = .ok (.bipush 32, 2) := by decide +kernel
theorem dX11_init_531 : decode cX11_init 531 = .ok (.iastore, 1) := by decide +kernel
theorem dX11_init_532 : decode cX11_init 532 = .ok (.dup, 1) := by decide +kernel
theorem dX11_init_533 : decode cX11_init 533 = .ok (.bipush 49, 2) := by decide +kernel
theorem dX11_init_535 : decode cX11_init 535 = .ok (.bipush 111, 2) := by decide +kernel
theorem dX11_init_537 : decode cX11_init 537 = .ok (.iastore, 1) := by decide +kernel
theorem dX11_init_538 : decode cX11_init 538 = .ok (.dup, 1) := by decide +kernel
theorem dX11_init_539 : decode cX11_init 539 = .ok (.bipush 50, 2) := by decide +kernel
theorem dX11_init_541 : decode cX11_init 541 = .ok (.bipush 119, 2) := by decide +kernel
theorem dX11_init_543 : decode cX11_init 543 = .ok (.iastore, 1) := by decide +kernel
theorem dX11_init_544 : decode cX11_init 544 = .ok (.dup, 1) := by decide +kernel
theorem dX11_init_545 : decode cX11_init 545 = .ok (.bipush 51, 2) := by decide +kernel
theorem dX11_init_547 : decode cX11_init 547 = .ok (.bipush 110, 2) := by decide +kernel
theorem dX11_init_549 : decode cX11_init 549 = .ok (.iastore, 1) := by decide +kernel
theorem dX11_init_550 : decode cX11_init 550 = .ok (.dup, 1) := by decide +kernel
theorem dX11_init_551 : decode cX11_init 551 = .ok (.bipush 52, 2) := by decide +kernel
theorem dX11_init_553 : decode cX11_init 553 = .ok (.bipush 32, 2) := by decide +kernel
theorem dX11_init_555 : decode cX11_init 555 = .ok (.iastore, 1) := by decide +kernel
theorem dX11_init_556 : decode cX11_init 556 = .ok (.dup, 1) := by decide +kernel
theorem dX11_init_557 : decode cX11_init 557 = .ok (.bipush 53, 2) := by decide +kernel
theorem dX11_init_559 : decode cX11_init 559 = .ok (.bipush 114, 2) := by decide +kernel
theorem dX11_init_561 : decode cX11_init 561 = .ok (.iastore, 1) := by decide +kernel
theorem dX11_init_562 : decode cX11_init 562 = .ok (.dup, 1) := by decide +kernel
theorem dX11_init_563 : decode cX11_init 563 = .ok (.bipush 54, 2) := by decide +kernel
theorem dX11_init_565 : decode cX11_init 565 = .ok (.bipush 101, 2) := by decide +kernel
theorem dX11_init_567 : decode cX11_init 567 = .ok (.iastore, 1) := by decide +kernel
theorem dX11_init_568 : decode cX11_init 568 = .ok (.dup, 1) := by decide +kernel
theorem dX11_init_569 : decode cX11_init 569 = .ok (.bipush 55, 2) := by decide +kernel
theorem dX11_init_571 : decode cX11_init 571 = .ok (.bipush 115, 2) := by decide +kernel
theorem dX11_init_573 : decode cX11_init 573 = .ok (.iastore, 1) := by decide +kernel
theorem dX11_init_574 : decode cX11_init 574 = .ok (.dup, 1) := by decide +kernel
theorem dX11_init_575 : decode cX11_init 575 = .ok (.bipush 56, 2) := by decide +kernel
theorem dX11_init_577 : decode cX11_init 577 = .ok (.bipush 101, 2) := by decide +kernel
theorem dX11_init_579 : decode cX11_init 579 = .ok (.iastore, 1) := by decide +kernel
theorem dX11_init_580 : decode cX11_init 580 = .ok (.dup, 1) := by decide +kernel
theorem dX11_init_581 : decode cX11_init 581 = .ok (.bipush 57, 2) := by decide +kernel
theorem dX11_init_583 : decode cX11_init 583 = .ok (.bipush 114, 2) := by decide +kernel
theorem dX11_init_585 : decode cX11_init 585 = .ok (.iastore, 1) := by decide +kernel
theorem dX11_init_586 : decode cX11_init 586 = .ok (.dup, 1) := by decide +kernel
theorem dX11_init_587 : decode cX11_init 587 = .ok (.bipush 58, 2) := by decide +kernel
theorem dX11_init_589 : decode cX11_init 589 = .ok (.bipush 118, 2) := by decide +kernel
theorem dX11_init_591 : decode cX11_init 591 = .ok (.iastore, 1) := by decide +kernel
theorem dX11_init_592 : decode cX11_init 592 = .ok (.dup, 1) := by decide +kernel
theorem dX11_init_593 : decode cX11_init 593 = .ok (.bipush 59, 2) := by decide +kernel
theorem dX11_init_595 : decode cX11_init 595 = .ok (.bipush 101, 2) := by decide +kernel
theorem dX11_init_597 : decode cX11_init 597 = .ok (.iastore, 1) := by decide +kernel
theorem dX11_init_598 : decode cX11_init 598 = .ok (.dup, 1) := by decide +kernel
theorem dX11_init_599 : decode cX11_init 599 = .ok (.bipush 60, 2) := by decide +kernel
theorem dX11_init_601 : decode cX11_init 601 = .ok (.bipush 32, 2) := by decide +kernel
theorem dX11_init_603 : decode cX11_init 603 = .ok (.iastore, 1) := by decide +kernel
theorem dX11_init_604 : decode cX11_init 604 = .ok (.dup, 1) := by decide +kernel
theorem dX11_init_605 : decode cX11_init 605 = .ok (.bipush 61, 2) := by decide +kernel
theorem dX11_init_607 : decode cX11_init 607 = .ok (.bipush 111, 2) := by decide +kernel
theorem dX11_init_609 : decode cX11_init 609 = .ok (.iastore, 1) := by decide +kernel
theorem dX11_init_610 : decode cX11_init 610 = .ok (.dup, 1) := by decide +kernel
theorem dX11_init_611 : decode cX11_init 611 = .ok (.bipush 62, 2) := by decide +kernel
theorem dX11_init_613 : decode cX11_init 613 = .ok (.bipush 116, 2) := by decide +kernel
theorem dX11_init_615 : decode cX11_init 615 = .ok (.iastore, 1) := by decide +kernel
theorem dX11_init_616 : decode cX11_init 616 = .ok (.dup, 1) := by decide +kernel
theorem dX11_init_617 : decode cX11_init 617 = .ok (.bipush 63, 2) := by decide +kernel
theorem dX11_init_619 : decode cX11_init 619 = .ok (.bipush 104, 2) := by decide +kernel
theorem dX11_init_621 : decode cX11_init 621 = .ok (.iastore, 1) := by decide +kernel
theorem dX11_init_622 : decode cX11_init 622 = .ok (.dup, 1) := by decide +kernel
theorem dX11_init_623 : decode cX11_init 623 = .ok (.bipush 64, 2) := by decide +kernel
theorem dX11_init_625 : decode cX11_init 625 = .ok (.bipush 101, 2) := by decide +kernel
theorem dX11_init_627 : decode cX11_init 627 = .ok (.iastore, 1) := by decide +kernel
theorem dX11_init_628 : decode cX11_init 628 = .ok (.dup, 1) := by decide +kernel
theorem dX11_init_629 : decode cX11_init 629 = .ok (.bipush 65, 2) := by decide +kernel
theorem dX11_init_631 : decode cX11_init 631 = .ok (.bipush 114, 2) := by decide +kernel
theorem dX11_init_633 : decode cX11_init 633 = .ok (.iastore, 1) := by decide +kernel
theorem dX11_init_634 : decode cX11_init 634 = .ok (.dup, 1) := by decide +kernel
theorem dX11_init_635 : decode cX11_init 635 = .ok (.bipush 66, 2) := by decide +kernel
theorem dX11_init_637 : decode cX11_init 637 = .ok (.bipush 32, 2) := by decide +kernel
theorem dX11_init_639 : decode cX11_init 639 = .ok (.iastore, 1) := by decide +kernel
theorem dX11_init_640 : decode cX11_init 640 = .ok (.putfield 97, 3) := by decide +kernel
theorem dX11_init_643 : decode cX11_init 643 = .ok (.aload_n 0, 1) := by decide +kernel
theorem dX11_init_644 : decode cX11_init 644 = .ok (.bipush 6, 2) := by decide +kernel
theorem dX11_init_646 : decode cX11_init 646 = .ok (.newarray .long, 2) := by decide +kernel
theorem dX11_init_648 : decode cX11_init 648 = .ok (.putfield 100, 3) := by decide +kernel
theorem dX11_init_651 : decode cX11_init 651 = .ok (.aload_n 0, 1) := by decide +kernel
theorem dX11_init_652 : decode cX11_init 652 = .ok (.bipush 12, 2) := by decide +kernel
theorem dX11_init_654 : decode cX11_init 654 = .ok (.newarray .long, 2) := by decide +kernel
theorem dX11_init_656 : decode cX11_init 656 = .ok (.putfield 103, 3) := by decide +kernel
theorem dX11_init_659 : decode cX11_init 659 = .ok (.aload_n 0, 1) := by decide +kernel
theorem dX11_init_660 : decode cX11_init 660 = .ok (.bipush 12, 2) := by decide +kernel
theorem dX11_init_662 : decode cX11_init 662 = .ok (.newarray .long, 2) := by decide +kernel
theorem dX11_init_664 : decode cX11_init 664 = .ok (.putfield 106, 3) := by decide +kernel
theorem dX11_init_667 : decode cX11_init 667 = .ok (.aload_n 0, 1) := by decide +kernel
theorem dX11_init_668 : decode cX11_init 668 = .ok (.bipush 12, 2) := by decide +kernel
theorem dX11_init_670 : decode cX11_init 670 = .ok (.newarray .long, 2) := by decide +kernel
theorem dX11_init_672 : decode cX11_init 672 = .ok (.putfield 109, 3) := by decide +kernel
theorem dX11_init_675 : decode cX11_init 675 = .ok (.return_, 1) := by decide +kernel
theorem dX11_thrown_0 : decode cX11_thrown 0 = .ok (.aload_n 0, 1) := by decide +kernel
theorem dX11_thrown_1 : decode cX11_thrown 1 = .ok (.getfield 112, 3) := by decide +kernel
theorem dX11_thrown_4 : decode cX11_thrown 4 = .ok (.ireturn, 1) := by decide +kernel
theorem dX11_feed_0 : decode cX11_feed 0 = .ok (.aload_n 0, 1) := by decide +kernel
theorem dX11_feed_1 : decode cX11_feed 1 = .ok (.iconst 0, 1) := by decide +kernel
theorem dX11_feed_2 : decode cX11_feed 2 = .ok (.putfield 112, 3) := by decide +kernel
theorem dX11_feed_5 : decode cX11_feed 5 = .ok (.aload_n 0, 1) := by decide +kernel
theorem dX11_feed_6 : decode cX11_feed 6 = .ok (.getfield 115, 3) := by decide +kernel
theorem dX11_feed_9 : decode cX11_feed 9 = .ok (.bipush 20, 2) := by decide +kernel
theorem dX11_feed_11 : decode cX11_feed 11 = .ok (.iadd, 1) := by decide +kernel
theorem dX11_feed_12 : decode cX11_feed 12 = .ok (.sipush 1000, 3) := by decide +kernel
theorem dX11_feed_15 : decode cX11_feed 15 = .ok (.if_icmp .le 5, 3) := by decide +kernel
theorem dX11_feed_18 : decode cX11_feed 18 = .ok (.iconst (-1), 1) := by decide +kernel
theorem dX11_feed_19 : decode cX11_feed 19 = .ok (.ireturn, 1) := by decide +kernel
theorem dX11_feed_20 : decode cX11_feed 20 = .ok (.iconst 0, 1) := by decide +kernel
theorem dX11_feed_21 : decode cX11_feed 21 = .ok (.istore 6, 2) := by decide +kernel
theorem dX11_feed_23 : decode cX11_feed 23 = .ok (.iload 6, 2) := by decide +kernel
theorem dX11_feed_25 : decode cX11_feed 25 = .ok (.bipush 20, 2) := by decide +kernel
theorem dX11_feed_27 : decode cX11_feed 27 = .ok (.if_icmp .ge 86, 3) := by decide +kernel
theorem dX11_feed_30 : decode cX11_feed 30 = .ok (.iload 6, 2) := by decide +kernel
theorem dX11_feed_32 : decode cX11_feed 32 = .ok (.iconst 4, 1) := by decide +kernel
theorem dX11_feed_33 : decode cX11_feed 33 = .ok (.if_icmp .ge 7, 3) := by decide +kernel
theorem dX11_feed_36 : decode cX11_feed 36 = .ok (.iload_n 1, 1) := by decide +kernel
theorem dX11_feed_37 : decode cX11_feed 37 = .ok (.goto 39, 3) := by decide +kernel
theorem dX11_feed_40 : decode cX11_feed 40 = .ok (.iload 6, 2) := by decide +kernel
theorem dX11_feed_42 : decode cX11_feed 42 = .ok (.bipush 8, 2) := by decide +kernel
theorem dX11_feed_44 : decode cX11_feed 44 = .ok (.if_icmp .ge 7, 3) := by decide +kernel
theorem dX11_feed_47 : decode cX11_feed 47 = .ok (.iload_n 2, 1) := by decide +kernel
theorem dX11_feed_48 : decode cX11_feed 48 = .ok (.goto 28, 3) := by decide +kernel
theorem dX11_feed_51 : decode cX11_feed 51 = .ok (.iload 6, 2) := by decide +kernel
theorem dX11_feed_53 : decode cX11_feed 53 = .ok (.bipush 12, 2) := by decide +kernel
theorem dX11_feed_55 : decode cX11_feed 55 = .ok (.if_icmp .ge 7, 3) := by decide +kernel
theorem dX11_feed_58 : decode cX11_feed 58 = .ok (.iload_n 3, 1) := by decide +kernel
theorem dX11_feed_59 : decode cX11_feed 59 = .ok (.goto 17, 3) := by decide +kernel
theorem dX11_feed_62 : decode cX11_feed 62 = .ok (.iload 6, 2) := by decide +kernel
theorem dX11_feed_64 : decode cX11_feed 64 = .ok (.bipush 16, 2) := by decide +kernel
theorem dX11_feed_66 : decode cX11_feed 66 = .ok (.if_icmp .ge 8, 3) := by decide +kernel
theorem dX11_feed_69 : decode cX11_feed 69 = .ok (.iload 4, 2) := by decide +kernel
theorem dX11_feed_71 : decode cX11_feed 71 = .ok (.goto 5, 3) := by decide +kernel
theorem dX11_feed_74 : decode cX11_feed 74 = .ok (.iload 5, 2) := by decide +kernel
theorem dX11_feed_76 : decode cX11_feed 76 = .ok (.istore 7, 2) := by decide +kernel
theorem dX11_feed_78 : decode cX11_feed 78 = .ok (.aload_n 0, 1) := by decide +kernel
theorem dX11_feed_79 : decode cX11_feed 79 = .ok (.getfield 7, 3) := by decide +kernel
theorem dX11_feed_82 : decode cX11_feed 82 = .ok (.aload_n 0, 1) := by decide +kernel
theorem dX11_feed_83 : decode cX11_feed 83 = .ok (.getfield 115, 3) := by decide +kernel
theorem dX11_feed_86 : decode cX11_feed 86 = .ok (.iload 6, 2) := by decide +kernel
theorem dX11_feed_88 : decode cX11_feed 88 = .ok (.iadd, 1) := by decide +kernel
theorem dX11_feed_89 : decode cX11_feed 89 = .ok (.iload 7, 2) := by decide +kernel
theorem dX11_feed_91 : decode cX11_feed 91 = .ok (.bipush 24, 2) := by decide +kernel
theorem dX11_feed_93 : decode cX11_feed 93 = .ok (.bipush 8, 2) := by decide +kernel
theorem dX11_feed_95 : decode cX11_feed 95 = .ok (.iload 6, 2) := by decide +kernel
theorem dX11_feed_97 : decode cX11_feed 97 = .ok (.iconst 4, 1) := by decide +kernel
theorem dX11_feed_98 : decode cX11_feed 98 = .ok (.irem, 1) := by decide +kernel
theorem dX11_feed_99 : decode cX11_feed 99 = .ok (.imul, 1) := by decide +kernel
theorem dX11_feed_100 : decode cX11_feed 100 = .ok (.isub, 1) := by decide +kernel
theorem dX11_feed_101 : decode cX11_feed 101 = .ok (.ishr, 1) := by decide +kernel
theorem dX11_feed_102 : decode cX11_feed 102 = .ok (.sipush 255, 3) := by decide +kernel
theorem dX11_feed_105 : decode cX11_feed 105 = .ok (.iand, 1) := by decide +kernel
theorem dX11_feed_106 : decode cX11_feed 106 = .ok (.iastore, 1) := by decide +kernel
theorem dX11_feed_107 : decode cX11_feed 107 = .ok (.iinc 6 1, 3) := by decide +kernel
theorem dX11_feed_110 : decode cX11_feed 110 = .ok (.goto (-87), 3) := by decide +kernel
theorem dX11_feed_113 : decode cX11_feed 113 = .ok (.aload_n 0, 1) := by decide +kernel
theorem dX11_feed_114 : decode cX11_feed 114 = .ok (.dup, 1) := by decide +kernel
theorem dX11_feed_115 : decode cX11_feed 115 = .ok (.getfield 115, 3) := by decide +kernel
theorem dX11_feed_118 : decode cX11_feed 118 = .ok (.bipush 20, 2) := by decide +kernel
theorem dX11_feed_120 : decode cX11_feed 120 = .ok (.iadd, 1) := by decide +kernel
theorem dX11_feed_121 : decode cX11_feed 121 = .ok (.putfield 115, 3) := by decide +kernel
theorem dX11_feed_124 : decode cX11_feed 124 = .ok (.aload_n 0, 1) := by decide +kernel
theorem dX11_feed_125 : decode cX11_feed 125 = .ok (.getfield 115, 3) := by decide +kernel
theorem dX11_feed_128 : decode cX11_feed 128 = .ok (.ireturn, 1) := by decide +kernel
theorem dX11_wrong_0 : decode cX11_wrong 0 = .ok (.aload_n 0, 1) := by decide +kernel
theorem dX11_wrong_1 : decode cX11_wrong 1 = .ok (.iload_n 1, 1) := by decide +kernel
theorem dX11_wrong_2 : decode cX11_wrong 2 = .ok (.putfield 118, 3) := by decide +kernel
theorem dX11_wrong_5 : decode cX11_wrong 5 = .ok (.aload_n 0, 1) := by decide +kernel
theorem dX11_wrong_6 : decode cX11_wrong 6 = .ok (.iload_n 2, 1) := by decide +kernel
theorem dX11_wrong_7 : decode cX11_wrong 7 = .ok (.putfield 38, 3) := by decide +kernel
theorem dX11_wrong_10 : decode cX11_wrong 10 = .ok (.iconst 0, 1) := by decide +kernel
theorem dX11_wrong_11 : decode cX11_wrong 11 = .ok (.ireturn, 1) := by decide +kernel
theorem dX11_wordAt_0 : decode cX11_wordAt 0 = .ok (.iconst 0, 1) := by decide +kernel
theorem dX11_wordAt_1 : decode cX11_wordAt 1 = .ok (.istore_n 3, 1) := by decide +kernel
theorem dX11_wordAt_2 : decode cX11_wordAt 2 = .ok (.iconst 0, 1) := by decide +kernel
theorem dX11_wordAt_3 : decode cX11_wordAt 3 = .ok (.istore 4, 2) := by decide +kernel
theorem dX11_wordAt_5 : decode cX11_wordAt 5 = .ok (.iload 4, 2) := by decide +kernel
theorem dX11_wordAt_7 : decode cX11_wordAt 7 = .ok (.aload_n 0, 1) := by decide +kernel
theorem dX11_wordAt_8 : decode cX11_wordAt 8 = .ok (.getfield 97, 3) := by decide +kernel
theorem dX11_wordAt_11 : decode cX11_wordAt 11 = .ok (.arraylength, 1) := by decide +kernel
theorem dX11_wordAt_12 : decode cX11_wordAt 12 = .ok (.if_icmp .ge 114, 3) := by decide +kernel
theorem dX11_wordAt_15 : decode cX11_wordAt 15 = .ok (.iconst 0, 1) := by decide +kernel
theorem dX11_wordAt_16 : decode cX11_wordAt 16 = .ok (.istore 5, 2) := by decide +kernel
theorem dX11_wordAt_18 : decode cX11_wordAt 18 = .ok (.aload_n 0, 1) := by decide +kernel
theorem dX11_wordAt_19 : decode cX11_wordAt 19 = .ok (.getfield 97, 3) := by decide +kernel
theorem dX11_wordAt_22 : decode cX11_wordAt 22 = .ok (.iload 4, 2) := by decide +kernel
theorem dX11_wordAt_24 : decode cX11_wordAt 24 = .ok (.iload 5, 2) := by decide +kernel
theorem dX11_wordAt_26 : decode cX11_wordAt 26 = .ok (.iadd, 1) := by decide +kernel
theorem dX11_wordAt_27 : decode cX11_wordAt 27 = .ok (.iaload, 1) := by decide +kernel
theorem dX11_wordAt_28 : decode cX11_wordAt 28 = .ok (.bipush 32, 2) := by decide +kernel
theorem dX11_wordAt_30 : decode cX11_wordAt 30 = .ok (.if_icmp .eq 9, 3) := by decide +kernel
theorem dX11_wordAt_33 : decode cX11_wordAt 33 = .ok (.iinc 5 1, 3) := by decide +kernel
theorem dX11_wordAt_36 : decode cX11_wordAt 36 = .ok (.goto (-18), 3) := by decide +kernel
theorem dX11_wordAt_39 : decode cX11_wordAt 39 = .ok (.iload 5, 2) := by decide +kernel
theorem dX11_wordAt_41 : decode cX11_wordAt 41 = .ok (.iload_n 2, 1) := by decide +kernel
theorem dX11_wordAt_42 : decode cX11_wordAt 42 = .ok (.iload_n 1, 1) := by decide +kernel
theorem dX11_wordAt_43 : decode cX11_wordAt 43 = .ok (.isub, 1) := by decide +kernel
theorem dX11_wordAt_44 : decode cX11_wordAt 44 = .ok (.if_icmp .ne 7, 3) := by decide +kernel
theorem dX11_wordAt_47 : decode cX11_wordAt 47 = .ok (.iconst 1, 1) := by decide +kernel
theorem dX11_wordAt_48 : decode cX11_wordAt 48 = .ok (.goto 4, 3) := by decide +kernel
theorem dX11_wordAt_51 : decode cX11_wordAt 51 = .ok (.iconst 0, 1) := by decide +kernel
theorem dX11_wordAt_52 : decode cX11_wordAt 52 = .ok (.istore 6, 2) := by decide +kernel
theorem dX11_wordAt_54 : decode cX11_wordAt 54 = .ok (.iconst 0, 1) := by decide +kernel
theorem dX11_wordAt_55 : decode cX11_wordAt 55 = .ok (.istore 7, 2) := by decide +kernel
theorem dX11_wordAt_57 : decode cX11_wordAt 57 = .ok (.iload 7, 2) := by decide +kernel
theorem dX11_wordAt_59 : decode cX11_wordAt 59 = .ok (.iload 5, 2) := by decide +kernel
theorem dX11_wordAt_61 : decode cX11_wordAt 61 = .ok (.if_icmp .ge 43, 3) := by decide +kernel
theorem dX11_wordAt_64 : decode cX11_wordAt 64 = .ok (.iload 6, 2) := by decide +kernel
theorem dX11_wordAt_66 : decode cX11_wordAt 66 = .ok (.ifCond .eq 38, 3) := by decide +kernel
theorem dX11_wordAt_69 : decode cX11_wordAt 69 = .ok (.aload_n 0, 1) := by decide +kernel
theorem dX11_wordAt_70 : decode cX11_wordAt 70 = .ok (.getfield 97, 3) := by decide +kernel
theorem dX11_wordAt_73 : decode cX11_wordAt 73 = .ok (.iload 4, 2) := by decide +kernel
theorem dX11_wordAt_75 : decode cX11_wordAt 75 = .ok (.iload 7, 2) := by decide +kernel
theorem dX11_wordAt_77 : decode cX11_wordAt 77 = .ok (.iadd, 1) := by decide +kernel
theorem dX11_wordAt_78 : decode cX11_wordAt 78 = .ok (.iaload, 1) := by decide +kernel
theorem dX11_wordAt_79 : decode cX11_wordAt 79 = .ok (.aload_n 0, 1) := by decide +kernel
theorem dX11_wordAt_80 : decode cX11_wordAt 80 = .ok (.getfield 7, 3) := by decide +kernel
theorem dX11_wordAt_83 : decode cX11_wordAt 83 = .ok (.iload_n 1, 1) := by decide +kernel
theorem dX11_wordAt_84 : decode cX11_wordAt 84 = .ok (.iload 7, 2) := by decide +kernel
theorem dX11_wordAt_86 : decode cX11_wordAt 86 = .ok (.iadd, 1) := by decide +kernel
theorem dX11_wordAt_87 : decode cX11_wordAt 87 = .ok (.iaload, 1) := by decide +kernel
theorem dX11_wordAt_88 : decode cX11_wordAt 88 = .ok (.if_icmp .ne 7, 3) := by decide +kernel
theorem dX11_wordAt_91 : decode cX11_wordAt 91 = .ok (.iconst 1, 1) := by decide +kernel
theorem dX11_wordAt_92 : decode cX11_wordAt 92 = .ok (.goto 4, 3) := by decide +kernel
theorem dX11_wordAt_95 : decode cX11_wordAt 95 = .ok (.iconst 0, 1) := by decide +kernel
theorem dX11_wordAt_96 : decode cX11_wordAt 96 = .ok (.istore 6, 2) := by decide +kernel
theorem dX11_wordAt_98 : decode cX11_wordAt 98 = .ok (.iinc 7 1, 3) := by decide +kernel
theorem dX11_wordAt_101 : decode cX11_wordAt 101 = .ok (.goto (-44), 3) := by decide +kernel
theorem dX11_wordAt_104 : decode cX11_wordAt 104 = .ok (.iload 6, 2) := by decide +kernel
theorem dX11_wordAt_106 : decode cX11_wordAt 106 = .ok (.ifCond .eq 5, 3) := by decide +kernel
theorem dX11_wordAt_109 : decode cX11_wordAt 109 = .ok (.iload_n 3, 1) := by decide +kernel
theorem dX11_wordAt_110 : decode cX11_wordAt 110 = .ok (.ireturn, 1) := by decide +kernel
theorem dX11_wordAt_111 : decode cX11_wordAt 111 = .ok (.iload 4, 2) := by decide +kernel
theorem dX11_wordAt_113 : decode cX11_wordAt 113 = .ok (.iload 5, 2) := by decide +kernel
theorem dX11_wordAt_115 : decode cX11_wordAt 115 = .ok (.iconst 1, 1) := by decide +kernel
theorem dX11_wordAt_116 : decode cX11_wordAt 116 = .ok (.iadd, 1) := by decide +kernel
theorem dX11_wordAt_117 : decode cX11_wordAt 117 = .ok (.iadd, 1) := by decide +kernel
theorem dX11_wordAt_118 : decode cX11_wordAt 118 = .ok (.istore 4, 2) := by decide +kernel
theorem dX11_wordAt_120 : decode cX11_wordAt 120 = .ok (.iinc 3 1, 3) := by decide +kernel
theorem dX11_wordAt_123 : decode cX11_wordAt 123 = .ok (.goto (-118), 3) := by decide +kernel
theorem dX11_wordAt_126 : decode cX11_wordAt 126 = .ok (.iconst (-1), 1) := by decide +kernel
theorem dX11_wordAt_127 : decode cX11_wordAt 127 = .ok (.ireturn, 1) := by decide +kernel
theorem dX11_isSmall_0 : decode cX11_isSmall 0 = .ok (.iload_n 1, 1) := by decide +kernel
theorem dX11_isSmall_1 : decode cX11_isSmall 1 = .ok (.aload_n 0, 1) := by decide +kernel
theorem dX11_isSmall_2 : decode cX11_isSmall 2 = .ok (.getfield 121, 3) := by decide +kernel
theorem dX11_isSmall_5 : decode cX11_isSmall 5 = .ok (.if_icmp .ge 29, 3) := by decide +kernel
theorem dX11_isSmall_8 : decode cX11_isSmall 8 = .ok (.aload_n 0, 1) := by decide +kernel
theorem dX11_isSmall_9 : decode cX11_isSmall 9 = .ok (.getfield 7, 3) := by decide +kernel
theorem dX11_isSmall_12 : decode cX11_isSmall 12 = .ok (.iload_n 1, 1) := by decide +kernel
theorem dX11_isSmall_13 : decode cX11_isSmall 13 = .ok (.iaload, 1) := by decide +kernel
theorem dX11_isSmall_14 : decode cX11_isSmall 14 = .ok (.bipush 97, 2) := by decide +kernel
theorem dX11_isSmall_16 : decode cX11_isSmall 16 = .ok (.if_icmp .lt 18, 3) := by decide +kernel
theorem dX11_isSmall_19 : decode cX11_isSmall 19 = .ok (.aload_n 0, 1) := by decide +kernel
theorem dX11_isSmall_20 : decode cX11_isSmall 20 = .ok (.getfield 7, 3) := by decide +kernel
theorem dX11_isSmall_23 : decode cX11_isSmall 23 = .ok (.iload_n 1, 1) := by decide +kernel
theorem dX11_isSmall_24 : decode cX11_isSmall 24 = .ok (.iaload, 1) := by decide +kernel
theorem dX11_isSmall_25 : decode cX11_isSmall 25 = .ok (.bipush 122, 2) := by decide +kernel
theorem dX11_isSmall_27 : decode cX11_isSmall 27 = .ok (.if_icmp .gt 7, 3) := by decide +kernel
theorem dX11_isSmall_30 : decode cX11_isSmall 30 = .ok (.iconst 1, 1) := by decide +kernel
theorem dX11_isSmall_31 : decode cX11_isSmall 31 = .ok (.goto 4, 3) := by decide +kernel
theorem dX11_isSmall_34 : decode cX11_isSmall 34 = .ok (.iconst 0, 1) := by decide +kernel
theorem dX11_isSmall_35 : decode cX11_isSmall 35 = .ok (.ireturn, 1) := by decide +kernel
theorem dX11_isDigit_0 : decode cX11_isDigit 0 = .ok (.iload_n 1, 1) := by decide +kernel
theorem dX11_isDigit_1 : decode cX11_isDigit 1 = .ok (.aload_n 0, 1) := by decide +kernel
theorem dX11_isDigit_2 : decode cX11_isDigit 2 = .ok (.getfield 121, 3) := by decide +kernel
theorem dX11_isDigit_5 : decode cX11_isDigit 5 = .ok (.if_icmp .ge 29, 3) := by decide +kernel
theorem dX11_isDigit_8 : decode cX11_isDigit 8 = .ok (.aload_n 0, 1) := by decide +kernel
theorem dX11_isDigit_9 : decode cX11_isDigit 9 = .ok (.getfield 7, 3) := by decide +kernel
theorem dX11_isDigit_12 : decode cX11_isDigit 12 = .ok (.iload_n 1, 1) := by decide +kernel
theorem dX11_isDigit_13 : decode cX11_isDigit 13 = .ok (.iaload, 1) := by decide +kernel
theorem dX11_isDigit_14 : decode cX11_isDigit 14 = .ok (.bipush 48, 2) := by decide +kernel
theorem dX11_isDigit_16 : decode cX11_isDigit 16 = .ok (.if_icmp .lt 18, 3) := by decide +kernel
theorem dX11_isDigit_19 : decode cX11_isDigit 19 = .ok (.aload_n 0, 1) := by decide +kernel
theorem dX11_isDigit_20 : decode cX11_isDigit 20 = .ok (.getfield 7, 3) := by decide +kernel
theorem dX11_isDigit_23 : decode cX11_isDigit 23 = .ok (.iload_n 1, 1) := by decide +kernel
theorem dX11_isDigit_24 : decode cX11_isDigit 24 = .ok (.iaload, 1) := by decide +kernel
theorem dX11_isDigit_25 : decode cX11_isDigit 25 = .ok (.bipush 57, 2) := by decide +kernel
theorem dX11_isDigit_27 : decode cX11_isDigit 27 = .ok (.if_icmp .gt 7, 3) := by decide +kernel
theorem dX11_isDigit_30 : decode cX11_isDigit 30 = .ok (.iconst 1, 1) := by decide +kernel
theorem dX11_isDigit_31 : decode cX11_isDigit 31 = .ok (.goto 4, 3) := by decide +kernel
theorem dX11_isDigit_34 : decode cX11_isDigit 34 = .ok (.iconst 0, 1) := by decide +kernel
theorem dX11_isDigit_35 : decode cX11_isDigit 35 = .ok (.ireturn, 1) := by decide +kernel
theorem dX11_take_0 : decode cX11_take 0 = .ok (.aload_n 0, 1) := by decide +kernel
theorem dX11_take_1 : decode cX11_take 1 = .ok (.getfield 124, 3) := by decide +kernel
theorem dX11_take_4 : decode cX11_take 4 = .ok (.aload_n 0, 1) := by decide +kernel
theorem dX11_take_5 : decode cX11_take 5 = .ok (.getfield 121, 3) := by decide +kernel
theorem dX11_take_8 : decode cX11_take 8 = .ok (.if_icmp .ge 44, 3) := by decide +kernel
theorem dX11_take_11 : decode cX11_take 11 = .ok (.aload_n 0, 1) := by decide +kernel
theorem dX11_take_12 : decode cX11_take 12 = .ok (.getfield 7, 3) := by decide +kernel
theorem dX11_take_15 : decode cX11_take 15 = .ok (.aload_n 0, 1) := by decide +kernel
theorem dX11_take_16 : decode cX11_take 16 = .ok (.getfield 124, 3) := by decide +kernel
theorem dX11_take_19 : decode cX11_take 19 = .ok (.iaload, 1) := by decide +kernel
theorem dX11_take_20 : decode cX11_take 20 = .ok (.bipush 10, 2) := by decide +kernel
theorem dX11_take_22 : decode cX11_take 22 = .ok (.if_icmp .eq 17, 3) := by decide +kernel
theorem dX11_take_25 : decode cX11_take 25 = .ok (.aload_n 0, 1) := by decide +kernel
theorem dX11_take_26 : decode cX11_take 26 = .ok (.getfield 7, 3) := by decide +kernel
theorem dX11_take_29 : decode cX11_take 29 = .ok (.aload_n 0, 1) := by decide +kernel
theorem dX11_take_30 : decode cX11_take 30 = .ok (.getfield 124, 3) := by decide +kernel
theorem dX11_take_33 : decode cX11_take 33 = .ok (.iaload, 1) := by decide +kernel
theorem dX11_take_34 : decode cX11_take 34 = .ok (.bipush 32, 2) := by decide +kernel
theorem dX11_take_36 : decode cX11_take 36 = .ok (.if_icmp .ne 16, 3) := by decide +kernel
theorem dX11_take_39 : decode cX11_take 39 = .ok (.aload_n 0, 1) := by decide +kernel
theorem dX11_take_40 : decode cX11_take 40 = .ok (.dup, 1) := by decide +kernel
theorem dX11_take_41 : decode cX11_take 41 = .ok (.getfield 124, 3) := by decide +kernel
theorem dX11_take_44 : decode cX11_take 44 = .ok (.iconst 1, 1) := by decide +kernel
theorem dX11_take_45 : decode cX11_take 45 = .ok (.iadd, 1) := by decide +kernel
theorem dX11_take_46 : decode cX11_take 46 = .ok (.putfield 124, 3) := by decide +kernel
theorem dX11_take_49 : decode cX11_take 49 = .ok (.goto (-49), 3) := by decide +kernel
theorem dX11_take_52 : decode cX11_take 52 = .ok (.aload_n 0, 1) := by decide +kernel
theorem dX11_take_53 : decode cX11_take 53 = .ok (.aload_n 0, 1) := by decide +kernel
theorem dX11_take_54 : decode cX11_take 54 = .ok (.getfield 124, 3) := by decide +kernel
theorem dX11_take_57 : decode cX11_take 57 = .ok (.putfield 127, 3) := by decide +kernel
theorem dX11_take_60 : decode cX11_take 60 = .ok (.aload_n 0, 1) := by decide +kernel
theorem dX11_take_61 : decode cX11_take 61 = .ok (.getfield 124, 3) := by decide +kernel
theorem dX11_take_64 : decode cX11_take 64 = .ok (.aload_n 0, 1) := by decide +kernel
theorem dX11_take_65 : decode cX11_take 65 = .ok (.getfield 121, 3) := by decide +kernel
theorem dX11_take_68 : decode cX11_take 68 = .ok (.if_icmp .ne 11, 3) := by decide +kernel
theorem dX11_take_71 : decode cX11_take 71 = .ok (.aload_n 0, 1) := by decide +kernel
theorem dX11_take_72 : decode cX11_take 72 = .ok (.iconst 0, 1) := by decide +kernel
theorem dX11_take_73 : decode cX11_take 73 = .ok (.putfield 130, 3) := by decide +kernel
theorem dX11_take_76 : decode cX11_take 76 = .ok (.goto 218, 3) := by decide +kernel
theorem dX11_take_79 : decode cX11_take 79 = .ok (.aload_n 0, 1) := by decide +kernel
theorem dX11_take_80 : decode cX11_take 80 = .ok (.aload_n 0, 1) := by decide +kernel
theorem dX11_take_81 : decode cX11_take 81 = .ok (.getfield 124, 3) := by decide +kernel
theorem dX11_take_84 : decode cX11_take 84 = .ok (.invokevirtual 133, 3) := by decide +kernel
theorem dX11_take_87 : decode cX11_take 87 = .ok (.ifCond .eq 62, 3) := by decide +kernel
theorem dX11_take_90 : decode cX11_take 90 = .ok (.aload_n 0, 1) := by decide +kernel
theorem dX11_take_91 : decode cX11_take 91 = .ok (.aload_n 0, 1) := by decide +kernel
theorem dX11_take_92 : decode cX11_take 92 = .ok (.getfield 124, 3) := by decide +kernel
theorem dX11_take_95 : decode cX11_take 95 = .ok (.invokevirtual 133, 3) := by decide +kernel
theorem dX11_take_98 : decode cX11_take 98 = .ok (.ifCond .eq 16, 3) := by decide +kernel
theorem dX11_take_101 : decode cX11_take 101 = .ok (.aload_n 0, 1) := by decide +kernel
theorem dX11_take_102 : decode cX11_take 102 = .ok (.dup, 1) := by decide +kernel
theorem dX11_take_103 : decode cX11_take 103 = .ok (.getfield 124, 3) := by decide +kernel
theorem dX11_take_106 : decode cX11_take 106 = .ok (.iconst 1, 1) := by decide +kernel
theorem dX11_take_107 : decode cX11_take 107 = .ok (.iadd, 1) := by decide +kernel
theorem dX11_take_108 : decode cX11_take 108 = .ok (.putfield 124, 3) := by decide +kernel
theorem dX11_take_111 : decode cX11_take 111 = .ok (.goto (-21), 3) := by decide +kernel
theorem dX11_take_114 : decode cX11_take 114 = .ok (.aload_n 0, 1) := by decide +kernel
