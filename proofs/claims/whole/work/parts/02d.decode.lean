theorem dX8_flies_57 : decode cX8_flies 57 = .ok (.iload_n 2, 1) := by decide +kernel
theorem dX8_flies_58 : decode cX8_flies 58 = .ok (.invokevirtual 139, 3) := by decide +kernel
theorem dX8_flies_61 : decode cX8_flies 61 = .ok (.ireturn, 1) := by decide +kernel
theorem dX8_rests_0 : decode cX8_rests 0 = .ok (.aload_n 0, 1) := by decide +kernel
theorem dX8_rests_1 : decode cX8_rests 1 = .ok (.iload_n 1, 1) := by decide +kernel
theorem dX8_rests_2 : decode cX8_rests 2 = .ok (.invokevirtual 170, 3) := by decide +kernel
theorem dX8_rests_5 : decode cX8_rests 5 = .ok (.ifCond .ne 8, 3) := by decide +kernel
theorem dX8_rests_8 : decode cX8_rests 8 = .ok (.aload_n 0, 1) := by decide +kernel
theorem dX8_rests_9 : decode cX8_rests 9 = .ok (.invokevirtual 78, 3) := by decide +kernel
theorem dX8_rests_12 : decode cX8_rests 12 = .ok (.ireturn, 1) := by decide +kernel
theorem dX8_rests_13 : decode cX8_rests 13 = .ok (.aload_n 0, 1) := by decide +kernel
theorem dX8_rests_14 : decode cX8_rests 14 = .ok (.invokevirtual 176, 3) := by decide +kernel
theorem dX8_rests_17 : decode cX8_rests 17 = .ok (.aload_n 0, 1) := by decide +kernel
theorem dX8_rests_18 : decode cX8_rests 18 = .ok (.iconst 0, 1) := by decide +kernel
theorem dX8_rests_19 : decode cX8_rests 19 = .ok (.iload_n 1, 1) := by decide +kernel
theorem dX8_rests_20 : decode cX8_rests 20 = .ok (.invokevirtual 142, 3) := by decide +kernel
theorem dX8_rests_23 : decode cX8_rests 23 = .ok (.ireturn, 1) := by decide +kernel
theorem dX8_hours_0 : decode cX8_hours 0 = .ok (.iload_n 1, 1) := by decide +kernel
theorem dX8_hours_1 : decode cX8_hours 1 = .ok (.iconst 1, 1) := by decide +kernel
theorem dX8_hours_2 : decode cX8_hours 2 = .ok (.bipush 99, 2) := by decide +kernel
theorem dX8_hours_4 : decode cX8_hours 4 = .ok (.invokestatic 39, 3) := by decide +kernel
theorem dX8_hours_7 : decode cX8_hours 7 = .ok (.ifCond .ne 8, 3) := by decide +kernel
theorem dX8_hours_10 : decode cX8_hours 10 = .ok (.aload_n 0, 1) := by decide +kernel
theorem dX8_hours_11 : decode cX8_hours 11 = .ok (.invokevirtual 78, 3) := by decide +kernel
theorem dX8_hours_14 : decode cX8_hours 14 = .ok (.ireturn, 1) := by decide +kernel
theorem dX8_hours_15 : decode cX8_hours 15 = .ok (.aload_n 0, 1) := by decide +kernel
theorem dX8_hours_16 : decode cX8_hours 16 = .ok (.invokevirtual 176, 3) := by decide +kernel
theorem dX8_hours_19 : decode cX8_hours 19 = .ok (.aload_n 0, 1) := by decide +kernel
theorem dX8_hours_20 : decode cX8_hours 20 = .ok (.iconst 0, 1) := by decide +kernel
theorem dX8_hours_21 : decode cX8_hours 21 = .ok (.iload_n 1, 1) := by decide +kernel
theorem dX8_hours_22 : decode cX8_hours 22 = .ok (.invokevirtual 66, 3) := by decide +kernel
theorem dX8_hours_25 : decode cX8_hours 25 = .ok (.aload_n 0, 1) := by decide +kernel
theorem dX8_hours_26 : decode cX8_hours 26 = .ok (.getfield 7, 3) := by decide +kernel
theorem dX8_hours_29 : decode cX8_hours 29 = .ok (.bipush 6, 2) := by decide +kernel
theorem dX8_hours_31 : decode cX8_hours 31 = .ok (.iaload, 1) := by decide +kernel
theorem dX8_hours_32 : decode cX8_hours 32 = .ok (.ireturn, 1) := by decide +kernel
theorem dX8_undo_0 : decode cX8_undo 0 = .ok (.aload_n 0, 1) := by decide +kernel
theorem dX8_undo_1 : decode cX8_undo 1 = .ok (.getfield 7, 3) := by decide +kernel
theorem dX8_undo_4 : decode cX8_undo 4 = .ok (.sipush 396, 3) := by decide +kernel
theorem dX8_undo_7 : decode cX8_undo 7 = .ok (.iaload, 1) := by decide +kernel
theorem dX8_undo_8 : decode cX8_undo 8 = .ok (.ifCond .ne 8, 3) := by decide +kernel
theorem dX8_undo_11 : decode cX8_undo 11 = .ok (.aload_n 0, 1) := by decide +kernel
theorem dX8_undo_12 : decode cX8_undo 12 = .ok (.invokevirtual 173, 3) := by decide +kernel
theorem dX8_undo_15 : decode cX8_undo 15 = .ok (.ireturn, 1) := by decide +kernel
theorem dX8_undo_16 : decode cX8_undo 16 = .ok (.aload_n 0, 1) := by decide +kernel
theorem dX8_undo_17 : decode cX8_undo 17 = .ok (.getfield 7, 3) := by decide +kernel
theorem dX8_undo_20 : decode cX8_undo 20 = .ok (.sipush 396, 3) := by decide +kernel
theorem dX8_undo_23 : decode cX8_undo 23 = .ok (.dup2, 1) := by decide +kernel
theorem dX8_undo_24 : decode cX8_undo 24 = .ok (.iaload, 1) := by decide +kernel
theorem dX8_undo_25 : decode cX8_undo 25 = .ok (.iconst 1, 1) := by decide +kernel
theorem dX8_undo_26 : decode cX8_undo 26 = .ok (.isub, 1) := by decide +kernel
theorem dX8_undo_27 : decode cX8_undo 27 = .ok (.iastore, 1) := by decide +kernel
theorem dX8_undo_28 : decode cX8_undo 28 = .ok (.aload_n 0, 1) := by decide +kernel
theorem dX8_undo_29 : decode cX8_undo 29 = .ok (.bipush 44, 2) := by decide +kernel
theorem dX8_undo_31 : decode cX8_undo 31 = .ok (.bipush 44, 2) := by decide +kernel
theorem dX8_undo_33 : decode cX8_undo 33 = .ok (.aload_n 0, 1) := by decide +kernel
theorem dX8_undo_34 : decode cX8_undo 34 = .ok (.getfield 7, 3) := by decide +kernel
theorem dX8_undo_37 : decode cX8_undo 37 = .ok (.sipush 396, 3) := by decide +kernel
theorem dX8_undo_40 : decode cX8_undo 40 = .ok (.iaload, 1) := by decide +kernel
theorem dX8_undo_41 : decode cX8_undo 41 = .ok (.imul, 1) := by decide +kernel
theorem dX8_undo_42 : decode cX8_undo 42 = .ok (.iadd, 1) := by decide +kernel
theorem dX8_undo_43 : decode cX8_undo 43 = .ok (.iconst 0, 1) := by decide +kernel
theorem dX8_undo_44 : decode cX8_undo 44 = .ok (.bipush 44, 2) := by decide +kernel
theorem dX8_undo_46 : decode cX8_undo 46 = .ok (.invokevirtual 70, 3) := by decide +kernel
theorem dX8_undo_49 : decode cX8_undo 49 = .ok (.aload_n 0, 1) := by decide +kernel
theorem dX8_undo_50 : decode cX8_undo 50 = .ok (.getfield 7, 3) := by decide +kernel
theorem dX8_undo_53 : decode cX8_undo 53 = .ok (.bipush 6, 2) := by decide +kernel
theorem dX8_undo_55 : decode cX8_undo 55 = .ok (.iaload, 1) := by decide +kernel
theorem dX8_undo_56 : decode cX8_undo 56 = .ok (.ireturn, 1) := by decide +kernel
theorem dX8_of_0 : decode cX8_of 0 = .ok (.aload_n 0, 1) := by decide +kernel
theorem dX8_of_1 : decode cX8_of 1 = .ok (.iload_n 1, 1) := by decide +kernel
theorem dX8_of_2 : decode cX8_of 2 = .ok (.invokevirtual 170, 3) := by decide +kernel
theorem dX8_of_5 : decode cX8_of 5 = .ok (.ifCond .eq 12, 3) := by decide +kernel
theorem dX8_of_8 : decode cX8_of 8 = .ok (.iload_n 2, 1) := by decide +kernel
theorem dX8_of_9 : decode cX8_of 9 = .ok (.iconst 0, 1) := by decide +kernel
theorem dX8_of_10 : decode cX8_of 10 = .ok (.iconst 2, 1) := by decide +kernel
theorem dX8_of_11 : decode cX8_of 11 = .ok (.invokestatic 39, 3) := by decide +kernel
theorem dX8_of_14 : decode cX8_of 14 = .ok (.ifCond .ne 8, 3) := by decide +kernel
theorem dX8_of_17 : decode cX8_of 17 = .ok (.aload_n 0, 1) := by decide +kernel
theorem dX8_of_18 : decode cX8_of 18 = .ok (.invokevirtual 78, 3) := by decide +kernel
theorem dX8_of_21 : decode cX8_of 21 = .ok (.ireturn, 1) := by decide +kernel
theorem dX8_of_22 : decode cX8_of 22 = .ok (.iload_n 2, 1) := by decide +kernel
theorem dX8_of_23 : decode cX8_of 23 = .ok (.ifCond .ne 16, 3) := by decide +kernel
theorem dX8_of_26 : decode cX8_of 26 = .ok (.aload_n 0, 1) := by decide +kernel
theorem dX8_of_27 : decode cX8_of 27 = .ok (.getfield 7, 3) := by decide +kernel
theorem dX8_of_30 : decode cX8_of 30 = .ok (.sipush 419, 3) := by decide +kernel
theorem dX8_of_33 : decode cX8_of 33 = .ok (.iload_n 1, 1) := by decide +kernel
theorem dX8_of_34 : decode cX8_of 34 = .ok (.iadd, 1) := by decide +kernel
theorem dX8_of_35 : decode cX8_of 35 = .ok (.iaload, 1) := by decide +kernel
theorem dX8_of_36 : decode cX8_of 36 = .ok (.goto 25, 3) := by decide +kernel
theorem dX8_of_39 : decode cX8_of 39 = .ok (.iload_n 2, 1) := by decide +kernel
theorem dX8_of_40 : decode cX8_of 40 = .ok (.iconst 1, 1) := by decide +kernel
theorem dX8_of_41 : decode cX8_of 41 = .ok (.if_icmp .ne 12, 3) := by decide +kernel
theorem dX8_of_44 : decode cX8_of 44 = .ok (.aload_n 0, 1) := by decide +kernel
theorem dX8_of_45 : decode cX8_of 45 = .ok (.getfield 7, 3) := by decide +kernel
theorem dX8_of_48 : decode cX8_of 48 = .ok (.iload_n 1, 1) := by decide +kernel
theorem dX8_of_49 : decode cX8_of 49 = .ok (.iaload, 1) := by decide +kernel
theorem dX8_of_50 : decode cX8_of 50 = .ok (.goto 11, 3) := by decide +kernel
theorem dX8_of_53 : decode cX8_of 53 = .ok (.aload_n 0, 1) := by decide +kernel
theorem dX8_of_54 : decode cX8_of 54 = .ok (.getfield 7, 3) := by decide +kernel
theorem dX8_of_57 : decode cX8_of 57 = .ok (.iconst 3, 1) := by decide +kernel
theorem dX8_of_58 : decode cX8_of 58 = .ok (.iload_n 1, 1) := by decide +kernel
theorem dX8_of_59 : decode cX8_of 59 = .ok (.iadd, 1) := by decide +kernel
theorem dX8_of_60 : decode cX8_of 60 = .ok (.iaload, 1) := by decide +kernel
theorem dX8_of_61 : decode cX8_of 61 = .ok (.ireturn, 1) := by decide +kernel
theorem dX8_about_0 : decode cX8_about 0 = .ok (.aload_n 0, 1) := by decide +kernel
theorem dX8_about_1 : decode cX8_about 1 = .ok (.iload_n 1, 1) := by decide +kernel
theorem dX8_about_2 : decode cX8_about 2 = .ok (.invokevirtual 88, 3) := by decide +kernel
theorem dX8_about_5 : decode cX8_about 5 = .ok (.ifCond .eq 29, 3) := by decide +kernel
theorem dX8_about_8 : decode cX8_about 8 = .ok (.iload_n 2, 1) := by decide +kernel
theorem dX8_about_9 : decode cX8_about 9 = .ok (.iconst 0, 1) := by decide +kernel
theorem dX8_about_10 : decode cX8_about 10 = .ok (.iconst 2, 1) := by decide +kernel
theorem dX8_about_11 : decode cX8_about 11 = .ok (.invokestatic 39, 3) := by decide +kernel
theorem dX8_about_14 : decode cX8_about 14 = .ok (.ifCond .eq 20, 3) := by decide +kernel
theorem dX8_about_17 : decode cX8_about 17 = .ok (.aload_n 0, 1) := by decide +kernel
theorem dX8_about_18 : decode cX8_about 18 = .ok (.getfield 7, 3) := by decide +kernel
theorem dX8_about_21 : decode cX8_about 21 = .ok (.sipush 397, 3) := by decide +kernel
theorem dX8_about_24 : decode cX8_about 24 = .ok (.iconst 3, 1) := by decide +kernel
theorem dX8_about_25 : decode cX8_about 25 = .ok (.iload_n 1, 1) := by decide +kernel
theorem dX8_about_26 : decode cX8_about 26 = .ok (.imul, 1) := by decide +kernel
theorem dX8_about_27 : decode cX8_about 27 = .ok (.iadd, 1) := by decide +kernel
theorem dX8_about_28 : decode cX8_about 28 = .ok (.iload_n 2, 1) := by decide +kernel
theorem dX8_about_29 : decode cX8_about 29 = .ok (.iadd, 1) := by decide +kernel
theorem dX8_about_30 : decode cX8_about 30 = .ok (.iaload, 1) := by decide +kernel
theorem dX8_about_31 : decode cX8_about 31 = .ok (.goto 7, 3) := by decide +kernel
theorem dX8_about_34 : decode cX8_about 34 = .ok (.aload_n 0, 1) := by decide +kernel
theorem dX8_about_35 : decode cX8_about 35 = .ok (.invokevirtual 78, 3) := by decide +kernel
theorem dX8_about_38 : decode cX8_about 38 = .ok (.ireturn, 1) := by decide +kernel
theorem dX8_straight_0 : decode cX8_straight 0 = .ok (.aload_n 0, 1) := by decide +kernel
theorem dX8_straight_1 : decode cX8_straight 1 = .ok (.iload_n 1, 1) := by decide +kernel
theorem dX8_straight_2 : decode cX8_straight 2 = .ok (.invokevirtual 88, 3) := by decide +kernel
theorem dX8_straight_5 : decode cX8_straight 5 = .ok (.ifCond .eq 21, 3) := by decide +kernel
theorem dX8_straight_8 : decode cX8_straight 8 = .ok (.aload_n 0, 1) := by decide +kernel
theorem dX8_straight_9 : decode cX8_straight 9 = .ok (.iload_n 2, 1) := by decide +kernel
theorem dX8_straight_10 : decode cX8_straight 10 = .ok (.invokevirtual 88, 3) := by decide +kernel
theorem dX8_straight_13 : decode cX8_straight 13 = .ok (.ifCond .eq 13, 3) := by decide +kernel
theorem dX8_straight_16 : decode cX8_straight 16 = .ok (.aload_n 0, 1) := by decide +kernel
theorem dX8_straight_17 : decode cX8_straight 17 = .ok (.iconst 0, 1) := by decide +kernel
theorem dX8_straight_18 : decode cX8_straight 18 = .ok (.iload_n 1, 1) := by decide +kernel
theorem dX8_straight_19 : decode cX8_straight 19 = .ok (.iload_n 2, 1) := by decide +kernel
theorem dX8_straight_20 : decode cX8_straight 20 = .ok (.invokevirtual 47, 3) := by decide +kernel
theorem dX8_straight_23 : decode cX8_straight 23 = .ok (.goto 7, 3) := by decide +kernel
theorem dX8_straight_26 : decode cX8_straight 26 = .ok (.aload_n 0, 1) := by decide +kernel
theorem dX8_straight_27 : decode cX8_straight 27 = .ok (.invokevirtual 78, 3) := by decide +kernel
theorem dX8_straight_30 : decode cX8_straight 30 = .ok (.ireturn, 1) := by decide +kernel
theorem dX8_far_0 : decode cX8_far 0 = .ok (.aload_n 0, 1) := by decide +kernel
theorem dX8_far_1 : decode cX8_far 1 = .ok (.iload_n 1, 1) := by decide +kernel
theorem dX8_far_2 : decode cX8_far 2 = .ok (.invokevirtual 170, 3) := by decide +kernel
theorem dX8_far_5 : decode cX8_far 5 = .ok (.ifCond .eq 29, 3) := by decide +kernel
theorem dX8_far_8 : decode cX8_far 8 = .ok (.aload_n 0, 1) := by decide +kernel
theorem dX8_far_9 : decode cX8_far 9 = .ok (.iload_n 2, 1) := by decide +kernel
theorem dX8_far_10 : decode cX8_far 10 = .ok (.invokevirtual 88, 3) := by decide +kernel
theorem dX8_far_13 : decode cX8_far 13 = .ok (.ifCond .eq 21, 3) := by decide +kernel
theorem dX8_far_16 : decode cX8_far 16 = .ok (.aload_n 0, 1) := by decide +kernel
theorem dX8_far_17 : decode cX8_far 17 = .ok (.iload_n 3, 1) := by decide +kernel
theorem dX8_far_18 : decode cX8_far 18 = .ok (.invokevirtual 88, 3) := by decide +kernel
theorem dX8_far_21 : decode cX8_far 21 = .ok (.ifCond .eq 13, 3) := by decide +kernel
theorem dX8_far_24 : decode cX8_far 24 = .ok (.aload_n 0, 1) := by decide +kernel
theorem dX8_far_25 : decode cX8_far 25 = .ok (.iload_n 1, 1) := by decide +kernel
theorem dX8_far_26 : decode cX8_far 26 = .ok (.iload_n 2, 1) := by decide +kernel
theorem dX8_far_27 : decode cX8_far 27 = .ok (.iload_n 3, 1) := by decide +kernel
theorem dX8_far_28 : decode cX8_far 28 = .ok (.invokevirtual 179, 3) := by decide +kernel
theorem dX8_far_31 : decode cX8_far 31 = .ok (.goto 7, 3) := by decide +kernel
theorem dX8_far_34 : decode cX8_far 34 = .ok (.aload_n 0, 1) := by decide +kernel
theorem dX8_far_35 : decode cX8_far 35 = .ok (.invokevirtual 78, 3) := by decide +kernel
theorem dX8_far_38 : decode cX8_far 38 = .ok (.ireturn, 1) := by decide +kernel
theorem dX8_layFars_0 : decode cX8_layFars 0 = .ok (.iconst 0, 1) := by decide +kernel
theorem dX8_layFars_1 : decode cX8_layFars 1 = .ok (.istore_n 2, 1) := by decide +kernel
theorem dX8_layFars_2 : decode cX8_layFars 2 = .ok (.iload_n 2, 1) := by decide +kernel
theorem dX8_layFars_3 : decode cX8_layFars 3 = .ok (.aload_n 0, 1) := by decide +kernel
theorem dX8_layFars_4 : decode cX8_layFars 4 = .ok (.getfield 7, 3) := by decide +kernel
theorem dX8_layFars_7 : decode cX8_layFars 7 = .ok (.sipush 418, 3) := by decide +kernel
theorem dX8_layFars_10 : decode cX8_layFars 10 = .ok (.iaload, 1) := by decide +kernel
theorem dX8_layFars_11 : decode cX8_layFars 11 = .ok (.if_icmp .ge 47, 3) := by decide +kernel
theorem dX8_layFars_14 : decode cX8_layFars 14 = .ok (.iconst 0, 1) := by decide +kernel
theorem dX8_layFars_15 : decode cX8_layFars 15 = .ok (.istore_n 3, 1) := by decide +kernel
theorem dX8_layFars_16 : decode cX8_layFars 16 = .ok (.iload_n 3, 1) := by decide +kernel
theorem dX8_layFars_17 : decode cX8_layFars 17 = .ok (.aload_n 0, 1) := by decide +kernel
theorem dX8_layFars_18 : decode cX8_layFars 18 = .ok (.getfield 7, 3) := by decide +kernel
theorem dX8_layFars_21 : decode cX8_layFars 21 = .ok (.sipush 418, 3) := by decide +kernel
theorem dX8_layFars_24 : decode cX8_layFars 24 = .ok (.iaload, 1) := by decide +kernel
theorem dX8_layFars_25 : decode cX8_layFars 25 = .ok (.if_icmp .ge 27, 3) := by decide +kernel
theorem dX8_layFars_28 : decode cX8_layFars 28 = .ok (.aload_n 0, 1) := by decide +kernel
theorem dX8_layFars_29 : decode cX8_layFars 29 = .ok (.getfield 23, 3) := by decide +kernel
theorem dX8_layFars_32 : decode cX8_layFars 32 = .ok (.bipush 7, 2) := by decide +kernel
theorem dX8_layFars_34 : decode cX8_layFars 34 = .ok (.iload_n 2, 1) := by decide +kernel
theorem dX8_layFars_35 : decode cX8_layFars 35 = .ok (.imul, 1) := by decide +kernel
theorem dX8_layFars_36 : decode cX8_layFars 36 = .ok (.iload_n 3, 1) := by decide +kernel
theorem dX8_layFars_37 : decode cX8_layFars 37 = .ok (.iadd, 1) := by decide +kernel
theorem dX8_layFars_38 : decode cX8_layFars 38 = .ok (.aload_n 0, 1) := by decide +kernel
theorem dX8_layFars_39 : decode cX8_layFars 39 = .ok (.iload_n 1, 1) := by decide +kernel
theorem dX8_layFars_40 : decode cX8_layFars 40 = .ok (.iload_n 2, 1) := by decide +kernel
theorem dX8_layFars_41 : decode cX8_layFars 41 = .ok (.iload_n 3, 1) := by decide +kernel
theorem dX8_layFars_42 : decode cX8_layFars 42 = .ok (.invokevirtual 179, 3) := by decide +kernel
theorem dX8_layFars_45 : decode cX8_layFars 45 = .ok (.iastore, 1) := by decide +kernel
theorem dX8_layFars_46 : decode cX8_layFars 46 = .ok (.iinc 3 1, 3) := by decide +kernel
theorem dX8_layFars_49 : decode cX8_layFars 49 = .ok (.goto (-33), 3) := by decide +kernel
theorem dX8_layFars_52 : decode cX8_layFars 52 = .ok (.iinc 2 1, 3) := by decide +kernel
theorem dX8_layFars_55 : decode cX8_layFars 55 = .ok (.goto (-53), 3) := by decide +kernel
theorem dX8_layFars_58 : decode cX8_layFars 58 = .ok (.return_, 1) := by decide +kernel
theorem dX8_partTo_0 : decode cX8_partTo 0 = .ok (.bipush 16, 2) := by decide +kernel
theorem dX8_partTo_2 : decode cX8_partTo 2 = .ok (.aload_n 0, 1) := by decide +kernel
theorem dX8_partTo_3 : decode cX8_partTo 3 = .ok (.getfield 23, 3) := by decide +kernel
theorem dX8_partTo_6 : decode cX8_partTo 6 = .ok (.bipush 7, 2) := by decide +kernel
theorem dX8_partTo_8 : decode cX8_partTo 8 = .ok (.iload_n 2, 1) := by decide +kernel
theorem dX8_partTo_9 : decode cX8_partTo 9 = .ok (.imul, 1) := by decide +kernel
theorem dX8_partTo_10 : decode cX8_partTo 10 = .ok (.iload_n 3, 1) := by decide +kernel
theorem dX8_partTo_11 : decode cX8_partTo 11 = .ok (.iadd, 1) := by decide +kernel
theorem dX8_partTo_12 : decode cX8_partTo 12 = .ok (.iaload, 1) := by decide +kernel
theorem dX8_partTo_13 : decode cX8_partTo 13 = .ok (.imul, 1) := by decide +kernel
theorem dX8_partTo_14 : decode cX8_partTo 14 = .ok (.iconst 1, 1) := by decide +kernel
theorem dX8_partTo_15 : decode cX8_partTo 15 = .ok (.iadd, 1) := by decide +kernel
theorem dX8_partTo_16 : decode cX8_partTo 16 = .ok (.aload_n 0, 1) := by decide +kernel
theorem dX8_partTo_17 : decode cX8_partTo 17 = .ok (.getfield 20, 3) := by decide +kernel
theorem dX8_partTo_20 : decode cX8_partTo 20 = .ok (.bipush 7, 2) := by decide +kernel
theorem dX8_partTo_22 : decode cX8_partTo 22 = .ok (.iload_n 1, 1) := by decide +kernel
theorem dX8_partTo_23 : decode cX8_partTo 23 = .ok (.iconst 1, 1) := by decide +kernel
theorem dX8_partTo_24 : decode cX8_partTo 24 = .ok (.iload_n 3, 1) := by decide +kernel
theorem dX8_partTo_25 : decode cX8_partTo 25 = .ok (.ishl, 1) := by decide +kernel
theorem dX8_partTo_26 : decode cX8_partTo 26 = .ok (.ior, 1) := by decide +kernel
theorem dX8_partTo_27 : decode cX8_partTo 27 = .ok (.imul, 1) := by decide +kernel
theorem dX8_partTo_28 : decode cX8_partTo 28 = .ok (.iload_n 3, 1) := by decide +kernel
theorem dX8_partTo_29 : decode cX8_partTo 29 = .ok (.iadd, 1) := by decide +kernel
theorem dX8_partTo_30 : decode cX8_partTo 30 = .ok (.iaload, 1) := by decide +kernel
theorem dX8_partTo_31 : decode cX8_partTo 31 = .ok (.iadd, 1) := by decide +kernel
theorem dX8_partTo_32 : decode cX8_partTo 32 = .ok (.ireturn, 1) := by decide +kernel
theorem dX8_leastFrom_0 : decode cX8_leastFrom 0 = .ok (.iconst 1, 1) := by decide +kernel
theorem dX8_leastFrom_1 : decode cX8_leastFrom 1 = .ok (.aload_n 0, 1) := by decide +kernel
theorem dX8_leastFrom_2 : decode cX8_leastFrom 2 = .ok (.getfield 7, 3) := by decide +kernel
theorem dX8_leastFrom_5 : decode cX8_leastFrom 5 = .ok (.sipush 418, 3) := by decide +kernel
theorem dX8_leastFrom_8 : decode cX8_leastFrom 8 = .ok (.iaload, 1) := by decide +kernel
theorem dX8_leastFrom_9 : decode cX8_leastFrom 9 = .ok (.ishl, 1) := by decide +kernel
theorem dX8_leastFrom_10 : decode cX8_leastFrom 10 = .ok (.iconst 1, 1) := by decide +kernel
theorem dX8_leastFrom_11 : decode cX8_leastFrom 11 = .ok (.isub, 1) := by decide +kernel
theorem dX8_leastFrom_12 : decode cX8_leastFrom 12 = .ok (.istore 4, 2) := by decide +kernel
theorem dX8_leastFrom_14 : decode cX8_leastFrom 14 = .ok (.iload_n 2, 1) := by decide +kernel
theorem dX8_leastFrom_15 : decode cX8_leastFrom 15 = .ok (.iload_n 3, 1) := by decide +kernel
theorem dX8_leastFrom_16 : decode cX8_leastFrom 16 = .ok (.if_icmp .ne 5, 3) := by decide +kernel
theorem dX8_leastFrom_19 : decode cX8_leastFrom 19 = .ok (.iconst 0, 1) := by decide +kernel
theorem dX8_leastFrom_20 : decode cX8_leastFrom 20 = .ok (.ireturn, 1) := by decide +kernel
theorem dX8_leastFrom_21 : decode cX8_leastFrom 21 = .ok (.iload_n 3, 1) := by decide +kernel
theorem dX8_leastFrom_22 : decode cX8_leastFrom 22 = .ok (.iconst (-1), 1) := by decide +kernel
theorem dX8_leastFrom_23 : decode cX8_leastFrom 23 = .ok (.if_icmp .ne 22, 3) := by decide +kernel
theorem dX8_leastFrom_26 : decode cX8_leastFrom 26 = .ok (.iload_n 1, 1) := by decide +kernel
theorem dX8_leastFrom_27 : decode cX8_leastFrom 27 = .ok (.iload 4, 2) := by decide +kernel
theorem dX8_leastFrom_29 : decode cX8_leastFrom 29 = .ok (.if_icmp .ne 16, 3) := by decide +kernel
theorem dX8_leastFrom_32 : decode cX8_leastFrom 32 = .ok (.bipush 16, 2) := by decide +kernel
theorem dX8_leastFrom_34 : decode cX8_leastFrom 34 = .ok (.aload_n 0, 1) := by decide +kernel
theorem dX8_leastFrom_35 : decode cX8_leastFrom 35 = .ok (.getfield 23, 3) := by decide +kernel
theorem dX8_leastFrom_38 : decode cX8_leastFrom 38 = .ok (.bipush 7, 2) := by decide +kernel
theorem dX8_leastFrom_40 : decode cX8_leastFrom 40 = .ok (.iload_n 2, 1) := by decide +kernel
theorem dX8_leastFrom_41 : decode cX8_leastFrom 41 = .ok (.imul, 1) := by decide +kernel
theorem dX8_leastFrom_42 : decode cX8_leastFrom 42 = .ok (.iaload, 1) := by decide +kernel
theorem dX8_leastFrom_43 : decode cX8_leastFrom 43 = .ok (.imul, 1) := by decide +kernel
theorem dX8_leastFrom_44 : decode cX8_leastFrom 44 = .ok (.ireturn, 1) := by decide +kernel
theorem dX8_leastFrom_45 : decode cX8_leastFrom 45 = .ok (.ldc 182, 2) := by decide +kernel
theorem dX8_leastFrom_47 : decode cX8_leastFrom 47 = .ok (.istore 5, 2) := by decide +kernel
theorem dX8_leastFrom_49 : decode cX8_leastFrom 49 = .ok (.iconst 0, 1) := by decide +kernel
theorem dX8_leastFrom_50 : decode cX8_leastFrom 50 = .ok (.istore 6, 2) := by decide +kernel
theorem dX8_leastFrom_52 : decode cX8_leastFrom 52 = .ok (.iload 6, 2) := by decide +kernel
theorem dX8_leastFrom_54 : decode cX8_leastFrom 54 = .ok (.aload_n 0, 1) := by decide +kernel
theorem dX8_leastFrom_55 : decode cX8_leastFrom 55 = .ok (.getfield 7, 3) := by decide +kernel
theorem dX8_leastFrom_58 : decode cX8_leastFrom 58 = .ok (.sipush 418, 3) := by decide +kernel
theorem dX8_leastFrom_61 : decode cX8_leastFrom 61 = .ok (.iaload, 1) := by decide +kernel
theorem dX8_leastFrom_62 : decode cX8_leastFrom 62 = .ok (.if_icmp .ge 46, 3) := by decide +kernel
theorem dX8_leastFrom_65 : decode cX8_leastFrom 65 = .ok (.iload_n 1, 1) := by decide +kernel
theorem dX8_leastFrom_66 : decode cX8_leastFrom 66 = .ok (.iload 6, 2) := by decide +kernel
theorem dX8_leastFrom_68 : decode cX8_leastFrom 68 = .ok (.invokestatic 183, 3) := by decide +kernel
theorem dX8_leastFrom_71 : decode cX8_leastFrom 71 = .ok (.ifCond .ne 31, 3) := by decide +kernel
theorem dX8_leastFrom_74 : decode cX8_leastFrom 74 = .ok (.aload_n 0, 1) := by decide +kernel
theorem dX8_leastFrom_75 : decode cX8_leastFrom 75 = .ok (.iload_n 1, 1) := by decide +kernel
theorem dX8_leastFrom_76 : decode cX8_leastFrom 76 = .ok (.iload_n 2, 1) := by decide +kernel
theorem dX8_leastFrom_77 : decode cX8_leastFrom 77 = .ok (.iload 6, 2) := by decide +kernel
theorem dX8_leastFrom_79 : decode cX8_leastFrom 79 = .ok (.invokevirtual 187, 3) := by decide +kernel
theorem dX8_leastFrom_82 : decode cX8_leastFrom 82 = .ok (.iload 5, 2) := by decide +kernel
theorem dX8_leastFrom_84 : decode cX8_leastFrom 84 = .ok (.if_icmp .ge 14, 3) := by decide +kernel
theorem dX8_leastFrom_87 : decode cX8_leastFrom 87 = .ok (.aload_n 0, 1) := by decide +kernel
theorem dX8_leastFrom_88 : decode cX8_leastFrom 88 = .ok (.iload_n 1, 1) := by decide +kernel
theorem dX8_leastFrom_89 : decode cX8_leastFrom 89 = .ok (.iload_n 2, 1) := by decide +kernel
theorem dX8_leastFrom_90 : decode cX8_leastFrom 90 = .ok (.iload 6, 2) := by decide +kernel
theorem dX8_leastFrom_92 : decode cX8_leastFrom 92 = .ok (.invokevirtual 187, 3) := by decide +kernel
theorem dX8_leastFrom_95 : decode cX8_leastFrom 95 = .ok (.goto 5, 3) := by decide +kernel
theorem dX8_leastFrom_98 : decode cX8_leastFrom 98 = .ok (.iload 5, 2) := by decide +kernel
theorem dX8_leastFrom_100 : decode cX8_leastFrom 100 = .ok (.istore 5, 2) := by decide +kernel
theorem dX8_leastFrom_102 : decode cX8_leastFrom 102 = .ok (.iinc 6 1, 3) := by decide +kernel
theorem dX8_leastFrom_105 : decode cX8_leastFrom 105 = .ok (.goto (-53), 3) := by decide +kernel
theorem dX8_leastFrom_108 : decode cX8_leastFrom 108 = .ok (.iload 5, 2) := by decide +kernel
theorem dX8_leastFrom_110 : decode cX8_leastFrom 110 = .ok (.ireturn, 1) := by decide +kernel
theorem dX8_layYet_0 : decode cX8_layYet 0 = .ok (.iconst 1, 1) := by decide +kernel
theorem dX8_layYet_1 : decode cX8_layYet 1 = .ok (.aload_n 0, 1) := by decide +kernel
theorem dX8_layYet_2 : decode cX8_layYet 2 = .ok (.getfield 7, 3) := by decide +kernel
theorem dX8_layYet_5 : decode cX8_layYet 5 = .ok (.sipush 418, 3) := by decide +kernel
theorem dX8_layYet_8 : decode cX8_layYet 8 = .ok (.iaload, 1) := by decide +kernel
theorem dX8_layYet_9 : decode cX8_layYet 9 = .ok (.ishl, 1) := by decide +kernel
theorem dX8_layYet_10 : decode cX8_layYet 10 = .ok (.iconst 1, 1) := by decide +kernel
theorem dX8_layYet_11 : decode cX8_layYet 11 = .ok (.isub, 1) := by decide +kernel
theorem dX8_layYet_12 : decode cX8_layYet 12 = .ok (.istore_n 2, 1) := by decide +kernel
theorem dX8_layYet_13 : decode cX8_layYet 13 = .ok (.iload_n 2, 1) := by decide +kernel
theorem dX8_layYet_14 : decode cX8_layYet 14 = .ok (.ifCond .le 60, 3) := by decide +kernel
theorem dX8_layYet_17 : decode cX8_layYet 17 = .ok (.iconst 0, 1) := by decide +kernel
theorem dX8_layYet_18 : decode cX8_layYet 18 = .ok (.istore_n 3, 1) := by decide +kernel
theorem dX8_layYet_19 : decode cX8_layYet 19 = .ok (.iload_n 3, 1) := by decide +kernel
theorem dX8_layYet_20 : decode cX8_layYet 20 = .ok (.aload_n 0, 1) := by decide +kernel
theorem dX8_layYet_21 : decode cX8_layYet 21 = .ok (.getfield 7, 3) := by decide +kernel
theorem dX8_layYet_24 : decode cX8_layYet 24 = .ok (.sipush 418, 3) := by decide +kernel
theorem dX8_layYet_27 : decode cX8_layYet 27 = .ok (.iaload, 1) := by decide +kernel
theorem dX8_layYet_28 : decode cX8_layYet 28 = .ok (.if_icmp .ge 40, 3) := by decide +kernel
theorem dX8_layYet_31 : decode cX8_layYet 31 = .ok (.aload_n 0, 1) := by decide +kernel
theorem dX8_layYet_32 : decode cX8_layYet 32 = .ok (.getfield 20, 3) := by decide +kernel
theorem dX8_layYet_35 : decode cX8_layYet 35 = .ok (.bipush 7, 2) := by decide +kernel
theorem dX8_layYet_37 : decode cX8_layYet 37 = .ok (.iload_n 2, 1) := by decide +kernel
theorem dX8_layYet_38 : decode cX8_layYet 38 = .ok (.imul, 1) := by decide +kernel
theorem dX8_layYet_39 : decode cX8_layYet 39 = .ok (.iload_n 3, 1) := by decide +kernel
theorem dX8_layYet_40 : decode cX8_layYet 40 = .ok (.iadd, 1) := by decide +kernel
theorem dX8_layYet_41 : decode cX8_layYet 41 = .ok (.iload_n 2, 1) := by decide +kernel
theorem dX8_layYet_42 : decode cX8_layYet 42 = .ok (.iload_n 3, 1) := by decide +kernel
theorem dX8_layYet_43 : decode cX8_layYet 43 = .ok (.invokestatic 183, 3) := by decide +kernel
theorem dX8_layYet_46 : decode cX8_layYet 46 = .ok (.ifCond .eq 13, 3) := by decide +kernel
theorem dX8_layYet_49 : decode cX8_layYet 49 = .ok (.aload_n 0, 1) := by decide +kernel
theorem dX8_layYet_50 : decode cX8_layYet 50 = .ok (.iload_n 2, 1) := by decide +kernel
theorem dX8_layYet_51 : decode cX8_layYet 51 = .ok (.iload_n 3, 1) := by decide +kernel
theorem dX8_layYet_52 : decode cX8_layYet 52 = .ok (.iload_n 1, 1) := by decide +kernel
theorem dX8_layYet_53 : decode cX8_layYet 53 = .ok (.invokevirtual 190, 3) := by decide +kernel
theorem dX8_layYet_56 : decode cX8_layYet 56 = .ok (.goto 5, 3) := by decide +kernel
theorem dX8_layYet_59 : decode cX8_layYet 59 = .ok (.ldc 182, 2) := by decide +kernel
theorem dX8_layYet_61 : decode cX8_layYet 61 = .ok (.iastore, 1) := by decide +kernel
theorem dX8_layYet_62 : decode cX8_layYet 62 = .ok (.iinc 3 1, 3) := by decide +kernel
theorem dX8_layYet_65 : decode cX8_layYet 65 = .ok (.goto (-46), 3) := by decide +kernel
theorem dX8_layYet_68 : decode cX8_layYet 68 = .ok (.iinc 2 (-1), 3) := by decide +kernel
theorem dX8_layYet_71 : decode cX8_layYet 71 = .ok (.goto (-58), 3) := by decide +kernel
theorem dX8_layYet_74 : decode cX8_layYet 74 = .ok (.return_, 1) := by decide +kernel
theorem dX8_kth_0 : decode cX8_kth 0 = .ok (.iconst 1, 1) := by decide +kernel
theorem dX8_kth_1 : decode cX8_kth 1 = .ok (.iload_n 1, 1) := by decide +kernel
theorem dX8_kth_2 : decode cX8_kth 2 = .ok (.ishl, 1) := by decide +kernel
theorem dX8_kth_3 : decode cX8_kth 3 = .ok (.istore 4, 2) := by decide +kernel
theorem dX8_kth_5 : decode cX8_kth 5 = .ok (.iload_n 1, 1) := by decide +kernel
theorem dX8_kth_6 : decode cX8_kth 6 = .ok (.istore 5, 2) := by decide +kernel
theorem dX8_kth_8 : decode cX8_kth 8 = .ok (.iconst 0, 1) := by decide +kernel
theorem dX8_kth_9 : decode cX8_kth 9 = .ok (.istore 6, 2) := by decide +kernel
theorem dX8_kth_11 : decode cX8_kth 11 = .ok (.iconst 1, 1) := by decide +kernel
theorem dX8_kth_12 : decode cX8_kth 12 = .ok (.aload_n 0, 1) := by decide +kernel
theorem dX8_kth_13 : decode cX8_kth 13 = .ok (.getfield 7, 3) := by decide +kernel
theorem dX8_kth_16 : decode cX8_kth 16 = .ok (.sipush 418, 3) := by decide +kernel
theorem dX8_kth_19 : decode cX8_kth 19 = .ok (.iaload, 1) := by decide +kernel
theorem dX8_kth_20 : decode cX8_kth 20 = .ok (.ishl, 1) := by decide +kernel
theorem dX8_kth_21 : decode cX8_kth 21 = .ok (.iconst 1, 1) := by decide +kernel
theorem dX8_kth_22 : decode cX8_kth 22 = .ok (.isub, 1) := by decide +kernel
theorem dX8_kth_23 : decode cX8_kth 23 = .ok (.istore 7, 2) := by decide +kernel
theorem dX8_kth_25 : decode cX8_kth 25 = .ok (.iload 5, 2) := by decide +kernel
theorem dX8_kth_27 : decode cX8_kth 27 = .ok (.iload_n 2, 1) := by decide +kernel
theorem dX8_kth_28 : decode cX8_kth 28 = .ok (.if_icmp .eq 10, 3) := by decide +kernel
theorem dX8_kth_31 : decode cX8_kth 31 = .ok (.iload 4, 2) := by decide +kernel
theorem dX8_kth_33 : decode cX8_kth 33 = .ok (.iload 7, 2) := by decide +kernel
theorem dX8_kth_35 : decode cX8_kth 35 = .ok (.if_icmp .ne 14, 3) := by decide +kernel
theorem dX8_kth_38 : decode cX8_kth 38 = .ok (.iload 5, 2) := by decide +kernel
theorem dX8_kth_40 : decode cX8_kth 40 = .ok (.iload_n 2, 1) := by decide +kernel
theorem dX8_kth_41 : decode cX8_kth 41 = .ok (.if_icmp .eq 81, 3) := by decide +kernel
theorem dX8_kth_44 : decode cX8_kth 44 = .ok (.iload_n 2, 1) := by decide +kernel
theorem dX8_kth_45 : decode cX8_kth 45 = .ok (.iconst (-1), 1) := by decide +kernel
theorem dX8_kth_46 : decode cX8_kth 46 = .ok (.if_icmp .eq 76, 3) := by decide +kernel
theorem dX8_kth_49 : decode cX8_kth 49 = .ok (.iconst 0, 1) := by decide +kernel
theorem dX8_kth_50 : decode cX8_kth 50 = .ok (.istore 8, 2) := by decide +kernel
theorem dX8_kth_52 : decode cX8_kth 52 = .ok (.iload 4, 2) := by decide +kernel
theorem dX8_kth_54 : decode cX8_kth 54 = .ok (.iload 8, 2) := by decide +kernel
theorem dX8_kth_56 : decode cX8_kth 56 = .ok (.invokestatic 183, 3) := by decide +kernel
theorem dX8_kth_59 : decode cX8_kth 59 = .ok (.ifCond .ne 29, 3) := by decide +kernel
theorem dX8_kth_62 : decode cX8_kth 62 = .ok (.aload_n 0, 1) := by decide +kernel
theorem dX8_kth_63 : decode cX8_kth 63 = .ok (.iload 4, 2) := by decide +kernel
theorem dX8_kth_65 : decode cX8_kth 65 = .ok (.iload 5, 2) := by decide +kernel
theorem dX8_kth_67 : decode cX8_kth 67 = .ok (.iload 8, 2) := by decide +kernel
theorem dX8_kth_69 : decode cX8_kth 69 = .ok (.invokevirtual 187, 3) := by decide +kernel
theorem dX8_kth_72 : decode cX8_kth 72 = .ok (.aload_n 0, 1) := by decide +kernel
theorem dX8_kth_73 : decode cX8_kth 73 = .ok (.getfield 20, 3) := by decide +kernel
theorem dX8_kth_76 : decode cX8_kth 76 = .ok (.bipush 7, 2) := by decide +kernel
theorem dX8_kth_78 : decode cX8_kth 78 = .ok (.iload 4, 2) := by decide +kernel
theorem dX8_kth_80 : decode cX8_kth 80 = .ok (.imul, 1) := by decide +kernel
theorem dX8_kth_81 : decode cX8_kth 81 = .ok (.iload 5, 2) := by decide +kernel
theorem dX8_kth_83 : decode cX8_kth 83 = .ok (.iadd, 1) := by decide +kernel
theorem dX8_kth_84 : decode cX8_kth 84 = .ok (.iaload, 1) := by decide +kernel
theorem dX8_kth_85 : decode cX8_kth 85 = .ok (.if_icmp .eq 9, 3) := by decide +kernel
theorem dX8_kth_88 : decode cX8_kth 88 = .ok (.iinc 8 1, 3) := by decide +kernel
theorem dX8_kth_91 : decode cX8_kth 91 = .ok (.goto (-39), 3) := by decide +kernel
theorem dX8_kth_94 : decode cX8_kth 94 = .ok (.iload 6, 2) := by decide +kernel
theorem dX8_kth_96 : decode cX8_kth 96 = .ok (.iload_n 3, 1) := by decide +kernel
theorem dX8_kth_97 : decode cX8_kth 97 = .ok (.if_icmp .ne 6, 3) := by decide +kernel
theorem dX8_kth_100 : decode cX8_kth 100 = .ok (.iload 8, 2) := by decide +kernel
theorem dX8_kth_102 : decode cX8_kth 102 = .ok (.ireturn, 1) := by decide +kernel
theorem dX8_kth_103 : decode cX8_kth 103 = .ok (.iinc 6 1, 3) := by decide +kernel
theorem dX8_kth_106 : decode cX8_kth 106 = .ok (.iload 4, 2) := by decide +kernel
theorem dX8_kth_108 : decode cX8_kth 108 = .ok (.iconst 1, 1) := by decide +kernel
theorem dX8_kth_109 : decode cX8_kth 109 = .ok (.iload 8, 2) := by decide +kernel
theorem dX8_kth_111 : decode cX8_kth 111 = .ok (.ishl, 1) := by decide +kernel
theorem dX8_kth_112 : decode cX8_kth 112 = .ok (.ior, 1) := by decide +kernel
theorem dX8_kth_113 : decode cX8_kth 113 = .ok (.istore 4, 2) := by decide +kernel
theorem dX8_kth_115 : decode cX8_kth 115 = .ok (.iload 8, 2) := by decide +kernel
theorem dX8_kth_117 : decode cX8_kth 117 = .ok (.istore 5, 2) := by decide +kernel
theorem dX8_kth_119 : decode cX8_kth 119 = .ok (.goto (-94), 3) := by decide +kernel
theorem dX8_kth_122 : decode cX8_kth 122 = .ok (.bipush (-5), 2) := by decide +kernel
theorem dX8_kth_124 : decode cX8_kth 124 = .ok (.ireturn, 1) := by decide +kernel
theorem dX8_way_0 : decode cX8_way 0 = .ok (.aload_n 0, 1) := by decide +kernel
theorem dX8_way_1 : decode cX8_way 1 = .ok (.iload_n 1, 1) := by decide +kernel
theorem dX8_way_2 : decode cX8_way 2 = .ok (.invokevirtual 170, 3) := by decide +kernel
theorem dX8_way_5 : decode cX8_way 5 = .ok (.ifCond .eq 25, 3) := by decide +kernel
theorem dX8_way_8 : decode cX8_way 8 = .ok (.aload_n 0, 1) := by decide +kernel
theorem dX8_way_9 : decode cX8_way 9 = .ok (.iload_n 2, 1) := by decide +kernel
theorem dX8_way_10 : decode cX8_way 10 = .ok (.invokevirtual 88, 3) := by decide +kernel
theorem dX8_way_13 : decode cX8_way 13 = .ok (.ifCond .eq 17, 3) := by decide +kernel
theorem dX8_way_16 : decode cX8_way 16 = .ok (.aload_n 0, 1) := by decide +kernel
theorem dX8_way_17 : decode cX8_way 17 = .ok (.iload_n 3, 1) := by decide +kernel
theorem dX8_way_18 : decode cX8_way 18 = .ok (.invokevirtual 88, 3) := by decide +kernel
theorem dX8_way_21 : decode cX8_way 21 = .ok (.ifCond .eq 9, 3) := by decide +kernel
theorem dX8_way_24 : decode cX8_way 24 = .ok (.iload 4, 2) := by decide +kernel
theorem dX8_way_26 : decode cX8_way 26 = .ok (.iconst (-1), 1) := by decide +kernel
theorem dX8_way_27 : decode cX8_way 27 = .ok (.if_icmp .ge 8, 3) := by decide +kernel
theorem dX8_way_30 : decode cX8_way 30 = .ok (.aload_n 0, 1) := by decide +kernel
theorem dX8_way_31 : decode cX8_way 31 = .ok (.invokevirtual 193, 3) := by decide +kernel
theorem dX8_way_34 : decode cX8_way 34 = .ok (.ireturn, 1) := by decide +kernel
theorem dX8_way_35 : decode cX8_way 35 = .ok (.aload_n 0, 1) := by decide +kernel
theorem dX8_way_36 : decode cX8_way 36 = .ok (.iload_n 1, 1) := by decide +kernel
theorem dX8_way_37 : decode cX8_way 37 = .ok (.invokevirtual 196, 3) := by decide +kernel
theorem dX8_way_40 : decode cX8_way 40 = .ok (.aload_n 0, 1) := by decide +kernel
theorem dX8_way_41 : decode cX8_way 41 = .ok (.iload_n 3, 1) := by decide +kernel
theorem dX8_way_42 : decode cX8_way 42 = .ok (.invokevirtual 199, 3) := by decide +kernel
theorem dX8_way_45 : decode cX8_way 45 = .ok (.iload 4, 2) := by decide +kernel
theorem dX8_way_47 : decode cX8_way 47 = .ok (.iconst (-1), 1) := by decide +kernel
theorem dX8_way_48 : decode cX8_way 48 = .ok (.if_icmp .ne 22, 3) := by decide +kernel
theorem dX8_way_51 : decode cX8_way 51 = .ok (.aload_n 0, 1) := by decide +kernel
theorem dX8_way_52 : decode cX8_way 52 = .ok (.getfield 20, 3) := by decide +kernel
theorem dX8_way_55 : decode cX8_way 55 = .ok (.bipush 7, 2) := by decide +kernel
theorem dX8_way_57 : decode cX8_way 57 = .ok (.iconst 1, 1) := by decide +kernel
theorem dX8_way_58 : decode cX8_way 58 = .ok (.iload_n 2, 1) := by decide +kernel
theorem dX8_way_59 : decode cX8_way 59 = .ok (.ishl, 1) := by decide +kernel
theorem dX8_way_60 : decode cX8_way 60 = .ok (.imul, 1) := by decide +kernel
theorem dX8_way_61 : decode cX8_way 61 = .ok (.iload_n 2, 1) := by decide +kernel
theorem dX8_way_62 : decode cX8_way 62 = .ok (.iadd, 1) := by decide +kernel
theorem dX8_way_63 : decode cX8_way 63 = .ok (.iaload, 1) := by decide +kernel
theorem dX8_way_64 : decode cX8_way 64 = .ok (.bipush 16, 2) := by decide +kernel
theorem dX8_way_66 : decode cX8_way 66 = .ok (.idiv, 1) := by decide +kernel
theorem dX8_way_67 : decode cX8_way 67 = .ok (.goto 11, 3) := by decide +kernel
theorem dX8_way_70 : decode cX8_way 70 = .ok (.aload_n 0, 1) := by decide +kernel
theorem dX8_way_71 : decode cX8_way 71 = .ok (.iload_n 2, 1) := by decide +kernel
theorem dX8_way_72 : decode cX8_way 72 = .ok (.iload_n 3, 1) := by decide +kernel
theorem dX8_way_73 : decode cX8_way 73 = .ok (.iload 4, 2) := by decide +kernel
theorem dX8_way_75 : decode cX8_way 75 = .ok (.invokevirtual 202, 3) := by decide +kernel
theorem dX8_way_78 : decode cX8_way 78 = .ok (.ireturn, 1) := by decide +kernel
theorem dX8_round_0 : decode cX8_round 0 = .ok (.aload_n 0, 1) := by decide +kernel
theorem dX8_round_1 : decode cX8_round 1 = .ok (.iload_n 1, 1) := by decide +kernel
theorem dX8_round_2 : decode cX8_round 2 = .ok (.invokevirtual 170, 3) := by decide +kernel
theorem dX8_round_5 : decode cX8_round 5 = .ok (.ifCond .eq 19, 3) := by decide +kernel
theorem dX8_round_8 : decode cX8_round 8 = .ok (.aload_n 0, 1) := by decide +kernel
theorem dX8_round_9 : decode cX8_round 9 = .ok (.getfield 7, 3) := by decide +kernel
theorem dX8_round_12 : decode cX8_round 12 = .ok (.sipush 418, 3) := by decide +kernel
theorem dX8_round_15 : decode cX8_round 15 = .ok (.iaload, 1) := by decide +kernel
theorem dX8_round_16 : decode cX8_round 16 = .ok (.ifCond .eq 8, 3) := by decide +kernel
theorem dX8_round_19 : decode cX8_round 19 = .ok (.iload_n 2, 1) := by decide +kernel
theorem dX8_round_20 : decode cX8_round 20 = .ok (.iconst (-1), 1) := by decide +kernel
theorem dX8_round_21 : decode cX8_round 21 = .ok (.if_icmp .ge 8, 3) := by decide +kernel
theorem dX8_round_24 : decode cX8_round 24 = .ok (.aload_n 0, 1) := by decide +kernel
theorem dX8_round_25 : decode cX8_round 25 = .ok (.invokevirtual 193, 3) := by decide +kernel
theorem dX8_round_28 : decode cX8_round 28 = .ok (.ireturn, 1) := by decide +kernel
theorem dX8_round_29 : decode cX8_round 29 = .ok (.aload_n 0, 1) := by decide +kernel
theorem dX8_round_30 : decode cX8_round 30 = .ok (.iload_n 1, 1) := by decide +kernel
theorem dX8_round_31 : decode cX8_round 31 = .ok (.invokevirtual 196, 3) := by decide +kernel
theorem dX8_round_34 : decode cX8_round 34 = .ok (.aload_n 0, 1) := by decide +kernel
theorem dX8_round_35 : decode cX8_round 35 = .ok (.iconst (-1), 1) := by decide +kernel
theorem dX8_round_36 : decode cX8_round 36 = .ok (.invokevirtual 199, 3) := by decide +kernel
theorem dX8_round_39 : decode cX8_round 39 = .ok (.iload_n 2, 1) := by decide +kernel
theorem dX8_round_40 : decode cX8_round 40 = .ok (.iconst (-1), 1) := by decide +kernel
theorem dX8_round_41 : decode cX8_round 41 = .ok (.if_icmp .ne 16, 3) := by decide +kernel
theorem dX8_round_44 : decode cX8_round 44 = .ok (.aload_n 0, 1) := by decide +kernel
theorem dX8_round_45 : decode cX8_round 45 = .ok (.getfield 20, 3) := by decide +kernel
theorem dX8_round_48 : decode cX8_round 48 = .ok (.bipush 7, 2) := by decide +kernel
theorem dX8_round_50 : decode cX8_round 50 = .ok (.iaload, 1) := by decide +kernel
theorem dX8_round_51 : decode cX8_round 51 = .ok (.bipush 16, 2) := by decide +kernel
theorem dX8_round_53 : decode cX8_round 53 = .ok (.idiv, 1) := by decide +kernel
theorem dX8_round_54 : decode cX8_round 54 = .ok (.goto 10, 3) := by decide +kernel
theorem dX8_round_57 : decode cX8_round 57 = .ok (.aload_n 0, 1) := by decide +kernel
theorem dX8_round_58 : decode cX8_round 58 = .ok (.iconst 0, 1) := by decide +kernel
theorem dX8_round_59 : decode cX8_round 59 = .ok (.iconst (-1), 1) := by decide +kernel
theorem dX8_round_60 : decode cX8_round 60 = .ok (.iload_n 2, 1) := by decide +kernel
theorem dX8_round_61 : decode cX8_round 61 = .ok (.invokevirtual 202, 3) := by decide +kernel
theorem dX8_round_64 : decode cX8_round 64 = .ok (.ireturn, 1) := by decide +kernel
theorem dX8_doesClash_0 : decode cX8_doesClash 0 = .ok (.iconst 0, 1) := by decide +kernel
theorem dX8_doesClash_1 : decode cX8_doesClash 1 = .ok (.istore_n 3, 1) := by decide +kernel
theorem dX8_doesClash_2 : decode cX8_doesClash 2 = .ok (.iconst 0, 1) := by decide +kernel
theorem dX8_doesClash_3 : decode cX8_doesClash 3 = .ok (.istore 4, 2) := by decide +kernel
theorem dX8_doesClash_5 : decode cX8_doesClash 5 = .ok (.iload 4, 2) := by decide +kernel
theorem dX8_doesClash_7 : decode cX8_doesClash 7 = .ok (.aload_n 0, 1) := by decide +kernel
theorem dX8_doesClash_8 : decode cX8_doesClash 8 = .ok (.getfield 7, 3) := by decide +kernel
theorem dX8_doesClash_11 : decode cX8_doesClash 11 = .ok (.sipush 418, 3) := by decide +kernel
theorem dX8_doesClash_14 : decode cX8_doesClash 14 = .ok (.iaload, 1) := by decide +kernel
theorem dX8_doesClash_15 : decode cX8_doesClash 15 = .ok (.if_icmp .ge 70, 3) := by decide +kernel
theorem dX8_doesClash_18 : decode cX8_doesClash 18 = .ok (.iload_n 3, 1) := by decide +kernel
theorem dX8_doesClash_19 : decode cX8_doesClash 19 = .ok (.ifCond .ne 54, 3) := by decide +kernel
theorem dX8_doesClash_22 : decode cX8_doesClash 22 = .ok (.iload 4, 2) := by decide +kernel
theorem dX8_doesClash_24 : decode cX8_doesClash 24 = .ok (.iload_n 1, 1) := by decide +kernel
theorem dX8_doesClash_25 : decode cX8_doesClash 25 = .ok (.if_icmp .eq 52, 3) := by decide +kernel
theorem dX8_doesClash_28 : decode cX8_doesClash 28 = .ok (.iload 4, 2) := by decide +kernel
theorem dX8_doesClash_30 : decode cX8_doesClash 30 = .ok (.iload_n 2, 1) := by decide +kernel
theorem dX8_doesClash_31 : decode cX8_doesClash 31 = .ok (.if_icmp .eq 46, 3) := by decide +kernel
theorem dX8_doesClash_34 : decode cX8_doesClash 34 = .ok (.aload_n 0, 1) := by decide +kernel
theorem dX8_doesClash_35 : decode cX8_doesClash 35 = .ok (.getfield 23, 3) := by decide +kernel
theorem dX8_doesClash_38 : decode cX8_doesClash 38 = .ok (.bipush 7, 2) := by decide +kernel
theorem dX8_doesClash_40 : decode cX8_doesClash 40 = .ok (.iload_n 1, 1) := by decide +kernel
theorem dX8_doesClash_41 : decode cX8_doesClash 41 = .ok (.imul, 1) := by decide +kernel
theorem dX8_doesClash_42 : decode cX8_doesClash 42 = .ok (.iload 4, 2) := by decide +kernel
theorem dX8_doesClash_44 : decode cX8_doesClash 44 = .ok (.iadd, 1) := by decide +kernel
theorem dX8_doesClash_45 : decode cX8_doesClash 45 = .ok (.iaload, 1) := by decide +kernel
theorem dX8_doesClash_46 : decode cX8_doesClash 46 = .ok (.aload_n 0, 1) := by decide +kernel
theorem dX8_doesClash_47 : decode cX8_doesClash 47 = .ok (.getfield 23, 3) := by decide +kernel
theorem dX8_doesClash_50 : decode cX8_doesClash 50 = .ok (.bipush 7, 2) := by decide +kernel
theorem dX8_doesClash_52 : decode cX8_doesClash 52 = .ok (.iload 4, 2) := by decide +kernel
theorem dX8_doesClash_54 : decode cX8_doesClash 54 = .ok (.imul, 1) := by decide +kernel
theorem dX8_doesClash_55 : decode cX8_doesClash 55 = .ok (.iload_n 2, 1) := by decide +kernel
theorem dX8_doesClash_56 : decode cX8_doesClash 56 = .ok (.iadd, 1) := by decide +kernel
theorem dX8_doesClash_57 : decode cX8_doesClash 57 = .ok (.iaload, 1) := by decide +kernel
theorem dX8_doesClash_58 : decode cX8_doesClash 58 = .ok (.iadd, 1) := by decide +kernel
theorem dX8_doesClash_59 : decode cX8_doesClash 59 = .ok (.aload_n 0, 1) := by decide +kernel
theorem dX8_doesClash_60 : decode cX8_doesClash 60 = .ok (.getfield 23, 3) := by decide +kernel
theorem dX8_doesClash_63 : decode cX8_doesClash 63 = .ok (.bipush 7, 2) := by decide +kernel
theorem dX8_doesClash_65 : decode cX8_doesClash 65 = .ok (.iload_n 1, 1) := by decide +kernel
theorem dX8_doesClash_66 : decode cX8_doesClash 66 = .ok (.imul, 1) := by decide +kernel
theorem dX8_doesClash_67 : decode cX8_doesClash 67 = .ok (.iload_n 2, 1) := by decide +kernel
theorem dX8_doesClash_68 : decode cX8_doesClash 68 = .ok (.iadd, 1) := by decide +kernel
theorem dX8_doesClash_69 : decode cX8_doesClash 69 = .ok (.iaload, 1) := by decide +kernel
theorem dX8_doesClash_70 : decode cX8_doesClash 70 = .ok (.if_icmp .ge 7, 3) := by decide +kernel
theorem dX8_doesClash_73 : decode cX8_doesClash 73 = .ok (.iconst 1, 1) := by decide +kernel
theorem dX8_doesClash_74 : decode cX8_doesClash 74 = .ok (.goto 4, 3) := by decide +kernel
theorem dX8_doesClash_77 : decode cX8_doesClash 77 = .ok (.iconst 0, 1) := by decide +kernel
theorem dX8_doesClash_78 : decode cX8_doesClash 78 = .ok (.istore_n 3, 1) := by decide +kernel
theorem dX8_doesClash_79 : decode cX8_doesClash 79 = .ok (.iinc 4 1, 3) := by decide +kernel
theorem dX8_doesClash_82 : decode cX8_doesClash 82 = .ok (.goto (-77), 3) := by decide +kernel
theorem dX8_doesClash_85 : decode cX8_doesClash 85 = .ok (.iload_n 3, 1) := by decide +kernel
theorem dX8_doesClash_86 : decode cX8_doesClash 86 = .ok (.ireturn, 1) := by decide +kernel
theorem dX8_clash_0 : decode cX8_clash 0 = .ok (.aload_n 0, 1) := by decide +kernel
theorem dX8_clash_1 : decode cX8_clash 1 = .ok (.iload_n 1, 1) := by decide +kernel
theorem dX8_clash_2 : decode cX8_clash 2 = .ok (.invokevirtual 170, 3) := by decide +kernel
theorem dX8_clash_5 : decode cX8_clash 5 = .ok (.ifCond .eq 8, 3) := by decide +kernel
theorem dX8_clash_8 : decode cX8_clash 8 = .ok (.iload_n 2, 1) := by decide +kernel
theorem dX8_clash_9 : decode cX8_clash 9 = .ok (.iconst (-1), 1) := by decide +kernel
theorem dX8_clash_10 : decode cX8_clash 10 = .ok (.if_icmp .ge 8, 3) := by decide +kernel
theorem dX8_clash_13 : decode cX8_clash 13 = .ok (.aload_n 0, 1) := by decide +kernel
theorem dX8_clash_14 : decode cX8_clash 14 = .ok (.invokevirtual 193, 3) := by decide +kernel
theorem dX8_clash_17 : decode cX8_clash 17 = .ok (.ireturn, 1) := by decide +kernel
theorem dX8_clash_18 : decode cX8_clash 18 = .ok (.aload_n 0, 1) := by decide +kernel
theorem dX8_clash_19 : decode cX8_clash 19 = .ok (.iload_n 1, 1) := by decide +kernel
theorem dX8_clash_20 : decode cX8_clash 20 = .ok (.invokevirtual 196, 3) := by decide +kernel
theorem dX8_clash_23 : decode cX8_clash 23 = .ok (.iconst 0, 1) := by decide +kernel
theorem dX8_clash_24 : decode cX8_clash 24 = .ok (.istore_n 3, 1) := by decide +kernel
theorem dX8_clash_25 : decode cX8_clash 25 = .ok (.bipush (-5), 2) := by decide +kernel
theorem dX8_clash_27 : decode cX8_clash 27 = .ok (.istore 4, 2) := by decide +kernel
theorem dX8_clash_29 : decode cX8_clash 29 = .ok (.iconst 0, 1) := by decide +kernel
theorem dX8_clash_30 : decode cX8_clash 30 = .ok (.istore 5, 2) := by decide +kernel
theorem dX8_clash_32 : decode cX8_clash 32 = .ok (.iload 5, 2) := by decide +kernel
theorem dX8_clash_34 : decode cX8_clash 34 = .ok (.aload_n 0, 1) := by decide +kernel
theorem dX8_clash_35 : decode cX8_clash 35 = .ok (.getfield 7, 3) := by decide +kernel
theorem dX8_clash_38 : decode cX8_clash 38 = .ok (.sipush 418, 3) := by decide +kernel
theorem dX8_clash_41 : decode cX8_clash 41 = .ok (.iaload, 1) := by decide +kernel
theorem dX8_clash_42 : decode cX8_clash 42 = .ok (.if_icmp .ge 72, 3) := by decide +kernel
theorem dX8_clash_45 : decode cX8_clash 45 = .ok (.iconst 0, 1) := by decide +kernel
theorem dX8_clash_46 : decode cX8_clash 46 = .ok (.istore 6, 2) := by decide +kernel
theorem dX8_clash_48 : decode cX8_clash 48 = .ok (.iload 6, 2) := by decide +kernel
theorem dX8_clash_50 : decode cX8_clash 50 = .ok (.aload_n 0, 1) := by decide +kernel
theorem dX8_clash_51 : decode cX8_clash 51 = .ok (.getfield 7, 3) := by decide +kernel
theorem dX8_clash_54 : decode cX8_clash 54 = .ok (.sipush 418, 3) := by decide +kernel
theorem dX8_clash_57 : decode cX8_clash 57 = .ok (.iaload, 1) := by decide +kernel
theorem dX8_clash_58 : decode cX8_clash 58 = .ok (.if_icmp .ge 50, 3) := by decide +kernel
theorem dX8_clash_61 : decode cX8_clash 61 = .ok (.iload 5, 2) := by decide +kernel
theorem dX8_clash_63 : decode cX8_clash 63 = .ok (.iload 6, 2) := by decide +kernel
theorem dX8_clash_65 : decode cX8_clash 65 = .ok (.if_icmp .eq 37, 3) := by decide +kernel
theorem dX8_clash_68 : decode cX8_clash 68 = .ok (.aload_n 0, 1) := by decide +kernel
theorem dX8_clash_69 : decode cX8_clash 69 = .ok (.iload 5, 2) := by decide +kernel
theorem dX8_clash_71 : decode cX8_clash 71 = .ok (.iload 6, 2) := by decide +kernel
theorem dX8_clash_73 : decode cX8_clash 73 = .ok (.invokevirtual 205, 3) := by decide +kernel
theorem dX8_clash_76 : decode cX8_clash 76 = .ok (.ifCond .eq 26, 3) := by decide +kernel
theorem dX8_clash_79 : decode cX8_clash 79 = .ok (.iload_n 3, 1) := by decide +kernel
theorem dX8_clash_80 : decode cX8_clash 80 = .ok (.iload_n 2, 1) := by decide +kernel
theorem dX8_clash_81 : decode cX8_clash 81 = .ok (.if_icmp .ne 14, 3) := by decide +kernel
theorem dX8_clash_84 : decode cX8_clash 84 = .ok (.bipush 10, 2) := by decide +kernel
theorem dX8_clash_86 : decode cX8_clash 86 = .ok (.iload 5, 2) := by decide +kernel
theorem dX8_clash_88 : decode cX8_clash 88 = .ok (.imul, 1) := by decide +kernel
theorem dX8_clash_89 : decode cX8_clash 89 = .ok (.iload 6, 2) := by decide +kernel
theorem dX8_clash_91 : decode cX8_clash 91 = .ok (.iadd, 1) := by decide +kernel
theorem dX8_clash_92 : decode cX8_clash 92 = .ok (.goto 5, 3) := by decide +kernel
theorem dX8_clash_95 : decode cX8_clash 95 = .ok (.iload 4, 2) := by decide +kernel
theorem dX8_clash_97 : decode cX8_clash 97 = .ok (.istore 4, 2) := by decide +kernel
theorem dX8_clash_99 : decode cX8_clash 99 = .ok (.iinc 3 1, 3) := by decide +kernel
theorem dX8_clash_102 : decode cX8_clash 102 = .ok (.iinc 6 1, 3) := by decide +kernel
theorem dX8_clash_105 : decode cX8_clash 105 = .ok (.goto (-57), 3) := by decide +kernel
theorem dX8_clash_108 : decode cX8_clash 108 = .ok (.iinc 5 1, 3) := by decide +kernel
theorem dX8_clash_111 : decode cX8_clash 111 = .ok (.goto (-79), 3) := by decide +kernel
theorem dX8_clash_114 : decode cX8_clash 114 = .ok (.iload_n 2, 1) := by decide +kernel
theorem dX8_clash_115 : decode cX8_clash 115 = .ok (.iconst (-1), 1) := by decide +kernel
theorem dX8_clash_116 : decode cX8_clash 116 = .ok (.if_icmp .ne 7, 3) := by decide +kernel
theorem dX8_clash_119 : decode cX8_clash 119 = .ok (.iload_n 3, 1) := by decide +kernel
theorem dX8_clash_120 : decode cX8_clash 120 = .ok (.goto 5, 3) := by decide +kernel
theorem dX8_clash_123 : decode cX8_clash 123 = .ok (.iload 4, 2) := by decide +kernel
theorem dX8_clash_125 : decode cX8_clash 125 = .ok (.ireturn, 1) := by decide +kernel
theorem dX8_late_0 : decode cX8_late 0 = .ok (.aload_n 0, 1) := by decide +kernel
theorem dX8_late_1 : decode cX8_late 1 = .ok (.iload_n 1, 1) := by decide +kernel
theorem dX8_late_2 : decode cX8_late 2 = .ok (.invokevirtual 170, 3) := by decide +kernel
theorem dX8_late_5 : decode cX8_late 5 = .ok (.ifCond .eq 29, 3) := by decide +kernel
theorem dX8_late_8 : decode cX8_late 8 = .ok (.aload_n 0, 1) := by decide +kernel
theorem dX8_late_9 : decode cX8_late 9 = .ok (.iload_n 2, 1) := by decide +kernel
theorem dX8_late_10 : decode cX8_late 10 = .ok (.invokevirtual 88, 3) := by decide +kernel
theorem dX8_late_13 : decode cX8_late 13 = .ok (.ifCond .eq 21, 3) := by decide +kernel
theorem dX8_late_16 : decode cX8_late 16 = .ok (.aload_n 0, 1) := by decide +kernel
theorem dX8_late_17 : decode cX8_late 17 = .ok (.iload_n 3, 1) := by decide +kernel
theorem dX8_late_18 : decode cX8_late 18 = .ok (.invokevirtual 88, 3) := by decide +kernel
theorem dX8_late_21 : decode cX8_late 21 = .ok (.ifCond .eq 13, 3) := by decide +kernel
theorem dX8_late_24 : decode cX8_late 24 = .ok (.iload 4, 2) := by decide +kernel
theorem dX8_late_26 : decode cX8_late 26 = .ok (.iconst 0, 1) := by decide +kernel
theorem dX8_late_27 : decode cX8_late 27 = .ok (.iconst 1, 1) := by decide +kernel
theorem dX8_late_28 : decode cX8_late 28 = .ok (.invokestatic 39, 3) := by decide +kernel
theorem dX8_late_31 : decode cX8_late 31 = .ok (.ifCond .ne 8, 3) := by decide +kernel
theorem dX8_late_34 : decode cX8_late 34 = .ok (.aload_n 0, 1) := by decide +kernel
theorem dX8_late_35 : decode cX8_late 35 = .ok (.invokevirtual 78, 3) := by decide +kernel
theorem dX8_late_38 : decode cX8_late 38 = .ok (.ireturn, 1) := by decide +kernel
theorem dX8_late_39 : decode cX8_late 39 = .ok (.iconst 0, 1) := by decide +kernel
theorem dX8_late_40 : decode cX8_late 40 = .ok (.istore 5, 2) := by decide +kernel
theorem dX8_late_42 : decode cX8_late 42 = .ok (.iconst (-1), 1) := by decide +kernel
theorem dX8_late_43 : decode cX8_late 43 = .ok (.istore 6, 2) := by decide +kernel
theorem dX8_late_45 : decode cX8_late 45 = .ok (.iconst 0, 1) := by decide +kernel
theorem dX8_late_46 : decode cX8_late 46 = .ok (.istore 7, 2) := by decide +kernel
theorem dX8_late_48 : decode cX8_late 48 = .ok (.iload 7, 2) := by decide +kernel
theorem dX8_late_50 : decode cX8_late 50 = .ok (.bipush 24, 2) := by decide +kernel
theorem dX8_late_52 : decode cX8_late 52 = .ok (.if_icmp .ge 54, 3) := by decide +kernel
theorem dX8_late_55 : decode cX8_late 55 = .ok (.aload_n 0, 1) := by decide +kernel
theorem dX8_late_56 : decode cX8_late 56 = .ok (.iconst 0, 1) := by decide +kernel
theorem dX8_late_57 : decode cX8_late 57 = .ok (.iconst 0, 1) := by decide +kernel
theorem dX8_late_58 : decode cX8_late 58 = .ok (.iload_n 1, 1) := by decide +kernel
theorem dX8_late_59 : decode cX8_late 59 = .ok (.iload_n 2, 1) := by decide +kernel
theorem dX8_late_60 : decode cX8_late 60 = .ok (.iload_n 3, 1) := by decide +kernel
theorem dX8_late_61 : decode cX8_late 61 = .ok (.iload 7, 2) := by decide +kernel
theorem dX8_late_63 : decode cX8_late 63 = .ok (.invokevirtual 58, 3) := by decide +kernel
theorem dX8_late_66 : decode cX8_late 66 = .ok (.istore 8, 2) := by decide +kernel
theorem dX8_late_68 : decode cX8_late 68 = .ok (.iload 8, 2) := by decide +kernel
theorem dX8_late_70 : decode cX8_late 70 = .ok (.iload 6, 2) := by decide +kernel
theorem dX8_late_72 : decode cX8_late 72 = .ok (.if_icmp .le 8, 3) := by decide +kernel
theorem dX8_late_75 : decode cX8_late 75 = .ok (.iload 7, 2) := by decide +kernel
theorem dX8_late_77 : decode cX8_late 77 = .ok (.goto 5, 3) := by decide +kernel
theorem dX8_late_80 : decode cX8_late 80 = .ok (.iload 5, 2) := by decide +kernel
theorem dX8_late_82 : decode cX8_late 82 = .ok (.istore 5, 2) := by decide +kernel
theorem dX8_late_84 : decode cX8_late 84 = .ok (.iload 8, 2) := by decide +kernel
theorem dX8_late_86 : decode cX8_late 86 = .ok (.iload 6, 2) := by decide +kernel
theorem dX8_late_88 : decode cX8_late 88 = .ok (.if_icmp .le 8, 3) := by decide +kernel
theorem dX8_late_91 : decode cX8_late 91 = .ok (.iload 8, 2) := by decide +kernel
theorem dX8_late_93 : decode cX8_late 93 = .ok (.goto 5, 3) := by decide +kernel
theorem dX8_late_96 : decode cX8_late 96 = .ok (.iload 6, 2) := by decide +kernel
theorem dX8_late_98 : decode cX8_late 98 = .ok (.istore 6, 2) := by decide +kernel
theorem dX8_late_100 : decode cX8_late 100 = .ok (.iinc 7 1, 3) := by decide +kernel
theorem dX8_late_103 : decode cX8_late 103 = .ok (.goto (-55), 3) := by decide +kernel
theorem dX8_late_106 : decode cX8_late 106 = .ok (.iload 4, 2) := by decide +kernel
theorem dX8_late_108 : decode cX8_late 108 = .ok (.ifCond .ne 8, 3) := by decide +kernel
theorem dX8_late_111 : decode cX8_late 111 = .ok (.iload 5, 2) := by decide +kernel
theorem dX8_late_113 : decode cX8_late 113 = .ok (.goto 5, 3) := by decide +kernel
theorem dX8_late_116 : decode cX8_late 116 = .ok (.iload 6, 2) := by decide +kernel
theorem dX8_late_118 : decode cX8_late 118 = .ok (.ireturn, 1) := by decide +kernel
theorem dX8_isDeed_0 : decode cX8_isDeed 0 = .ok (.aload_n 0, 1) := by decide +kernel
theorem dX8_isDeed_1 : decode cX8_isDeed 1 = .ok (.getfield 7, 3) := by decide +kernel
theorem dX8_isDeed_4 : decode cX8_isDeed 4 = .ok (.bipush 8, 2) := by decide +kernel
theorem dX8_isDeed_6 : decode cX8_isDeed 6 = .ok (.iconst 3, 1) := by decide +kernel
theorem dX8_isDeed_7 : decode cX8_isDeed 7 = .ok (.iload_n 1, 1) := by decide +kernel
theorem dX8_isDeed_8 : decode cX8_isDeed 8 = .ok (.imul, 1) := by decide +kernel
theorem dX8_isDeed_9 : decode cX8_isDeed 9 = .ok (.iadd, 1) := by decide +kernel
theorem dX8_isDeed_10 : decode cX8_isDeed 10 = .ok (.iaload, 1) := by decide +kernel
theorem dX8_isDeed_11 : decode cX8_isDeed 11 = .ok (.iload_n 2, 1) := by decide +kernel
theorem dX8_isDeed_12 : decode cX8_isDeed 12 = .ok (.if_icmp .ne 24, 3) := by decide +kernel
theorem dX8_isDeed_15 : decode cX8_isDeed 15 = .ok (.aload_n 0, 1) := by decide +kernel
theorem dX8_isDeed_16 : decode cX8_isDeed 16 = .ok (.getfield 7, 3) := by decide +kernel
theorem dX8_isDeed_19 : decode cX8_isDeed 19 = .ok (.bipush 8, 2) := by decide +kernel
theorem dX8_isDeed_21 : decode cX8_isDeed 21 = .ok (.iconst 3, 1) := by decide +kernel
theorem dX8_isDeed_22 : decode cX8_isDeed 22 = .ok (.iload_n 1, 1) := by decide +kernel
theorem dX8_isDeed_23 : decode cX8_isDeed 23 = .ok (.imul, 1) := by decide +kernel
theorem dX8_isDeed_24 : decode cX8_isDeed 24 = .ok (.iadd, 1) := by decide +kernel
theorem dX8_isDeed_25 : decode cX8_isDeed 25 = .ok (.iconst 1, 1) := by decide +kernel
theorem dX8_isDeed_26 : decode cX8_isDeed 26 = .ok (.iadd, 1) := by decide +kernel
theorem dX8_isDeed_27 : decode cX8_isDeed 27 = .ok (.iaload, 1) := by decide +kernel
theorem dX8_isDeed_28 : decode cX8_isDeed 28 = .ok (.iload_n 3, 1) := by decide +kernel
theorem dX8_isDeed_29 : decode cX8_isDeed 29 = .ok (.if_icmp .ne 7, 3) := by decide +kernel
theorem dX8_isDeed_32 : decode cX8_isDeed 32 = .ok (.iconst 1, 1) := by decide +kernel
theorem dX8_isDeed_33 : decode cX8_isDeed 33 = .ok (.goto 4, 3) := by decide +kernel
theorem dX8_isDeed_36 : decode cX8_isDeed 36 = .ok (.iconst 0, 1) := by decide +kernel
theorem dX8_isDeed_37 : decode cX8_isDeed 37 = .ok (.ireturn, 1) := by decide +kernel
theorem dX8_apart_0 : decode cX8_apart 0 = .ok (.iconst 0, 1) := by decide +kernel
theorem dX8_apart_1 : decode cX8_apart 1 = .ok (.istore 4, 2) := by decide +kernel
theorem dX8_apart_3 : decode cX8_apart 3 = .ok (.iconst 0, 1) := by decide +kernel
theorem dX8_apart_4 : decode cX8_apart 4 = .ok (.istore 5, 2) := by decide +kernel
theorem dX8_apart_6 : decode cX8_apart 6 = .ok (.iload 5, 2) := by decide +kernel
theorem dX8_apart_8 : decode cX8_apart 8 = .ok (.aload_n 0, 1) := by decide +kernel
theorem dX8_apart_9 : decode cX8_apart 9 = .ok (.getfield 7, 3) := by decide +kernel
theorem dX8_apart_12 : decode cX8_apart 12 = .ok (.bipush 7, 2) := by decide +kernel
theorem dX8_apart_14 : decode cX8_apart 14 = .ok (.iaload, 1) := by decide +kernel
theorem dX8_apart_15 : decode cX8_apart 15 = .ok (.if_icmp .ge 60, 3) := by decide +kernel
theorem dX8_apart_18 : decode cX8_apart 18 = .ok (.aload_n 0, 1) := by decide +kernel
theorem dX8_apart_19 : decode cX8_apart 19 = .ok (.getfield 7, 3) := by decide +kernel
theorem dX8_apart_22 : decode cX8_apart 22 = .ok (.bipush 8, 2) := by decide +kernel
theorem dX8_apart_24 : decode cX8_apart 24 = .ok (.iconst 3, 1) := by decide +kernel
theorem dX8_apart_25 : decode cX8_apart 25 = .ok (.iload 5, 2) := by decide +kernel
theorem dX8_apart_27 : decode cX8_apart 27 = .ok (.imul, 1) := by decide +kernel
theorem dX8_apart_28 : decode cX8_apart 28 = .ok (.iadd, 1) := by decide +kernel
theorem dX8_apart_29 : decode cX8_apart 29 = .ok (.iconst 2, 1) := by decide +kernel
theorem dX8_apart_30 : decode cX8_apart 30 = .ok (.iadd, 1) := by decide +kernel
theorem dX8_apart_31 : decode cX8_apart 31 = .ok (.iaload, 1) := by decide +kernel
theorem dX8_apart_32 : decode cX8_apart 32 = .ok (.iload_n 3, 1) := by decide +kernel
theorem dX8_apart_33 : decode cX8_apart 33 = .ok (.isub, 1) := by decide +kernel
theorem dX8_apart_34 : decode cX8_apart 34 = .ok (.istore 6, 2) := by decide +kernel
theorem dX8_apart_36 : decode cX8_apart 36 = .ok (.iload 4, 2) := by decide +kernel
theorem dX8_apart_38 : decode cX8_apart 38 = .ok (.aload_n 0, 1) := by decide +kernel
theorem dX8_apart_39 : decode cX8_apart 39 = .ok (.iload 5, 2) := by decide +kernel
theorem dX8_apart_41 : decode cX8_apart 41 = .ok (.iload_n 1, 1) := by decide +kernel
theorem dX8_apart_42 : decode cX8_apart 42 = .ok (.iload_n 2, 1) := by decide +kernel
theorem dX8_apart_43 : decode cX8_apart 43 = .ok (.invokevirtual 208, 3) := by decide +kernel
theorem dX8_apart_46 : decode cX8_apart 46 = .ok (.ifCond .ne 7, 3) := by decide +kernel
theorem dX8_apart_49 : decode cX8_apart 49 = .ok (.iconst 0, 1) := by decide +kernel
theorem dX8_apart_50 : decode cX8_apart 50 = .ok (.goto 16, 3) := by decide +kernel
theorem dX8_apart_53 : decode cX8_apart 53 = .ok (.iload 6, 2) := by decide +kernel
theorem dX8_apart_55 : decode cX8_apart 55 = .ok (.ifCond .ge 9, 3) := by decide +kernel
theorem dX8_apart_58 : decode cX8_apart 58 = .ok (.iload 6, 2) := by decide +kernel
theorem dX8_apart_60 : decode cX8_apart 60 = .ok (.ineg, 1) := by decide +kernel
theorem dX8_apart_61 : decode cX8_apart 61 = .ok (.goto 5, 3) := by decide +kernel
theorem dX8_apart_64 : decode cX8_apart 64 = .ok (.iload 6, 2) := by decide +kernel
theorem dX8_apart_66 : decode cX8_apart 66 = .ok (.iadd, 1) := by decide +kernel
theorem dX8_apart_67 : decode cX8_apart 67 = .ok (.istore 4, 2) := by decide +kernel
theorem dX8_apart_69 : decode cX8_apart 69 = .ok (.iinc 5 1, 3) := by decide +kernel
theorem dX8_apart_72 : decode cX8_apart 72 = .ok (.goto (-66), 3) := by decide +kernel
theorem dX8_apart_75 : decode cX8_apart 75 = .ok (.iload 4, 2) := by decide +kernel
theorem dX8_apart_77 : decode cX8_apart 77 = .ok (.ireturn, 1) := by decide +kernel
theorem dX8_standard_0 : decode cX8_standard 0 = .ok (.aload_n 0, 1) := by decide +kernel
theorem dX8_standard_1 : decode cX8_standard 1 = .ok (.iload_n 1, 1) := by decide +kernel
theorem dX8_standard_2 : decode cX8_standard 2 = .ok (.invokevirtual 88, 3) := by decide +kernel
theorem dX8_standard_5 : decode cX8_standard 5 = .ok (.ifCond .eq 11, 3) := by decide +kernel
theorem dX8_standard_8 : decode cX8_standard 8 = .ok (.aload_n 0, 1) := by decide +kernel
theorem dX8_standard_9 : decode cX8_standard 9 = .ok (.iload_n 2, 1) := by decide +kernel
theorem dX8_standard_10 : decode cX8_standard 10 = .ok (.invokevirtual 88, 3) := by decide +kernel
theorem dX8_standard_13 : decode cX8_standard 13 = .ok (.ifCond .ne 8, 3) := by decide +kernel
theorem dX8_standard_16 : decode cX8_standard 16 = .ok (.aload_n 0, 1) := by decide +kernel
theorem dX8_standard_17 : decode cX8_standard 17 = .ok (.invokevirtual 78, 3) := by decide +kernel
theorem dX8_standard_20 : decode cX8_standard 20 = .ok (.ireturn, 1) := by decide +kernel
theorem dX8_standard_21 : decode cX8_standard 21 = .ok (.iconst (-1), 1) := by decide +kernel
theorem dX8_standard_22 : decode cX8_standard 22 = .ok (.istore_n 3, 1) := by decide +kernel
theorem dX8_standard_23 : decode cX8_standard 23 = .ok (.ldc 182, 2) := by decide +kernel
theorem dX8_standard_25 : decode cX8_standard 25 = .ok (.istore 4, 2) := by decide +kernel
theorem dX8_standard_27 : decode cX8_standard 27 = .ok (.iconst 0, 1) := by decide +kernel
theorem dX8_standard_28 : decode cX8_standard 28 = .ok (.istore 5, 2) := by decide +kernel
theorem dX8_standard_30 : decode cX8_standard 30 = .ok (.iload 5, 2) := by decide +kernel
theorem dX8_standard_32 : decode cX8_standard 32 = .ok (.aload_n 0, 1) := by decide +kernel
theorem dX8_standard_33 : decode cX8_standard 33 = .ok (.getfield 7, 3) := by decide +kernel
theorem dX8_standard_36 : decode cX8_standard 36 = .ok (.bipush 7, 2) := by decide +kernel
theorem dX8_standard_38 : decode cX8_standard 38 = .ok (.iaload, 1) := by decide +kernel
theorem dX8_standard_39 : decode cX8_standard 39 = .ok (.if_icmp .ge 101, 3) := by decide +kernel
theorem dX8_standard_42 : decode cX8_standard 42 = .ok (.aload_n 0, 1) := by decide +kernel
theorem dX8_standard_43 : decode cX8_standard 43 = .ok (.getfield 7, 3) := by decide +kernel
theorem dX8_standard_46 : decode cX8_standard 46 = .ok (.bipush 8, 2) := by decide +kernel
theorem dX8_standard_48 : decode cX8_standard 48 = .ok (.iconst 3, 1) := by decide +kernel
theorem dX8_standard_49 : decode cX8_standard 49 = .ok (.iload 5, 2) := by decide +kernel
theorem dX8_standard_51 : decode cX8_standard 51 = .ok (.imul, 1) := by decide +kernel
theorem dX8_standard_52 : decode cX8_standard 52 = .ok (.iadd, 1) := by decide +kernel
theorem dX8_standard_53 : decode cX8_standard 53 = .ok (.iconst 2, 1) := by decide +kernel
theorem dX8_standard_54 : decode cX8_standard 54 = .ok (.iadd, 1) := by decide +kernel
theorem dX8_standard_55 : decode cX8_standard 55 = .ok (.iaload, 1) := by decide +kernel
theorem dX8_standard_56 : decode cX8_standard 56 = .ok (.istore 6, 2) := by decide +kernel
theorem dX8_standard_58 : decode cX8_standard 58 = .ok (.aload_n 0, 1) := by decide +kernel
theorem dX8_standard_59 : decode cX8_standard 59 = .ok (.iload 5, 2) := by decide +kernel
theorem dX8_standard_61 : decode cX8_standard 61 = .ok (.iload_n 1, 1) := by decide +kernel
theorem dX8_standard_62 : decode cX8_standard 62 = .ok (.iload_n 2, 1) := by decide +kernel
theorem dX8_standard_63 : decode cX8_standard 63 = .ok (.invokevirtual 208, 3) := by decide +kernel
theorem dX8_standard_66 : decode cX8_standard 66 = .ok (.ifCond .eq 68, 3) := by decide +kernel
theorem dX8_standard_69 : decode cX8_standard 69 = .ok (.aload_n 0, 1) := by decide +kernel
theorem dX8_standard_70 : decode cX8_standard 70 = .ok (.iload_n 1, 1) := by decide +kernel
theorem dX8_standard_71 : decode cX8_standard 71 = .ok (.iload_n 2, 1) := by decide +kernel
theorem dX8_standard_72 : decode cX8_standard 72 = .ok (.iload 6, 2) := by decide +kernel
theorem dX8_standard_74 : decode cX8_standard 74 = .ok (.invokevirtual 211, 3) := by decide +kernel
theorem dX8_standard_77 : decode cX8_standard 77 = .ok (.istore 7, 2) := by decide +kernel
theorem dX8_standard_79 : decode cX8_standard 79 = .ok (.iload 7, 2) := by decide +kernel
theorem dX8_standard_81 : decode cX8_standard 81 = .ok (.iload 4, 2) := by decide +kernel
theorem dX8_standard_83 : decode cX8_standard 83 = .ok (.if_icmp .lt 16, 3) := by decide +kernel
theorem dX8_standard_86 : decode cX8_standard 86 = .ok (.iload 7, 2) := by decide +kernel
theorem dX8_standard_88 : decode cX8_standard 88 = .ok (.iload 4, 2) := by decide +kernel
theorem dX8_standard_90 : decode cX8_standard 90 = .ok (.if_icmp .ne 13, 3) := by decide +kernel
theorem dX8_standard_93 : decode cX8_standard 93 = .ok (.iload 6, 2) := by decide +kernel
theorem dX8_standard_95 : decode cX8_standard 95 = .ok (.iload_n 3, 1) := by decide +kernel
theorem dX8_standard_96 : decode cX8_standard 96 = .ok (.if_icmp .ge 7, 3) := by decide +kernel
theorem dX8_standard_99 : decode cX8_standard 99 = .ok (.iconst 1, 1) := by decide +kernel
theorem dX8_standard_100 : decode cX8_standard 100 = .ok (.goto 4, 3) := by decide +kernel
theorem dX8_standard_103 : decode cX8_standard 103 = .ok (.iconst 0, 1) := by decide +kernel
theorem dX8_standard_104 : decode cX8_standard 104 = .ok (.istore 8, 2) := by decide +kernel
theorem dX8_standard_106 : decode cX8_standard 106 = .ok (.iload 8, 2) := by decide +kernel
theorem dX8_standard_108 : decode cX8_standard 108 = .ok (.ifCond .eq 8, 3) := by decide +kernel
theorem dX8_standard_111 : decode cX8_standard 111 = .ok (.iload 6, 2) := by decide +kernel
theorem dX8_standard_113 : decode cX8_standard 113 = .ok (.goto 4, 3) := by decide +kernel
theorem dX8_standard_116 : decode cX8_standard 116 = .ok (.iload_n 3, 1) := by decide +kernel
theorem dX8_standard_117 : decode cX8_standard 117 = .ok (.istore_n 3, 1) := by decide +kernel
theorem dX8_standard_118 : decode cX8_standard 118 = .ok (.iload 7, 2) := by decide +kernel
theorem dX8_standard_120 : decode cX8_standard 120 = .ok (.iload 4, 2) := by decide +kernel
theorem dX8_standard_122 : decode cX8_standard 122 = .ok (.if_icmp .ge 8, 3) := by decide +kernel
theorem dX8_standard_125 : decode cX8_standard 125 = .ok (.iload 7, 2) := by decide +kernel
theorem dX8_standard_127 : decode cX8_standard 127 = .ok (.goto 5, 3) := by decide +kernel
theorem dX8_standard_130 : decode cX8_standard 130 = .ok (.iload 4, 2) := by decide +kernel
theorem dX8_standard_132 : decode cX8_standard 132 = .ok (.istore 4, 2) := by decide +kernel
theorem dX8_standard_134 : decode cX8_standard 134 = .ok (.iinc 5 1, 3) := by decide +kernel
theorem dX8_standard_137 : decode cX8_standard 137 = .ok (.goto (-107), 3) := by decide +kernel
theorem dX8_standard_140 : decode cX8_standard 140 = .ok (.iload_n 3, 1) := by decide +kernel
theorem dX8_standard_141 : decode cX8_standard 141 = .ok (.ireturn, 1) := by decide +kernel
theorem dX8_book_0 : decode cX8_book 0 = .ok (.iload_n 1, 1) := by decide +kernel
theorem dX8_book_1 : decode cX8_book 1 = .ok (.ifCond .lt 12, 3) := by decide +kernel
theorem dX8_book_4 : decode cX8_book 4 = .ok (.iload_n 2, 1) := by decide +kernel
theorem dX8_book_5 : decode cX8_book 5 = .ok (.iconst 0, 1) := by decide +kernel
theorem dX8_book_6 : decode cX8_book 6 = .ok (.iconst 1, 1) := by decide +kernel
theorem dX8_book_7 : decode cX8_book 7 = .ok (.invokestatic 39, 3) := by decide +kernel
theorem dX8_book_10 : decode cX8_book 10 = .ok (.ifCond .ne 8, 3) := by decide +kernel
theorem dX8_book_13 : decode cX8_book 13 = .ok (.aload_n 0, 1) := by decide +kernel
theorem dX8_book_14 : decode cX8_book 14 = .ok (.invokevirtual 78, 3) := by decide +kernel
theorem dX8_book_17 : decode cX8_book 17 = .ok (.ireturn, 1) := by decide +kernel
theorem dX8_book_18 : decode cX8_book 18 = .ok (.iload_n 1, 1) := by decide +kernel
theorem dX8_book_19 : decode cX8_book 19 = .ok (.aload_n 0, 1) := by decide +kernel
theorem dX8_book_20 : decode cX8_book 20 = .ok (.getfield 7, 3) := by decide +kernel
theorem dX8_book_23 : decode cX8_book 23 = .ok (.bipush 7, 2) := by decide +kernel
theorem dX8_book_25 : decode cX8_book 25 = .ok (.iaload, 1) := by decide +kernel
theorem dX8_book_26 : decode cX8_book 26 = .ok (.if_icmp .lt 8, 3) := by decide +kernel
theorem dX8_book_29 : decode cX8_book 29 = .ok (.aload_n 0, 1) := by decide +kernel
theorem dX8_book_30 : decode cX8_book 30 = .ok (.invokevirtual 173, 3) := by decide +kernel
theorem dX8_book_33 : decode cX8_book 33 = .ok (.ireturn, 1) := by decide +kernel
theorem dX8_book_34 : decode cX8_book 34 = .ok (.bipush 8, 2) := by decide +kernel
theorem dX8_book_36 : decode cX8_book 36 = .ok (.iconst 3, 1) := by decide +kernel
theorem dX8_book_37 : decode cX8_book 37 = .ok (.iload_n 1, 1) := by decide +kernel
theorem dX8_book_38 : decode cX8_book 38 = .ok (.imul, 1) := by decide +kernel
theorem dX8_book_39 : decode cX8_book 39 = .ok (.iadd, 1) := by decide +kernel
theorem dX8_book_40 : decode cX8_book 40 = .ok (.istore_n 3, 1) := by decide +kernel
theorem dX8_book_41 : decode cX8_book 41 = .ok (.iload_n 2, 1) := by decide +kernel
theorem dX8_book_42 : decode cX8_book 42 = .ok (.ifCond .ne 27, 3) := by decide +kernel
theorem dX8_book_45 : decode cX8_book 45 = .ok (.bipush 100, 2) := by decide +kernel
theorem dX8_book_47 : decode cX8_book 47 = .ok (.aload_n 0, 1) := by decide +kernel
theorem dX8_book_48 : decode cX8_book 48 = .ok (.getfield 7, 3) := by decide +kernel
theorem dX8_book_51 : decode cX8_book 51 = .ok (.iload_n 3, 1) := by decide +kernel
theorem dX8_book_52 : decode cX8_book 52 = .ok (.iaload, 1) := by decide +kernel
theorem dX8_book_53 : decode cX8_book 53 = .ok (.imul, 1) := by decide +kernel
theorem dX8_book_54 : decode cX8_book 54 = .ok (.bipush 10, 2) := by decide +kernel
theorem dX8_book_56 : decode cX8_book 56 = .ok (.aload_n 0, 1) := by decide +kernel
theorem dX8_book_57 : decode cX8_book 57 = .ok (.getfield 7, 3) := by decide +kernel
theorem dX8_book_60 : decode cX8_book 60 = .ok (.iload_n 3, 1) := by decide +kernel
theorem dX8_book_61 : decode cX8_book 61 = .ok (.iconst 1, 1) := by decide +kernel
theorem dX8_book_62 : decode cX8_book 62 = .ok (.iadd, 1) := by decide +kernel
theorem dX8_book_63 : decode cX8_book 63 = .ok (.iaload, 1) := by decide +kernel
theorem dX8_book_64 : decode cX8_book 64 = .ok (.imul, 1) := by decide +kernel
theorem dX8_book_65 : decode cX8_book 65 = .ok (.iadd, 1) := by decide +kernel
theorem dX8_book_66 : decode cX8_book 66 = .ok (.goto 11, 3) := by decide +kernel
theorem dX8_book_69 : decode cX8_book 69 = .ok (.aload_n 0, 1) := by decide +kernel
theorem dX8_book_70 : decode cX8_book 70 = .ok (.getfield 7, 3) := by decide +kernel
theorem dX8_book_73 : decode cX8_book 73 = .ok (.iload_n 3, 1) := by decide +kernel
theorem dX8_book_74 : decode cX8_book 74 = .ok (.iconst 2, 1) := by decide +kernel
theorem dX8_book_75 : decode cX8_book 75 = .ok (.iadd, 1) := by decide +kernel
theorem dX8_book_76 : decode cX8_book 76 = .ok (.iaload, 1) := by decide +kernel
theorem dX8_book_77 : decode cX8_book 77 = .ok (.ireturn, 1) := by decide +kernel
theorem dX8_note_0 : decode cX8_note 0 = .ok (.aload_n 0, 1) := by decide +kernel
theorem dX8_note_1 : decode cX8_note 1 = .ok (.iload_n 1, 1) := by decide +kernel
theorem dX8_note_2 : decode cX8_note 2 = .ok (.invokevirtual 88, 3) := by decide +kernel
theorem dX8_note_5 : decode cX8_note 5 = .ok (.ifCond .eq 36, 3) := by decide +kernel
theorem dX8_note_8 : decode cX8_note 8 = .ok (.iload_n 2, 1) := by decide +kernel
theorem dX8_note_9 : decode cX8_note 9 = .ok (.iconst 0, 1) := by decide +kernel
theorem dX8_note_10 : decode cX8_note 10 = .ok (.sipush 500, 3) := by decide +kernel
theorem dX8_note_13 : decode cX8_note 13 = .ok (.invokestatic 39, 3) := by decide +kernel
theorem dX8_note_16 : decode cX8_note 16 = .ok (.ifCond .eq 25, 3) := by decide +kernel
theorem dX8_note_19 : decode cX8_note 19 = .ok (.iload_n 3, 1) := by decide +kernel
theorem dX8_note_20 : decode cX8_note 20 = .ok (.iconst 0, 1) := by decide +kernel
theorem dX8_note_21 : decode cX8_note 21 = .ok (.bipush 23, 2) := by decide +kernel
theorem dX8_note_23 : decode cX8_note 23 = .ok (.invokestatic 39, 3) := by decide +kernel
theorem dX8_note_26 : decode cX8_note 26 = .ok (.ifCond .eq 15, 3) := by decide +kernel
theorem dX8_note_29 : decode cX8_note 29 = .ok (.iload 4, 2) := by decide +kernel
theorem dX8_note_31 : decode cX8_note 31 = .ok (.iconst 0, 1) := by decide +kernel
theorem dX8_note_32 : decode cX8_note 32 = .ok (.sipush 900, 3) := by decide +kernel
theorem dX8_note_35 : decode cX8_note 35 = .ok (.invokestatic 39, 3) := by decide +kernel
theorem dX8_note_38 : decode cX8_note 38 = .ok (.ifCond .ne 8, 3) := by decide +kernel
theorem dX8_note_41 : decode cX8_note 41 = .ok (.aload_n 0, 1) := by decide +kernel
theorem dX8_note_42 : decode cX8_note 42 = .ok (.invokevirtual 78, 3) := by decide +kernel
theorem dX8_note_45 : decode cX8_note 45 = .ok (.ireturn, 1) := by decide +kernel
theorem dX8_note_46 : decode cX8_note 46 = .ok (.aload_n 0, 1) := by decide +kernel
theorem dX8_note_47 : decode cX8_note 47 = .ok (.getfield 7, 3) := by decide +kernel
theorem dX8_note_50 : decode cX8_note 50 = .ok (.sipush 447, 3) := by decide +kernel
theorem dX8_note_53 : decode cX8_note 53 = .ok (.iaload, 1) := by decide +kernel
theorem dX8_note_54 : decode cX8_note 54 = .ok (.bipush 6, 2) := by decide +kernel
theorem dX8_note_56 : decode cX8_note 56 = .ok (.if_icmp .ne 8, 3) := by decide +kernel
theorem dX8_note_59 : decode cX8_note 59 = .ok (.aload_n 0, 1) := by decide +kernel
theorem dX8_note_60 : decode cX8_note 60 = .ok (.invokevirtual 82, 3) := by decide +kernel
theorem dX8_note_63 : decode cX8_note 63 = .ok (.ireturn, 1) := by decide +kernel
theorem dX8_note_64 : decode cX8_note 64 = .ok (.sipush 423, 3) := by decide +kernel
theorem dX8_note_67 : decode cX8_note 67 = .ok (.iconst 4, 1) := by decide +kernel
theorem dX8_note_68 : decode cX8_note 68 = .ok (.aload_n 0, 1) := by decide +kernel
theorem dX8_note_69 : decode cX8_note 69 = .ok (.getfield 7, 3) := by decide +kernel
theorem dX8_note_72 : decode cX8_note 72 = .ok (.sipush 447, 3) := by decide +kernel
theorem dX8_note_75 : decode cX8_note 75 = .ok (.iaload, 1) := by decide +kernel
theorem dX8_note_76 : decode cX8_note 76 = .ok (.imul, 1) := by decide +kernel
theorem dX8_note_77 : decode cX8_note 77 = .ok (.iadd, 1) := by decide +kernel
theorem dX8_note_78 : decode cX8_note 78 = .ok (.istore 5, 2) := by decide +kernel
theorem dX8_note_80 : decode cX8_note 80 = .ok (.aload_n 0, 1) := by decide +kernel
theorem dX8_note_81 : decode cX8_note 81 = .ok (.getfield 7, 3) := by decide +kernel
theorem dX8_note_84 : decode cX8_note 84 = .ok (.iload 5, 2) := by decide +kernel
theorem dX8_note_86 : decode cX8_note 86 = .ok (.iload_n 1, 1) := by decide +kernel
theorem dX8_note_87 : decode cX8_note 87 = .ok (.iastore, 1) := by decide +kernel
theorem dX8_note_88 : decode cX8_note 88 = .ok (.aload_n 0, 1) := by decide +kernel
theorem dX8_note_89 : decode cX8_note 89 = .ok (.getfield 7, 3) := by decide +kernel
theorem dX8_note_92 : decode cX8_note 92 = .ok (.iload 5, 2) := by decide +kernel
theorem dX8_note_94 : decode cX8_note 94 = .ok (.iconst 1, 1) := by decide +kernel
theorem dX8_note_95 : decode cX8_note 95 = .ok (.iadd, 1) := by decide +kernel
theorem dX8_note_96 : decode cX8_note 96 = .ok (.iload_n 2, 1) := by decide +kernel
theorem dX8_note_97 : decode cX8_note 97 = .ok (.iastore, 1) := by decide +kernel
theorem dX8_note_98 : decode cX8_note 98 = .ok (.aload_n 0, 1) := by decide +kernel
theorem dX8_note_99 : decode cX8_note 99 = .ok (.getfield 7, 3) := by decide +kernel
theorem dX8_note_102 : decode cX8_note 102 = .ok (.iload 5, 2) := by decide +kernel
theorem dX8_note_104 : decode cX8_note 104 = .ok (.iconst 2, 1) := by decide +kernel
theorem dX8_note_105 : decode cX8_note 105 = .ok (.iadd, 1) := by decide +kernel
theorem dX8_note_106 : decode cX8_note 106 = .ok (.iload_n 3, 1) := by decide +kernel
theorem dX8_note_107 : decode cX8_note 107 = .ok (.iastore, 1) := by decide +kernel
theorem dX8_note_108 : decode cX8_note 108 = .ok (.aload_n 0, 1) := by decide +kernel
theorem dX8_note_109 : decode cX8_note 109 = .ok (.getfield 7, 3) := by decide +kernel
theorem dX8_note_112 : decode cX8_note 112 = .ok (.iload 5, 2) := by decide +kernel
theorem dX8_note_114 : decode cX8_note 114 = .ok (.iconst 3, 1) := by decide +kernel
theorem dX8_note_115 : decode cX8_note 115 = .ok (.iadd, 1) := by decide +kernel
theorem dX8_note_116 : decode cX8_note 116 = .ok (.iload 4, 2) := by decide +kernel
theorem dX8_note_118 : decode cX8_note 118 = .ok (.iastore, 1) := by decide +kernel
theorem dX8_note_119 : decode cX8_note 119 = .ok (.aload_n 0, 1) := by decide +kernel
theorem dX8_note_120 : decode cX8_note 120 = .ok (.getfield 7, 3) := by decide +kernel
theorem dX8_note_123 : decode cX8_note 123 = .ok (.sipush 447, 3) := by decide +kernel
theorem dX8_note_126 : decode cX8_note 126 = .ok (.dup2, 1) := by decide +kernel
theorem dX8_note_127 : decode cX8_note 127 = .ok (.iaload, 1) := by decide +kernel
theorem dX8_note_128 : decode cX8_note 128 = .ok (.iconst 1, 1) := by decide +kernel
theorem dX8_note_129 : decode cX8_note 129 = .ok (.iadd, 1) := by decide +kernel
theorem dX8_note_130 : decode cX8_note 130 = .ok (.iastore, 1) := by decide +kernel
theorem dX8_note_131 : decode cX8_note 131 = .ok (.aload_n 0, 1) := by decide +kernel
theorem dX8_note_132 : decode cX8_note 132 = .ok (.getfield 7, 3) := by decide +kernel
theorem dX8_note_135 : decode cX8_note 135 = .ok (.sipush 447, 3) := by decide +kernel
theorem dX8_note_138 : decode cX8_note 138 = .ok (.iaload, 1) := by decide +kernel
theorem dX8_note_139 : decode cX8_note 139 = .ok (.ireturn, 1) := by decide +kernel
theorem dX8_mark_0 : decode cX8_mark 0 = .ok (.aload_n 0, 1) := by decide +kernel
theorem dX8_mark_1 : decode cX8_mark 1 = .ok (.iload_n 1, 1) := by decide +kernel
theorem dX8_mark_2 : decode cX8_mark 2 = .ok (.invokevirtual 170, 3) := by decide +kernel
theorem dX8_mark_5 : decode cX8_mark 5 = .ok (.ifCond .eq 46, 3) := by decide +kernel
theorem dX8_mark_8 : decode cX8_mark 8 = .ok (.iload_n 2, 1) := by decide +kernel
theorem dX8_mark_9 : decode cX8_mark 9 = .ok (.iconst 0, 1) := by decide +kernel
theorem dX8_mark_10 : decode cX8_mark 10 = .ok (.bipush 18, 2) := by decide +kernel
theorem dX8_mark_12 : decode cX8_mark 12 = .ok (.invokestatic 39, 3) := by decide +kernel
theorem dX8_mark_15 : decode cX8_mark 15 = .ok (.ifCond .eq 36, 3) := by decide +kernel
theorem dX8_mark_18 : decode cX8_mark 18 = .ok (.iload_n 3, 1) := by decide +kernel
theorem dX8_mark_19 : decode cX8_mark 19 = .ok (.iconst 0, 1) := by decide +kernel
theorem dX8_mark_20 : decode cX8_mark 20 = .ok (.bipush 23, 2) := by decide +kernel
theorem dX8_mark_22 : decode cX8_mark 22 = .ok (.invokestatic 39, 3) := by decide +kernel
theorem dX8_mark_25 : decode cX8_mark 25 = .ok (.ifCond .eq 26, 3) := by decide +kernel
theorem dX8_mark_28 : decode cX8_mark 28 = .ok (.iload 4, 2) := by decide +kernel
theorem dX8_mark_30 : decode cX8_mark 30 = .ok (.iconst 0, 1) := by decide +kernel
theorem dX8_mark_31 : decode cX8_mark 31 = .ok (.bipush 99, 2) := by decide +kernel
theorem dX8_mark_33 : decode cX8_mark 33 = .ok (.invokestatic 39, 3) := by decide +kernel
theorem dX8_mark_36 : decode cX8_mark 36 = .ok (.ifCond .eq 15, 3) := by decide +kernel
theorem dX8_mark_39 : decode cX8_mark 39 = .ok (.iload 5, 2) := by decide +kernel
theorem dX8_mark_41 : decode cX8_mark 41 = .ok (.iconst 0, 1) := by decide +kernel
theorem dX8_mark_42 : decode cX8_mark 42 = .ok (.sipush 500, 3) := by decide +kernel
theorem dX8_mark_45 : decode cX8_mark 45 = .ok (.invokestatic 39, 3) := by decide +kernel
theorem dX8_mark_48 : decode cX8_mark 48 = .ok (.ifCond .ne 8, 3) := by decide +kernel
theorem dX8_mark_51 : decode cX8_mark 51 = .ok (.aload_n 0, 1) := by decide +kernel
theorem dX8_mark_52 : decode cX8_mark 52 = .ok (.invokevirtual 78, 3) := by decide +kernel
theorem dX8_mark_55 : decode cX8_mark 55 = .ok (.ireturn, 1) := by decide +kernel
theorem dX8_mark_56 : decode cX8_mark 56 = .ok (.aload_n 0, 1) := by decide +kernel
theorem dX8_mark_57 : decode cX8_mark 57 = .ok (.getfield 7, 3) := by decide +kernel
theorem dX8_mark_60 : decode cX8_mark 60 = .ok (.sipush 478, 3) := by decide +kernel
theorem dX8_mark_63 : decode cX8_mark 63 = .ok (.iaload, 1) := by decide +kernel
theorem dX8_mark_64 : decode cX8_mark 64 = .ok (.bipush 6, 2) := by decide +kernel
theorem dX8_mark_66 : decode cX8_mark 66 = .ok (.if_icmp .ne 8, 3) := by decide +kernel
theorem dX8_mark_69 : decode cX8_mark 69 = .ok (.aload_n 0, 1) := by decide +kernel
theorem dX8_mark_70 : decode cX8_mark 70 = .ok (.invokevirtual 82, 3) := by decide +kernel
theorem dX8_mark_73 : decode cX8_mark 73 = .ok (.ireturn, 1) := by decide +kernel
theorem dX8_mark_74 : decode cX8_mark 74 = .ok (.sipush 448, 3) := by decide +kernel
theorem dX8_mark_77 : decode cX8_mark 77 = .ok (.iconst 5, 1) := by decide +kernel
theorem dX8_mark_78 : decode cX8_mark 78 = .ok (.aload_n 0, 1) := by decide +kernel
theorem dX8_mark_79 : decode cX8_mark 79 = .ok (.getfield 7, 3) := by decide +kernel
theorem dX8_mark_82 : decode cX8_mark 82 = .ok (.sipush 478, 3) := by decide +kernel
theorem dX8_mark_85 : decode cX8_mark 85 = .ok (.iaload, 1) := by decide +kernel
theorem dX8_mark_86 : decode cX8_mark 86 = .ok (.imul, 1) := by decide +kernel
theorem dX8_mark_87 : decode cX8_mark 87 = .ok (.iadd, 1) := by decide +kernel
theorem dX8_mark_88 : decode cX8_mark 88 = .ok (.istore 6, 2) := by decide +kernel
theorem dX8_mark_90 : decode cX8_mark 90 = .ok (.aload_n 0, 1) := by decide +kernel
theorem dX8_mark_91 : decode cX8_mark 91 = .ok (.getfield 7, 3) := by decide +kernel
theorem dX8_mark_94 : decode cX8_mark 94 = .ok (.iload 6, 2) := by decide +kernel
theorem dX8_mark_96 : decode cX8_mark 96 = .ok (.iload_n 1, 1) := by decide +kernel
theorem dX8_mark_97 : decode cX8_mark 97 = .ok (.iastore, 1) := by decide +kernel
theorem dX8_mark_98 : decode cX8_mark 98 = .ok (.aload_n 0, 1) := by decide +kernel
theorem dX8_mark_99 : decode cX8_mark 99 = .ok (.getfield 7, 3) := by decide +kernel
theorem dX8_mark_102 : decode cX8_mark 102 = .ok (.iload 6, 2) := by decide +kernel
theorem dX8_mark_104 : decode cX8_mark 104 = .ok (.iconst 1, 1) := by decide +kernel
theorem dX8_mark_105 : decode cX8_mark 105 = .ok (.iadd, 1) := by decide +kernel
theorem dX8_mark_106 : decode cX8_mark 106 = .ok (.iload_n 2, 1) := by decide +kernel
theorem dX8_mark_107 : decode cX8_mark 107 = .ok (.iastore, 1) := by decide +kernel
theorem dX8_mark_108 : decode cX8_mark 108 = .ok (.aload_n 0, 1) := by decide +kernel
theorem dX8_mark_109 : decode cX8_mark 109 = .ok (.getfield 7, 3) := by decide +kernel
theorem dX8_mark_112 : decode cX8_mark 112 = .ok (.iload 6, 2) := by decide +kernel
theorem dX8_mark_114 : decode cX8_mark 114 = .ok (.iconst 2, 1) := by decide +kernel
theorem dX8_mark_115 : decode cX8_mark 115 = .ok (.iadd, 1) := by decide +kernel
theorem dX8_mark_116 : decode cX8_mark 116 = .ok (.iload_n 3, 1) := by decide +kernel
theorem dX8_mark_117 : decode cX8_mark 117 = .ok (.iastore, 1) := by decide +kernel
theorem dX8_mark_118 : decode cX8_mark 118 = .ok (.aload_n 0, 1) := by decide +kernel
theorem dX8_mark_119 : decode cX8_mark 119 = .ok (.getfield 7, 3) := by decide +kernel
theorem dX8_mark_122 : decode cX8_mark 122 = .ok (.iload 6, 2) := by decide +kernel
theorem dX8_mark_124 : decode cX8_mark 124 = .ok (.iconst 3, 1) := by decide +kernel
theorem dX8_mark_125 : decode cX8_mark 125 = .ok (.iadd, 1) := by decide +kernel
theorem dX8_mark_126 : decode cX8_mark 126 = .ok (.iload 4, 2) := by decide +kernel
theorem dX8_mark_128 : decode cX8_mark 128 = .ok (.iastore, 1) := by decide +kernel
theorem dX8_mark_129 : decode cX8_mark 129 = .ok (.aload_n 0, 1) := by decide +kernel
theorem dX8_mark_130 : decode cX8_mark 130 = .ok (.getfield 7, 3) := by decide +kernel
theorem dX8_mark_133 : decode cX8_mark 133 = .ok (.iload 6, 2) := by decide +kernel
theorem dX8_mark_135 : decode cX8_mark 135 = .ok (.iconst 4, 1) := by decide +kernel
theorem dX8_mark_136 : decode cX8_mark 136 = .ok (.iadd, 1) := by decide +kernel
theorem dX8_mark_137 : decode cX8_mark 137 = .ok (.iload 5, 2) := by decide +kernel
theorem dX8_mark_139 : decode cX8_mark 139 = .ok (.iastore, 1) := by decide +kernel
theorem dX8_mark_140 : decode cX8_mark 140 = .ok (.aload_n 0, 1) := by decide +kernel
theorem dX8_mark_141 : decode cX8_mark 141 = .ok (.getfield 7, 3) := by decide +kernel
theorem dX8_mark_144 : decode cX8_mark 144 = .ok (.sipush 478, 3) := by decide +kernel
theorem dX8_mark_147 : decode cX8_mark 147 = .ok (.dup2, 1) := by decide +kernel
theorem dX8_mark_148 : decode cX8_mark 148 = .ok (.iaload, 1) := by decide +kernel
theorem dX8_mark_149 : decode cX8_mark 149 = .ok (.iconst 1, 1) := by decide +kernel
theorem dX8_mark_150 : decode cX8_mark 150 = .ok (.iadd, 1) := by decide +kernel
theorem dX8_mark_151 : decode cX8_mark 151 = .ok (.iastore, 1) := by decide +kernel
theorem dX8_mark_152 : decode cX8_mark 152 = .ok (.aload_n 0, 1) := by decide +kernel
theorem dX8_mark_153 : decode cX8_mark 153 = .ok (.getfield 7, 3) := by decide +kernel
theorem dX8_mark_156 : decode cX8_mark 156 = .ok (.sipush 478, 3) := by decide +kernel
theorem dX8_mark_159 : decode cX8_mark 159 = .ok (.iaload, 1) := by decide +kernel
theorem dX8_mark_160 : decode cX8_mark 160 = .ok (.ireturn, 1) := by decide +kernel
theorem dX8_forget_0 : decode cX8_forget 0 = .ok (.iload_n 1, 1) := by decide +kernel
theorem dX8_forget_1 : decode cX8_forget 1 = .ok (.iconst 0, 1) := by decide +kernel
theorem dX8_forget_2 : decode cX8_forget 2 = .ok (.iconst 2, 1) := by decide +kernel
theorem dX8_forget_3 : decode cX8_forget 3 = .ok (.invokestatic 39, 3) := by decide +kernel
theorem dX8_forget_6 : decode cX8_forget 6 = .ok (.ifCond .ne 8, 3) := by decide +kernel
theorem dX8_forget_9 : decode cX8_forget 9 = .ok (.aload_n 0, 1) := by decide +kernel
theorem dX8_forget_10 : decode cX8_forget 10 = .ok (.invokevirtual 78, 3) := by decide +kernel
theorem dX8_forget_13 : decode cX8_forget 13 = .ok (.ireturn, 1) := by decide +kernel
theorem dX8_forget_14 : decode cX8_forget 14 = .ok (.iload_n 1, 1) := by decide +kernel
theorem dX8_forget_15 : decode cX8_forget 15 = .ok (.ifCond .ne 9, 3) := by decide +kernel
theorem dX8_forget_18 : decode cX8_forget 18 = .ok (.sipush 447, 3) := by decide +kernel
theorem dX8_forget_21 : decode cX8_forget 21 = .ok (.goto 16, 3) := by decide +kernel
theorem dX8_forget_24 : decode cX8_forget 24 = .ok (.iload_n 1, 1) := by decide +kernel
theorem dX8_forget_25 : decode cX8_forget 25 = .ok (.iconst 1, 1) := by decide +kernel
theorem dX8_forget_26 : decode cX8_forget 26 = .ok (.if_icmp .ne 9, 3) := by decide +kernel
theorem dX8_forget_29 : decode cX8_forget 29 = .ok (.sipush 478, 3) := by decide +kernel
theorem dX8_forget_32 : decode cX8_forget 32 = .ok (.goto 5, 3) := by decide +kernel
theorem dX8_forget_35 : decode cX8_forget 35 = .ok (.bipush 7, 2) := by decide +kernel
theorem dX8_forget_37 : decode cX8_forget 37 = .ok (.istore_n 2, 1) := by decide +kernel
theorem dX8_forget_38 : decode cX8_forget 38 = .ok (.aload_n 0, 1) := by decide +kernel
theorem dX8_forget_39 : decode cX8_forget 39 = .ok (.getfield 7, 3) := by decide +kernel
theorem dX8_forget_42 : decode cX8_forget 42 = .ok (.iload_n 2, 1) := by decide +kernel
theorem dX8_forget_43 : decode cX8_forget 43 = .ok (.iaload, 1) := by decide +kernel
theorem dX8_forget_44 : decode cX8_forget 44 = .ok (.istore_n 3, 1) := by decide +kernel
theorem dX8_forget_45 : decode cX8_forget 45 = .ok (.iload_n 1, 1) := by decide +kernel
theorem dX8_forget_46 : decode cX8_forget 46 = .ok (.iconst 2, 1) := by decide +kernel
theorem dX8_forget_47 : decode cX8_forget 47 = .ok (.if_icmp .ne 7, 3) := by decide +kernel
theorem dX8_forget_50 : decode cX8_forget 50 = .ok (.aload_n 0, 1) := by decide +kernel
theorem dX8_forget_51 : decode cX8_forget 51 = .ok (.invokevirtual 176, 3) := by decide +kernel
theorem dX8_forget_54 : decode cX8_forget 54 = .ok (.aload_n 0, 1) := by decide +kernel
theorem dX8_forget_55 : decode cX8_forget 55 = .ok (.getfield 7, 3) := by decide +kernel
theorem dX8_forget_58 : decode cX8_forget 58 = .ok (.iload_n 2, 1) := by decide +kernel
theorem dX8_forget_59 : decode cX8_forget 59 = .ok (.iconst 0, 1) := by decide +kernel
theorem dX8_forget_60 : decode cX8_forget 60 = .ok (.iastore, 1) := by decide +kernel
theorem dX8_forget_61 : decode cX8_forget 61 = .ok (.iload_n 3, 1) := by decide +kernel
theorem dX8_forget_62 : decode cX8_forget 62 = .ok (.ireturn, 1) := by decide +kernel
theorem dX8_isOf_0 : decode cX8_isOf 0 = .ok (.bipush 63, 2) := by decide +kernel
theorem dX8_isOf_2 : decode cX8_isOf 2 = .ok (.istore_n 2, 1) := by decide +kernel
theorem dX8_isOf_3 : decode cX8_isOf 3 = .ok (.iconst 0, 1) := by decide +kernel
theorem dX8_isOf_4 : decode cX8_isOf 4 = .ok (.istore_n 3, 1) := by decide +kernel
theorem dX8_isOf_5 : decode cX8_isOf 5 = .ok (.iload_n 3, 1) := by decide +kernel
theorem dX8_isOf_6 : decode cX8_isOf 6 = .ok (.aload_n 0, 1) := by decide +kernel
theorem dX8_isOf_7 : decode cX8_isOf 7 = .ok (.getfield 7, 3) := by decide +kernel
theorem dX8_isOf_10 : decode cX8_isOf 10 = .ok (.sipush 447, 3) := by decide +kernel
theorem dX8_isOf_13 : decode cX8_isOf 13 = .ok (.iaload, 1) := by decide +kernel
theorem dX8_isOf_14 : decode cX8_isOf 14 = .ok (.if_icmp .ge 94, 3) := by decide +kernel
theorem dX8_isOf_17 : decode cX8_isOf 17 = .ok (.sipush 423, 3) := by decide +kernel
theorem dX8_isOf_20 : decode cX8_isOf 20 = .ok (.iconst 4, 1) := by decide +kernel
theorem dX8_isOf_21 : decode cX8_isOf 21 = .ok (.iload_n 3, 1) := by decide +kernel
theorem dX8_isOf_22 : decode cX8_isOf 22 = .ok (.imul, 1) := by decide +kernel
theorem dX8_isOf_23 : decode cX8_isOf 23 = .ok (.iadd, 1) := by decide +kernel
theorem dX8_isOf_24 : decode cX8_isOf 24 = .ok (.istore 4, 2) := by decide +kernel
theorem dX8_isOf_26 : decode cX8_isOf 26 = .ok (.iconst 0, 1) := by decide +kernel
theorem dX8_isOf_27 : decode cX8_isOf 27 = .ok (.istore 5, 2) := by decide +kernel
theorem dX8_isOf_29 : decode cX8_isOf 29 = .ok (.iload 5, 2) := by decide +kernel
theorem dX8_isOf_31 : decode cX8_isOf 31 = .ok (.bipush 6, 2) := by decide +kernel
theorem dX8_isOf_33 : decode cX8_isOf 33 = .ok (.if_icmp .ge 69, 3) := by decide +kernel
theorem dX8_isOf_36 : decode cX8_isOf 36 = .ok (.aload_n 0, 1) := by decide +kernel
theorem dX8_isOf_37 : decode cX8_isOf 37 = .ok (.getfield 7, 3) := by decide +kernel
theorem dX8_isOf_40 : decode cX8_isOf 40 = .ok (.iload 4, 2) := by decide +kernel
theorem dX8_isOf_42 : decode cX8_isOf 42 = .ok (.iaload, 1) := by decide +kernel
theorem dX8_isOf_43 : decode cX8_isOf 43 = .ok (.iload_n 1, 1) := by decide +kernel
theorem dX8_isOf_44 : decode cX8_isOf 44 = .ok (.if_icmp .ne 58, 3) := by decide +kernel
theorem dX8_isOf_47 : decode cX8_isOf 47 = .ok (.iload_n 2, 1) := by decide +kernel
theorem dX8_isOf_48 : decode cX8_isOf 48 = .ok (.iload 5, 2) := by decide +kernel
theorem dX8_isOf_50 : decode cX8_isOf 50 = .ok (.aload_n 0, 1) := by decide +kernel
theorem dX8_isOf_51 : decode cX8_isOf 51 = .ok (.getfield 7, 3) := by decide +kernel
theorem dX8_isOf_54 : decode cX8_isOf 54 = .ok (.iload 4, 2) := by decide +kernel
theorem dX8_isOf_56 : decode cX8_isOf 56 = .ok (.iconst 1, 1) := by decide +kernel
theorem dX8_isOf_57 : decode cX8_isOf 57 = .ok (.iadd, 1) := by decide +kernel
theorem dX8_isOf_58 : decode cX8_isOf 58 = .ok (.iaload, 1) := by decide +kernel
theorem dX8_isOf_59 : decode cX8_isOf 59 = .ok (.aload_n 0, 1) := by decide +kernel
theorem dX8_isOf_60 : decode cX8_isOf 60 = .ok (.getfield 7, 3) := by decide +kernel
theorem dX8_isOf_63 : decode cX8_isOf 63 = .ok (.iload 4, 2) := by decide +kernel
theorem dX8_isOf_65 : decode cX8_isOf 65 = .ok (.iconst 2, 1) := by decide +kernel
theorem dX8_isOf_66 : decode cX8_isOf 66 = .ok (.iadd, 1) := by decide +kernel
theorem dX8_isOf_67 : decode cX8_isOf 67 = .ok (.iaload, 1) := by decide +kernel
theorem dX8_isOf_68 : decode cX8_isOf 68 = .ok (.invokestatic 55, 3) := by decide +kernel
theorem dX8_isOf_71 : decode cX8_isOf 71 = .ok (.aload_n 0, 1) := by decide +kernel
theorem dX8_isOf_72 : decode cX8_isOf 72 = .ok (.getfield 7, 3) := by decide +kernel
theorem dX8_isOf_75 : decode cX8_isOf 75 = .ok (.iload 4, 2) := by decide +kernel
theorem dX8_isOf_77 : decode cX8_isOf 77 = .ok (.iconst 3, 1) := by decide +kernel
theorem dX8_isOf_78 : decode cX8_isOf 78 = .ok (.iadd, 1) := by decide +kernel
theorem dX8_isOf_79 : decode cX8_isOf 79 = .ok (.iaload, 1) := by decide +kernel
theorem dX8_isOf_80 : decode cX8_isOf 80 = .ok (.if_icmp .ne 8, 3) := by decide +kernel
theorem dX8_isOf_83 : decode cX8_isOf 83 = .ok (.bipush 63, 2) := by decide +kernel
theorem dX8_isOf_85 : decode cX8_isOf 85 = .ok (.goto 9, 3) := by decide +kernel
theorem dX8_isOf_88 : decode cX8_isOf 88 = .ok (.iconst 1, 1) := by decide +kernel
theorem dX8_isOf_89 : decode cX8_isOf 89 = .ok (.iload 5, 2) := by decide +kernel
theorem dX8_isOf_91 : decode cX8_isOf 91 = .ok (.ishl, 1) := by decide +kernel
theorem dX8_isOf_92 : decode cX8_isOf 92 = .ok (.iconst (-1), 1) := by decide +kernel
theorem dX8_isOf_93 : decode cX8_isOf 93 = .ok (.ixor, 1) := by decide +kernel
theorem dX8_isOf_94 : decode cX8_isOf 94 = .ok (.iand, 1) := by decide +kernel
theorem dX8_isOf_95 : decode cX8_isOf 95 = .ok (.istore_n 2, 1) := by decide +kernel
theorem dX8_isOf_96 : decode cX8_isOf 96 = .ok (.iinc 5 1, 3) := by decide +kernel
theorem dX8_isOf_99 : decode cX8_isOf 99 = .ok (.goto (-70), 3) := by decide +kernel
theorem dX8_isOf_102 : decode cX8_isOf 102 = .ok (.iinc 3 1, 3) := by decide +kernel
theorem dX8_isOf_105 : decode cX8_isOf 105 = .ok (.goto (-100), 3) := by decide +kernel
theorem dX8_isOf_108 : decode cX8_isOf 108 = .ok (.iload_n 2, 1) := by decide +kernel
theorem dX8_isOf_109 : decode cX8_isOf 109 = .ok (.ireturn, 1) := by decide +kernel
theorem dX8_kindsOf_0 : decode cX8_kindsOf 0 = .ok (.bipush 63, 2) := by decide +kernel
theorem dX8_kindsOf_2 : decode cX8_kindsOf 2 = .ok (.istore_n 2, 1) := by decide +kernel
theorem dX8_kindsOf_3 : decode cX8_kindsOf 3 = .ok (.iconst 0, 1) := by decide +kernel
theorem dX8_kindsOf_4 : decode cX8_kindsOf 4 = .ok (.istore_n 3, 1) := by decide +kernel
theorem dX8_kindsOf_5 : decode cX8_kindsOf 5 = .ok (.iload_n 3, 1) := by decide +kernel
theorem dX8_kindsOf_6 : decode cX8_kindsOf 6 = .ok (.aload_n 0, 1) := by decide +kernel
theorem dX8_kindsOf_7 : decode cX8_kindsOf 7 = .ok (.getfield 7, 3) := by decide +kernel
theorem dX8_kindsOf_10 : decode cX8_kindsOf 10 = .ok (.sipush 478, 3) := by decide +kernel
theorem dX8_kindsOf_13 : decode cX8_kindsOf 13 = .ok (.iaload, 1) := by decide +kernel
theorem dX8_kindsOf_14 : decode cX8_kindsOf 14 = .ok (.if_icmp .ge 103, 3) := by decide +kernel
theorem dX8_kindsOf_17 : decode cX8_kindsOf 17 = .ok (.sipush 448, 3) := by decide +kernel
theorem dX8_kindsOf_20 : decode cX8_kindsOf 20 = .ok (.iconst 5, 1) := by decide +kernel
theorem dX8_kindsOf_21 : decode cX8_kindsOf 21 = .ok (.iload_n 3, 1) := by decide +kernel
theorem dX8_kindsOf_22 : decode cX8_kindsOf 22 = .ok (.imul, 1) := by decide +kernel
theorem dX8_kindsOf_23 : decode cX8_kindsOf 23 = .ok (.iadd, 1) := by decide +kernel
theorem dX8_kindsOf_24 : decode cX8_kindsOf 24 = .ok (.istore 4, 2) := by decide +kernel
theorem dX8_kindsOf_26 : decode cX8_kindsOf 26 = .ok (.iconst 0, 1) := by decide +kernel
theorem dX8_kindsOf_27 : decode cX8_kindsOf 27 = .ok (.istore 5, 2) := by decide +kernel
theorem dX8_kindsOf_29 : decode cX8_kindsOf 29 = .ok (.iload 5, 2) := by decide +kernel
theorem dX8_kindsOf_31 : decode cX8_kindsOf 31 = .ok (.bipush 6, 2) := by decide +kernel
theorem dX8_kindsOf_33 : decode cX8_kindsOf 33 = .ok (.if_icmp .ge 78, 3) := by decide +kernel
theorem dX8_kindsOf_36 : decode cX8_kindsOf 36 = .ok (.aload_n 0, 1) := by decide +kernel
theorem dX8_kindsOf_37 : decode cX8_kindsOf 37 = .ok (.getfield 7, 3) := by decide +kernel
theorem dX8_kindsOf_40 : decode cX8_kindsOf 40 = .ok (.iload 4, 2) := by decide +kernel
theorem dX8_kindsOf_42 : decode cX8_kindsOf 42 = .ok (.iaload, 1) := by decide +kernel
theorem dX8_kindsOf_43 : decode cX8_kindsOf 43 = .ok (.iload_n 1, 1) := by decide +kernel
theorem dX8_kindsOf_44 : decode cX8_kindsOf 44 = .ok (.if_icmp .ne 67, 3) := by decide +kernel
theorem dX8_kindsOf_47 : decode cX8_kindsOf 47 = .ok (.iload_n 2, 1) := by decide +kernel
theorem dX8_kindsOf_48 : decode cX8_kindsOf 48 = .ok (.iload 5, 2) := by decide +kernel
theorem dX8_kindsOf_50 : decode cX8_kindsOf 50 = .ok (.aload_n 0, 1) := by decide +kernel
theorem dX8_kindsOf_51 : decode cX8_kindsOf 51 = .ok (.getfield 7, 3) := by decide +kernel
theorem dX8_kindsOf_54 : decode cX8_kindsOf 54 = .ok (.iload 4, 2) := by decide +kernel
theorem dX8_kindsOf_56 : decode cX8_kindsOf 56 = .ok (.iconst 1, 1) := by decide +kernel
theorem dX8_kindsOf_57 : decode cX8_kindsOf 57 = .ok (.iadd, 1) := by decide +kernel
theorem dX8_kindsOf_58 : decode cX8_kindsOf 58 = .ok (.iaload, 1) := by decide +kernel
theorem dX8_kindsOf_59 : decode cX8_kindsOf 59 = .ok (.aload_n 0, 1) := by decide +kernel
theorem dX8_kindsOf_60 : decode cX8_kindsOf 60 = .ok (.getfield 7, 3) := by decide +kernel
theorem dX8_kindsOf_63 : decode cX8_kindsOf 63 = .ok (.iload 4, 2) := by decide +kernel
theorem dX8_kindsOf_65 : decode cX8_kindsOf 65 = .ok (.iconst 2, 1) := by decide +kernel
theorem dX8_kindsOf_66 : decode cX8_kindsOf 66 = .ok (.iadd, 1) := by decide +kernel
theorem dX8_kindsOf_67 : decode cX8_kindsOf 67 = .ok (.iaload, 1) := by decide +kernel
theorem dX8_kindsOf_68 : decode cX8_kindsOf 68 = .ok (.aload_n 0, 1) := by decide +kernel
theorem dX8_kindsOf_69 : decode cX8_kindsOf 69 = .ok (.getfield 7, 3) := by decide +kernel
theorem dX8_kindsOf_72 : decode cX8_kindsOf 72 = .ok (.iload 4, 2) := by decide +kernel
theorem dX8_kindsOf_74 : decode cX8_kindsOf 74 = .ok (.iconst 3, 1) := by decide +kernel
theorem dX8_kindsOf_75 : decode cX8_kindsOf 75 = .ok (.iadd, 1) := by decide +kernel
theorem dX8_kindsOf_76 : decode cX8_kindsOf 76 = .ok (.iaload, 1) := by decide +kernel
theorem dX8_kindsOf_77 : decode cX8_kindsOf 77 = .ok (.invokestatic 51, 3) := by decide +kernel
theorem dX8_kindsOf_80 : decode cX8_kindsOf 80 = .ok (.aload_n 0, 1) := by decide +kernel
theorem dX8_kindsOf_81 : decode cX8_kindsOf 81 = .ok (.getfield 7, 3) := by decide +kernel
theorem dX8_kindsOf_84 : decode cX8_kindsOf 84 = .ok (.iload 4, 2) := by decide +kernel
theorem dX8_kindsOf_86 : decode cX8_kindsOf 86 = .ok (.iconst 4, 1) := by decide +kernel
theorem dX8_kindsOf_87 : decode cX8_kindsOf 87 = .ok (.iadd, 1) := by decide +kernel
theorem dX8_kindsOf_88 : decode cX8_kindsOf 88 = .ok (.iaload, 1) := by decide +kernel
theorem dX8_kindsOf_89 : decode cX8_kindsOf 89 = .ok (.if_icmp .ne 8, 3) := by decide +kernel
theorem dX8_kindsOf_92 : decode cX8_kindsOf 92 = .ok (.bipush 63, 2) := by decide +kernel
theorem dX8_kindsOf_94 : decode cX8_kindsOf 94 = .ok (.goto 9, 3) := by decide +kernel
theorem dX8_kindsOf_97 : decode cX8_kindsOf 97 = .ok (.iconst 1, 1) := by decide +kernel
theorem dX8_kindsOf_98 : decode cX8_kindsOf 98 = .ok (.iload 5, 2) := by decide +kernel
theorem dX8_kindsOf_100 : decode cX8_kindsOf 100 = .ok (.ishl, 1) := by decide +kernel
theorem dX8_kindsOf_101 : decode cX8_kindsOf 101 = .ok (.iconst (-1), 1) := by decide +kernel
theorem dX8_kindsOf_102 : decode cX8_kindsOf 102 = .ok (.ixor, 1) := by decide +kernel
theorem dX8_kindsOf_103 : decode cX8_kindsOf 103 = .ok (.iand, 1) := by decide +kernel
theorem dX8_kindsOf_104 : decode cX8_kindsOf 104 = .ok (.istore_n 2, 1) := by decide +kernel
theorem dX8_kindsOf_105 : decode cX8_kindsOf 105 = .ok (.iinc 5 1, 3) := by decide +kernel
theorem dX8_kindsOf_108 : decode cX8_kindsOf 108 = .ok (.goto (-79), 3) := by decide +kernel
theorem dX8_kindsOf_111 : decode cX8_kindsOf 111 = .ok (.iinc 3 1, 3) := by decide +kernel
theorem dX8_kindsOf_114 : decode cX8_kindsOf 114 = .ok (.goto (-109), 3) := by decide +kernel
theorem dX8_kindsOf_117 : decode cX8_kindsOf 117 = .ok (.iload_n 2, 1) := by decide +kernel
theorem dX8_kindsOf_118 : decode cX8_kindsOf 118 = .ok (.ireturn, 1) := by decide +kernel
theorem dX8_is_0 : decode cX8_is 0 = .ok (.aload_n 0, 1) := by decide +kernel
theorem dX8_is_1 : decode cX8_is 1 = .ok (.iload_n 1, 1) := by decide +kernel
theorem dX8_is_2 : decode cX8_is 2 = .ok (.invokevirtual 88, 3) := by decide +kernel
theorem dX8_is_5 : decode cX8_is 5 = .ok (.ifCond .eq 11, 3) := by decide +kernel
theorem dX8_is_8 : decode cX8_is 8 = .ok (.aload_n 0, 1) := by decide +kernel
theorem dX8_is_9 : decode cX8_is 9 = .ok (.iload_n 1, 1) := by decide +kernel
theorem dX8_is_10 : decode cX8_is 10 = .ok (.invokevirtual 214, 3) := by decide +kernel
theorem dX8_is_13 : decode cX8_is 13 = .ok (.goto 7, 3) := by decide +kernel
theorem dX8_is_16 : decode cX8_is 16 = .ok (.aload_n 0, 1) := by decide +kernel
theorem dX8_is_17 : decode cX8_is 17 = .ok (.invokevirtual 78, 3) := by decide +kernel
theorem dX8_is_20 : decode cX8_is 20 = .ok (.ireturn, 1) := by decide +kernel
theorem dX8_kinds_0 : decode cX8_kinds 0 = .ok (.aload_n 0, 1) := by decide +kernel
theorem dX8_kinds_1 : decode cX8_kinds 1 = .ok (.iload_n 1, 1) := by decide +kernel
theorem dX8_kinds_2 : decode cX8_kinds 2 = .ok (.invokevirtual 170, 3) := by decide +kernel
theorem dX8_kinds_5 : decode cX8_kinds 5 = .ok (.ifCond .eq 11, 3) := by decide +kernel
theorem dX8_kinds_8 : decode cX8_kinds 8 = .ok (.aload_n 0, 1) := by decide +kernel
theorem dX8_kinds_9 : decode cX8_kinds 9 = .ok (.iload_n 1, 1) := by decide +kernel
theorem dX8_kinds_10 : decode cX8_kinds 10 = .ok (.invokevirtual 217, 3) := by decide +kernel
theorem dX8_kinds_13 : decode cX8_kinds 13 = .ok (.goto 7, 3) := by decide +kernel
theorem dX8_kinds_16 : decode cX8_kinds 16 = .ok (.aload_n 0, 1) := by decide +kernel
theorem dX8_kinds_17 : decode cX8_kinds 17 = .ok (.invokevirtual 78, 3) := by decide +kernel
theorem dX8_kinds_20 : decode cX8_kinds 20 = .ok (.ireturn, 1) := by decide +kernel
theorem dX8_greatestPart_0 : decode cX8_greatestPart 0 = .ok (.iconst 0, 1) := by decide +kernel
theorem dX8_greatestPart_1 : decode cX8_greatestPart 1 = .ok (.istore_n 2, 1) := by decide +kernel
theorem dX8_greatestPart_2 : decode cX8_greatestPart 2 = .ok (.iconst 0, 1) := by decide +kernel
theorem dX8_greatestPart_3 : decode cX8_greatestPart 3 = .ok (.istore_n 3, 1) := by decide +kernel
theorem dX8_greatestPart_4 : decode cX8_greatestPart 4 = .ok (.iload_n 3, 1) := by decide +kernel
theorem dX8_greatestPart_5 : decode cX8_greatestPart 5 = .ok (.bipush 6, 2) := by decide +kernel
theorem dX8_greatestPart_7 : decode cX8_greatestPart 7 = .ok (.if_icmp .ge 84, 3) := by decide +kernel
theorem dX8_greatestPart_10 : decode cX8_greatestPart 10 = .ok (.iconst 0, 1) := by decide +kernel
theorem dX8_greatestPart_11 : decode cX8_greatestPart 11 = .ok (.istore 4, 2) := by decide +kernel
theorem dX8_greatestPart_13 : decode cX8_greatestPart 13 = .ok (.iconst 0, 1) := by decide +kernel
theorem dX8_greatestPart_14 : decode cX8_greatestPart 14 = .ok (.istore 5, 2) := by decide +kernel
theorem dX8_greatestPart_16 : decode cX8_greatestPart 16 = .ok (.iload 5, 2) := by decide +kernel
theorem dX8_greatestPart_18 : decode cX8_greatestPart 18 = .ok (.bipush 6, 2) := by decide +kernel
theorem dX8_greatestPart_20 : decode cX8_greatestPart 20 = .ok (.if_icmp .ge 52, 3) := by decide +kernel
theorem dX8_greatestPart_23 : decode cX8_greatestPart 23 = .ok (.iload 4, 2) := by decide +kernel
theorem dX8_greatestPart_25 : decode cX8_greatestPart 25 = .ok (.iload_n 1, 1) := by decide +kernel
theorem dX8_greatestPart_26 : decode cX8_greatestPart 26 = .ok (.iload_n 3, 1) := by decide +kernel
theorem dX8_greatestPart_27 : decode cX8_greatestPart 27 = .ok (.invokestatic 183, 3) := by decide +kernel
theorem dX8_greatestPart_30 : decode cX8_greatestPart 30 = .ok (.ifCond .eq 32, 3) := by decide +kernel
theorem dX8_greatestPart_33 : decode cX8_greatestPart 33 = .ok (.iload_n 1, 1) := by decide +kernel
theorem dX8_greatestPart_34 : decode cX8_greatestPart 34 = .ok (.iload 5, 2) := by decide +kernel
theorem dX8_greatestPart_36 : decode cX8_greatestPart 36 = .ok (.invokestatic 183, 3) := by decide +kernel
theorem dX8_greatestPart_39 : decode cX8_greatestPart 39 = .ok (.ifCond .eq 23, 3) := by decide +kernel
theorem dX8_greatestPart_42 : decode cX8_greatestPart 42 = .ok (.aload_n 0, 1) := by decide +kernel
theorem dX8_greatestPart_43 : decode cX8_greatestPart 43 = .ok (.getfield 26, 3) := by decide +kernel
theorem dX8_greatestPart_46 : decode cX8_greatestPart 46 = .ok (.iload_n 3, 1) := by decide +kernel
theorem dX8_greatestPart_47 : decode cX8_greatestPart 47 = .ok (.iaload, 1) := by decide +kernel
theorem dX8_greatestPart_48 : decode cX8_greatestPart 48 = .ok (.aload_n 0, 1) := by decide +kernel
theorem dX8_greatestPart_49 : decode cX8_greatestPart 49 = .ok (.getfield 26, 3) := by decide +kernel
theorem dX8_greatestPart_52 : decode cX8_greatestPart 52 = .ok (.iload 5, 2) := by decide +kernel
theorem dX8_greatestPart_54 : decode cX8_greatestPart 54 = .ok (.iaload, 1) := by decide +kernel
theorem dX8_greatestPart_55 : decode cX8_greatestPart 55 = .ok (.if_icmp .ne 7, 3) := by decide +kernel
theorem dX8_greatestPart_58 : decode cX8_greatestPart 58 = .ok (.iconst 1, 1) := by decide +kernel
theorem dX8_greatestPart_59 : decode cX8_greatestPart 59 = .ok (.goto 4, 3) := by decide +kernel
theorem dX8_greatestPart_62 : decode cX8_greatestPart 62 = .ok (.iconst 0, 1) := by decide +kernel
theorem dX8_greatestPart_63 : decode cX8_greatestPart 63 = .ok (.iadd, 1) := by decide +kernel
theorem dX8_greatestPart_64 : decode cX8_greatestPart 64 = .ok (.istore 4, 2) := by decide +kernel
theorem dX8_greatestPart_66 : decode cX8_greatestPart 66 = .ok (.iinc 5 1, 3) := by decide +kernel
theorem dX8_greatestPart_69 : decode cX8_greatestPart 69 = .ok (.goto (-53), 3) := by decide +kernel
theorem dX8_greatestPart_72 : decode cX8_greatestPart 72 = .ok (.iload 4, 2) := by decide +kernel
theorem dX8_greatestPart_74 : decode cX8_greatestPart 74 = .ok (.iload_n 2, 1) := by decide +kernel
theorem dX8_greatestPart_75 : decode cX8_greatestPart 75 = .ok (.if_icmp .le 8, 3) := by decide +kernel
theorem dX8_greatestPart_78 : decode cX8_greatestPart 78 = .ok (.iload 4, 2) := by decide +kernel
theorem dX8_greatestPart_80 : decode cX8_greatestPart 80 = .ok (.goto 4, 3) := by decide +kernel
theorem dX8_greatestPart_83 : decode cX8_greatestPart 83 = .ok (.iload_n 2, 1) := by decide +kernel
theorem dX8_greatestPart_84 : decode cX8_greatestPart 84 = .ok (.istore_n 2, 1) := by decide +kernel
theorem dX8_greatestPart_85 : decode cX8_greatestPart 85 = .ok (.iinc 3 1, 3) := by decide +kernel
theorem dX8_greatestPart_88 : decode cX8_greatestPart 88 = .ok (.goto (-84), 3) := by decide +kernel
theorem dX8_greatestPart_91 : decode cX8_greatestPart 91 = .ok (.iload_n 2, 1) := by decide +kernel
theorem dX8_greatestPart_92 : decode cX8_greatestPart 92 = .ok (.ireturn, 1) := by decide +kernel
theorem dX8_look_0 : decode cX8_look 0 = .ok (.aload_n 0, 1) := by decide +kernel
theorem dX8_look_1 : decode cX8_look 1 = .ok (.iload_n 1, 1) := by decide +kernel
theorem dX8_look_2 : decode cX8_look 2 = .ok (.invokevirtual 88, 3) := by decide +kernel
theorem dX8_look_5 : decode cX8_look 5 = .ok (.ifCond .ne 8, 3) := by decide +kernel
theorem dX8_look_8 : decode cX8_look 8 = .ok (.aload_n 0, 1) := by decide +kernel
theorem dX8_look_9 : decode cX8_look 9 = .ok (.invokevirtual 78, 3) := by decide +kernel
theorem dX8_look_12 : decode cX8_look 12 = .ok (.ireturn, 1) := by decide +kernel
theorem dX8_look_13 : decode cX8_look 13 = .ok (.aload_n 0, 1) := by decide +kernel
theorem dX8_look_14 : decode cX8_look 14 = .ok (.iload_n 1, 1) := by decide +kernel
theorem dX8_look_15 : decode cX8_look 15 = .ok (.invokevirtual 214, 3) := by decide +kernel
theorem dX8_look_18 : decode cX8_look 18 = .ok (.istore_n 2, 1) := by decide +kernel
theorem dX8_look_19 : decode cX8_look 19 = .ok (.iconst (-1), 1) := by decide +kernel
theorem dX8_look_20 : decode cX8_look 20 = .ok (.istore_n 3, 1) := by decide +kernel
theorem dX8_look_21 : decode cX8_look 21 = .ok (.bipush 99, 2) := by decide +kernel
theorem dX8_look_23 : decode cX8_look 23 = .ok (.istore 4, 2) := by decide +kernel
theorem dX8_look_25 : decode cX8_look 25 = .ok (.iconst 0, 1) := by decide +kernel
theorem dX8_look_26 : decode cX8_look 26 = .ok (.istore 5, 2) := by decide +kernel
theorem dX8_look_28 : decode cX8_look 28 = .ok (.iload 5, 2) := by decide +kernel
theorem dX8_look_30 : decode cX8_look 30 = .ok (.sipush 2400, 3) := by decide +kernel
theorem dX8_look_33 : decode cX8_look 33 = .ok (.if_icmp .ge 103, 3) := by decide +kernel
theorem dX8_look_36 : decode cX8_look 36 = .ok (.iload_n 2, 1) := by decide +kernel
theorem dX8_look_37 : decode cX8_look 37 = .ok (.ifCond .eq 99, 3) := by decide +kernel
theorem dX8_look_40 : decode cX8_look 40 = .ok (.iconst 0, 1) := by decide +kernel
theorem dX8_look_41 : decode cX8_look 41 = .ok (.istore 6, 2) := by decide +kernel
theorem dX8_look_43 : decode cX8_look 43 = .ok (.iload 6, 2) := by decide +kernel
theorem dX8_look_45 : decode cX8_look 45 = .ok (.bipush 6, 2) := by decide +kernel
theorem dX8_look_47 : decode cX8_look 47 = .ok (.if_icmp .ge 31, 3) := by decide +kernel
theorem dX8_look_50 : decode cX8_look 50 = .ok (.aload_n 0, 1) := by decide +kernel
theorem dX8_look_51 : decode cX8_look 51 = .ok (.getfield 26, 3) := by decide +kernel
theorem dX8_look_54 : decode cX8_look 54 = .ok (.iload 6, 2) := by decide +kernel
theorem dX8_look_56 : decode cX8_look 56 = .ok (.iload 6, 2) := by decide +kernel
theorem dX8_look_58 : decode cX8_look 58 = .ok (.iload 5, 2) := by decide +kernel
theorem dX8_look_60 : decode cX8_look 60 = .ok (.bipush 100, 2) := by decide +kernel
theorem dX8_look_62 : decode cX8_look 62 = .ok (.irem, 1) := by decide +kernel
theorem dX8_look_63 : decode cX8_look 63 = .ok (.iload 5, 2) := by decide +kernel
theorem dX8_look_65 : decode cX8_look 65 = .ok (.bipush 100, 2) := by decide +kernel
theorem dX8_look_67 : decode cX8_look 67 = .ok (.idiv, 1) := by decide +kernel
theorem dX8_look_68 : decode cX8_look 68 = .ok (.invokestatic 55, 3) := by decide +kernel
theorem dX8_look_71 : decode cX8_look 71 = .ok (.iastore, 1) := by decide +kernel
theorem dX8_look_72 : decode cX8_look 72 = .ok (.iinc 6 1, 3) := by decide +kernel
theorem dX8_look_75 : decode cX8_look 75 = .ok (.goto (-32), 3) := by decide +kernel
theorem dX8_look_78 : decode cX8_look 78 = .ok (.iload 5, 2) := by decide +kernel
theorem dX8_look_80 : decode cX8_look 80 = .ok (.bipush 100, 2) := by decide +kernel
theorem dX8_look_82 : decode cX8_look 82 = .ok (.irem, 1) := by decide +kernel
theorem dX8_look_83 : decode cX8_look 83 = .ok (.bipush 60, 2) := by decide +kernel
theorem dX8_look_85 : decode cX8_look 85 = .ok (.if_icmp .gt 11, 3) := by decide +kernel
theorem dX8_look_88 : decode cX8_look 88 = .ok (.aload_n 0, 1) := by decide +kernel
theorem dX8_look_89 : decode cX8_look 89 = .ok (.iload_n 2, 1) := by decide +kernel
theorem dX8_look_90 : decode cX8_look 90 = .ok (.invokevirtual 220, 3) := by decide +kernel
theorem dX8_look_93 : decode cX8_look 93 = .ok (.goto 5, 3) := by decide +kernel
theorem dX8_look_96 : decode cX8_look 96 = .ok (.bipush 99, 2) := by decide +kernel
theorem dX8_look_98 : decode cX8_look 98 = .ok (.istore 6, 2) := by decide +kernel
theorem dX8_look_100 : decode cX8_look 100 = .ok (.iload 6, 2) := by decide +kernel
theorem dX8_look_102 : decode cX8_look 102 = .ok (.iload 4, 2) := by decide +kernel
theorem dX8_look_104 : decode cX8_look 104 = .ok (.if_icmp .ge 8, 3) := by decide +kernel
theorem dX8_look_107 : decode cX8_look 107 = .ok (.iload 5, 2) := by decide +kernel
theorem dX8_look_109 : decode cX8_look 109 = .ok (.goto 4, 3) := by decide +kernel
theorem dX8_look_112 : decode cX8_look 112 = .ok (.iload_n 3, 1) := by decide +kernel
theorem dX8_look_113 : decode cX8_look 113 = .ok (.istore_n 3, 1) := by decide +kernel
theorem dX8_look_114 : decode cX8_look 114 = .ok (.iload 6, 2) := by decide +kernel
theorem dX8_look_116 : decode cX8_look 116 = .ok (.iload 4, 2) := by decide +kernel
theorem dX8_look_118 : decode cX8_look 118 = .ok (.if_icmp .ge 8, 3) := by decide +kernel
theorem dX8_look_121 : decode cX8_look 121 = .ok (.iload 6, 2) := by decide +kernel
theorem dX8_look_123 : decode cX8_look 123 = .ok (.goto 5, 3) := by decide +kernel
theorem dX8_look_126 : decode cX8_look 126 = .ok (.iload 4, 2) := by decide +kernel
theorem dX8_look_128 : decode cX8_look 128 = .ok (.istore 4, 2) := by decide +kernel
theorem dX8_look_130 : decode cX8_look 130 = .ok (.iinc 5 1, 3) := by decide +kernel
theorem dX8_look_133 : decode cX8_look 133 = .ok (.goto (-105), 3) := by decide +kernel
theorem dX8_look_136 : decode cX8_look 136 = .ok (.iload_n 3, 1) := by decide +kernel
theorem dX8_look_137 : decode cX8_look 137 = .ok (.ireturn, 1) := by decide +kernel
theorem dX8_ask_0 : decode cX8_ask 0 = .ok (.aload_n 0, 1) := by decide +kernel
theorem dX8_ask_1 : decode cX8_ask 1 = .ok (.iload_n 1, 1) := by decide +kernel
theorem dX8_ask_2 : decode cX8_ask 2 = .ok (.invokevirtual 170, 3) := by decide +kernel
theorem dX8_ask_5 : decode cX8_ask 5 = .ok (.ifCond .ne 8, 3) := by decide +kernel
theorem dX8_ask_8 : decode cX8_ask 8 = .ok (.aload_n 0, 1) := by decide +kernel
theorem dX8_ask_9 : decode cX8_ask 9 = .ok (.invokevirtual 78, 3) := by decide +kernel
theorem dX8_ask_12 : decode cX8_ask 12 = .ok (.ireturn, 1) := by decide +kernel
theorem dX8_ask_13 : decode cX8_ask 13 = .ok (.aload_n 0, 1) := by decide +kernel
theorem dX8_ask_14 : decode cX8_ask 14 = .ok (.iload_n 1, 1) := by decide +kernel
theorem dX8_ask_15 : decode cX8_ask 15 = .ok (.invokevirtual 217, 3) := by decide +kernel
theorem dX8_ask_18 : decode cX8_ask 18 = .ok (.istore_n 2, 1) := by decide +kernel
theorem dX8_ask_19 : decode cX8_ask 19 = .ok (.iconst (-1), 1) := by decide +kernel
theorem dX8_ask_20 : decode cX8_ask 20 = .ok (.istore_n 3, 1) := by decide +kernel
theorem dX8_ask_21 : decode cX8_ask 21 = .ok (.bipush 99, 2) := by decide +kernel
theorem dX8_ask_23 : decode cX8_ask 23 = .ok (.istore 4, 2) := by decide +kernel
theorem dX8_ask_25 : decode cX8_ask 25 = .ok (.iconst 0, 1) := by decide +kernel
theorem dX8_ask_26 : decode cX8_ask 26 = .ok (.istore 5, 2) := by decide +kernel
theorem dX8_ask_28 : decode cX8_ask 28 = .ok (.iload 5, 2) := by decide +kernel
theorem dX8_ask_30 : decode cX8_ask 30 = .ok (.sipush 2400, 3) := by decide +kernel
theorem dX8_ask_33 : decode cX8_ask 33 = .ok (.if_icmp .ge 111, 3) := by decide +kernel
theorem dX8_ask_36 : decode cX8_ask 36 = .ok (.iload_n 2, 1) := by decide +kernel
theorem dX8_ask_37 : decode cX8_ask 37 = .ok (.ifCond .eq 107, 3) := by decide +kernel
theorem dX8_ask_40 : decode cX8_ask 40 = .ok (.iconst 0, 1) := by decide +kernel
theorem dX8_ask_41 : decode cX8_ask 41 = .ok (.istore 6, 2) := by decide +kernel
theorem dX8_ask_43 : decode cX8_ask 43 = .ok (.iload 6, 2) := by decide +kernel
theorem dX8_ask_45 : decode cX8_ask 45 = .ok (.bipush 6, 2) := by decide +kernel
theorem dX8_ask_47 : decode cX8_ask 47 = .ok (.if_icmp .ge 39, 3) := by decide +kernel
theorem dX8_ask_50 : decode cX8_ask 50 = .ok (.aload_n 0, 1) := by decide +kernel
theorem dX8_ask_51 : decode cX8_ask 51 = .ok (.getfield 26, 3) := by decide +kernel
theorem dX8_ask_54 : decode cX8_ask 54 = .ok (.iload 6, 2) := by decide +kernel
theorem dX8_ask_56 : decode cX8_ask 56 = .ok (.iload 6, 2) := by decide +kernel
theorem dX8_ask_58 : decode cX8_ask 58 = .ok (.iload 5, 2) := by decide +kernel
theorem dX8_ask_60 : decode cX8_ask 60 = .ok (.bipush 100, 2) := by decide +kernel
theorem dX8_ask_62 : decode cX8_ask 62 = .ok (.irem, 1) := by decide +kernel
theorem dX8_ask_63 : decode cX8_ask 63 = .ok (.iload 5, 2) := by decide +kernel
theorem dX8_ask_65 : decode cX8_ask 65 = .ok (.bipush 100, 2) := by decide +kernel
theorem dX8_ask_67 : decode cX8_ask 67 = .ok (.idiv, 1) := by decide +kernel
theorem dX8_ask_68 : decode cX8_ask 68 = .ok (.aload_n 0, 1) := by decide +kernel
theorem dX8_ask_69 : decode cX8_ask 69 = .ok (.getfield 7, 3) := by decide +kernel
theorem dX8_ask_72 : decode cX8_ask 72 = .ok (.iconst 3, 1) := by decide +kernel
theorem dX8_ask_73 : decode cX8_ask 73 = .ok (.iload_n 1, 1) := by decide +kernel
theorem dX8_ask_74 : decode cX8_ask 74 = .ok (.iadd, 1) := by decide +kernel
theorem dX8_ask_75 : decode cX8_ask 75 = .ok (.iaload, 1) := by decide +kernel
theorem dX8_ask_76 : decode cX8_ask 76 = .ok (.invokestatic 51, 3) := by decide +kernel
theorem dX8_ask_79 : decode cX8_ask 79 = .ok (.iastore, 1) := by decide +kernel
theorem dX8_ask_80 : decode cX8_ask 80 = .ok (.iinc 6 1, 3) := by decide +kernel
theorem dX8_ask_83 : decode cX8_ask 83 = .ok (.goto (-40), 3) := by decide +kernel
theorem dX8_ask_86 : decode cX8_ask 86 = .ok (.iload 5, 2) := by decide +kernel
theorem dX8_ask_88 : decode cX8_ask 88 = .ok (.bipush 100, 2) := by decide +kernel
theorem dX8_ask_90 : decode cX8_ask 90 = .ok (.irem, 1) := by decide +kernel
theorem dX8_ask_91 : decode cX8_ask 91 = .ok (.bipush 18, 2) := by decide +kernel
theorem dX8_ask_93 : decode cX8_ask 93 = .ok (.if_icmp .gt 11, 3) := by decide +kernel
theorem dX8_ask_96 : decode cX8_ask 96 = .ok (.aload_n 0, 1) := by decide +kernel
theorem dX8_ask_97 : decode cX8_ask 97 = .ok (.iload_n 2, 1) := by decide +kernel
theorem dX8_ask_98 : decode cX8_ask 98 = .ok (.invokevirtual 220, 3) := by decide +kernel
theorem dX8_ask_101 : decode cX8_ask 101 = .ok (.goto 5, 3) := by decide +kernel
theorem dX8_ask_104 : decode cX8_ask 104 = .ok (.bipush 99, 2) := by decide +kernel
theorem dX8_ask_106 : decode cX8_ask 106 = .ok (.istore 6, 2) := by decide +kernel
theorem dX8_ask_108 : decode cX8_ask 108 = .ok (.iload 6, 2) := by decide +kernel
theorem dX8_ask_110 : decode cX8_ask 110 = .ok (.iload 4, 2) := by decide +kernel
theorem dX8_ask_112 : decode cX8_ask 112 = .ok (.if_icmp .ge 8, 3) := by decide +kernel
theorem dX8_ask_115 : decode cX8_ask 115 = .ok (.iload 5, 2) := by decide +kernel
theorem dX8_ask_117 : decode cX8_ask 117 = .ok (.goto 4, 3) := by decide +kernel
theorem dX8_ask_120 : decode cX8_ask 120 = .ok (.iload_n 3, 1) := by decide +kernel
theorem dX8_ask_121 : decode cX8_ask 121 = .ok (.istore_n 3, 1) := by decide +kernel
theorem dX8_ask_122 : decode cX8_ask 122 = .ok (.iload 6, 2) := by decide +kernel
theorem dX8_ask_124 : decode cX8_ask 124 = .ok (.iload 4, 2) := by decide +kernel
theorem dX8_ask_126 : decode cX8_ask 126 = .ok (.if_icmp .ge 8, 3) := by decide +kernel
theorem dX8_ask_129 : decode cX8_ask 129 = .ok (.iload 6, 2) := by decide +kernel
theorem dX8_ask_131 : decode cX8_ask 131 = .ok (.goto 5, 3) := by decide +kernel
theorem dX8_ask_134 : decode cX8_ask 134 = .ok (.iload 4, 2) := by decide +kernel
theorem dX8_ask_136 : decode cX8_ask 136 = .ok (.istore 4, 2) := by decide +kernel
theorem dX8_ask_138 : decode cX8_ask 138 = .ok (.iinc 5 1, 3) := by decide +kernel
theorem dX8_ask_141 : decode cX8_ask 141 = .ok (.goto (-113), 3) := by decide +kernel
theorem dX8_ask_144 : decode cX8_ask 144 = .ok (.iload_n 3, 1) := by decide +kernel
theorem dX8_ask_145 : decode cX8_ask 145 = .ok (.ireturn, 1) := by decide +kernel
theorem dX8_ownerGets_0 : decode cX8_ownerGets 0 = .ok (.iload_n 2, 1) := by decide +kernel
theorem dX8_ownerGets_1 : decode cX8_ownerGets 1 = .ok (.iload_n 3, 1) := by decide +kernel
theorem dX8_ownerGets_2 : decode cX8_ownerGets 2 = .ok (.if_icmp .ne 7, 3) := by decide +kernel
theorem dX8_ownerGets_5 : decode cX8_ownerGets 5 = .ok (.iconst 5, 1) := by decide +kernel
theorem dX8_ownerGets_6 : decode cX8_ownerGets 6 = .ok (.goto 4, 3) := by decide +kernel
theorem dX8_ownerGets_9 : decode cX8_ownerGets 9 = .ok (.iconst 0, 1) := by decide +kernel
theorem dX8_ownerGets_10 : decode cX8_ownerGets 10 = .ok (.aload_n 0, 1) := by decide +kernel
theorem dX8_ownerGets_11 : decode cX8_ownerGets 11 = .ok (.iload_n 1, 1) := by decide +kernel
theorem dX8_ownerGets_12 : decode cX8_ownerGets 12 = .ok (.aload_n 0, 1) := by decide +kernel
theorem dX8_ownerGets_13 : decode cX8_ownerGets 13 = .ok (.getfield 7, 3) := by decide +kernel
theorem dX8_ownerGets_16 : decode cX8_ownerGets 16 = .ok (.iload_n 1, 1) := by decide +kernel
theorem dX8_ownerGets_17 : decode cX8_ownerGets 17 = .ok (.iaload, 1) := by decide +kernel
theorem dX8_ownerGets_18 : decode cX8_ownerGets 18 = .ok (.iload_n 3, 1) := by decide +kernel
theorem dX8_ownerGets_19 : decode cX8_ownerGets 19 = .ok (.invokevirtual 179, 3) := by decide +kernel
theorem dX8_ownerGets_22 : decode cX8_ownerGets 22 = .ok (.bipush 10, 2) := by decide +kernel
theorem dX8_ownerGets_24 : decode cX8_ownerGets 24 = .ok (.idiv, 1) := by decide +kernel
theorem dX8_ownerGets_25 : decode cX8_ownerGets 25 = .ok (.isub, 1) := by decide +kernel
theorem dX8_ownerGets_26 : decode cX8_ownerGets 26 = .ok (.ireturn, 1) := by decide +kernel
theorem dX8_surveyorGets_0 : decode cX8_surveyorGets 0 = .ok (.aload_n 0, 1) := by decide +kernel
theorem dX8_surveyorGets_1 : decode cX8_surveyorGets 1 = .ok (.iload_n 1, 1) := by decide +kernel
theorem dX8_surveyorGets_2 : decode cX8_surveyorGets 2 = .ok (.aload_n 0, 1) := by decide +kernel
theorem dX8_surveyorGets_3 : decode cX8_surveyorGets 3 = .ok (.getfield 7, 3) := by decide +kernel
theorem dX8_surveyorGets_6 : decode cX8_surveyorGets 6 = .ok (.iload_n 1, 1) := by decide +kernel
theorem dX8_surveyorGets_7 : decode cX8_surveyorGets 7 = .ok (.iaload, 1) := by decide +kernel
theorem dX8_surveyorGets_8 : decode cX8_surveyorGets 8 = .ok (.iload_n 2, 1) := by decide +kernel
theorem dX8_surveyorGets_9 : decode cX8_surveyorGets 9 = .ok (.invokevirtual 179, 3) := by decide +kernel
theorem dX8_surveyorGets_12 : decode cX8_surveyorGets 12 = .ok (.bipush 10, 2) := by decide +kernel
theorem dX8_surveyorGets_14 : decode cX8_surveyorGets 14 = .ok (.idiv, 1) := by decide +kernel
theorem dX8_surveyorGets_15 : decode cX8_surveyorGets 15 = .ok (.iload_n 2, 1) := by decide +kernel
theorem dX8_surveyorGets_16 : decode cX8_surveyorGets 16 = .ok (.iload_n 3, 1) := by decide +kernel
theorem dX8_surveyorGets_17 : decode cX8_surveyorGets 17 = .ok (.if_icmp .ne 8, 3) := by decide +kernel
theorem dX8_surveyorGets_20 : decode cX8_surveyorGets 20 = .ok (.bipush 6, 2) := by decide +kernel
theorem dX8_surveyorGets_22 : decode cX8_surveyorGets 22 = .ok (.goto 4, 3) := by decide +kernel
theorem dX8_surveyorGets_25 : decode cX8_surveyorGets 25 = .ok (.iconst 0, 1) := by decide +kernel
theorem dX8_surveyorGets_26 : decode cX8_surveyorGets 26 = .ok (.isub, 1) := by decide +kernel
theorem dX8_surveyorGets_27 : decode cX8_surveyorGets 27 = .ok (.ireturn, 1) := by decide +kernel
theorem dX8_rest_0 : decode cX8_rest 0 = .ok (.iload_n 2, 1) := by decide +kernel
theorem dX8_rest_1 : decode cX8_rest 1 = .ok (.aload_n 0, 1) := by decide +kernel
theorem dX8_rest_2 : decode cX8_rest 2 = .ok (.getfield 7, 3) := by decide +kernel
theorem dX8_rest_5 : decode cX8_rest 5 = .ok (.iload_n 1, 1) := by decide +kernel
theorem dX8_rest_6 : decode cX8_rest 6 = .ok (.iaload, 1) := by decide +kernel
theorem dX8_rest_7 : decode cX8_rest 7 = .ok (.if_icmp .eq 17, 3) := by decide +kernel
theorem dX8_rest_10 : decode cX8_rest 10 = .ok (.iload_n 3, 1) := by decide +kernel
theorem dX8_rest_11 : decode cX8_rest 11 = .ok (.aload_n 0, 1) := by decide +kernel
theorem dX8_rest_12 : decode cX8_rest 12 = .ok (.getfield 7, 3) := by decide +kernel
theorem dX8_rest_15 : decode cX8_rest 15 = .ok (.iload_n 1, 1) := by decide +kernel
theorem dX8_rest_16 : decode cX8_rest 16 = .ok (.iaload, 1) := by decide +kernel
theorem dX8_rest_17 : decode cX8_rest 17 = .ok (.if_icmp .eq 7, 3) := by decide +kernel
theorem dX8_rest_20 : decode cX8_rest 20 = .ok (.iconst 1, 1) := by decide +kernel
theorem dX8_rest_21 : decode cX8_rest 21 = .ok (.goto 4, 3) := by decide +kernel
theorem dX8_rest_24 : decode cX8_rest 24 = .ok (.iconst 0, 1) := by decide +kernel
theorem dX8_rest_25 : decode cX8_rest 25 = .ok (.istore 4, 2) := by decide +kernel
theorem dX8_rest_27 : decode cX8_rest 27 = .ok (.iconst 0, 1) := by decide +kernel
theorem dX8_rest_28 : decode cX8_rest 28 = .ok (.istore 5, 2) := by decide +kernel
theorem dX8_rest_30 : decode cX8_rest 30 = .ok (.iload 5, 2) := by decide +kernel
theorem dX8_rest_32 : decode cX8_rest 32 = .ok (.aload_n 0, 1) := by decide +kernel
theorem dX8_rest_33 : decode cX8_rest 33 = .ok (.getfield 7, 3) := by decide +kernel
theorem dX8_rest_36 : decode cX8_rest 36 = .ok (.sipush 418, 3) := by decide +kernel
theorem dX8_rest_39 : decode cX8_rest 39 = .ok (.iaload, 1) := by decide +kernel
theorem dX8_rest_40 : decode cX8_rest 40 = .ok (.if_icmp .ge 68, 3) := by decide +kernel
theorem dX8_rest_43 : decode cX8_rest 43 = .ok (.iload 4, 2) := by decide +kernel
theorem dX8_rest_45 : decode cX8_rest 45 = .ok (.ifCond .eq 63, 3) := by decide +kernel
theorem dX8_rest_48 : decode cX8_rest 48 = .ok (.iload 5, 2) := by decide +kernel
theorem dX8_rest_50 : decode cX8_rest 50 = .ok (.aload_n 0, 1) := by decide +kernel
theorem dX8_rest_51 : decode cX8_rest 51 = .ok (.getfield 7, 3) := by decide +kernel
theorem dX8_rest_54 : decode cX8_rest 54 = .ok (.iload_n 1, 1) := by decide +kernel
theorem dX8_rest_55 : decode cX8_rest 55 = .ok (.iaload, 1) := by decide +kernel
theorem dX8_rest_56 : decode cX8_rest 56 = .ok (.if_icmp .eq 46, 3) := by decide +kernel
theorem dX8_rest_59 : decode cX8_rest 59 = .ok (.aload_n 0, 1) := by decide +kernel
theorem dX8_rest_60 : decode cX8_rest 60 = .ok (.iload_n 1, 1) := by decide +kernel
theorem dX8_rest_61 : decode cX8_rest 61 = .ok (.iload_n 2, 1) := by decide +kernel
theorem dX8_rest_62 : decode cX8_rest 62 = .ok (.iload 5, 2) := by decide +kernel
theorem dX8_rest_64 : decode cX8_rest 64 = .ok (.invokevirtual 223, 3) := by decide +kernel
theorem dX8_rest_67 : decode cX8_rest 67 = .ok (.aload_n 0, 1) := by decide +kernel
theorem dX8_rest_68 : decode cX8_rest 68 = .ok (.iload_n 1, 1) := by decide +kernel
theorem dX8_rest_69 : decode cX8_rest 69 = .ok (.iload_n 2, 1) := by decide +kernel
theorem dX8_rest_70 : decode cX8_rest 70 = .ok (.iload_n 3, 1) := by decide +kernel
theorem dX8_rest_71 : decode cX8_rest 71 = .ok (.invokevirtual 223, 3) := by decide +kernel
theorem dX8_rest_74 : decode cX8_rest 74 = .ok (.if_icmp .gt 25, 3) := by decide +kernel
theorem dX8_rest_77 : decode cX8_rest 77 = .ok (.aload_n 0, 1) := by decide +kernel
theorem dX8_rest_78 : decode cX8_rest 78 = .ok (.iload_n 1, 1) := by decide +kernel
theorem dX8_rest_79 : decode cX8_rest 79 = .ok (.iload 5, 2) := by decide +kernel
theorem dX8_rest_81 : decode cX8_rest 81 = .ok (.iload_n 3, 1) := by decide +kernel
theorem dX8_rest_82 : decode cX8_rest 82 = .ok (.invokevirtual 226, 3) := by decide +kernel
theorem dX8_rest_85 : decode cX8_rest 85 = .ok (.aload_n 0, 1) := by decide +kernel
theorem dX8_rest_86 : decode cX8_rest 86 = .ok (.iload_n 1, 1) := by decide +kernel
theorem dX8_rest_87 : decode cX8_rest 87 = .ok (.iload_n 2, 1) := by decide +kernel
theorem dX8_rest_88 : decode cX8_rest 88 = .ok (.iload_n 3, 1) := by decide +kernel
theorem dX8_rest_89 : decode cX8_rest 89 = .ok (.invokevirtual 226, 3) := by decide +kernel
theorem dX8_rest_92 : decode cX8_rest 92 = .ok (.if_icmp .gt 7, 3) := by decide +kernel
theorem dX8_rest_95 : decode cX8_rest 95 = .ok (.iconst 1, 1) := by decide +kernel
theorem dX8_rest_96 : decode cX8_rest 96 = .ok (.goto 4, 3) := by decide +kernel
theorem dX8_rest_99 : decode cX8_rest 99 = .ok (.iconst 0, 1) := by decide +kernel
theorem dX8_rest_100 : decode cX8_rest 100 = .ok (.istore 4, 2) := by decide +kernel
theorem dX8_rest_102 : decode cX8_rest 102 = .ok (.iinc 5 1, 3) := by decide +kernel
theorem dX8_rest_105 : decode cX8_rest 105 = .ok (.goto (-75), 3) := by decide +kernel
theorem dX8_rest_108 : decode cX8_rest 108 = .ok (.iload 4, 2) := by decide +kernel
theorem dX8_rest_110 : decode cX8_rest 110 = .ok (.ireturn, 1) := by decide +kernel
theorem dX8_owner_0 : decode cX8_owner 0 = .ok (.aload_n 0, 1) := by decide +kernel
theorem dX8_owner_1 : decode cX8_owner 1 = .ok (.iload_n 1, 1) := by decide +kernel
theorem dX8_owner_2 : decode cX8_owner 2 = .ok (.invokevirtual 170, 3) := by decide +kernel
theorem dX8_owner_5 : decode cX8_owner 5 = .ok (.ifCond .eq 8, 3) := by decide +kernel
theorem dX8_owner_8 : decode cX8_owner 8 = .ok (.iload_n 2, 1) := by decide +kernel
theorem dX8_owner_9 : decode cX8_owner 9 = .ok (.iconst (-1), 1) := by decide +kernel
theorem dX8_owner_10 : decode cX8_owner 10 = .ok (.if_icmp .ge 8, 3) := by decide +kernel
theorem dX8_owner_13 : decode cX8_owner 13 = .ok (.aload_n 0, 1) := by decide +kernel
theorem dX8_owner_14 : decode cX8_owner 14 = .ok (.invokevirtual 193, 3) := by decide +kernel
theorem dX8_owner_17 : decode cX8_owner 17 = .ok (.ireturn, 1) := by decide +kernel
theorem dX8_owner_18 : decode cX8_owner 18 = .ok (.iconst 0, 1) := by decide +kernel
theorem dX8_owner_19 : decode cX8_owner 19 = .ok (.istore_n 3, 1) := by decide +kernel
theorem dX8_owner_20 : decode cX8_owner 20 = .ok (.bipush (-5), 2) := by decide +kernel
theorem dX8_owner_22 : decode cX8_owner 22 = .ok (.istore 4, 2) := by decide +kernel
theorem dX8_owner_24 : decode cX8_owner 24 = .ok (.iconst 0, 1) := by decide +kernel
theorem dX8_owner_25 : decode cX8_owner 25 = .ok (.istore 5, 2) := by decide +kernel
theorem dX8_owner_27 : decode cX8_owner 27 = .ok (.iload 5, 2) := by decide +kernel
theorem dX8_owner_29 : decode cX8_owner 29 = .ok (.aload_n 0, 1) := by decide +kernel
theorem dX8_owner_30 : decode cX8_owner 30 = .ok (.getfield 7, 3) := by decide +kernel
theorem dX8_owner_33 : decode cX8_owner 33 = .ok (.sipush 418, 3) := by decide +kernel
theorem dX8_owner_36 : decode cX8_owner 36 = .ok (.iaload, 1) := by decide +kernel
theorem dX8_owner_37 : decode cX8_owner 37 = .ok (.if_icmp .ge 66, 3) := by decide +kernel
theorem dX8_owner_40 : decode cX8_owner 40 = .ok (.iconst 0, 1) := by decide +kernel
theorem dX8_owner_41 : decode cX8_owner 41 = .ok (.istore 6, 2) := by decide +kernel
theorem dX8_owner_43 : decode cX8_owner 43 = .ok (.iload 6, 2) := by decide +kernel
theorem dX8_owner_45 : decode cX8_owner 45 = .ok (.aload_n 0, 1) := by decide +kernel
theorem dX8_owner_46 : decode cX8_owner 46 = .ok (.getfield 7, 3) := by decide +kernel
theorem dX8_owner_49 : decode cX8_owner 49 = .ok (.sipush 418, 3) := by decide +kernel
theorem dX8_owner_52 : decode cX8_owner 52 = .ok (.iaload, 1) := by decide +kernel
theorem dX8_owner_53 : decode cX8_owner 53 = .ok (.if_icmp .ge 44, 3) := by decide +kernel
theorem dX8_owner_56 : decode cX8_owner 56 = .ok (.aload_n 0, 1) := by decide +kernel
theorem dX8_owner_57 : decode cX8_owner 57 = .ok (.iload_n 1, 1) := by decide +kernel
theorem dX8_owner_58 : decode cX8_owner 58 = .ok (.iload 5, 2) := by decide +kernel
theorem dX8_owner_60 : decode cX8_owner 60 = .ok (.iload 6, 2) := by decide +kernel
theorem dX8_owner_62 : decode cX8_owner 62 = .ok (.invokevirtual 229, 3) := by decide +kernel
theorem dX8_owner_65 : decode cX8_owner 65 = .ok (.ifCond .eq 26, 3) := by decide +kernel
theorem dX8_owner_68 : decode cX8_owner 68 = .ok (.iload_n 3, 1) := by decide +kernel
theorem dX8_owner_69 : decode cX8_owner 69 = .ok (.iload_n 2, 1) := by decide +kernel
theorem dX8_owner_70 : decode cX8_owner 70 = .ok (.if_icmp .ne 14, 3) := by decide +kernel
theorem dX8_owner_73 : decode cX8_owner 73 = .ok (.bipush 10, 2) := by decide +kernel
theorem dX8_owner_75 : decode cX8_owner 75 = .ok (.iload 5, 2) := by decide +kernel
theorem dX8_owner_77 : decode cX8_owner 77 = .ok (.imul, 1) := by decide +kernel
theorem dX8_owner_78 : decode cX8_owner 78 = .ok (.iload 6, 2) := by decide +kernel
theorem dX8_owner_80 : decode cX8_owner 80 = .ok (.iadd, 1) := by decide +kernel
theorem dX8_owner_81 : decode cX8_owner 81 = .ok (.goto 5, 3) := by decide +kernel
theorem dX8_owner_84 : decode cX8_owner 84 = .ok (.iload 4, 2) := by decide +kernel
theorem dX8_owner_86 : decode cX8_owner 86 = .ok (.istore 4, 2) := by decide +kernel
theorem dX8_owner_88 : decode cX8_owner 88 = .ok (.iinc 3 1, 3) := by decide +kernel
theorem dX8_owner_91 : decode cX8_owner 91 = .ok (.iinc 6 1, 3) := by decide +kernel
theorem dX8_owner_94 : decode cX8_owner 94 = .ok (.goto (-51), 3) := by decide +kernel
theorem dX8_owner_97 : decode cX8_owner 97 = .ok (.iinc 5 1, 3) := by decide +kernel
theorem dX8_owner_100 : decode cX8_owner 100 = .ok (.goto (-73), 3) := by decide +kernel
theorem dX8_owner_103 : decode cX8_owner 103 = .ok (.iload_n 2, 1) := by decide +kernel
theorem dX8_owner_104 : decode cX8_owner 104 = .ok (.iconst (-1), 1) := by decide +kernel
theorem dX8_owner_105 : decode cX8_owner 105 = .ok (.if_icmp .ne 7, 3) := by decide +kernel
theorem dX8_owner_108 : decode cX8_owner 108 = .ok (.iload_n 3, 1) := by decide +kernel
theorem dX8_owner_109 : decode cX8_owner 109 = .ok (.goto 5, 3) := by decide +kernel
theorem dX8_owner_112 : decode cX8_owner 112 = .ok (.iload 4, 2) := by decide +kernel
theorem dX8_owner_114 : decode cX8_owner 114 = .ok (.ireturn, 1) := by decide +kernel
theorem dX8_wind_0 : decode cX8_wind 0 = .ok (.aload_n 0, 1) := by decide +kernel
theorem dX8_wind_1 : decode cX8_wind 1 = .ok (.iload_n 1, 1) := by decide +kernel
theorem dX8_wind_2 : decode cX8_wind 2 = .ok (.invokevirtual 170, 3) := by decide +kernel
theorem dX8_wind_5 : decode cX8_wind 5 = .ok (.ifCond .eq 30, 3) := by decide +kernel
theorem dX8_wind_8 : decode cX8_wind 8 = .ok (.aload_n 0, 1) := by decide +kernel
theorem dX8_wind_9 : decode cX8_wind 9 = .ok (.iload_n 2, 1) := by decide +kernel
theorem dX8_wind_10 : decode cX8_wind 10 = .ok (.invokevirtual 88, 3) := by decide +kernel
theorem dX8_wind_13 : decode cX8_wind 13 = .ok (.ifCond .eq 22, 3) := by decide +kernel
theorem dX8_wind_16 : decode cX8_wind 16 = .ok (.aload_n 0, 1) := by decide +kernel
theorem dX8_wind_17 : decode cX8_wind 17 = .ok (.iload_n 3, 1) := by decide +kernel
theorem dX8_wind_18 : decode cX8_wind 18 = .ok (.invokevirtual 88, 3) := by decide +kernel
theorem dX8_wind_21 : decode cX8_wind 21 = .ok (.ifCond .eq 14, 3) := by decide +kernel
theorem dX8_wind_24 : decode cX8_wind 24 = .ok (.iload 4, 2) := by decide +kernel
theorem dX8_wind_26 : decode cX8_wind 26 = .ok (.iconst 0, 1) := by decide +kernel
theorem dX8_wind_27 : decode cX8_wind 27 = .ok (.bipush 10, 2) := by decide +kernel
theorem dX8_wind_29 : decode cX8_wind 29 = .ok (.invokestatic 39, 3) := by decide +kernel
theorem dX8_wind_32 : decode cX8_wind 32 = .ok (.ifCond .ne 8, 3) := by decide +kernel
theorem dX8_wind_35 : decode cX8_wind 35 = .ok (.aload_n 0, 1) := by decide +kernel
theorem dX8_wind_36 : decode cX8_wind 36 = .ok (.invokevirtual 78, 3) := by decide +kernel
theorem dX8_wind_39 : decode cX8_wind 39 = .ok (.ireturn, 1) := by decide +kernel
theorem dX8_wind_40 : decode cX8_wind 40 = .ok (.aload_n 0, 1) := by decide +kernel
theorem dX8_wind_41 : decode cX8_wind 41 = .ok (.iload_n 1, 1) := by decide +kernel
theorem dX8_wind_42 : decode cX8_wind 42 = .ok (.iload_n 2, 1) := by decide +kernel
theorem dX8_wind_43 : decode cX8_wind 43 = .ok (.iload_n 3, 1) := by decide +kernel
theorem dX8_wind_44 : decode cX8_wind 44 = .ok (.invokevirtual 179, 3) := by decide +kernel
theorem dX8_wind_47 : decode cX8_wind 47 = .ok (.i2l, 1) := by decide +kernel
theorem dX8_wind_48 : decode cX8_wind 48 = .ok (.lstore 5, 2) := by decide +kernel
theorem dX8_wind_50 : decode cX8_wind 50 = .ok (.ldc2_w 232, 3) := by decide +kernel
theorem dX8_wind_53 : decode cX8_wind 53 = .ok (.lload 5, 2) := by decide +kernel
theorem dX8_wind_55 : decode cX8_wind 55 = .ok (.lmul, 1) := by decide +kernel
theorem dX8_wind_56 : decode cX8_wind 56 = .ok (.iload 4, 2) := by decide +kernel
theorem dX8_wind_58 : decode cX8_wind 58 = .ok (.i2l, 1) := by decide +kernel
theorem dX8_wind_59 : decode cX8_wind 59 = .ok (.lload 5, 2) := by decide +kernel
theorem dX8_wind_61 : decode cX8_wind 61 = .ok (.ldc2_w 234, 3) := by decide +kernel
theorem dX8_wind_64 : decode cX8_wind 64 = .ok (.ldiv, 1) := by decide +kernel
theorem dX8_wind_65 : decode cX8_wind 65 = .ok (.lmul, 1) := by decide +kernel
theorem dX8_wind_66 : decode cX8_wind 66 = .ok (.ladd, 1) := by decide +kernel
theorem dX8_wind_67 : decode cX8_wind 67 = .ok (.lstore 7, 2) := by decide +kernel
theorem dX8_wind_69 : decode cX8_wind 69 = .ok (.lload 7, 2) := by decide +kernel
theorem dX8_wind_71 : decode cX8_wind 71 = .ok (.lstore 9, 2) := by decide +kernel
theorem dX8_wind_73 : decode cX8_wind 73 = .ok (.ldc2_w 232, 3) := by decide +kernel
theorem dX8_wind_76 : decode cX8_wind 76 = .ok (.lstore 11, 2) := by decide +kernel
theorem dX8_wind_78 : decode cX8_wind 78 = .ok (.lload 11, 2) := by decide +kernel
theorem dX8_wind_80 : decode cX8_wind 80 = .ok (.lconst 0, 1) := by decide +kernel
theorem dX8_wind_81 : decode cX8_wind 81 = .ok (.lcmp, 1) := by decide +kernel
theorem dX8_wind_82 : decode cX8_wind 82 = .ok (.ifCond .eq 21, 3) := by decide +kernel
theorem dX8_wind_85 : decode cX8_wind 85 = .ok (.lload 9, 2) := by decide +kernel
theorem dX8_wind_87 : decode cX8_wind 87 = .ok (.lload 11, 2) := by decide +kernel
theorem dX8_wind_89 : decode cX8_wind 89 = .ok (.lrem, 1) := by decide +kernel
theorem dX8_wind_90 : decode cX8_wind 90 = .ok (.lstore 13, 2) := by decide +kernel
theorem dX8_wind_92 : decode cX8_wind 92 = .ok (.lload 11, 2) := by decide +kernel
theorem dX8_wind_94 : decode cX8_wind 94 = .ok (.lstore 9, 2) := by decide +kernel
theorem dX8_wind_96 : decode cX8_wind 96 = .ok (.lload 13, 2) := by decide +kernel
theorem dX8_wind_98 : decode cX8_wind 98 = .ok (.lstore 11, 2) := by decide +kernel
theorem dX8_wind_100 : decode cX8_wind 100 = .ok (.goto (-22), 3) := by decide +kernel
theorem dX8_wind_103 : decode cX8_wind 103 = .ok (.aload_n 0, 1) := by decide +kernel
theorem dX8_wind_104 : decode cX8_wind 104 = .ok (.lload 7, 2) := by decide +kernel
theorem dX8_wind_106 : decode cX8_wind 106 = .ok (.lload 9, 2) := by decide +kernel
theorem dX8_wind_108 : decode cX8_wind 108 = .ok (.ldiv, 1) := by decide +kernel
theorem dX8_wind_109 : decode cX8_wind 109 = .ok (.putfield 236, 3) := by decide +kernel
theorem dX8_wind_112 : decode cX8_wind 112 = .ok (.aload_n 0, 1) := by decide +kernel
theorem dX8_wind_113 : decode cX8_wind 113 = .ok (.ldc2_w 232, 3) := by decide +kernel
theorem dX8_wind_116 : decode cX8_wind 116 = .ok (.lload 9, 2) := by decide +kernel
theorem dX8_wind_118 : decode cX8_wind 118 = .ok (.ldiv, 1) := by decide +kernel
theorem dX8_wind_119 : decode cX8_wind 119 = .ok (.putfield 16, 3) := by decide +kernel
theorem dX8_wind_122 : decode cX8_wind 122 = .ok (.iconst 1, 1) := by decide +kernel
theorem dX8_wind_123 : decode cX8_wind 123 = .ok (.ireturn, 1) := by decide +kernel
theorem dX8_yearIn_0 : decode cX8_yearIn 0 = .ok (.iload_n 1, 1) := by decide +kernel
theorem dX8_yearIn_1 : decode cX8_yearIn 1 = .ok (.ldc 239, 2) := by decide +kernel
theorem dX8_yearIn_3 : decode cX8_yearIn 3 = .ok (.idiv, 1) := by decide +kernel
theorem dX8_yearIn_4 : decode cX8_yearIn 4 = .ok (.iconst 3, 1) := by decide +kernel
theorem dX8_yearIn_5 : decode cX8_yearIn 5 = .ok (.irem, 1) := by decide +kernel
theorem dX8_yearIn_6 : decode cX8_yearIn 6 = .ok (.istore_n 2, 1) := by decide +kernel
theorem dX8_yearIn_7 : decode cX8_yearIn 7 = .ok (.iload_n 1, 1) := by decide +kernel
theorem dX8_yearIn_8 : decode cX8_yearIn 8 = .ok (.ldc 240, 2) := by decide +kernel
theorem dX8_yearIn_10 : decode cX8_yearIn 10 = .ok (.idiv, 1) := by decide +kernel
theorem dX8_yearIn_11 : decode cX8_yearIn 11 = .ok (.bipush 7, 2) := by decide +kernel
theorem dX8_yearIn_13 : decode cX8_yearIn 13 = .ok (.irem, 1) := by decide +kernel
theorem dX8_yearIn_14 : decode cX8_yearIn 14 = .ok (.istore_n 3, 1) := by decide +kernel
theorem dX8_yearIn_15 : decode cX8_yearIn 15 = .ok (.aload_n 0, 1) := by decide +kernel
theorem dX8_yearIn_16 : decode cX8_yearIn 16 = .ok (.iload_n 2, 1) := by decide +kernel
theorem dX8_yearIn_17 : decode cX8_yearIn 17 = .ok (.invokevirtual 170, 3) := by decide +kernel
theorem dX8_yearIn_20 : decode cX8_yearIn 20 = .ok (.ifCond .ne 13, 3) := by decide +kernel
theorem dX8_yearIn_23 : decode cX8_yearIn 23 = .ok (.aload_n 0, 1) := by decide +kernel
theorem dX8_yearIn_24 : decode cX8_yearIn 24 = .ok (.sipush 1916, 3) := by decide +kernel
theorem dX8_yearIn_27 : decode cX8_yearIn 27 = .ok (.iconst 1, 1) := by decide +kernel
theorem dX8_yearIn_28 : decode cX8_yearIn 28 = .ok (.invokevirtual 66, 3) := by decide +kernel
theorem dX8_yearIn_31 : decode cX8_yearIn 31 = .ok (.iconst 0, 1) := by decide +kernel
theorem dX8_yearIn_32 : decode cX8_yearIn 32 = .ok (.ireturn, 1) := by decide +kernel
theorem dX8_yearIn_33 : decode cX8_yearIn 33 = .ok (.aload_n 0, 1) := by decide +kernel
theorem dX8_yearIn_34 : decode cX8_yearIn 34 = .ok (.iload_n 3, 1) := by decide +kernel
theorem dX8_yearIn_35 : decode cX8_yearIn 35 = .ok (.invokevirtual 88, 3) := by decide +kernel
theorem dX8_yearIn_38 : decode cX8_yearIn 38 = .ok (.ifCond .eq 28, 3) := by decide +kernel
theorem dX8_yearIn_41 : decode cX8_yearIn 41 = .ok (.aload_n 0, 1) := by decide +kernel
theorem dX8_yearIn_42 : decode cX8_yearIn 42 = .ok (.getfield 7, 3) := by decide +kernel
theorem dX8_yearIn_45 : decode cX8_yearIn 45 = .ok (.sipush 1916, 3) := by decide +kernel
theorem dX8_yearIn_48 : decode cX8_yearIn 48 = .ok (.iload_n 2, 1) := by decide +kernel
theorem dX8_yearIn_49 : decode cX8_yearIn 49 = .ok (.iadd, 1) := by decide +kernel
theorem dX8_yearIn_50 : decode cX8_yearIn 50 = .ok (.iaload, 1) := by decide +kernel
theorem dX8_yearIn_51 : decode cX8_yearIn 51 = .ok (.iload_n 3, 1) := by decide +kernel
theorem dX8_yearIn_52 : decode cX8_yearIn 52 = .ok (.if_icmp .eq 14, 3) := by decide +kernel
theorem dX8_yearIn_55 : decode cX8_yearIn 55 = .ok (.aload_n 0, 1) := by decide +kernel
theorem dX8_yearIn_56 : decode cX8_yearIn 56 = .ok (.sipush 1916, 3) := by decide +kernel
theorem dX8_yearIn_59 : decode cX8_yearIn 59 = .ok (.iconst 0, 1) := by decide +kernel
theorem dX8_yearIn_60 : decode cX8_yearIn 60 = .ok (.iload_n 2, 1) := by decide +kernel
theorem dX8_yearIn_61 : decode cX8_yearIn 61 = .ok (.iload_n 3, 1) := by decide +kernel
theorem dX8_yearIn_62 : decode cX8_yearIn 62 = .ok (.invokevirtual 139, 3) := by decide +kernel
theorem dX8_yearIn_65 : decode cX8_yearIn 65 = .ok (.ireturn, 1) := by decide +kernel
theorem dX8_yearIn_66 : decode cX8_yearIn 66 = .ok (.aload_n 0, 1) := by decide +kernel
theorem dX8_yearIn_67 : decode cX8_yearIn 67 = .ok (.sipush 1916, 3) := by decide +kernel
theorem dX8_yearIn_70 : decode cX8_yearIn 70 = .ok (.iload_n 2, 1) := by decide +kernel
theorem dX8_yearIn_71 : decode cX8_yearIn 71 = .ok (.invokevirtual 142, 3) := by decide +kernel
theorem dX8_yearIn_74 : decode cX8_yearIn 74 = .ok (.istore 4, 2) := by decide +kernel
theorem dX8_yearIn_76 : decode cX8_yearIn 76 = .ok (.iconst 0, 1) := by decide +kernel
theorem dX8_yearIn_77 : decode cX8_yearIn 77 = .ok (.ireturn, 1) := by decide +kernel
theorem dX8_years_0 : decode cX8_years 0 = .ok (.iload_n 1, 1) := by decide +kernel
theorem dX8_years_1 : decode cX8_years 1 = .ok (.iconst 0, 1) := by decide +kernel
theorem dX8_years_2 : decode cX8_years 2 = .ok (.ldc 241, 2) := by decide +kernel
theorem dX8_years_4 : decode cX8_years 4 = .ok (.invokestatic 39, 3) := by decide +kernel
theorem dX8_years_7 : decode cX8_years 7 = .ok (.ifCond .eq 13, 3) := by decide +kernel
theorem dX8_years_10 : decode cX8_years 10 = .ok (.iload_n 2, 1) := by decide +kernel
theorem dX8_years_11 : decode cX8_years 11 = .ok (.iconst 0, 1) := by decide +kernel
theorem dX8_years_12 : decode cX8_years 12 = .ok (.bipush 60, 2) := by decide +kernel
theorem dX8_years_14 : decode cX8_years 14 = .ok (.invokestatic 39, 3) := by decide +kernel
theorem dX8_years_17 : decode cX8_years 17 = .ok (.ifCond .ne 8, 3) := by decide +kernel
theorem dX8_years_20 : decode cX8_years 20 = .ok (.aload_n 0, 1) := by decide +kernel
theorem dX8_years_21 : decode cX8_years 21 = .ok (.invokevirtual 78, 3) := by decide +kernel
theorem dX8_years_24 : decode cX8_years 24 = .ok (.ireturn, 1) := by decide +kernel
theorem dX8_years_25 : decode cX8_years 25 = .ok (.aload_n 0, 1) := by decide +kernel
theorem dX8_years_26 : decode cX8_years 26 = .ok (.iconst 0, 1) := by decide +kernel
theorem dX8_years_27 : decode cX8_years 27 = .ok (.sipush 1916, 3) := by decide +kernel
theorem dX8_years_30 : decode cX8_years 30 = .ok (.bipush 44, 2) := by decide +kernel
theorem dX8_years_32 : decode cX8_years 32 = .ok (.invokevirtual 70, 3) := by decide +kernel
theorem dX8_years_35 : decode cX8_years 35 = .ok (.iload_n 1, 1) := by decide +kernel
theorem dX8_years_36 : decode cX8_years 36 = .ok (.i2l, 1) := by decide +kernel
theorem dX8_years_37 : decode cX8_years 37 = .ok (.lstore_n 3, 1) := by decide +kernel
theorem dX8_years_38 : decode cX8_years 38 = .ok (.iconst 0, 1) := by decide +kernel
theorem dX8_years_39 : decode cX8_years 39 = .ok (.istore 5, 2) := by decide +kernel
theorem dX8_years_41 : decode cX8_years 41 = .ok (.iconst 0, 1) := by decide +kernel
theorem dX8_years_42 : decode cX8_years 42 = .ok (.istore 6, 2) := by decide +kernel
theorem dX8_years_44 : decode cX8_years 44 = .ok (.iload 6, 2) := by decide +kernel
theorem dX8_years_46 : decode cX8_years 46 = .ok (.iload_n 2, 1) := by decide +kernel
theorem dX8_years_47 : decode cX8_years 47 = .ok (.if_icmp .ge 34, 3) := by decide +kernel
theorem dX8_years_50 : decode cX8_years 50 = .ok (.lload_n 3, 1) := by decide +kernel
theorem dX8_years_51 : decode cX8_years 51 = .ok (.ldc2_w 242, 3) := by decide +kernel
theorem dX8_years_54 : decode cX8_years 54 = .ok (.lmul, 1) := by decide +kernel
theorem dX8_years_55 : decode cX8_years 55 = .ok (.ldc2_w 244, 3) := by decide +kernel
theorem dX8_years_58 : decode cX8_years 58 = .ok (.ladd, 1) := by decide +kernel
theorem dX8_years_59 : decode cX8_years 59 = .ok (.ldc2_w 246, 3) := by decide +kernel
theorem dX8_years_62 : decode cX8_years 62 = .ok (.lrem, 1) := by decide +kernel
theorem dX8_years_63 : decode cX8_years 63 = .ok (.lstore_n 3, 1) := by decide +kernel
theorem dX8_years_64 : decode cX8_years 64 = .ok (.iload 5, 2) := by decide +kernel
theorem dX8_years_66 : decode cX8_years 66 = .ok (.aload_n 0, 1) := by decide +kernel
theorem dX8_years_67 : decode cX8_years 67 = .ok (.lload_n 3, 1) := by decide +kernel
theorem dX8_years_68 : decode cX8_years 68 = .ok (.l2i, 1) := by decide +kernel
theorem dX8_years_69 : decode cX8_years 69 = .ok (.invokevirtual 248, 3) := by decide +kernel
theorem dX8_years_72 : decode cX8_years 72 = .ok (.iadd, 1) := by decide +kernel
theorem dX8_years_73 : decode cX8_years 73 = .ok (.istore 5, 2) := by decide +kernel
theorem dX8_years_75 : decode cX8_years 75 = .ok (.iinc 6 1, 3) := by decide +kernel
theorem dX8_years_78 : decode cX8_years 78 = .ok (.goto (-34), 3) := by decide +kernel
theorem dX8_years_81 : decode cX8_years 81 = .ok (.iload 5, 2) := by decide +kernel
theorem dX8_years_83 : decode cX8_years 83 = .ok (.ireturn, 1) := by decide +kernel
theorem dX8_part_0 : decode cX8_part 0 = .ok (.iload_n 1, 1) := by decide +kernel
theorem dX8_part_1 : decode cX8_part 1 = .ok (.ifCond .ne 10, 3) := by decide +kernel
theorem dX8_part_4 : decode cX8_part 4 = .ok (.aload_n 0, 1) := by decide +kernel
theorem dX8_part_5 : decode cX8_part 5 = .ok (.getfield 236, 3) := by decide +kernel
theorem dX8_part_8 : decode cX8_part 8 = .ok (.goto 20, 3) := by decide +kernel
theorem dX8_part_11 : decode cX8_part 11 = .ok (.iload_n 1, 1) := by decide +kernel
theorem dX8_part_12 : decode cX8_part 12 = .ok (.iconst 1, 1) := by decide +kernel
theorem dX8_part_13 : decode cX8_part 13 = .ok (.if_icmp .ne 10, 3) := by decide +kernel
theorem dX8_part_16 : decode cX8_part 16 = .ok (.aload_n 0, 1) := by decide +kernel
theorem dX8_part_17 : decode cX8_part 17 = .ok (.getfield 16, 3) := by decide +kernel
theorem dX8_part_20 : decode cX8_part 20 = .ok (.goto 8, 3) := by decide +kernel
theorem dX8_part_23 : decode cX8_part 23 = .ok (.aload_n 0, 1) := by decide +kernel
theorem dX8_part_24 : decode cX8_part 24 = .ok (.invokevirtual 78, 3) := by decide +kernel
theorem dX8_part_27 : decode cX8_part 27 = .ok (.i2l, 1) := by decide +kernel
theorem dX8_part_28 : decode cX8_part 28 = .ok (.lreturn, 1) := by decide +kernel
theorem dX8_image_0 : decode cX8_image 0 = .ok (.iload_n 1, 1) := by decide +kernel
theorem dX8_image_1 : decode cX8_image 1 = .ok (.iconst 0, 1) := by decide +kernel
theorem dX8_image_2 : decode cX8_image 2 = .ok (.iconst 1, 1) := by decide +kernel
theorem dX8_image_3 : decode cX8_image 3 = .ok (.invokestatic 39, 3) := by decide +kernel
theorem dX8_image_6 : decode cX8_image 6 = .ok (.ifCond .ne 8, 3) := by decide +kernel
theorem dX8_image_9 : decode cX8_image 9 = .ok (.aload_n 0, 1) := by decide +kernel
theorem dX8_image_10 : decode cX8_image 10 = .ok (.invokevirtual 78, 3) := by decide +kernel
theorem dX8_image_13 : decode cX8_image 13 = .ok (.ireturn, 1) := by decide +kernel
theorem dX8_image_14 : decode cX8_image 14 = .ok (.aload_n 0, 1) := by decide +kernel
theorem dX8_image_15 : decode cX8_image 15 = .ok (.iconst 0, 1) := by decide +kernel
theorem dX8_image_16 : decode cX8_image 16 = .ok (.sipush 479, 3) := by decide +kernel
theorem dX8_image_19 : decode cX8_image 19 = .ok (.sipush 479, 3) := by decide +kernel
theorem dX8_image_22 : decode cX8_image 22 = .ok (.iload_n 1, 1) := by decide +kernel
theorem dX8_image_23 : decode cX8_image 23 = .ok (.imul, 1) := by decide +kernel
theorem dX8_image_24 : decode cX8_image 24 = .ok (.iadd, 1) := by decide +kernel
theorem dX8_image_25 : decode cX8_image 25 = .ok (.sipush 479, 3) := by decide +kernel
theorem dX8_image_28 : decode cX8_image 28 = .ok (.invokevirtual 70, 3) := by decide +kernel
theorem dX8_image_31 : decode cX8_image 31 = .ok (.aload_n 0, 1) := by decide +kernel
theorem dX8_image_32 : decode cX8_image 32 = .ok (.dup, 1) := by decide +kernel
theorem dX8_image_33 : decode cX8_image 33 = .ok (.getfield 251, 3) := by decide +kernel
theorem dX8_image_36 : decode cX8_image 36 = .ok (.iconst 1, 1) := by decide +kernel
theorem dX8_image_37 : decode cX8_image 37 = .ok (.iload_n 1, 1) := by decide +kernel
theorem dX8_image_38 : decode cX8_image 38 = .ok (.ishl, 1) := by decide +kernel
theorem dX8_image_39 : decode cX8_image 39 = .ok (.ior, 1) := by decide +kernel
theorem dX8_image_40 : decode cX8_image 40 = .ok (.putfield 251, 3) := by decide +kernel
theorem dX8_image_43 : decode cX8_image 43 = .ok (.iconst 1, 1) := by decide +kernel
theorem dX8_image_44 : decode cX8_image 44 = .ok (.ireturn, 1) := by decide +kernel
theorem dX8_from_0 : decode cX8_from 0 = .ok (.iload_n 1, 1) := by decide +kernel
theorem dX8_from_1 : decode cX8_from 1 = .ok (.iconst 0, 1) := by decide +kernel
theorem dX8_from_2 : decode cX8_from 2 = .ok (.iconst 1, 1) := by decide +kernel
theorem dX8_from_3 : decode cX8_from 3 = .ok (.invokestatic 39, 3) := by decide +kernel
theorem dX8_from_6 : decode cX8_from 6 = .ok (.ifCond .ne 8, 3) := by decide +kernel
theorem dX8_from_9 : decode cX8_from 9 = .ok (.aload_n 0, 1) := by decide +kernel
theorem dX8_from_10 : decode cX8_from 10 = .ok (.invokevirtual 78, 3) := by decide +kernel
theorem dX8_from_13 : decode cX8_from 13 = .ok (.ireturn, 1) := by decide +kernel
theorem dX8_from_14 : decode cX8_from 14 = .ok (.aload_n 0, 1) := by decide +kernel
theorem dX8_from_15 : decode cX8_from 15 = .ok (.getfield 251, 3) := by decide +kernel
theorem dX8_from_18 : decode cX8_from 18 = .ok (.iload_n 1, 1) := by decide +kernel
theorem dX8_from_19 : decode cX8_from 19 = .ok (.invokestatic 183, 3) := by decide +kernel
theorem dX8_from_22 : decode cX8_from 22 = .ok (.ifCond .ne 8, 3) := by decide +kernel
theorem dX8_from_25 : decode cX8_from 25 = .ok (.aload_n 0, 1) := by decide +kernel
theorem dX8_from_26 : decode cX8_from 26 = .ok (.invokevirtual 173, 3) := by decide +kernel
theorem dX8_from_29 : decode cX8_from 29 = .ok (.ireturn, 1) := by decide +kernel
theorem dX8_from_30 : decode cX8_from 30 = .ok (.aload_n 0, 1) := by decide +kernel
theorem dX8_from_31 : decode cX8_from 31 = .ok (.sipush 479, 3) := by decide +kernel
theorem dX8_from_34 : decode cX8_from 34 = .ok (.sipush 479, 3) := by decide +kernel
theorem dX8_from_37 : decode cX8_from 37 = .ok (.iload_n 1, 1) := by decide +kernel
theorem dX8_from_38 : decode cX8_from 38 = .ok (.imul, 1) := by decide +kernel
theorem dX8_from_39 : decode cX8_from 39 = .ok (.iadd, 1) := by decide +kernel
theorem dX8_from_40 : decode cX8_from 40 = .ok (.iconst 0, 1) := by decide +kernel
theorem dX8_from_41 : decode cX8_from 41 = .ok (.sipush 479, 3) := by decide +kernel
theorem dX8_from_44 : decode cX8_from 44 = .ok (.invokevirtual 70, 3) := by decide +kernel
theorem dX8_from_47 : decode cX8_from 47 = .ok (.iconst 1, 1) := by decide +kernel
theorem dX8_from_48 : decode cX8_from 48 = .ok (.ireturn, 1) := by decide +kernel
theorem dX8_status_0 : decode cX8_status 0 = .ok (.iload_n 1, 1) := by decide +kernel
theorem dX8_status_1 : decode cX8_status 1 = .ok (.iconst 0, 1) := by decide +kernel
theorem dX8_status_2 : decode cX8_status 2 = .ok (.iconst 2, 1) := by decide +kernel
theorem dX8_status_3 : decode cX8_status 3 = .ok (.invokestatic 39, 3) := by decide +kernel
theorem dX8_status_6 : decode cX8_status 6 = .ok (.ifCond .ne 15, 3) := by decide +kernel
theorem dX8_status_9 : decode cX8_status 9 = .ok (.aload_n 0, 1) := by decide +kernel
theorem dX8_status_10 : decode cX8_status 10 = .ok (.dup, 1) := by decide +kernel
theorem dX8_status_11 : decode cX8_status 11 = .ok (.getfield 29, 3) := by decide +kernel
theorem dX8_status_14 : decode cX8_status 14 = .ok (.iconst 1, 1) := by decide +kernel
theorem dX8_status_15 : decode cX8_status 15 = .ok (.iadd, 1) := by decide +kernel
theorem dX8_status_16 : decode cX8_status 16 = .ok (.putfield 29, 3) := by decide +kernel
theorem dX8_status_19 : decode cX8_status 19 = .ok (.iconst (-1), 1) := by decide +kernel
theorem dX8_status_20 : decode cX8_status 20 = .ok (.ireturn, 1) := by decide +kernel
theorem dX8_status_21 : decode cX8_status 21 = .ok (.iload_n 1, 1) := by decide +kernel
theorem dX8_status_22 : decode cX8_status 22 = .ok (.ifCond .ne 10, 3) := by decide +kernel
theorem dX8_status_25 : decode cX8_status 25 = .ok (.aload_n 0, 1) := by decide +kernel
theorem dX8_status_26 : decode cX8_status 26 = .ok (.getfield 29, 3) := by decide +kernel
theorem dX8_status_29 : decode cX8_status 29 = .ok (.goto 19, 3) := by decide +kernel
theorem dX8_status_32 : decode cX8_status 32 = .ok (.iload_n 1, 1) := by decide +kernel
theorem dX8_status_33 : decode cX8_status 33 = .ok (.iconst 1, 1) := by decide +kernel
theorem dX8_status_34 : decode cX8_status 34 = .ok (.if_icmp .ne 10, 3) := by decide +kernel
theorem dX8_status_37 : decode cX8_status 37 = .ok (.aload_n 0, 1) := by decide +kernel
theorem dX8_status_38 : decode cX8_status 38 = .ok (.getfield 33, 3) := by decide +kernel
theorem dX8_status_41 : decode cX8_status 41 = .ok (.goto 7, 3) := by decide +kernel
theorem dX8_status_44 : decode cX8_status 44 = .ok (.aload_n 0, 1) := by decide +kernel
theorem dX8_status_45 : decode cX8_status 45 = .ok (.getfield 36, 3) := by decide +kernel
theorem dX8_status_48 : decode cX8_status 48 = .ok (.ireturn, 1) := by decide +kernel
theorem dX8_lengths_0 : decode cX8_lengths 0 = .ok (.iconst 0, 1) := by decide +kernel
theorem dX8_lengths_1 : decode cX8_lengths 1 = .ok (.istore_n 1, 1) := by decide +kernel
theorem dX8_lengths_2 : decode cX8_lengths 2 = .ok (.iconst 0, 1) := by decide +kernel
theorem dX8_lengths_3 : decode cX8_lengths 3 = .ok (.istore_n 2, 1) := by decide +kernel
theorem dX8_lengths_4 : decode cX8_lengths 4 = .ok (.iload_n 2, 1) := by decide +kernel
theorem dX8_lengths_5 : decode cX8_lengths 5 = .ok (.aload_n 0, 1) := by decide +kernel
theorem dX8_lengths_6 : decode cX8_lengths 6 = .ok (.getfield 7, 3) := by decide +kernel
theorem dX8_lengths_9 : decode cX8_lengths 9 = .ok (.bipush 7, 2) := by decide +kernel
theorem dX8_lengths_11 : decode cX8_lengths 11 = .ok (.iaload, 1) := by decide +kernel
theorem dX8_lengths_12 : decode cX8_lengths 12 = .ok (.if_icmp .ge 25, 3) := by decide +kernel
theorem dX8_lengths_15 : decode cX8_lengths 15 = .ok (.iload_n 1, 1) := by decide +kernel
theorem dX8_lengths_16 : decode cX8_lengths 16 = .ok (.aload_n 0, 1) := by decide +kernel
theorem dX8_lengths_17 : decode cX8_lengths 17 = .ok (.getfield 7, 3) := by decide +kernel
theorem dX8_lengths_20 : decode cX8_lengths 20 = .ok (.bipush 8, 2) := by decide +kernel
theorem dX8_lengths_22 : decode cX8_lengths 22 = .ok (.iconst 3, 1) := by decide +kernel
theorem dX8_lengths_23 : decode cX8_lengths 23 = .ok (.iload_n 2, 1) := by decide +kernel
theorem dX8_lengths_24 : decode cX8_lengths 24 = .ok (.imul, 1) := by decide +kernel
theorem dX8_lengths_25 : decode cX8_lengths 25 = .ok (.iadd, 1) := by decide +kernel
theorem dX8_lengths_26 : decode cX8_lengths 26 = .ok (.iconst 2, 1) := by decide +kernel
theorem dX8_lengths_27 : decode cX8_lengths 27 = .ok (.iadd, 1) := by decide +kernel
theorem dX8_lengths_28 : decode cX8_lengths 28 = .ok (.iaload, 1) := by decide +kernel
theorem dX8_lengths_29 : decode cX8_lengths 29 = .ok (.iadd, 1) := by decide +kernel
theorem dX8_lengths_30 : decode cX8_lengths 30 = .ok (.istore_n 1, 1) := by decide +kernel
theorem dX8_lengths_31 : decode cX8_lengths 31 = .ok (.iinc 2 1, 3) := by decide +kernel
theorem dX8_lengths_34 : decode cX8_lengths 34 = .ok (.goto (-30), 3) := by decide +kernel
theorem dX8_lengths_37 : decode cX8_lengths 37 = .ok (.iload_n 1, 1) := by decide +kernel
theorem dX8_lengths_38 : decode cX8_lengths 38 = .ok (.ireturn, 1) := by decide +kernel
theorem dX8_counted_0 : decode cX8_counted 0 = .ok (.iload_n 1, 1) := by decide +kernel
theorem dX8_counted_1 : decode cX8_counted 1 = .ok (.tableswitch 113 0 7 #[47, 56, 65, 73, 81, 86, 95, 104], 47) := by decide +kernel
theorem dX8_counted_48 : decode cX8_counted 48 = .ok (.aload_n 0, 1) := by decide +kernel
theorem dX8_counted_49 : decode cX8_counted 49 = .ok (.getfield 7, 3) := by decide +kernel
theorem dX8_counted_52 : decode cX8_counted 52 = .ok (.sipush 418, 3) := by decide +kernel
theorem dX8_counted_55 : decode cX8_counted 55 = .ok (.iaload, 1) := by decide +kernel
theorem dX8_counted_56 : decode cX8_counted 56 = .ok (.ireturn, 1) := by decide +kernel
theorem dX8_counted_57 : decode cX8_counted 57 = .ok (.aload_n 0, 1) := by decide +kernel
theorem dX8_counted_58 : decode cX8_counted 58 = .ok (.getfield 7, 3) := by decide +kernel
theorem dX8_counted_61 : decode cX8_counted 61 = .ok (.sipush 422, 3) := by decide +kernel
theorem dX8_counted_64 : decode cX8_counted 64 = .ok (.iaload, 1) := by decide +kernel
theorem dX8_counted_65 : decode cX8_counted 65 = .ok (.ireturn, 1) := by decide +kernel
theorem dX8_counted_66 : decode cX8_counted 66 = .ok (.aload_n 0, 1) := by decide +kernel
theorem dX8_counted_67 : decode cX8_counted 67 = .ok (.getfield 7, 3) := by decide +kernel
theorem dX8_counted_70 : decode cX8_counted 70 = .ok (.bipush 6, 2) := by decide +kernel
theorem dX8_counted_72 : decode cX8_counted 72 = .ok (.iaload, 1) := by decide +kernel
theorem dX8_counted_73 : decode cX8_counted 73 = .ok (.ireturn, 1) := by decide +kernel
theorem dX8_counted_74 : decode cX8_counted 74 = .ok (.aload_n 0, 1) := by decide +kernel
theorem dX8_counted_75 : decode cX8_counted 75 = .ok (.getfield 7, 3) := by decide +kernel
theorem dX8_counted_78 : decode cX8_counted 78 = .ok (.bipush 7, 2) := by decide +kernel
theorem dX8_counted_80 : decode cX8_counted 80 = .ok (.iaload, 1) := by decide +kernel
theorem dX8_counted_81 : decode cX8_counted 81 = .ok (.ireturn, 1) := by decide +kernel
theorem dX8_counted_82 : decode cX8_counted 82 = .ok (.aload_n 0, 1) := by decide +kernel
theorem dX8_counted_83 : decode cX8_counted 83 = .ok (.invokevirtual 254, 3) := by decide +kernel
theorem dX8_counted_86 : decode cX8_counted 86 = .ok (.ireturn, 1) := by decide +kernel
theorem dX8_counted_87 : decode cX8_counted 87 = .ok (.aload_n 0, 1) := by decide +kernel
theorem dX8_counted_88 : decode cX8_counted 88 = .ok (.getfield 7, 3) := by decide +kernel
theorem dX8_counted_91 : decode cX8_counted 91 = .ok (.sipush 447, 3) := by decide +kernel
theorem dX8_counted_94 : decode cX8_counted 94 = .ok (.iaload, 1) := by decide +kernel
theorem dX8_counted_95 : decode cX8_counted 95 = .ok (.ireturn, 1) := by decide +kernel
theorem dX8_counted_96 : decode cX8_counted 96 = .ok (.aload_n 0, 1) := by decide +kernel
theorem dX8_counted_97 : decode cX8_counted 97 = .ok (.getfield 7, 3) := by decide +kernel
theorem dX8_counted_100 : decode cX8_counted 100 = .ok (.sipush 478, 3) := by decide +kernel
theorem dX8_counted_103 : decode cX8_counted 103 = .ok (.iaload, 1) := by decide +kernel
theorem dX8_counted_104 : decode cX8_counted 104 = .ok (.ireturn, 1) := by decide +kernel
theorem dX8_counted_105 : decode cX8_counted 105 = .ok (.aload_n 0, 1) := by decide +kernel
theorem dX8_counted_106 : decode cX8_counted 106 = .ok (.getfield 7, 3) := by decide +kernel
theorem dX8_counted_109 : decode cX8_counted 109 = .ok (.sipush 396, 3) := by decide +kernel
theorem dX8_counted_112 : decode cX8_counted 112 = .ok (.iaload, 1) := by decide +kernel
theorem dX8_counted_113 : decode cX8_counted 113 = .ok (.ireturn, 1) := by decide +kernel
theorem dX8_counted_114 : decode cX8_counted 114 = .ok (.aload_n 0, 1) := by decide +kernel
theorem dX8_counted_115 : decode cX8_counted 115 = .ok (.getfield 95, 3) := by decide +kernel
theorem dX8_counted_118 : decode cX8_counted 118 = .ok (.ireturn, 1) := by decide +kernel
theorem dX8_count_0 : decode cX8_count 0 = .ok (.iload_n 1, 1) := by decide +kernel
theorem dX8_count_1 : decode cX8_count 1 = .ok (.iconst 0, 1) := by decide +kernel
theorem dX8_count_2 : decode cX8_count 2 = .ok (.bipush 8, 2) := by decide +kernel
theorem dX8_count_4 : decode cX8_count 4 = .ok (.invokestatic 39, 3) := by decide +kernel
theorem dX8_count_7 : decode cX8_count 7 = .ok (.ifCond .eq 11, 3) := by decide +kernel
theorem dX8_count_10 : decode cX8_count 10 = .ok (.aload_n 0, 1) := by decide +kernel
theorem dX8_count_11 : decode cX8_count 11 = .ok (.iload_n 1, 1) := by decide +kernel
theorem dX8_count_12 : decode cX8_count 12 = .ok (.invokevirtual 257, 3) := by decide +kernel
theorem dX8_count_15 : decode cX8_count 15 = .ok (.goto 7, 3) := by decide +kernel
theorem dX8_count_18 : decode cX8_count 18 = .ok (.aload_n 0, 1) := by decide +kernel
theorem dX8_count_19 : decode cX8_count 19 = .ok (.invokevirtual 78, 3) := by decide +kernel
theorem dX8_count_22 : decode cX8_count 22 = .ok (.ireturn, 1) := by decide +kernel
theorem dX8_more_0 : decode cX8_more 0 = .ok (.lload_n 1, 1) := by decide +kernel
theorem dX8_more_1 : decode cX8_more 1 = .ok (.lstore 5, 2) := by decide +kernel
theorem dX8_more_3 : decode cX8_more 3 = .ok (.iconst 0, 1) := by decide +kernel
theorem dX8_more_4 : decode cX8_more 4 = .ok (.istore 7, 2) := by decide +kernel
theorem dX8_more_6 : decode cX8_more 6 = .ok (.iload 7, 2) := by decide +kernel
theorem dX8_more_8 : decode cX8_more 8 = .ok (.iload 4, 2) := by decide +kernel
theorem dX8_more_10 : decode cX8_more 10 = .ok (.if_icmp .ge 28, 3) := by decide +kernel
theorem dX8_more_13 : decode cX8_more 13 = .ok (.ldc2_w 260, 3) := by decide +kernel
theorem dX8_more_16 : decode cX8_more 16 = .ok (.lload 5, 2) := by decide +kernel
theorem dX8_more_18 : decode cX8_more 18 = .ok (.lmul, 1) := by decide +kernel
theorem dX8_more_19 : decode cX8_more 19 = .ok (.aload_n 0, 1) := by decide +kernel
theorem dX8_more_20 : decode cX8_more 20 = .ok (.getfield 7, 3) := by decide +kernel
theorem dX8_more_23 : decode cX8_more 23 = .ok (.iload_n 3, 1) := by decide +kernel
theorem dX8_more_24 : decode cX8_more 24 = .ok (.iload 7, 2) := by decide +kernel
theorem dX8_more_26 : decode cX8_more 26 = .ok (.iadd, 1) := by decide +kernel
theorem dX8_more_27 : decode cX8_more 27 = .ok (.iaload, 1) := by decide +kernel
theorem dX8_more_28 : decode cX8_more 28 = .ok (.i2l, 1) := by decide +kernel
theorem dX8_more_29 : decode cX8_more 29 = .ok (.ladd, 1) := by decide +kernel
theorem dX8_more_30 : decode cX8_more 30 = .ok (.lstore 5, 2) := by decide +kernel
theorem dX8_more_32 : decode cX8_more 32 = .ok (.iinc 7 1, 3) := by decide +kernel
theorem dX8_more_35 : decode cX8_more 35 = .ok (.goto (-29), 3) := by decide +kernel
theorem dX8_more_38 : decode cX8_more 38 = .ok (.lload 5, 2) := by decide +kernel
theorem dX8_more_40 : decode cX8_more 40 = .ok (.lreturn, 1) := by decide +kernel
theorem dX8_digest_0 : decode cX8_digest 0 = .ok (.ldc2_w 262, 3) := by decide +kernel
theorem dX8_digest_3 : decode cX8_digest 3 = .ok (.lstore_n 1, 1) := by decide +kernel
theorem dX8_digest_4 : decode cX8_digest 4 = .ok (.iconst 0, 1) := by decide +kernel
theorem dX8_digest_5 : decode cX8_digest 5 = .ok (.istore_n 3, 1) := by decide +kernel
theorem dX8_digest_6 : decode cX8_digest 6 = .ok (.iload_n 3, 1) := by decide +kernel
theorem dX8_digest_7 : decode cX8_digest 7 = .ok (.bipush 9, 2) := by decide +kernel
theorem dX8_digest_9 : decode cX8_digest 9 = .ok (.if_icmp .ge 22, 3) := by decide +kernel
theorem dX8_digest_12 : decode cX8_digest 12 = .ok (.ldc2_w 260, 3) := by decide +kernel
theorem dX8_digest_15 : decode cX8_digest 15 = .ok (.lload_n 1, 1) := by decide +kernel
theorem dX8_digest_16 : decode cX8_digest 16 = .ok (.lmul, 1) := by decide +kernel
theorem dX8_digest_17 : decode cX8_digest 17 = .ok (.aload_n 0, 1) := by decide +kernel
theorem dX8_digest_18 : decode cX8_digest 18 = .ok (.iload_n 3, 1) := by decide +kernel
theorem dX8_digest_19 : decode cX8_digest 19 = .ok (.invokevirtual 257, 3) := by decide +kernel
theorem dX8_digest_22 : decode cX8_digest 22 = .ok (.i2l, 1) := by decide +kernel
theorem dX8_digest_23 : decode cX8_digest 23 = .ok (.ladd, 1) := by decide +kernel
theorem dX8_digest_24 : decode cX8_digest 24 = .ok (.lstore_n 1, 1) := by decide +kernel
theorem dX8_digest_25 : decode cX8_digest 25 = .ok (.iinc 3 1, 3) := by decide +kernel
theorem dX8_digest_28 : decode cX8_digest 28 = .ok (.goto (-22), 3) := by decide +kernel
theorem dX8_digest_31 : decode cX8_digest 31 = .ok (.aload_n 0, 1) := by decide +kernel
theorem dX8_digest_32 : decode cX8_digest 32 = .ok (.lload_n 1, 1) := by decide +kernel
theorem dX8_digest_33 : decode cX8_digest 33 = .ok (.sipush 397, 3) := by decide +kernel
theorem dX8_digest_36 : decode cX8_digest 36 = .ok (.iconst 3, 1) := by decide +kernel
theorem dX8_digest_37 : decode cX8_digest 37 = .ok (.aload_n 0, 1) := by decide +kernel
theorem dX8_digest_38 : decode cX8_digest 38 = .ok (.getfield 7, 3) := by decide +kernel
theorem dX8_digest_41 : decode cX8_digest 41 = .ok (.sipush 418, 3) := by decide +kernel
theorem dX8_digest_44 : decode cX8_digest 44 = .ok (.iaload, 1) := by decide +kernel
theorem dX8_digest_45 : decode cX8_digest 45 = .ok (.imul, 1) := by decide +kernel
theorem dX8_digest_46 : decode cX8_digest 46 = .ok (.invokevirtual 264, 3) := by decide +kernel
theorem dX8_digest_49 : decode cX8_digest 49 = .ok (.lstore_n 1, 1) := by decide +kernel
theorem dX8_digest_50 : decode cX8_digest 50 = .ok (.iconst 0, 1) := by decide +kernel
theorem dX8_digest_51 : decode cX8_digest 51 = .ok (.istore_n 3, 1) := by decide +kernel
theorem dX8_digest_52 : decode cX8_digest 52 = .ok (.iload_n 3, 1) := by decide +kernel
theorem dX8_digest_53 : decode cX8_digest 53 = .ok (.aload_n 0, 1) := by decide +kernel
theorem dX8_digest_54 : decode cX8_digest 54 = .ok (.getfield 7, 3) := by decide +kernel
theorem dX8_digest_57 : decode cX8_digest 57 = .ok (.sipush 422, 3) := by decide +kernel
theorem dX8_digest_60 : decode cX8_digest 60 = .ok (.iaload, 1) := by decide +kernel
theorem dX8_digest_61 : decode cX8_digest 61 = .ok (.if_icmp .ge 53, 3) := by decide +kernel
theorem dX8_digest_64 : decode cX8_digest 64 = .ok (.ldc2_w 260, 3) := by decide +kernel
theorem dX8_digest_67 : decode cX8_digest 67 = .ok (.ldc2_w 260, 3) := by decide +kernel
theorem dX8_digest_70 : decode cX8_digest 70 = .ok (.ldc2_w 260, 3) := by decide +kernel
theorem dX8_digest_73 : decode cX8_digest 73 = .ok (.lload_n 1, 1) := by decide +kernel
theorem dX8_digest_74 : decode cX8_digest 74 = .ok (.lmul, 1) := by decide +kernel
theorem dX8_digest_75 : decode cX8_digest 75 = .ok (.aload_n 0, 1) := by decide +kernel
theorem dX8_digest_76 : decode cX8_digest 76 = .ok (.getfield 7, 3) := by decide +kernel
theorem dX8_digest_79 : decode cX8_digest 79 = .ok (.sipush 419, 3) := by decide +kernel
theorem dX8_digest_82 : decode cX8_digest 82 = .ok (.iload_n 3, 1) := by decide +kernel
theorem dX8_digest_83 : decode cX8_digest 83 = .ok (.iadd, 1) := by decide +kernel
theorem dX8_digest_84 : decode cX8_digest 84 = .ok (.iaload, 1) := by decide +kernel
theorem dX8_digest_85 : decode cX8_digest 85 = .ok (.i2l, 1) := by decide +kernel
theorem dX8_digest_86 : decode cX8_digest 86 = .ok (.ladd, 1) := by decide +kernel
theorem dX8_digest_87 : decode cX8_digest 87 = .ok (.lmul, 1) := by decide +kernel
theorem dX8_digest_88 : decode cX8_digest 88 = .ok (.aload_n 0, 1) := by decide +kernel
theorem dX8_digest_89 : decode cX8_digest 89 = .ok (.getfield 7, 3) := by decide +kernel
theorem dX8_digest_92 : decode cX8_digest 92 = .ok (.iload_n 3, 1) := by decide +kernel
theorem dX8_digest_93 : decode cX8_digest 93 = .ok (.iaload, 1) := by decide +kernel
theorem dX8_digest_94 : decode cX8_digest 94 = .ok (.i2l, 1) := by decide +kernel
theorem dX8_digest_95 : decode cX8_digest 95 = .ok (.ladd, 1) := by decide +kernel
theorem dX8_digest_96 : decode cX8_digest 96 = .ok (.lmul, 1) := by decide +kernel
theorem dX8_digest_97 : decode cX8_digest 97 = .ok (.aload_n 0, 1) := by decide +kernel
theorem dX8_digest_98 : decode cX8_digest 98 = .ok (.getfield 7, 3) := by decide +kernel
theorem dX8_digest_101 : decode cX8_digest 101 = .ok (.iconst 3, 1) := by decide +kernel
theorem dX8_digest_102 : decode cX8_digest 102 = .ok (.iload_n 3, 1) := by decide +kernel
theorem dX8_digest_103 : decode cX8_digest 103 = .ok (.iadd, 1) := by decide +kernel
theorem dX8_digest_104 : decode cX8_digest 104 = .ok (.iaload, 1) := by decide +kernel
theorem dX8_digest_105 : decode cX8_digest 105 = .ok (.i2l, 1) := by decide +kernel
theorem dX8_digest_106 : decode cX8_digest 106 = .ok (.ladd, 1) := by decide +kernel
theorem dX8_digest_107 : decode cX8_digest 107 = .ok (.lstore_n 1, 1) := by decide +kernel
theorem dX8_digest_108 : decode cX8_digest 108 = .ok (.iinc 3 1, 3) := by decide +kernel
theorem dX8_digest_111 : decode cX8_digest 111 = .ok (.goto (-59), 3) := by decide +kernel
theorem dX8_digest_114 : decode cX8_digest 114 = .ok (.aload_n 0, 1) := by decide +kernel
theorem dX8_digest_115 : decode cX8_digest 115 = .ok (.lload_n 1, 1) := by decide +kernel
theorem dX8_digest_116 : decode cX8_digest 116 = .ok (.bipush 8, 2) := by decide +kernel
theorem dX8_digest_118 : decode cX8_digest 118 = .ok (.iconst 3, 1) := by decide +kernel
theorem dX8_digest_119 : decode cX8_digest 119 = .ok (.aload_n 0, 1) := by decide +kernel
theorem dX8_digest_120 : decode cX8_digest 120 = .ok (.getfield 7, 3) := by decide +kernel
theorem dX8_digest_123 : decode cX8_digest 123 = .ok (.bipush 7, 2) := by decide +kernel
theorem dX8_digest_125 : decode cX8_digest 125 = .ok (.iaload, 1) := by decide +kernel
theorem dX8_digest_126 : decode cX8_digest 126 = .ok (.imul, 1) := by decide +kernel
theorem dX8_digest_127 : decode cX8_digest 127 = .ok (.invokevirtual 264, 3) := by decide +kernel
theorem dX8_digest_130 : decode cX8_digest 130 = .ok (.lstore_n 1, 1) := by decide +kernel
theorem dX8_digest_131 : decode cX8_digest 131 = .ok (.aload_n 0, 1) := by decide +kernel
theorem dX8_digest_132 : decode cX8_digest 132 = .ok (.lload_n 1, 1) := by decide +kernel
theorem dX8_digest_133 : decode cX8_digest 133 = .ok (.sipush 423, 3) := by decide +kernel
theorem dX8_digest_136 : decode cX8_digest 136 = .ok (.iconst 4, 1) := by decide +kernel
theorem dX8_digest_137 : decode cX8_digest 137 = .ok (.aload_n 0, 1) := by decide +kernel
theorem dX8_digest_138 : decode cX8_digest 138 = .ok (.getfield 7, 3) := by decide +kernel
theorem dX8_digest_141 : decode cX8_digest 141 = .ok (.sipush 447, 3) := by decide +kernel
theorem dX8_digest_144 : decode cX8_digest 144 = .ok (.iaload, 1) := by decide +kernel
theorem dX8_digest_145 : decode cX8_digest 145 = .ok (.imul, 1) := by decide +kernel
theorem dX8_digest_146 : decode cX8_digest 146 = .ok (.invokevirtual 264, 3) := by decide +kernel
theorem dX8_digest_149 : decode cX8_digest 149 = .ok (.lstore_n 1, 1) := by decide +kernel
theorem dX8_digest_150 : decode cX8_digest 150 = .ok (.aload_n 0, 1) := by decide +kernel
theorem dX8_digest_151 : decode cX8_digest 151 = .ok (.lload_n 1, 1) := by decide +kernel
theorem dX8_digest_152 : decode cX8_digest 152 = .ok (.sipush 448, 3) := by decide +kernel
theorem dX8_digest_155 : decode cX8_digest 155 = .ok (.iconst 5, 1) := by decide +kernel
theorem dX8_digest_156 : decode cX8_digest 156 = .ok (.aload_n 0, 1) := by decide +kernel
theorem dX8_digest_157 : decode cX8_digest 157 = .ok (.getfield 7, 3) := by decide +kernel
theorem dX8_digest_160 : decode cX8_digest 160 = .ok (.sipush 478, 3) := by decide +kernel
theorem dX8_digest_163 : decode cX8_digest 163 = .ok (.iaload, 1) := by decide +kernel
theorem dX8_digest_164 : decode cX8_digest 164 = .ok (.imul, 1) := by decide +kernel
theorem dX8_digest_165 : decode cX8_digest 165 = .ok (.invokevirtual 264, 3) := by decide +kernel
theorem dX8_digest_168 : decode cX8_digest 168 = .ok (.lstore_n 1, 1) := by decide +kernel
theorem dX8_digest_169 : decode cX8_digest 169 = .ok (.ldc2_w 260, 3) := by decide +kernel
theorem dX8_digest_172 : decode cX8_digest 172 = .ok (.ldc2_w 260, 3) := by decide +kernel
theorem dX8_digest_175 : decode cX8_digest 175 = .ok (.lload_n 1, 1) := by decide +kernel
theorem dX8_digest_176 : decode cX8_digest 176 = .ok (.lmul, 1) := by decide +kernel
theorem dX8_digest_177 : decode cX8_digest 177 = .ok (.aload_n 0, 1) := by decide +kernel
theorem dX8_digest_178 : decode cX8_digest 178 = .ok (.getfield 236, 3) := by decide +kernel
theorem dX8_digest_181 : decode cX8_digest 181 = .ok (.ladd, 1) := by decide +kernel
theorem dX8_digest_182 : decode cX8_digest 182 = .ok (.lmul, 1) := by decide +kernel
theorem dX8_digest_183 : decode cX8_digest 183 = .ok (.aload_n 0, 1) := by decide +kernel
theorem dX8_digest_184 : decode cX8_digest 184 = .ok (.getfield 16, 3) := by decide +kernel
theorem dX8_digest_187 : decode cX8_digest 187 = .ok (.ladd, 1) := by decide +kernel
theorem dX8_digest_188 : decode cX8_digest 188 = .ok (.lreturn, 1) := by decide +kernel
theorem dJ9_abs_0f7a4_0 : decode cJ9_abs_0f7a4 0 = .ok (.iload_n 0, 1) := by decide +kernel
theorem dJ9_abs_0f7a4_1 : decode cJ9_abs_0f7a4 1 = .ok (.ifCond .ge 8, 3) := by decide +kernel
theorem dJ9_abs_0f7a4_4 : decode cJ9_abs_0f7a4 4 = .ok (.iload_n 0, 1) := by decide +kernel
theorem dJ9_abs_0f7a4_5 : decode cJ9_abs_0f7a4 5 = .ok (.ineg, 1) := by decide +kernel
theorem dJ9_abs_0f7a4_6 : decode cJ9_abs_0f7a4 6 = .ok (.goto 4, 3) := by decide +kernel
theorem dJ9_abs_0f7a4_9 : decode cJ9_abs_0f7a4 9 = .ok (.iload_n 0, 1) := by decide +kernel
theorem dJ9_abs_0f7a4_10 : decode cJ9_abs_0f7a4 10 = .ok (.ireturn, 1) := by decide +kernel
theorem dJ9_max_7cf53_0 : decode cJ9_max_7cf53 0 = .ok (.iload_n 0, 1) := by decide +kernel
theorem dJ9_max_7cf53_1 : decode cJ9_max_7cf53 1 = .ok (.iload_n 1, 1) := by decide +kernel
theorem dJ9_max_7cf53_2 : decode cJ9_max_7cf53 2 = .ok (.if_icmp .lt 7, 3) := by decide +kernel
theorem dJ9_max_7cf53_5 : decode cJ9_max_7cf53 5 = .ok (.iload_n 0, 1) := by decide +kernel
theorem dJ9_max_7cf53_6 : decode cJ9_max_7cf53 6 = .ok (.goto 4, 3) := by decide +kernel
theorem dJ9_max_7cf53_9 : decode cJ9_max_7cf53 9 = .ok (.iload_n 1, 1) := by decide +kernel
theorem dJ9_max_7cf53_10 : decode cJ9_max_7cf53 10 = .ok (.ireturn, 1) := by decide +kernel
theorem dJ9_min_7cf53_0 : decode cJ9_min_7cf53 0 = .ok (.iload_n 0, 1) := by decide +kernel
theorem dJ9_min_7cf53_1 : decode cJ9_min_7cf53 1 = .ok (.iload_n 1, 1) := by decide +kernel
theorem dJ9_min_7cf53_2 : decode cJ9_min_7cf53 2 = .ok (.if_icmp .gt 7, 3) := by decide +kernel
theorem dJ9_min_7cf53_5 : decode cJ9_min_7cf53 5 = .ok (.iload_n 0, 1) := by decide +kernel
theorem dJ9_min_7cf53_6 : decode cJ9_min_7cf53 6 = .ok (.goto 4, 3) := by decide +kernel
theorem dJ9_min_7cf53_9 : decode cJ9_min_7cf53 9 = .ok (.iload_n 1, 1) := by decide +kernel
theorem dJ9_min_7cf53_10 : decode cJ9_min_7cf53 10 = .ok (.ireturn, 1) := by decide +kernel
theorem dJ0_length_8abf5_0 : decode cJ0_length_8abf5 0 = .ok (.aload_n 0, 1) := by decide +kernel
theorem dJ0_length_8abf5_1 : decode cJ0_length_8abf5 1 = .ok (.getfield 9, 3) := by decide +kernel
theorem dJ0_length_8abf5_4 : decode cJ0_length_8abf5 4 = .ok (.arraylength, 1) := by decide +kernel
theorem dJ0_length_8abf5_5 : decode cJ0_length_8abf5 5 = .ok (.aload_n 0, 1) := by decide +kernel
theorem dJ0_length_8abf5_6 : decode cJ0_length_8abf5 6 = .ok (.invokevirtual 335, 3) := by decide +kernel
theorem dJ0_length_8abf5_9 : decode cJ0_length_8abf5 9 = .ok (.ishr, 1) := by decide +kernel
theorem dJ0_length_8abf5_10 : decode cJ0_length_8abf5 10 = .ok (.ireturn, 1) := by decide +kernel
theorem dJ0_charAt_5068e_0 : decode cJ0_charAt_5068e 0 = .ok (.aload_n 0, 1) := by decide +kernel
theorem dJ0_charAt_5068e_1 : decode cJ0_charAt_5068e 1 = .ok (.invokevirtual 492, 3) := by decide +kernel
theorem dJ0_charAt_5068e_4 : decode cJ0_charAt_5068e 4 = .ok (.ifCond .eq 12, 3) := by decide +kernel
theorem dJ0_charAt_5068e_7 : decode cJ0_charAt_5068e 7 = .ok (.aload_n 0, 1) := by decide +kernel
theorem dJ0_charAt_5068e_8 : decode cJ0_charAt_5068e 8 = .ok (.getfield 9, 3) := by decide +kernel
theorem dJ0_charAt_5068e_11 : decode cJ0_charAt_5068e 11 = .ok (.iload_n 1, 1) := by decide +kernel
theorem dJ0_charAt_5068e_12 : decode cJ0_charAt_5068e 12 = .ok (.invokestatic 495, 3) := by decide +kernel
theorem dJ0_charAt_5068e_15 : decode cJ0_charAt_5068e 15 = .ok (.ireturn, 1) := by decide +kernel
theorem dJ0_charAt_5068e_16 : decode cJ0_charAt_5068e 16 = .ok (.aload_n 0, 1) := by decide +kernel
theorem dJ0_charAt_5068e_17 : decode cJ0_charAt_5068e 17 = .ok (.getfield 9, 3) := by decide +kernel
theorem dJ0_charAt_5068e_20 : decode cJ0_charAt_5068e 20 = .ok (.iload_n 1, 1) := by decide +kernel
theorem dJ0_charAt_5068e_21 : decode cJ0_charAt_5068e 21 = .ok (.invokestatic 498, 3) := by decide +kernel
theorem dJ0_charAt_5068e_24 : decode cJ0_charAt_5068e 24 = .ok (.ireturn, 1) := by decide +kernel
theorem dJ0_coder_7d493_0 : decode cJ0_coder_7d493 0 = .ok (.getstatic 38, 3) := by decide +kernel
theorem dJ0_coder_7d493_3 : decode cJ0_coder_7d493 3 = .ok (.ifCond .eq 10, 3) := by decide +kernel
theorem dJ0_coder_7d493_6 : decode cJ0_coder_7d493 6 = .ok (.aload_n 0, 1) := by decide +kernel
theorem dJ0_coder_7d493_7 : decode cJ0_coder_7d493 7 = .ok (.getfield 15, 3) := by decide +kernel
theorem dJ0_coder_7d493_10 : decode cJ0_coder_7d493 10 = .ok (.goto 4, 3) := by decide +kernel
theorem dJ0_coder_7d493_13 : decode cJ0_coder_7d493 13 = .ok (.iconst 1, 1) := by decide +kernel
theorem dJ0_coder_7d493_14 : decode cJ0_coder_7d493 14 = .ok (.ireturn, 1) := by decide +kernel
theorem dJ0_isLatin1_aae02_0 : decode cJ0_isLatin1_aae02 0 = .ok (.getstatic 38, 3) := by decide +kernel
theorem dJ0_isLatin1_aae02_3 : decode cJ0_isLatin1_aae02 3 = .ok (.ifCond .eq 14, 3) := by decide +kernel
theorem dJ0_isLatin1_aae02_6 : decode cJ0_isLatin1_aae02 6 = .ok (.aload_n 0, 1) := by decide +kernel
theorem dJ0_isLatin1_aae02_7 : decode cJ0_isLatin1_aae02 7 = .ok (.getfield 15, 3) := by decide +kernel
theorem dJ0_isLatin1_aae02_10 : decode cJ0_isLatin1_aae02 10 = .ok (.ifCond .ne 7, 3) := by decide +kernel
theorem dJ0_isLatin1_aae02_13 : decode cJ0_isLatin1_aae02 13 = .ok (.iconst 1, 1) := by decide +kernel
theorem dJ0_isLatin1_aae02_14 : decode cJ0_isLatin1_aae02 14 = .ok (.goto 4, 3) := by decide +kernel
theorem dJ0_isLatin1_aae02_17 : decode cJ0_isLatin1_aae02 17 = .ok (.iconst 0, 1) := by decide +kernel
theorem dJ0_isLatin1_aae02_18 : decode cJ0_isLatin1_aae02 18 = .ok (.ireturn, 1) := by decide +kernel
theorem dJ0_checkIndex_df160_0 : decode cJ0_checkIndex_df160 0 = .ok (.iload_n 0, 1) := by decide +kernel
theorem dJ0_checkIndex_df160_1 : decode cJ0_checkIndex_df160 1 = .ok (.iload_n 1, 1) := by decide +kernel
theorem dJ0_checkIndex_df160_2 : decode cJ0_checkIndex_df160 2 = .ok (.getstatic 1053, 3) := by decide +kernel
theorem dJ0_checkIndex_df160_5 : decode cJ0_checkIndex_df160 5 = .ok (.invokestatic 1059, 3) := by decide +kernel
theorem dJ0_checkIndex_df160_8 : decode cJ0_checkIndex_df160 8 = .ok (.pop, 1) := by decide +kernel
theorem dJ0_checkIndex_df160_9 : decode cJ0_checkIndex_df160 9 = .ok (.return_, 1) := by decide +kernel
theorem dJ1_charAt_3b067_0 : decode cJ1_charAt_3b067 0 = .ok (.iload_n 1, 1) := by decide +kernel
theorem dJ1_charAt_3b067_1 : decode cJ1_charAt_3b067 1 = .ok (.aload_n 0, 1) := by decide +kernel
theorem dJ1_charAt_3b067_2 : decode cJ1_charAt_3b067 2 = .ok (.arraylength, 1) := by decide +kernel
theorem dJ1_charAt_3b067_3 : decode cJ1_charAt_3b067 3 = .ok (.invokestatic 9, 3) := by decide +kernel
theorem dJ1_charAt_3b067_6 : decode cJ1_charAt_3b067 6 = .ok (.aload_n 0, 1) := by decide +kernel
theorem dJ1_charAt_3b067_7 : decode cJ1_charAt_3b067 7 = .ok (.iload_n 1, 1) := by decide +kernel
theorem dJ1_charAt_3b067_8 : decode cJ1_charAt_3b067 8 = .ok (.baload, 1) := by decide +kernel
theorem dJ1_charAt_3b067_9 : decode cJ1_charAt_3b067 9 = .ok (.sipush 255, 3) := by decide +kernel
theorem dJ1_charAt_3b067_12 : decode cJ1_charAt_3b067 12 = .ok (.iand, 1) := by decide +kernel
theorem dJ1_charAt_3b067_13 : decode cJ1_charAt_3b067 13 = .ok (.i2c, 1) := by decide +kernel
theorem dJ1_charAt_3b067_14 : decode cJ1_charAt_3b067 14 = .ok (.ireturn, 1) := by decide +kernel
theorem dJ2_getChar_3b067_0 : decode cJ2_getChar_3b067 0 = .ok (.getstatic 44, 3) := by decide +kernel
theorem dJ2_getChar_3b067_3 : decode cJ2_getChar_3b067 3 = .ok (.ifCond .ne 25, 3) := by decide +kernel
theorem dJ2_getChar_3b067_6 : decode cJ2_getChar_3b067 6 = .ok (.iload_n 1, 1) := by decide +kernel
theorem dJ2_getChar_3b067_7 : decode cJ2_getChar_3b067 7 = .ok (.ifCond .lt 11, 3) := by decide +kernel
theorem dJ2_getChar_3b067_10 : decode cJ2_getChar_3b067 10 = .ok (.iload_n 1, 1) := by decide +kernel
theorem dJ2_getChar_3b067_11 : decode cJ2_getChar_3b067 11 = .ok (.aload_n 0, 1) := by decide +kernel
theorem dJ2_getChar_3b067_12 : decode cJ2_getChar_3b067 12 = .ok (.invokestatic 48, 3) := by decide +kernel
theorem dJ2_getChar_3b067_15 : decode cJ2_getChar_3b067 15 = .ok (.if_icmp .lt 13, 3) := by decide +kernel
theorem dJ2_getChar_3b067_18 : decode cJ2_getChar_3b067 18 = .ok (.new 52, 3) := by decide +kernel
theorem dJ2_getChar_3b067_21 : decode cJ2_getChar_3b067 21 = .ok (.dup, 1) := by decide +kernel
theorem dJ2_getChar_3b067_22 : decode cJ2_getChar_3b067 22 = .ok (.ldc 54, 2) := by decide +kernel
theorem dJ2_getChar_3b067_24 : decode cJ2_getChar_3b067 24 = .ok (.invokespecial 56, 3) := by decide +kernel
theorem dJ2_getChar_3b067_27 : decode cJ2_getChar_3b067 27 = .ok (.athrow, 1) := by decide +kernel
theorem dJ2_getChar_3b067_28 : decode cJ2_getChar_3b067 28 = .ok (.iload_n 1, 1) := by decide +kernel
theorem dJ2_getChar_3b067_29 : decode cJ2_getChar_3b067 29 = .ok (.iconst 1, 1) := by decide +kernel
theorem dJ2_getChar_3b067_30 : decode cJ2_getChar_3b067 30 = .ok (.ishl, 1) := by decide +kernel
theorem dJ2_getChar_3b067_31 : decode cJ2_getChar_3b067 31 = .ok (.istore_n 1, 1) := by decide +kernel
theorem dJ2_getChar_3b067_32 : decode cJ2_getChar_3b067 32 = .ok (.aload_n 0, 1) := by decide +kernel
theorem dJ2_getChar_3b067_33 : decode cJ2_getChar_3b067 33 = .ok (.iload_n 1, 1) := by decide +kernel
theorem dJ2_getChar_3b067_34 : decode cJ2_getChar_3b067 34 = .ok (.iinc 1 1, 3) := by decide +kernel
theorem dJ2_getChar_3b067_37 : decode cJ2_getChar_3b067 37 = .ok (.baload, 1) := by decide +kernel
theorem dJ2_getChar_3b067_38 : decode cJ2_getChar_3b067 38 = .ok (.sipush 255, 3) := by decide +kernel
theorem dJ2_getChar_3b067_41 : decode cJ2_getChar_3b067 41 = .ok (.iand, 1) := by decide +kernel
theorem dJ2_getChar_3b067_42 : decode cJ2_getChar_3b067 42 = .ok (.getstatic 59, 3) := by decide +kernel
theorem dJ2_getChar_3b067_45 : decode cJ2_getChar_3b067 45 = .ok (.ishl, 1) := by decide +kernel
theorem dJ2_getChar_3b067_46 : decode cJ2_getChar_3b067 46 = .ok (.aload_n 0, 1) := by decide +kernel
theorem dJ2_getChar_3b067_47 : decode cJ2_getChar_3b067 47 = .ok (.iload_n 1, 1) := by decide +kernel
theorem dJ2_getChar_3b067_48 : decode cJ2_getChar_3b067 48 = .ok (.baload, 1) := by decide +kernel
theorem dJ2_getChar_3b067_49 : decode cJ2_getChar_3b067 49 = .ok (.sipush 255, 3) := by decide +kernel
theorem dJ2_getChar_3b067_52 : decode cJ2_getChar_3b067 52 = .ok (.iand, 1) := by decide +kernel
theorem dJ2_getChar_3b067_53 : decode cJ2_getChar_3b067 53 = .ok (.getstatic 63, 3) := by decide +kernel
theorem dJ2_getChar_3b067_56 : decode cJ2_getChar_3b067 56 = .ok (.ishl, 1) := by decide +kernel
theorem dJ2_getChar_3b067_57 : decode cJ2_getChar_3b067 57 = .ok (.ior, 1) := by decide +kernel
theorem dJ2_getChar_3b067_58 : decode cJ2_getChar_3b067 58 = .ok (.i2c, 1) := by decide +kernel
theorem dJ2_getChar_3b067_59 : decode cJ2_getChar_3b067 59 = .ok (.ireturn, 1) := by decide +kernel
theorem dJ2_length_9d52b_0 : decode cJ2_length_9d52b 0 = .ok (.aload_n 0, 1) := by decide +kernel
theorem dJ2_length_9d52b_1 : decode cJ2_length_9d52b 1 = .ok (.arraylength, 1) := by decide +kernel
theorem dJ2_length_9d52b_2 : decode cJ2_length_9d52b 2 = .ok (.iconst 1, 1) := by decide +kernel
theorem dJ2_length_9d52b_3 : decode cJ2_length_9d52b 3 = .ok (.ishr, 1) := by decide +kernel
theorem dJ2_length_9d52b_4 : decode cJ2_length_9d52b 4 = .ok (.ireturn, 1) := by decide +kernel
theorem dJ2_charAt_3b067_0 : decode cJ2_charAt_3b067 0 = .ok (.iload_n 1, 1) := by decide +kernel
theorem dJ2_charAt_3b067_1 : decode cJ2_charAt_3b067 1 = .ok (.aload_n 0, 1) := by decide +kernel
theorem dJ2_charAt_3b067_2 : decode cJ2_charAt_3b067 2 = .ok (.invokestatic 67, 3) := by decide +kernel
theorem dJ2_charAt_3b067_5 : decode cJ2_charAt_3b067 5 = .ok (.aload_n 0, 1) := by decide +kernel
theorem dJ2_charAt_3b067_6 : decode cJ2_charAt_3b067 6 = .ok (.iload_n 1, 1) := by decide +kernel
theorem dJ2_charAt_3b067_7 : decode cJ2_charAt_3b067 7 = .ok (.invokestatic 71, 3) := by decide +kernel
theorem dJ2_charAt_3b067_10 : decode cJ2_charAt_3b067 10 = .ok (.ireturn, 1) := by decide +kernel
theorem dJ2_checkIndex_2214a_0 : decode cJ2_checkIndex_2214a 0 = .ok (.iload_n 0, 1) := by decide +kernel
theorem dJ2_checkIndex_2214a_1 : decode cJ2_checkIndex_2214a 1 = .ok (.aload_n 1, 1) := by decide +kernel
theorem dJ2_checkIndex_2214a_2 : decode cJ2_checkIndex_2214a 2 = .ok (.invokestatic 48, 3) := by decide +kernel
theorem dJ2_checkIndex_2214a_5 : decode cJ2_checkIndex_2214a 5 = .ok (.invokestatic 414, 3) := by decide +kernel
theorem dJ2_checkIndex_2214a_8 : decode cJ2_checkIndex_2214a 8 = .ok (.return_, 1) := by decide +kernel
theorem dJ3_checkIndex_8e157_0 : decode cJ3_checkIndex_8e157 0 = .ok (.iload_n 0, 1) := by decide +kernel
theorem dJ3_checkIndex_8e157_1 : decode cJ3_checkIndex_8e157 1 = .ok (.ifCond .lt 8, 3) := by decide +kernel
theorem dJ3_checkIndex_8e157_4 : decode cJ3_checkIndex_8e157 4 = .ok (.iload_n 0, 1) := by decide +kernel
theorem dJ3_checkIndex_8e157_5 : decode cJ3_checkIndex_8e157 5 = .ok (.iload_n 1, 1) := by decide +kernel
theorem dJ3_checkIndex_8e157_6 : decode cJ3_checkIndex_8e157 6 = .ok (.if_icmp .lt 10, 3) := by decide +kernel
theorem dJ3_checkIndex_8e157_9 : decode cJ3_checkIndex_8e157 9 = .ok (.aload_n 2, 1) := by decide +kernel
theorem dJ3_checkIndex_8e157_10 : decode cJ3_checkIndex_8e157 10 = .ok (.iload_n 0, 1) := by decide +kernel
theorem dJ3_checkIndex_8e157_11 : decode cJ3_checkIndex_8e157 11 = .ok (.iload_n 1, 1) := by decide +kernel
theorem dJ3_checkIndex_8e157_12 : decode cJ3_checkIndex_8e157 12 = .ok (.invokestatic 95, 3) := by decide +kernel
theorem dJ3_checkIndex_8e157_15 : decode cJ3_checkIndex_8e157 15 = .ok (.athrow, 1) := by decide +kernel
theorem dJ3_checkIndex_8e157_16 : decode cJ3_checkIndex_8e157 16 = .ok (.iload_n 0, 1) := by decide +kernel
theorem dJ3_checkIndex_8e157_17 : decode cJ3_checkIndex_8e157 17 = .ok (.ireturn, 1) := by decide +kernel
