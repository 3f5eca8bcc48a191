theorem dX7_type_38 : decode cX7_type 38 = .ok (.iload_n 1, 1) := by decide +kernel
theorem dX7_type_39 : decode cX7_type 39 = .ok (.i2b, 1) := by decide +kernel
theorem dX7_type_40 : decode cX7_type 40 = .ok (.bastore, 1) := by decide +kernel
theorem dX7_type_41 : decode cX7_type 41 = .ok (.aload_n 0, 1) := by decide +kernel
theorem dX7_type_42 : decode cX7_type 42 = .ok (.dup, 1) := by decide +kernel
theorem dX7_type_43 : decode cX7_type 43 = .ok (.getfield 95, 3) := by decide +kernel
theorem dX7_type_46 : decode cX7_type 46 = .ok (.iconst 1, 1) := by decide +kernel
theorem dX7_type_47 : decode cX7_type 47 = .ok (.iadd, 1) := by decide +kernel
theorem dX7_type_48 : decode cX7_type 48 = .ok (.putfield 95, 3) := by decide +kernel
theorem dX7_type_51 : decode cX7_type 51 = .ok (.aload_n 0, 1) := by decide +kernel
theorem dX7_type_52 : decode cX7_type 52 = .ok (.getfield 95, 3) := by decide +kernel
theorem dX7_type_55 : decode cX7_type 55 = .ok (.ireturn, 1) := by decide +kernel
theorem dX7_clear_0 : decode cX7_clear 0 = .ok (.aload_n 0, 1) := by decide +kernel
theorem dX7_clear_1 : decode cX7_clear 1 = .ok (.getfield 95, 3) := by decide +kernel
theorem dX7_clear_4 : decode cX7_clear 4 = .ok (.istore_n 1, 1) := by decide +kernel
theorem dX7_clear_5 : decode cX7_clear 5 = .ok (.aload_n 0, 1) := by decide +kernel
theorem dX7_clear_6 : decode cX7_clear 6 = .ok (.iconst 0, 1) := by decide +kernel
theorem dX7_clear_7 : decode cX7_clear 7 = .ok (.putfield 95, 3) := by decide +kernel
theorem dX7_clear_10 : decode cX7_clear 10 = .ok (.iload_n 1, 1) := by decide +kernel
theorem dX7_clear_11 : decode cX7_clear 11 = .ok (.ireturn, 1) := by decide +kernel
theorem dX7_read_0 : decode cX7_read 0 = .ok (.aload_n 0, 1) := by decide +kernel
theorem dX7_read_1 : decode cX7_read 1 = .ok (.getfield 42, 3) := by decide +kernel
theorem dX7_read_4 : decode cX7_read 4 = .ok (.aload_n 0, 1) := by decide +kernel
theorem dX7_read_5 : decode cX7_read 5 = .ok (.getfield 24, 3) := by decide +kernel
theorem dX7_read_8 : decode cX7_read 8 = .ok (.aload_n 0, 1) := by decide +kernel
theorem dX7_read_9 : decode cX7_read 9 = .ok (.getfield 95, 3) := by decide +kernel
theorem dX7_read_12 : decode cX7_read 12 = .ok (.invokevirtual 98, 3) := by decide +kernel
theorem dX7_read_15 : decode cX7_read 15 = .ok (.istore_n 1, 1) := by decide +kernel
theorem dX7_read_16 : decode cX7_read 16 = .ok (.iload_n 1, 1) := by decide +kernel
theorem dX7_read_17 : decode cX7_read 17 = .ok (.ifCond .lt 17, 3) := by decide +kernel
theorem dX7_read_20 : decode cX7_read 20 = .ok (.aload_n 0, 1) := by decide +kernel
theorem dX7_read_21 : decode cX7_read 21 = .ok (.getfield 10, 3) := by decide +kernel
theorem dX7_read_24 : decode cX7_read 24 = .ok (.aload_n 0, 1) := by decide +kernel
theorem dX7_read_25 : decode cX7_read 25 = .ok (.getfield 42, 3) := by decide +kernel
theorem dX7_read_28 : decode cX7_read 28 = .ok (.getfield 102, 3) := by decide +kernel
theorem dX7_read_31 : decode cX7_read 31 = .ok (.invokevirtual 105, 3) := by decide +kernel
theorem dX7_read_34 : decode cX7_read 34 = .ok (.iload_n 1, 1) := by decide +kernel
theorem dX7_read_35 : decode cX7_read 35 = .ok (.ireturn, 1) := by decide +kernel
theorem dX7_flies_0 : decode cX7_flies 0 = .ok (.aload_n 0, 1) := by decide +kernel
theorem dX7_flies_1 : decode cX7_flies 1 = .ok (.getfield 10, 3) := by decide +kernel
theorem dX7_flies_4 : decode cX7_flies 4 = .ok (.iload_n 1, 1) := by decide +kernel
theorem dX7_flies_5 : decode cX7_flies 5 = .ok (.invokevirtual 109, 3) := by decide +kernel
theorem dX7_flies_8 : decode cX7_flies 8 = .ok (.ifCond .eq 14, 3) := by decide +kernel
theorem dX7_flies_11 : decode cX7_flies 11 = .ok (.aload_n 0, 1) := by decide +kernel
theorem dX7_flies_12 : decode cX7_flies 12 = .ok (.getfield 10, 3) := by decide +kernel
theorem dX7_flies_15 : decode cX7_flies 15 = .ok (.iload_n 2, 1) := by decide +kernel
theorem dX7_flies_16 : decode cX7_flies 16 = .ok (.invokevirtual 85, 3) := by decide +kernel
theorem dX7_flies_19 : decode cX7_flies 19 = .ok (.ifCond .ne 8, 3) := by decide +kernel
theorem dX7_flies_22 : decode cX7_flies 22 = .ok (.aload_n 0, 1) := by decide +kernel
theorem dX7_flies_23 : decode cX7_flies 23 = .ok (.invokevirtual 74, 3) := by decide +kernel
theorem dX7_flies_26 : decode cX7_flies 26 = .ok (.ireturn, 1) := by decide +kernel
theorem dX7_flies_27 : decode cX7_flies 27 = .ok (.aload_n 0, 1) := by decide +kernel
theorem dX7_flies_28 : decode cX7_flies 28 = .ok (.getfield 10, 3) := by decide +kernel
theorem dX7_flies_31 : decode cX7_flies 31 = .ok (.getfield 112, 3) := by decide +kernel
theorem dX7_flies_34 : decode cX7_flies 34 = .ok (.getfield 115, 3) := by decide +kernel
theorem dX7_flies_37 : decode cX7_flies 37 = .ok (.iload_n 1, 1) := by decide +kernel
theorem dX7_flies_38 : decode cX7_flies 38 = .ok (.iaload, 1) := by decide +kernel
theorem dX7_flies_39 : decode cX7_flies 39 = .ok (.iload_n 2, 1) := by decide +kernel
theorem dX7_flies_40 : decode cX7_flies 40 = .ok (.if_icmp .eq 19, 3) := by decide +kernel
theorem dX7_flies_43 : decode cX7_flies 43 = .ok (.aload_n 0, 1) := by decide +kernel
theorem dX7_flies_44 : decode cX7_flies 44 = .ok (.getfield 10, 3) := by decide +kernel
theorem dX7_flies_47 : decode cX7_flies 47 = .ok (.getfield 112, 3) := by decide +kernel
theorem dX7_flies_50 : decode cX7_flies 50 = .ok (.getfield 119, 3) := by decide +kernel
theorem dX7_flies_53 : decode cX7_flies 53 = .ok (.sipush 9999, 3) := by decide +kernel
theorem dX7_flies_56 : decode cX7_flies 56 = .ok (.if_icmp .lt 8, 3) := by decide +kernel
theorem dX7_flies_59 : decode cX7_flies 59 = .ok (.aload_n 0, 1) := by decide +kernel
theorem dX7_flies_60 : decode cX7_flies 60 = .ok (.invokevirtual 122, 3) := by decide +kernel
theorem dX7_flies_63 : decode cX7_flies 63 = .ok (.ireturn, 1) := by decide +kernel
theorem dX7_flies_64 : decode cX7_flies 64 = .ok (.aload_n 0, 1) := by decide +kernel
theorem dX7_flies_65 : decode cX7_flies 65 = .ok (.getfield 10, 3) := by decide +kernel
theorem dX7_flies_68 : decode cX7_flies 68 = .ok (.invokevirtual 125, 3) := by decide +kernel
theorem dX7_flies_71 : decode cX7_flies 71 = .ok (.aload_n 0, 1) := by decide +kernel
theorem dX7_flies_72 : decode cX7_flies 72 = .ok (.getfield 10, 3) := by decide +kernel
theorem dX7_flies_75 : decode cX7_flies 75 = .ok (.aload_n 0, 1) := by decide +kernel
theorem dX7_flies_76 : decode cX7_flies 76 = .ok (.getfield 10, 3) := by decide +kernel
theorem dX7_flies_79 : decode cX7_flies 79 = .ok (.getfield 112, 3) := by decide +kernel
theorem dX7_flies_82 : decode cX7_flies 82 = .ok (.iload_n 1, 1) := by decide +kernel
theorem dX7_flies_83 : decode cX7_flies 83 = .ok (.iload_n 2, 1) := by decide +kernel
theorem dX7_flies_84 : decode cX7_flies 84 = .ok (.invokevirtual 128, 3) := by decide +kernel
theorem dX7_flies_87 : decode cX7_flies 87 = .ok (.ireturn, 1) := by decide +kernel
theorem dX7_rests_0 : decode cX7_rests 0 = .ok (.aload_n 0, 1) := by decide +kernel
theorem dX7_rests_1 : decode cX7_rests 1 = .ok (.getfield 10, 3) := by decide +kernel
theorem dX7_rests_4 : decode cX7_rests 4 = .ok (.iload_n 1, 1) := by decide +kernel
theorem dX7_rests_5 : decode cX7_rests 5 = .ok (.invokevirtual 109, 3) := by decide +kernel
theorem dX7_rests_8 : decode cX7_rests 8 = .ok (.ifCond .ne 8, 3) := by decide +kernel
theorem dX7_rests_11 : decode cX7_rests 11 = .ok (.aload_n 0, 1) := by decide +kernel
theorem dX7_rests_12 : decode cX7_rests 12 = .ok (.invokevirtual 74, 3) := by decide +kernel
theorem dX7_rests_15 : decode cX7_rests 15 = .ok (.ireturn, 1) := by decide +kernel
theorem dX7_rests_16 : decode cX7_rests 16 = .ok (.aload_n 0, 1) := by decide +kernel
theorem dX7_rests_17 : decode cX7_rests 17 = .ok (.getfield 10, 3) := by decide +kernel
theorem dX7_rests_20 : decode cX7_rests 20 = .ok (.invokevirtual 125, 3) := by decide +kernel
theorem dX7_rests_23 : decode cX7_rests 23 = .ok (.aload_n 0, 1) := by decide +kernel
theorem dX7_rests_24 : decode cX7_rests 24 = .ok (.getfield 10, 3) := by decide +kernel
theorem dX7_rests_27 : decode cX7_rests 27 = .ok (.getfield 112, 3) := by decide +kernel
theorem dX7_rests_30 : decode cX7_rests 30 = .ok (.getfield 132, 3) := by decide +kernel
theorem dX7_rests_33 : decode cX7_rests 33 = .ok (.iload_n 1, 1) := by decide +kernel
theorem dX7_rests_34 : decode cX7_rests 34 = .ok (.iaload, 1) := by decide +kernel
theorem dX7_rests_35 : decode cX7_rests 35 = .ok (.istore_n 2, 1) := by decide +kernel
theorem dX7_rests_36 : decode cX7_rests 36 = .ok (.aload_n 0, 1) := by decide +kernel
theorem dX7_rests_37 : decode cX7_rests 37 = .ok (.getfield 10, 3) := by decide +kernel
theorem dX7_rests_40 : decode cX7_rests 40 = .ok (.getfield 112, 3) := by decide +kernel
theorem dX7_rests_43 : decode cX7_rests 43 = .ok (.iload_n 1, 1) := by decide +kernel
theorem dX7_rests_44 : decode cX7_rests 44 = .ok (.invokevirtual 135, 3) := by decide +kernel
theorem dX7_rests_47 : decode cX7_rests 47 = .ok (.aload_n 0, 1) := by decide +kernel
theorem dX7_rests_48 : decode cX7_rests 48 = .ok (.getfield 10, 3) := by decide +kernel
theorem dX7_rests_51 : decode cX7_rests 51 = .ok (.getfield 112, 3) := by decide +kernel
theorem dX7_rests_54 : decode cX7_rests 54 = .ok (.invokevirtual 139, 3) := by decide +kernel
theorem dX7_rests_57 : decode cX7_rests 57 = .ok (.iload_n 2, 1) := by decide +kernel
theorem dX7_rests_58 : decode cX7_rests 58 = .ok (.ireturn, 1) := by decide +kernel
theorem dX7_hours_0 : decode cX7_hours 0 = .ok (.iload_n 1, 1) := by decide +kernel
theorem dX7_hours_1 : decode cX7_hours 1 = .ok (.iconst 1, 1) := by decide +kernel
theorem dX7_hours_2 : decode cX7_hours 2 = .ok (.bipush 99, 2) := by decide +kernel
theorem dX7_hours_4 : decode cX7_hours 4 = .ok (.invokestatic 70, 3) := by decide +kernel
theorem dX7_hours_7 : decode cX7_hours 7 = .ok (.ifCond .ne 8, 3) := by decide +kernel
theorem dX7_hours_10 : decode cX7_hours 10 = .ok (.aload_n 0, 1) := by decide +kernel
theorem dX7_hours_11 : decode cX7_hours 11 = .ok (.invokevirtual 74, 3) := by decide +kernel
theorem dX7_hours_14 : decode cX7_hours 14 = .ok (.ireturn, 1) := by decide +kernel
theorem dX7_hours_15 : decode cX7_hours 15 = .ok (.aload_n 0, 1) := by decide +kernel
theorem dX7_hours_16 : decode cX7_hours 16 = .ok (.getfield 10, 3) := by decide +kernel
theorem dX7_hours_19 : decode cX7_hours 19 = .ok (.invokevirtual 125, 3) := by decide +kernel
theorem dX7_hours_22 : decode cX7_hours 22 = .ok (.aload_n 0, 1) := by decide +kernel
theorem dX7_hours_23 : decode cX7_hours 23 = .ok (.getfield 10, 3) := by decide +kernel
theorem dX7_hours_26 : decode cX7_hours 26 = .ok (.getfield 112, 3) := by decide +kernel
theorem dX7_hours_29 : decode cX7_hours 29 = .ok (.dup, 1) := by decide +kernel
theorem dX7_hours_30 : decode cX7_hours 30 = .ok (.getfield 119, 3) := by decide +kernel
theorem dX7_hours_33 : decode cX7_hours 33 = .ok (.iload_n 1, 1) := by decide +kernel
theorem dX7_hours_34 : decode cX7_hours 34 = .ok (.iadd, 1) := by decide +kernel
theorem dX7_hours_35 : decode cX7_hours 35 = .ok (.putfield 119, 3) := by decide +kernel
theorem dX7_hours_38 : decode cX7_hours 38 = .ok (.aload_n 0, 1) := by decide +kernel
theorem dX7_hours_39 : decode cX7_hours 39 = .ok (.getfield 10, 3) := by decide +kernel
theorem dX7_hours_42 : decode cX7_hours 42 = .ok (.getfield 112, 3) := by decide +kernel
theorem dX7_hours_45 : decode cX7_hours 45 = .ok (.invokevirtual 139, 3) := by decide +kernel
theorem dX7_hours_48 : decode cX7_hours 48 = .ok (.aload_n 0, 1) := by decide +kernel
theorem dX7_hours_49 : decode cX7_hours 49 = .ok (.getfield 10, 3) := by decide +kernel
theorem dX7_hours_52 : decode cX7_hours 52 = .ok (.getfield 112, 3) := by decide +kernel
theorem dX7_hours_55 : decode cX7_hours 55 = .ok (.getfield 119, 3) := by decide +kernel
theorem dX7_hours_58 : decode cX7_hours 58 = .ok (.ireturn, 1) := by decide +kernel
theorem dX7_undo_0 : decode cX7_undo 0 = .ok (.aload_n 0, 1) := by decide +kernel
theorem dX7_undo_1 : decode cX7_undo 1 = .ok (.getfield 10, 3) := by decide +kernel
theorem dX7_undo_4 : decode cX7_undo 4 = .ok (.getfield 142, 3) := by decide +kernel
theorem dX7_undo_7 : decode cX7_undo 7 = .ok (.ifCond .gt 8, 3) := by decide +kernel
theorem dX7_undo_10 : decode cX7_undo 10 = .ok (.aload_n 0, 1) := by decide +kernel
theorem dX7_undo_11 : decode cX7_undo 11 = .ok (.invokevirtual 122, 3) := by decide +kernel
theorem dX7_undo_14 : decode cX7_undo 14 = .ok (.ireturn, 1) := by decide +kernel
theorem dX7_undo_15 : decode cX7_undo 15 = .ok (.aload_n 0, 1) := by decide +kernel
theorem dX7_undo_16 : decode cX7_undo 16 = .ok (.getfield 10, 3) := by decide +kernel
theorem dX7_undo_19 : decode cX7_undo 19 = .ok (.invokevirtual 145, 3) := by decide +kernel
theorem dX7_undo_22 : decode cX7_undo 22 = .ok (.aload_n 0, 1) := by decide +kernel
theorem dX7_undo_23 : decode cX7_undo 23 = .ok (.getfield 10, 3) := by decide +kernel
theorem dX7_undo_26 : decode cX7_undo 26 = .ok (.getfield 112, 3) := by decide +kernel
theorem dX7_undo_29 : decode cX7_undo 29 = .ok (.getfield 119, 3) := by decide +kernel
theorem dX7_undo_32 : decode cX7_undo 32 = .ok (.ireturn, 1) := by decide +kernel
theorem dX7_of_0 : decode cX7_of 0 = .ok (.aload_n 0, 1) := by decide +kernel
theorem dX7_of_1 : decode cX7_of 1 = .ok (.getfield 10, 3) := by decide +kernel
theorem dX7_of_4 : decode cX7_of 4 = .ok (.iload_n 1, 1) := by decide +kernel
theorem dX7_of_5 : decode cX7_of 5 = .ok (.invokevirtual 109, 3) := by decide +kernel
theorem dX7_of_8 : decode cX7_of 8 = .ok (.ifCond .eq 12, 3) := by decide +kernel
theorem dX7_of_11 : decode cX7_of 11 = .ok (.iload_n 2, 1) := by decide +kernel
theorem dX7_of_12 : decode cX7_of 12 = .ok (.iconst 0, 1) := by decide +kernel
theorem dX7_of_13 : decode cX7_of 13 = .ok (.iconst 2, 1) := by decide +kernel
theorem dX7_of_14 : decode cX7_of 14 = .ok (.invokestatic 70, 3) := by decide +kernel
theorem dX7_of_17 : decode cX7_of 17 = .ok (.ifCond .ne 8, 3) := by decide +kernel
theorem dX7_of_20 : decode cX7_of 20 = .ok (.aload_n 0, 1) := by decide +kernel
theorem dX7_of_21 : decode cX7_of 21 = .ok (.invokevirtual 74, 3) := by decide +kernel
theorem dX7_of_24 : decode cX7_of 24 = .ok (.ireturn, 1) := by decide +kernel
theorem dX7_of_25 : decode cX7_of 25 = .ok (.aload_n 0, 1) := by decide +kernel
theorem dX7_of_26 : decode cX7_of 26 = .ok (.getfield 10, 3) := by decide +kernel
theorem dX7_of_29 : decode cX7_of 29 = .ok (.iload_n 1, 1) := by decide +kernel
theorem dX7_of_30 : decode cX7_of 30 = .ok (.iload_n 2, 1) := by decide +kernel
theorem dX7_of_31 : decode cX7_of 31 = .ok (.invokevirtual 148, 3) := by decide +kernel
theorem dX7_of_34 : decode cX7_of 34 = .ok (.ireturn, 1) := by decide +kernel
theorem dX7_about_0 : decode cX7_about 0 = .ok (.aload_n 0, 1) := by decide +kernel
theorem dX7_about_1 : decode cX7_about 1 = .ok (.getfield 10, 3) := by decide +kernel
theorem dX7_about_4 : decode cX7_about 4 = .ok (.iload_n 1, 1) := by decide +kernel
theorem dX7_about_5 : decode cX7_about 5 = .ok (.invokevirtual 85, 3) := by decide +kernel
theorem dX7_about_8 : decode cX7_about 8 = .ok (.ifCond .eq 12, 3) := by decide +kernel
theorem dX7_about_11 : decode cX7_about 11 = .ok (.iload_n 2, 1) := by decide +kernel
theorem dX7_about_12 : decode cX7_about 12 = .ok (.iconst 0, 1) := by decide +kernel
theorem dX7_about_13 : decode cX7_about 13 = .ok (.iconst 2, 1) := by decide +kernel
theorem dX7_about_14 : decode cX7_about 14 = .ok (.invokestatic 70, 3) := by decide +kernel
theorem dX7_about_17 : decode cX7_about 17 = .ok (.ifCond .ne 8, 3) := by decide +kernel
theorem dX7_about_20 : decode cX7_about 20 = .ok (.aload_n 0, 1) := by decide +kernel
theorem dX7_about_21 : decode cX7_about 21 = .ok (.invokevirtual 74, 3) := by decide +kernel
theorem dX7_about_24 : decode cX7_about 24 = .ok (.ireturn, 1) := by decide +kernel
theorem dX7_about_25 : decode cX7_about 25 = .ok (.aload_n 0, 1) := by decide +kernel
theorem dX7_about_26 : decode cX7_about 26 = .ok (.getfield 10, 3) := by decide +kernel
theorem dX7_about_29 : decode cX7_about 29 = .ok (.iload_n 1, 1) := by decide +kernel
theorem dX7_about_30 : decode cX7_about 30 = .ok (.iload_n 2, 1) := by decide +kernel
theorem dX7_about_31 : decode cX7_about 31 = .ok (.invokevirtual 151, 3) := by decide +kernel
theorem dX7_about_34 : decode cX7_about 34 = .ok (.ireturn, 1) := by decide +kernel
theorem dX7_straight_0 : decode cX7_straight 0 = .ok (.aload_n 0, 1) := by decide +kernel
theorem dX7_straight_1 : decode cX7_straight 1 = .ok (.getfield 10, 3) := by decide +kernel
theorem dX7_straight_4 : decode cX7_straight 4 = .ok (.iload_n 1, 1) := by decide +kernel
theorem dX7_straight_5 : decode cX7_straight 5 = .ok (.invokevirtual 85, 3) := by decide +kernel
theorem dX7_straight_8 : decode cX7_straight 8 = .ok (.ifCond .eq 14, 3) := by decide +kernel
theorem dX7_straight_11 : decode cX7_straight 11 = .ok (.aload_n 0, 1) := by decide +kernel
theorem dX7_straight_12 : decode cX7_straight 12 = .ok (.getfield 10, 3) := by decide +kernel
theorem dX7_straight_15 : decode cX7_straight 15 = .ok (.iload_n 2, 1) := by decide +kernel
theorem dX7_straight_16 : decode cX7_straight 16 = .ok (.invokevirtual 85, 3) := by decide +kernel
theorem dX7_straight_19 : decode cX7_straight 19 = .ok (.ifCond .ne 8, 3) := by decide +kernel
theorem dX7_straight_22 : decode cX7_straight 22 = .ok (.aload_n 0, 1) := by decide +kernel
theorem dX7_straight_23 : decode cX7_straight 23 = .ok (.invokevirtual 74, 3) := by decide +kernel
theorem dX7_straight_26 : decode cX7_straight 26 = .ok (.ireturn, 1) := by decide +kernel
theorem dX7_straight_27 : decode cX7_straight 27 = .ok (.aload_n 0, 1) := by decide +kernel
theorem dX7_straight_28 : decode cX7_straight 28 = .ok (.getfield 10, 3) := by decide +kernel
theorem dX7_straight_31 : decode cX7_straight 31 = .ok (.iload_n 1, 1) := by decide +kernel
theorem dX7_straight_32 : decode cX7_straight 32 = .ok (.iload_n 2, 1) := by decide +kernel
theorem dX7_straight_33 : decode cX7_straight 33 = .ok (.invokevirtual 154, 3) := by decide +kernel
theorem dX7_straight_36 : decode cX7_straight 36 = .ok (.ireturn, 1) := by decide +kernel
theorem dX7_far_0 : decode cX7_far 0 = .ok (.aload_n 0, 1) := by decide +kernel
theorem dX7_far_1 : decode cX7_far 1 = .ok (.iload_n 1, 1) := by decide +kernel
theorem dX7_far_2 : decode cX7_far 2 = .ok (.iload_n 2, 1) := by decide +kernel
theorem dX7_far_3 : decode cX7_far 3 = .ok (.iload_n 3, 1) := by decide +kernel
theorem dX7_far_4 : decode cX7_far 4 = .ok (.invokevirtual 157, 3) := by decide +kernel
theorem dX7_far_7 : decode cX7_far 7 = .ok (.ifCond .ne 8, 3) := by decide +kernel
theorem dX7_far_10 : decode cX7_far 10 = .ok (.aload_n 0, 1) := by decide +kernel
theorem dX7_far_11 : decode cX7_far 11 = .ok (.invokevirtual 74, 3) := by decide +kernel
theorem dX7_far_14 : decode cX7_far 14 = .ok (.ireturn, 1) := by decide +kernel
theorem dX7_far_15 : decode cX7_far 15 = .ok (.aload_n 0, 1) := by decide +kernel
theorem dX7_far_16 : decode cX7_far 16 = .ok (.getfield 10, 3) := by decide +kernel
theorem dX7_far_19 : decode cX7_far 19 = .ok (.iload_n 1, 1) := by decide +kernel
theorem dX7_far_20 : decode cX7_far 20 = .ok (.iload_n 2, 1) := by decide +kernel
theorem dX7_far_21 : decode cX7_far 21 = .ok (.iload_n 3, 1) := by decide +kernel
theorem dX7_far_22 : decode cX7_far 22 = .ok (.invokevirtual 160, 3) := by decide +kernel
theorem dX7_far_25 : decode cX7_far 25 = .ok (.ireturn, 1) := by decide +kernel
theorem dX7_way_0 : decode cX7_way 0 = .ok (.aload_n 0, 1) := by decide +kernel
theorem dX7_way_1 : decode cX7_way 1 = .ok (.iload_n 1, 1) := by decide +kernel
theorem dX7_way_2 : decode cX7_way 2 = .ok (.iload_n 2, 1) := by decide +kernel
theorem dX7_way_3 : decode cX7_way 3 = .ok (.iload_n 3, 1) := by decide +kernel
theorem dX7_way_4 : decode cX7_way 4 = .ok (.invokevirtual 157, 3) := by decide +kernel
theorem dX7_way_7 : decode cX7_way 7 = .ok (.ifCond .eq 9, 3) := by decide +kernel
theorem dX7_way_10 : decode cX7_way 10 = .ok (.iload 4, 2) := by decide +kernel
theorem dX7_way_12 : decode cX7_way 12 = .ok (.iconst (-1), 1) := by decide +kernel
theorem dX7_way_13 : decode cX7_way 13 = .ok (.if_icmp .ge 8, 3) := by decide +kernel
theorem dX7_way_16 : decode cX7_way 16 = .ok (.aload_n 0, 1) := by decide +kernel
theorem dX7_way_17 : decode cX7_way 17 = .ok (.invokevirtual 163, 3) := by decide +kernel
theorem dX7_way_20 : decode cX7_way 20 = .ok (.ireturn, 1) := by decide +kernel
theorem dX7_way_21 : decode cX7_way 21 = .ok (.aload_n 0, 1) := by decide +kernel
theorem dX7_way_22 : decode cX7_way 22 = .ok (.getfield 35, 3) := by decide +kernel
theorem dX7_way_25 : decode cX7_way 25 = .ok (.aload_n 0, 1) := by decide +kernel
theorem dX7_way_26 : decode cX7_way 26 = .ok (.getfield 10, 3) := by decide +kernel
theorem dX7_way_29 : decode cX7_way 29 = .ok (.iload_n 1, 1) := by decide +kernel
theorem dX7_way_30 : decode cX7_way 30 = .ok (.invokevirtual 166, 3) := by decide +kernel
theorem dX7_way_33 : decode cX7_way 33 = .ok (.aload_n 0, 1) := by decide +kernel
theorem dX7_way_34 : decode cX7_way 34 = .ok (.getfield 35, 3) := by decide +kernel
theorem dX7_way_37 : decode cX7_way 37 = .ok (.iload 4, 2) := by decide +kernel
theorem dX7_way_39 : decode cX7_way 39 = .ok (.aload_n 0, 1) := by decide +kernel
theorem dX7_way_40 : decode cX7_way 40 = .ok (.getfield 35, 3) := by decide +kernel
theorem dX7_way_43 : decode cX7_way 43 = .ok (.iload_n 2, 1) := by decide +kernel
theorem dX7_way_44 : decode cX7_way 44 = .ok (.iload_n 3, 1) := by decide +kernel
theorem dX7_way_45 : decode cX7_way 45 = .ok (.invokevirtual 170, 3) := by decide +kernel
theorem dX7_way_48 : decode cX7_way 48 = .ok (.invokevirtual 173, 3) := by decide +kernel
theorem dX7_way_51 : decode cX7_way 51 = .ok (.ireturn, 1) := by decide +kernel
theorem dX7_round_0 : decode cX7_round 0 = .ok (.aload_n 0, 1) := by decide +kernel
theorem dX7_round_1 : decode cX7_round 1 = .ok (.getfield 10, 3) := by decide +kernel
theorem dX7_round_4 : decode cX7_round 4 = .ok (.iload_n 1, 1) := by decide +kernel
theorem dX7_round_5 : decode cX7_round 5 = .ok (.invokevirtual 109, 3) := by decide +kernel
theorem dX7_round_8 : decode cX7_round 8 = .ok (.ifCond .eq 8, 3) := by decide +kernel
theorem dX7_round_11 : decode cX7_round 11 = .ok (.iload_n 2, 1) := by decide +kernel
theorem dX7_round_12 : decode cX7_round 12 = .ok (.iconst (-1), 1) := by decide +kernel
theorem dX7_round_13 : decode cX7_round 13 = .ok (.if_icmp .ge 8, 3) := by decide +kernel
theorem dX7_round_16 : decode cX7_round 16 = .ok (.aload_n 0, 1) := by decide +kernel
theorem dX7_round_17 : decode cX7_round 17 = .ok (.invokevirtual 163, 3) := by decide +kernel
theorem dX7_round_20 : decode cX7_round 20 = .ok (.ireturn, 1) := by decide +kernel
theorem dX7_round_21 : decode cX7_round 21 = .ok (.aload_n 0, 1) := by decide +kernel
theorem dX7_round_22 : decode cX7_round 22 = .ok (.getfield 35, 3) := by decide +kernel
theorem dX7_round_25 : decode cX7_round 25 = .ok (.aload_n 0, 1) := by decide +kernel
theorem dX7_round_26 : decode cX7_round 26 = .ok (.getfield 10, 3) := by decide +kernel
theorem dX7_round_29 : decode cX7_round 29 = .ok (.iload_n 1, 1) := by decide +kernel
theorem dX7_round_30 : decode cX7_round 30 = .ok (.invokevirtual 166, 3) := by decide +kernel
theorem dX7_round_33 : decode cX7_round 33 = .ok (.aload_n 0, 1) := by decide +kernel
theorem dX7_round_34 : decode cX7_round 34 = .ok (.getfield 35, 3) := by decide +kernel
theorem dX7_round_37 : decode cX7_round 37 = .ok (.iload_n 2, 1) := by decide +kernel
theorem dX7_round_38 : decode cX7_round 38 = .ok (.aload_n 0, 1) := by decide +kernel
theorem dX7_round_39 : decode cX7_round 39 = .ok (.getfield 35, 3) := by decide +kernel
theorem dX7_round_42 : decode cX7_round 42 = .ok (.invokevirtual 176, 3) := by decide +kernel
theorem dX7_round_45 : decode cX7_round 45 = .ok (.invokevirtual 173, 3) := by decide +kernel
theorem dX7_round_48 : decode cX7_round 48 = .ok (.ireturn, 1) := by decide +kernel
theorem dX7_clash_0 : decode cX7_clash 0 = .ok (.aload_n 0, 1) := by decide +kernel
theorem dX7_clash_1 : decode cX7_clash 1 = .ok (.getfield 10, 3) := by decide +kernel
theorem dX7_clash_4 : decode cX7_clash 4 = .ok (.iload_n 1, 1) := by decide +kernel
theorem dX7_clash_5 : decode cX7_clash 5 = .ok (.invokevirtual 109, 3) := by decide +kernel
theorem dX7_clash_8 : decode cX7_clash 8 = .ok (.ifCond .eq 8, 3) := by decide +kernel
theorem dX7_clash_11 : decode cX7_clash 11 = .ok (.iload_n 2, 1) := by decide +kernel
theorem dX7_clash_12 : decode cX7_clash 12 = .ok (.iconst (-1), 1) := by decide +kernel
theorem dX7_clash_13 : decode cX7_clash 13 = .ok (.if_icmp .ge 8, 3) := by decide +kernel
theorem dX7_clash_16 : decode cX7_clash 16 = .ok (.aload_n 0, 1) := by decide +kernel
theorem dX7_clash_17 : decode cX7_clash 17 = .ok (.invokevirtual 163, 3) := by decide +kernel
theorem dX7_clash_20 : decode cX7_clash 20 = .ok (.ireturn, 1) := by decide +kernel
theorem dX7_clash_21 : decode cX7_clash 21 = .ok (.aload_n 0, 1) := by decide +kernel
theorem dX7_clash_22 : decode cX7_clash 22 = .ok (.getfield 35, 3) := by decide +kernel
theorem dX7_clash_25 : decode cX7_clash 25 = .ok (.aload_n 0, 1) := by decide +kernel
theorem dX7_clash_26 : decode cX7_clash 26 = .ok (.getfield 10, 3) := by decide +kernel
theorem dX7_clash_29 : decode cX7_clash 29 = .ok (.iload_n 1, 1) := by decide +kernel
theorem dX7_clash_30 : decode cX7_clash 30 = .ok (.invokevirtual 166, 3) := by decide +kernel
theorem dX7_clash_33 : decode cX7_clash 33 = .ok (.aload_n 0, 1) := by decide +kernel
theorem dX7_clash_34 : decode cX7_clash 34 = .ok (.getfield 35, 3) := by decide +kernel
theorem dX7_clash_37 : decode cX7_clash 37 = .ok (.iload_n 2, 1) := by decide +kernel
theorem dX7_clash_38 : decode cX7_clash 38 = .ok (.aload_n 0, 1) := by decide +kernel
theorem dX7_clash_39 : decode cX7_clash 39 = .ok (.getfield 35, 3) := by decide +kernel
theorem dX7_clash_42 : decode cX7_clash 42 = .ok (.invokevirtual 179, 3) := by decide +kernel
theorem dX7_clash_45 : decode cX7_clash 45 = .ok (.invokevirtual 173, 3) := by decide +kernel
theorem dX7_clash_48 : decode cX7_clash 48 = .ok (.ireturn, 1) := by decide +kernel
theorem dX7_late_0 : decode cX7_late 0 = .ok (.aload_n 0, 1) := by decide +kernel
theorem dX7_late_1 : decode cX7_late 1 = .ok (.iload_n 1, 1) := by decide +kernel
theorem dX7_late_2 : decode cX7_late 2 = .ok (.iload_n 2, 1) := by decide +kernel
theorem dX7_late_3 : decode cX7_late 3 = .ok (.iload_n 3, 1) := by decide +kernel
theorem dX7_late_4 : decode cX7_late 4 = .ok (.invokevirtual 157, 3) := by decide +kernel
theorem dX7_late_7 : decode cX7_late 7 = .ok (.ifCond .eq 13, 3) := by decide +kernel
theorem dX7_late_10 : decode cX7_late 10 = .ok (.iload 4, 2) := by decide +kernel
theorem dX7_late_12 : decode cX7_late 12 = .ok (.iconst 0, 1) := by decide +kernel
theorem dX7_late_13 : decode cX7_late 13 = .ok (.iconst 1, 1) := by decide +kernel
theorem dX7_late_14 : decode cX7_late 14 = .ok (.invokestatic 70, 3) := by decide +kernel
theorem dX7_late_17 : decode cX7_late 17 = .ok (.ifCond .ne 8, 3) := by decide +kernel
theorem dX7_late_20 : decode cX7_late 20 = .ok (.aload_n 0, 1) := by decide +kernel
theorem dX7_late_21 : decode cX7_late 21 = .ok (.invokevirtual 74, 3) := by decide +kernel
theorem dX7_late_24 : decode cX7_late 24 = .ok (.ireturn, 1) := by decide +kernel
theorem dX7_late_25 : decode cX7_late 25 = .ok (.iconst 0, 1) := by decide +kernel
theorem dX7_late_26 : decode cX7_late 26 = .ok (.istore 5, 2) := by decide +kernel
theorem dX7_late_28 : decode cX7_late 28 = .ok (.aload_n 0, 1) := by decide +kernel
theorem dX7_late_29 : decode cX7_late 29 = .ok (.getfield 10, 3) := by decide +kernel
theorem dX7_late_32 : decode cX7_late 32 = .ok (.iload_n 1, 1) := by decide +kernel
theorem dX7_late_33 : decode cX7_late 33 = .ok (.iload_n 2, 1) := by decide +kernel
theorem dX7_late_34 : decode cX7_late 34 = .ok (.iload_n 3, 1) := by decide +kernel
theorem dX7_late_35 : decode cX7_late 35 = .ok (.aload_n 0, 1) := by decide +kernel
theorem dX7_late_36 : decode cX7_late 36 = .ok (.getfield 10, 3) := by decide +kernel
theorem dX7_late_39 : decode cX7_late 39 = .ok (.getfield 112, 3) := by decide +kernel
theorem dX7_late_42 : decode cX7_late 42 = .ok (.getfield 132, 3) := by decide +kernel
theorem dX7_late_45 : decode cX7_late 45 = .ok (.iload_n 1, 1) := by decide +kernel
theorem dX7_late_46 : decode cX7_late 46 = .ok (.iaload, 1) := by decide +kernel
theorem dX7_late_47 : decode cX7_late 47 = .ok (.iconst 0, 1) := by decide +kernel
theorem dX7_late_48 : decode cX7_late 48 = .ok (.invokevirtual 182, 3) := by decide +kernel
theorem dX7_late_51 : decode cX7_late 51 = .ok (.istore 6, 2) := by decide +kernel
theorem dX7_late_53 : decode cX7_late 53 = .ok (.iconst 1, 1) := by decide +kernel
theorem dX7_late_54 : decode cX7_late 54 = .ok (.istore 7, 2) := by decide +kernel
theorem dX7_late_56 : decode cX7_late 56 = .ok (.iload 7, 2) := by decide +kernel
theorem dX7_late_58 : decode cX7_late 58 = .ok (.bipush 24, 2) := by decide +kernel
theorem dX7_late_60 : decode cX7_late 60 = .ok (.if_icmp .ge 50, 3) := by decide +kernel
theorem dX7_late_63 : decode cX7_late 63 = .ok (.aload_n 0, 1) := by decide +kernel
theorem dX7_late_64 : decode cX7_late 64 = .ok (.getfield 10, 3) := by decide +kernel
theorem dX7_late_67 : decode cX7_late 67 = .ok (.iload_n 1, 1) := by decide +kernel
theorem dX7_late_68 : decode cX7_late 68 = .ok (.iload_n 2, 1) := by decide +kernel
theorem dX7_late_69 : decode cX7_late 69 = .ok (.iload_n 3, 1) := by decide +kernel
theorem dX7_late_70 : decode cX7_late 70 = .ok (.aload_n 0, 1) := by decide +kernel
theorem dX7_late_71 : decode cX7_late 71 = .ok (.getfield 10, 3) := by decide +kernel
theorem dX7_late_74 : decode cX7_late 74 = .ok (.getfield 112, 3) := by decide +kernel
theorem dX7_late_77 : decode cX7_late 77 = .ok (.getfield 132, 3) := by decide +kernel
theorem dX7_late_80 : decode cX7_late 80 = .ok (.iload_n 1, 1) := by decide +kernel
theorem dX7_late_81 : decode cX7_late 81 = .ok (.iaload, 1) := by decide +kernel
theorem dX7_late_82 : decode cX7_late 82 = .ok (.iload 7, 2) := by decide +kernel
theorem dX7_late_84 : decode cX7_late 84 = .ok (.invokevirtual 182, 3) := by decide +kernel
theorem dX7_late_87 : decode cX7_late 87 = .ok (.istore 8, 2) := by decide +kernel
theorem dX7_late_89 : decode cX7_late 89 = .ok (.iload 8, 2) := by decide +kernel
theorem dX7_late_91 : decode cX7_late 91 = .ok (.iload 6, 2) := by decide +kernel
theorem dX7_late_93 : decode cX7_late 93 = .ok (.if_icmp .le 11, 3) := by decide +kernel
theorem dX7_late_96 : decode cX7_late 96 = .ok (.iload 7, 2) := by decide +kernel
theorem dX7_late_98 : decode cX7_late 98 = .ok (.istore 5, 2) := by decide +kernel
theorem dX7_late_100 : decode cX7_late 100 = .ok (.iload 8, 2) := by decide +kernel
theorem dX7_late_102 : decode cX7_late 102 = .ok (.istore 6, 2) := by decide +kernel
theorem dX7_late_104 : decode cX7_late 104 = .ok (.iinc 7 1, 3) := by decide +kernel
theorem dX7_late_107 : decode cX7_late 107 = .ok (.goto (-51), 3) := by decide +kernel
theorem dX7_late_110 : decode cX7_late 110 = .ok (.iload 4, 2) := by decide +kernel
theorem dX7_late_112 : decode cX7_late 112 = .ok (.ifCond .ne 8, 3) := by decide +kernel
theorem dX7_late_115 : decode cX7_late 115 = .ok (.iload 5, 2) := by decide +kernel
theorem dX7_late_117 : decode cX7_late 117 = .ok (.goto 5, 3) := by decide +kernel
theorem dX7_late_120 : decode cX7_late 120 = .ok (.iload 6, 2) := by decide +kernel
theorem dX7_late_122 : decode cX7_late 122 = .ok (.ireturn, 1) := by decide +kernel
theorem dX7_standard_0 : decode cX7_standard 0 = .ok (.aload_n 0, 1) := by decide +kernel
theorem dX7_standard_1 : decode cX7_standard 1 = .ok (.getfield 10, 3) := by decide +kernel
theorem dX7_standard_4 : decode cX7_standard 4 = .ok (.iload_n 1, 1) := by decide +kernel
theorem dX7_standard_5 : decode cX7_standard 5 = .ok (.invokevirtual 85, 3) := by decide +kernel
theorem dX7_standard_8 : decode cX7_standard 8 = .ok (.ifCond .eq 14, 3) := by decide +kernel
theorem dX7_standard_11 : decode cX7_standard 11 = .ok (.aload_n 0, 1) := by decide +kernel
theorem dX7_standard_12 : decode cX7_standard 12 = .ok (.getfield 10, 3) := by decide +kernel
theorem dX7_standard_15 : decode cX7_standard 15 = .ok (.iload_n 2, 1) := by decide +kernel
theorem dX7_standard_16 : decode cX7_standard 16 = .ok (.invokevirtual 85, 3) := by decide +kernel
theorem dX7_standard_19 : decode cX7_standard 19 = .ok (.ifCond .ne 8, 3) := by decide +kernel
theorem dX7_standard_22 : decode cX7_standard 22 = .ok (.aload_n 0, 1) := by decide +kernel
theorem dX7_standard_23 : decode cX7_standard 23 = .ok (.invokevirtual 74, 3) := by decide +kernel
theorem dX7_standard_26 : decode cX7_standard 26 = .ok (.ireturn, 1) := by decide +kernel
theorem dX7_standard_27 : decode cX7_standard 27 = .ok (.aload_n 0, 1) := by decide +kernel
theorem dX7_standard_28 : decode cX7_standard 28 = .ok (.getfield 10, 3) := by decide +kernel
theorem dX7_standard_31 : decode cX7_standard 31 = .ok (.getfield 112, 3) := by decide +kernel
theorem dX7_standard_34 : decode cX7_standard 34 = .ok (.iload_n 1, 1) := by decide +kernel
theorem dX7_standard_35 : decode cX7_standard 35 = .ok (.iload_n 2, 1) := by decide +kernel
theorem dX7_standard_36 : decode cX7_standard 36 = .ok (.invokevirtual 186, 3) := by decide +kernel
theorem dX7_standard_39 : decode cX7_standard 39 = .ok (.ireturn, 1) := by decide +kernel
theorem dX7_book_0 : decode cX7_book 0 = .ok (.iload_n 1, 1) := by decide +kernel
theorem dX7_book_1 : decode cX7_book 1 = .ok (.ifCond .lt 12, 3) := by decide +kernel
theorem dX7_book_4 : decode cX7_book 4 = .ok (.iload_n 2, 1) := by decide +kernel
theorem dX7_book_5 : decode cX7_book 5 = .ok (.iconst 0, 1) := by decide +kernel
theorem dX7_book_6 : decode cX7_book 6 = .ok (.iconst 1, 1) := by decide +kernel
theorem dX7_book_7 : decode cX7_book 7 = .ok (.invokestatic 70, 3) := by decide +kernel
theorem dX7_book_10 : decode cX7_book 10 = .ok (.ifCond .ne 8, 3) := by decide +kernel
theorem dX7_book_13 : decode cX7_book 13 = .ok (.aload_n 0, 1) := by decide +kernel
theorem dX7_book_14 : decode cX7_book 14 = .ok (.invokevirtual 74, 3) := by decide +kernel
theorem dX7_book_17 : decode cX7_book 17 = .ok (.ireturn, 1) := by decide +kernel
theorem dX7_book_18 : decode cX7_book 18 = .ok (.iload_n 1, 1) := by decide +kernel
theorem dX7_book_19 : decode cX7_book 19 = .ok (.aload_n 0, 1) := by decide +kernel
theorem dX7_book_20 : decode cX7_book 20 = .ok (.getfield 10, 3) := by decide +kernel
theorem dX7_book_23 : decode cX7_book 23 = .ok (.getfield 112, 3) := by decide +kernel
theorem dX7_book_26 : decode cX7_book 26 = .ok (.getfield 189, 3) := by decide +kernel
theorem dX7_book_29 : decode cX7_book 29 = .ok (.if_icmp .lt 8, 3) := by decide +kernel
theorem dX7_book_32 : decode cX7_book 32 = .ok (.aload_n 0, 1) := by decide +kernel
theorem dX7_book_33 : decode cX7_book 33 = .ok (.invokevirtual 122, 3) := by decide +kernel
theorem dX7_book_36 : decode cX7_book 36 = .ok (.ireturn, 1) := by decide +kernel
theorem dX7_book_37 : decode cX7_book 37 = .ok (.iload_n 2, 1) := by decide +kernel
theorem dX7_book_38 : decode cX7_book 38 = .ok (.ifCond .ne 17, 3) := by decide +kernel
theorem dX7_book_41 : decode cX7_book 41 = .ok (.aload_n 0, 1) := by decide +kernel
theorem dX7_book_42 : decode cX7_book 42 = .ok (.getfield 10, 3) := by decide +kernel
theorem dX7_book_45 : decode cX7_book 45 = .ok (.getfield 112, 3) := by decide +kernel
theorem dX7_book_48 : decode cX7_book 48 = .ok (.iload_n 1, 1) := by decide +kernel
theorem dX7_book_49 : decode cX7_book 49 = .ok (.invokevirtual 192, 3) := by decide +kernel
theorem dX7_book_52 : decode cX7_book 52 = .ok (.goto 14, 3) := by decide +kernel
theorem dX7_book_55 : decode cX7_book 55 = .ok (.aload_n 0, 1) := by decide +kernel
theorem dX7_book_56 : decode cX7_book 56 = .ok (.getfield 10, 3) := by decide +kernel
theorem dX7_book_59 : decode cX7_book 59 = .ok (.getfield 112, 3) := by decide +kernel
theorem dX7_book_62 : decode cX7_book 62 = .ok (.iload_n 1, 1) := by decide +kernel
theorem dX7_book_63 : decode cX7_book 63 = .ok (.invokevirtual 196, 3) := by decide +kernel
theorem dX7_book_66 : decode cX7_book 66 = .ok (.ireturn, 1) := by decide +kernel
theorem dX7_note_0 : decode cX7_note 0 = .ok (.aload_n 0, 1) := by decide +kernel
theorem dX7_note_1 : decode cX7_note 1 = .ok (.getfield 10, 3) := by decide +kernel
theorem dX7_note_4 : decode cX7_note 4 = .ok (.iload_n 1, 1) := by decide +kernel
theorem dX7_note_5 : decode cX7_note 5 = .ok (.invokevirtual 85, 3) := by decide +kernel
theorem dX7_note_8 : decode cX7_note 8 = .ok (.ifCond .eq 33, 3) := by decide +kernel
theorem dX7_note_11 : decode cX7_note 11 = .ok (.iload_n 2, 1) := by decide +kernel
theorem dX7_note_12 : decode cX7_note 12 = .ok (.iconst 0, 1) := by decide +kernel
theorem dX7_note_13 : decode cX7_note 13 = .ok (.sipush 500, 3) := by decide +kernel
theorem dX7_note_16 : decode cX7_note 16 = .ok (.invokestatic 70, 3) := by decide +kernel
theorem dX7_note_19 : decode cX7_note 19 = .ok (.ifCond .eq 22, 3) := by decide +kernel
theorem dX7_note_22 : decode cX7_note 22 = .ok (.iload_n 3, 1) := by decide +kernel
theorem dX7_note_23 : decode cX7_note 23 = .ok (.invokestatic 199, 3) := by decide +kernel
theorem dX7_note_26 : decode cX7_note 26 = .ok (.ifCond .eq 15, 3) := by decide +kernel
theorem dX7_note_29 : decode cX7_note 29 = .ok (.iload 4, 2) := by decide +kernel
theorem dX7_note_31 : decode cX7_note 31 = .ok (.iconst 0, 1) := by decide +kernel
theorem dX7_note_32 : decode cX7_note 32 = .ok (.sipush 900, 3) := by decide +kernel
theorem dX7_note_35 : decode cX7_note 35 = .ok (.invokestatic 70, 3) := by decide +kernel
theorem dX7_note_38 : decode cX7_note 38 = .ok (.ifCond .ne 8, 3) := by decide +kernel
theorem dX7_note_41 : decode cX7_note 41 = .ok (.aload_n 0, 1) := by decide +kernel
theorem dX7_note_42 : decode cX7_note 42 = .ok (.invokevirtual 74, 3) := by decide +kernel
theorem dX7_note_45 : decode cX7_note 45 = .ok (.ireturn, 1) := by decide +kernel
theorem dX7_note_46 : decode cX7_note 46 = .ok (.aload_n 0, 1) := by decide +kernel
theorem dX7_note_47 : decode cX7_note 47 = .ok (.getfield 10, 3) := by decide +kernel
theorem dX7_note_50 : decode cX7_note 50 = .ok (.getfield 202, 3) := by decide +kernel
theorem dX7_note_53 : decode cX7_note 53 = .ok (.invokevirtual 206, 3) := by decide +kernel
theorem dX7_note_56 : decode cX7_note 56 = .ok (.ifCond .eq 8, 3) := by decide +kernel
theorem dX7_note_59 : decode cX7_note 59 = .ok (.aload_n 0, 1) := by decide +kernel
theorem dX7_note_60 : decode cX7_note 60 = .ok (.invokevirtual 78, 3) := by decide +kernel
theorem dX7_note_63 : decode cX7_note 63 = .ok (.ireturn, 1) := by decide +kernel
theorem dX7_note_64 : decode cX7_note 64 = .ok (.aload_n 0, 1) := by decide +kernel
theorem dX7_note_65 : decode cX7_note 65 = .ok (.getfield 10, 3) := by decide +kernel
theorem dX7_note_68 : decode cX7_note 68 = .ok (.getfield 202, 3) := by decide +kernel
theorem dX7_note_71 : decode cX7_note 71 = .ok (.iload_n 1, 1) := by decide +kernel
theorem dX7_note_72 : decode cX7_note 72 = .ok (.iload_n 2, 1) := by decide +kernel
theorem dX7_note_73 : decode cX7_note 73 = .ok (.iload_n 3, 1) := by decide +kernel
theorem dX7_note_74 : decode cX7_note 74 = .ok (.iconst 0, 1) := by decide +kernel
theorem dX7_note_75 : decode cX7_note 75 = .ok (.iload 4, 2) := by decide +kernel
theorem dX7_note_77 : decode cX7_note 77 = .ok (.invokevirtual 212, 3) := by decide +kernel
theorem dX7_note_80 : decode cX7_note 80 = .ok (.ireturn, 1) := by decide +kernel
theorem dX7_mark_0 : decode cX7_mark 0 = .ok (.aload_n 0, 1) := by decide +kernel
theorem dX7_mark_1 : decode cX7_mark 1 = .ok (.getfield 10, 3) := by decide +kernel
theorem dX7_mark_4 : decode cX7_mark 4 = .ok (.iload_n 1, 1) := by decide +kernel
theorem dX7_mark_5 : decode cX7_mark 5 = .ok (.invokevirtual 109, 3) := by decide +kernel
theorem dX7_mark_8 : decode cX7_mark 8 = .ok (.ifCond .eq 43, 3) := by decide +kernel
theorem dX7_mark_11 : decode cX7_mark 11 = .ok (.iload_n 2, 1) := by decide +kernel
theorem dX7_mark_12 : decode cX7_mark 12 = .ok (.iconst 0, 1) := by decide +kernel
theorem dX7_mark_13 : decode cX7_mark 13 = .ok (.bipush 18, 2) := by decide +kernel
theorem dX7_mark_15 : decode cX7_mark 15 = .ok (.invokestatic 70, 3) := by decide +kernel
theorem dX7_mark_18 : decode cX7_mark 18 = .ok (.ifCond .eq 33, 3) := by decide +kernel
theorem dX7_mark_21 : decode cX7_mark 21 = .ok (.iload_n 3, 1) := by decide +kernel
theorem dX7_mark_22 : decode cX7_mark 22 = .ok (.invokestatic 199, 3) := by decide +kernel
theorem dX7_mark_25 : decode cX7_mark 25 = .ok (.ifCond .eq 26, 3) := by decide +kernel
theorem dX7_mark_28 : decode cX7_mark 28 = .ok (.iload 4, 2) := by decide +kernel
theorem dX7_mark_30 : decode cX7_mark 30 = .ok (.iconst 0, 1) := by decide +kernel
theorem dX7_mark_31 : decode cX7_mark 31 = .ok (.bipush 99, 2) := by decide +kernel
theorem dX7_mark_33 : decode cX7_mark 33 = .ok (.invokestatic 70, 3) := by decide +kernel
theorem dX7_mark_36 : decode cX7_mark 36 = .ok (.ifCond .eq 15, 3) := by decide +kernel
theorem dX7_mark_39 : decode cX7_mark 39 = .ok (.iload 5, 2) := by decide +kernel
theorem dX7_mark_41 : decode cX7_mark 41 = .ok (.iconst 0, 1) := by decide +kernel
theorem dX7_mark_42 : decode cX7_mark 42 = .ok (.sipush 500, 3) := by decide +kernel
theorem dX7_mark_45 : decode cX7_mark 45 = .ok (.invokestatic 70, 3) := by decide +kernel
theorem dX7_mark_48 : decode cX7_mark 48 = .ok (.ifCond .ne 8, 3) := by decide +kernel
theorem dX7_mark_51 : decode cX7_mark 51 = .ok (.aload_n 0, 1) := by decide +kernel
theorem dX7_mark_52 : decode cX7_mark 52 = .ok (.invokevirtual 74, 3) := by decide +kernel
theorem dX7_mark_55 : decode cX7_mark 55 = .ok (.ireturn, 1) := by decide +kernel
theorem dX7_mark_56 : decode cX7_mark 56 = .ok (.aload_n 0, 1) := by decide +kernel
theorem dX7_mark_57 : decode cX7_mark 57 = .ok (.getfield 10, 3) := by decide +kernel
theorem dX7_mark_60 : decode cX7_mark 60 = .ok (.getfield 215, 3) := by decide +kernel
theorem dX7_mark_63 : decode cX7_mark 63 = .ok (.invokevirtual 206, 3) := by decide +kernel
theorem dX7_mark_66 : decode cX7_mark 66 = .ok (.ifCond .eq 8, 3) := by decide +kernel
theorem dX7_mark_69 : decode cX7_mark 69 = .ok (.aload_n 0, 1) := by decide +kernel
theorem dX7_mark_70 : decode cX7_mark 70 = .ok (.invokevirtual 78, 3) := by decide +kernel
theorem dX7_mark_73 : decode cX7_mark 73 = .ok (.ireturn, 1) := by decide +kernel
theorem dX7_mark_74 : decode cX7_mark 74 = .ok (.aload_n 0, 1) := by decide +kernel
theorem dX7_mark_75 : decode cX7_mark 75 = .ok (.getfield 10, 3) := by decide +kernel
theorem dX7_mark_78 : decode cX7_mark 78 = .ok (.getfield 215, 3) := by decide +kernel
theorem dX7_mark_81 : decode cX7_mark 81 = .ok (.iload_n 1, 1) := by decide +kernel
theorem dX7_mark_82 : decode cX7_mark 82 = .ok (.iload_n 2, 1) := by decide +kernel
theorem dX7_mark_83 : decode cX7_mark 83 = .ok (.iload_n 3, 1) := by decide +kernel
theorem dX7_mark_84 : decode cX7_mark 84 = .ok (.iload 4, 2) := by decide +kernel
theorem dX7_mark_86 : decode cX7_mark 86 = .ok (.iload 5, 2) := by decide +kernel
theorem dX7_mark_88 : decode cX7_mark 88 = .ok (.invokevirtual 212, 3) := by decide +kernel
theorem dX7_mark_91 : decode cX7_mark 91 = .ok (.ireturn, 1) := by decide +kernel
theorem dX7_forget_0 : decode cX7_forget 0 = .ok (.iload_n 1, 1) := by decide +kernel
theorem dX7_forget_1 : decode cX7_forget 1 = .ok (.ifCond .ne 14, 3) := by decide +kernel
theorem dX7_forget_4 : decode cX7_forget 4 = .ok (.aload_n 0, 1) := by decide +kernel
theorem dX7_forget_5 : decode cX7_forget 5 = .ok (.getfield 10, 3) := by decide +kernel
theorem dX7_forget_8 : decode cX7_forget 8 = .ok (.getfield 202, 3) := by decide +kernel
theorem dX7_forget_11 : decode cX7_forget 11 = .ok (.invokevirtual 218, 3) := by decide +kernel
theorem dX7_forget_14 : decode cX7_forget 14 = .ok (.ireturn, 1) := by decide +kernel
theorem dX7_forget_15 : decode cX7_forget 15 = .ok (.iload_n 1, 1) := by decide +kernel
theorem dX7_forget_16 : decode cX7_forget 16 = .ok (.iconst 1, 1) := by decide +kernel
theorem dX7_forget_17 : decode cX7_forget 17 = .ok (.if_icmp .ne 14, 3) := by decide +kernel
theorem dX7_forget_20 : decode cX7_forget 20 = .ok (.aload_n 0, 1) := by decide +kernel
theorem dX7_forget_21 : decode cX7_forget 21 = .ok (.getfield 10, 3) := by decide +kernel
theorem dX7_forget_24 : decode cX7_forget 24 = .ok (.getfield 215, 3) := by decide +kernel
theorem dX7_forget_27 : decode cX7_forget 27 = .ok (.invokevirtual 218, 3) := by decide +kernel
theorem dX7_forget_30 : decode cX7_forget 30 = .ok (.ireturn, 1) := by decide +kernel
theorem dX7_forget_31 : decode cX7_forget 31 = .ok (.iload_n 1, 1) := by decide +kernel
theorem dX7_forget_32 : decode cX7_forget 32 = .ok (.iconst 2, 1) := by decide +kernel
theorem dX7_forget_33 : decode cX7_forget 33 = .ok (.if_icmp .ne 21, 3) := by decide +kernel
theorem dX7_forget_36 : decode cX7_forget 36 = .ok (.aload_n 0, 1) := by decide +kernel
theorem dX7_forget_37 : decode cX7_forget 37 = .ok (.getfield 10, 3) := by decide +kernel
theorem dX7_forget_40 : decode cX7_forget 40 = .ok (.invokevirtual 125, 3) := by decide +kernel
theorem dX7_forget_43 : decode cX7_forget 43 = .ok (.aload_n 0, 1) := by decide +kernel
theorem dX7_forget_44 : decode cX7_forget 44 = .ok (.getfield 10, 3) := by decide +kernel
theorem dX7_forget_47 : decode cX7_forget 47 = .ok (.getfield 112, 3) := by decide +kernel
theorem dX7_forget_50 : decode cX7_forget 50 = .ok (.invokevirtual 221, 3) := by decide +kernel
theorem dX7_forget_53 : decode cX7_forget 53 = .ok (.ireturn, 1) := by decide +kernel
theorem dX7_forget_54 : decode cX7_forget 54 = .ok (.aload_n 0, 1) := by decide +kernel
theorem dX7_forget_55 : decode cX7_forget 55 = .ok (.invokevirtual 74, 3) := by decide +kernel
theorem dX7_forget_58 : decode cX7_forget 58 = .ok (.ireturn, 1) := by decide +kernel
theorem dX7_is_0 : decode cX7_is 0 = .ok (.aload_n 0, 1) := by decide +kernel
theorem dX7_is_1 : decode cX7_is 1 = .ok (.getfield 10, 3) := by decide +kernel
theorem dX7_is_4 : decode cX7_is 4 = .ok (.iload_n 1, 1) := by decide +kernel
theorem dX7_is_5 : decode cX7_is 5 = .ok (.invokevirtual 85, 3) := by decide +kernel
theorem dX7_is_8 : decode cX7_is 8 = .ok (.ifCond .ne 8, 3) := by decide +kernel
theorem dX7_is_11 : decode cX7_is 11 = .ok (.aload_n 0, 1) := by decide +kernel
theorem dX7_is_12 : decode cX7_is 12 = .ok (.invokevirtual 74, 3) := by decide +kernel
theorem dX7_is_15 : decode cX7_is 15 = .ok (.ireturn, 1) := by decide +kernel
theorem dX7_is_16 : decode cX7_is 16 = .ok (.aload_n 0, 1) := by decide +kernel
theorem dX7_is_17 : decode cX7_is 17 = .ok (.getfield 10, 3) := by decide +kernel
theorem dX7_is_20 : decode cX7_is 20 = .ok (.getfield 202, 3) := by decide +kernel
theorem dX7_is_23 : decode cX7_is 23 = .ok (.iload_n 1, 1) := by decide +kernel
theorem dX7_is_24 : decode cX7_is 24 = .ok (.invokevirtual 224, 3) := by decide +kernel
theorem dX7_is_27 : decode cX7_is 27 = .ok (.ireturn, 1) := by decide +kernel
theorem dX7_look_0 : decode cX7_look 0 = .ok (.aload_n 0, 1) := by decide +kernel
theorem dX7_look_1 : decode cX7_look 1 = .ok (.getfield 10, 3) := by decide +kernel
theorem dX7_look_4 : decode cX7_look 4 = .ok (.iload_n 1, 1) := by decide +kernel
theorem dX7_look_5 : decode cX7_look 5 = .ok (.invokevirtual 85, 3) := by decide +kernel
theorem dX7_look_8 : decode cX7_look 8 = .ok (.ifCond .ne 8, 3) := by decide +kernel
theorem dX7_look_11 : decode cX7_look 11 = .ok (.aload_n 0, 1) := by decide +kernel
theorem dX7_look_12 : decode cX7_look 12 = .ok (.invokevirtual 74, 3) := by decide +kernel
theorem dX7_look_15 : decode cX7_look 15 = .ok (.ireturn, 1) := by decide +kernel
theorem dX7_look_16 : decode cX7_look 16 = .ok (.aload_n 0, 1) := by decide +kernel
theorem dX7_look_17 : decode cX7_look 17 = .ok (.getfield 56, 3) := by decide +kernel
theorem dX7_look_20 : decode cX7_look 20 = .ok (.iconst 0, 1) := by decide +kernel
theorem dX7_look_21 : decode cX7_look 21 = .ok (.aload_n 0, 1) := by decide +kernel
theorem dX7_look_22 : decode cX7_look 22 = .ok (.getfield 10, 3) := by decide +kernel
theorem dX7_look_25 : decode cX7_look 25 = .ok (.getfield 202, 3) := by decide +kernel
theorem dX7_look_28 : decode cX7_look 28 = .ok (.iload_n 1, 1) := by decide +kernel
theorem dX7_look_29 : decode cX7_look 29 = .ok (.invokevirtual 224, 3) := by decide +kernel
theorem dX7_look_32 : decode cX7_look 32 = .ok (.bipush 60, 2) := by decide +kernel
theorem dX7_look_34 : decode cX7_look 34 = .ok (.iconst 0, 1) := by decide +kernel
theorem dX7_look_35 : decode cX7_look 35 = .ok (.invokevirtual 227, 3) := by decide +kernel
theorem dX7_look_38 : decode cX7_look 38 = .ok (.ireturn, 1) := by decide +kernel
theorem dX7_kinds_0 : decode cX7_kinds 0 = .ok (.aload_n 0, 1) := by decide +kernel
theorem dX7_kinds_1 : decode cX7_kinds 1 = .ok (.getfield 10, 3) := by decide +kernel
theorem dX7_kinds_4 : decode cX7_kinds 4 = .ok (.iload_n 1, 1) := by decide +kernel
theorem dX7_kinds_5 : decode cX7_kinds 5 = .ok (.invokevirtual 109, 3) := by decide +kernel
theorem dX7_kinds_8 : decode cX7_kinds 8 = .ok (.ifCond .ne 8, 3) := by decide +kernel
theorem dX7_kinds_11 : decode cX7_kinds 11 = .ok (.aload_n 0, 1) := by decide +kernel
theorem dX7_kinds_12 : decode cX7_kinds 12 = .ok (.invokevirtual 74, 3) := by decide +kernel
theorem dX7_kinds_15 : decode cX7_kinds 15 = .ok (.ireturn, 1) := by decide +kernel
theorem dX7_kinds_16 : decode cX7_kinds 16 = .ok (.aload_n 0, 1) := by decide +kernel
theorem dX7_kinds_17 : decode cX7_kinds 17 = .ok (.getfield 10, 3) := by decide +kernel
theorem dX7_kinds_20 : decode cX7_kinds 20 = .ok (.getfield 215, 3) := by decide +kernel
theorem dX7_kinds_23 : decode cX7_kinds 23 = .ok (.iload_n 1, 1) := by decide +kernel
theorem dX7_kinds_24 : decode cX7_kinds 24 = .ok (.invokevirtual 224, 3) := by decide +kernel
theorem dX7_kinds_27 : decode cX7_kinds 27 = .ok (.ireturn, 1) := by decide +kernel
theorem dX7_ask_0 : decode cX7_ask 0 = .ok (.aload_n 0, 1) := by decide +kernel
theorem dX7_ask_1 : decode cX7_ask 1 = .ok (.getfield 10, 3) := by decide +kernel
theorem dX7_ask_4 : decode cX7_ask 4 = .ok (.iload_n 1, 1) := by decide +kernel
theorem dX7_ask_5 : decode cX7_ask 5 = .ok (.invokevirtual 109, 3) := by decide +kernel
theorem dX7_ask_8 : decode cX7_ask 8 = .ok (.ifCond .ne 8, 3) := by decide +kernel
theorem dX7_ask_11 : decode cX7_ask 11 = .ok (.aload_n 0, 1) := by decide +kernel
theorem dX7_ask_12 : decode cX7_ask 12 = .ok (.invokevirtual 74, 3) := by decide +kernel
theorem dX7_ask_15 : decode cX7_ask 15 = .ok (.ireturn, 1) := by decide +kernel
theorem dX7_ask_16 : decode cX7_ask 16 = .ok (.aload_n 0, 1) := by decide +kernel
theorem dX7_ask_17 : decode cX7_ask 17 = .ok (.getfield 56, 3) := by decide +kernel
theorem dX7_ask_20 : decode cX7_ask 20 = .ok (.iconst 1, 1) := by decide +kernel
theorem dX7_ask_21 : decode cX7_ask 21 = .ok (.aload_n 0, 1) := by decide +kernel
theorem dX7_ask_22 : decode cX7_ask 22 = .ok (.getfield 10, 3) := by decide +kernel
theorem dX7_ask_25 : decode cX7_ask 25 = .ok (.getfield 215, 3) := by decide +kernel
theorem dX7_ask_28 : decode cX7_ask 28 = .ok (.iload_n 1, 1) := by decide +kernel
theorem dX7_ask_29 : decode cX7_ask 29 = .ok (.invokevirtual 224, 3) := by decide +kernel
theorem dX7_ask_32 : decode cX7_ask 32 = .ok (.bipush 18, 2) := by decide +kernel
theorem dX7_ask_34 : decode cX7_ask 34 = .ok (.aload_n 0, 1) := by decide +kernel
theorem dX7_ask_35 : decode cX7_ask 35 = .ok (.getfield 10, 3) := by decide +kernel
theorem dX7_ask_38 : decode cX7_ask 38 = .ok (.getfield 112, 3) := by decide +kernel
theorem dX7_ask_41 : decode cX7_ask 41 = .ok (.getfield 132, 3) := by decide +kernel
theorem dX7_ask_44 : decode cX7_ask 44 = .ok (.iload_n 1, 1) := by decide +kernel
theorem dX7_ask_45 : decode cX7_ask 45 = .ok (.iaload, 1) := by decide +kernel
theorem dX7_ask_46 : decode cX7_ask 46 = .ok (.invokevirtual 227, 3) := by decide +kernel
theorem dX7_ask_49 : decode cX7_ask 49 = .ok (.ireturn, 1) := by decide +kernel
theorem dX7_owner_0 : decode cX7_owner 0 = .ok (.aload_n 0, 1) := by decide +kernel
theorem dX7_owner_1 : decode cX7_owner 1 = .ok (.getfield 10, 3) := by decide +kernel
theorem dX7_owner_4 : decode cX7_owner 4 = .ok (.iload_n 1, 1) := by decide +kernel
theorem dX7_owner_5 : decode cX7_owner 5 = .ok (.invokevirtual 109, 3) := by decide +kernel
theorem dX7_owner_8 : decode cX7_owner 8 = .ok (.ifCond .eq 8, 3) := by decide +kernel
theorem dX7_owner_11 : decode cX7_owner 11 = .ok (.iload_n 2, 1) := by decide +kernel
theorem dX7_owner_12 : decode cX7_owner 12 = .ok (.iconst (-1), 1) := by decide +kernel
theorem dX7_owner_13 : decode cX7_owner 13 = .ok (.if_icmp .ge 8, 3) := by decide +kernel
theorem dX7_owner_16 : decode cX7_owner 16 = .ok (.aload_n 0, 1) := by decide +kernel
theorem dX7_owner_17 : decode cX7_owner 17 = .ok (.invokevirtual 163, 3) := by decide +kernel
theorem dX7_owner_20 : decode cX7_owner 20 = .ok (.ireturn, 1) := by decide +kernel
theorem dX7_owner_21 : decode cX7_owner 21 = .ok (.aload_n 0, 1) := by decide +kernel
theorem dX7_owner_22 : decode cX7_owner 22 = .ok (.getfield 35, 3) := by decide +kernel
theorem dX7_owner_25 : decode cX7_owner 25 = .ok (.aload_n 0, 1) := by decide +kernel
theorem dX7_owner_26 : decode cX7_owner 26 = .ok (.getfield 10, 3) := by decide +kernel
theorem dX7_owner_29 : decode cX7_owner 29 = .ok (.iload_n 1, 1) := by decide +kernel
theorem dX7_owner_30 : decode cX7_owner 30 = .ok (.invokevirtual 166, 3) := by decide +kernel
theorem dX7_owner_33 : decode cX7_owner 33 = .ok (.aload_n 0, 1) := by decide +kernel
theorem dX7_owner_34 : decode cX7_owner 34 = .ok (.getfield 35, 3) := by decide +kernel
theorem dX7_owner_37 : decode cX7_owner 37 = .ok (.iload_n 2, 1) := by decide +kernel
theorem dX7_owner_38 : decode cX7_owner 38 = .ok (.aload_n 0, 1) := by decide +kernel
theorem dX7_owner_39 : decode cX7_owner 39 = .ok (.getfield 35, 3) := by decide +kernel
theorem dX7_owner_42 : decode cX7_owner 42 = .ok (.aload_n 0, 1) := by decide +kernel
theorem dX7_owner_43 : decode cX7_owner 43 = .ok (.getfield 10, 3) := by decide +kernel
theorem dX7_owner_46 : decode cX7_owner 46 = .ok (.getfield 112, 3) := by decide +kernel
theorem dX7_owner_49 : decode cX7_owner 49 = .ok (.getfield 115, 3) := by decide +kernel
theorem dX7_owner_52 : decode cX7_owner 52 = .ok (.iload_n 1, 1) := by decide +kernel
theorem dX7_owner_53 : decode cX7_owner 53 = .ok (.iaload, 1) := by decide +kernel
theorem dX7_owner_54 : decode cX7_owner 54 = .ok (.invokevirtual 231, 3) := by decide +kernel
theorem dX7_owner_57 : decode cX7_owner 57 = .ok (.invokevirtual 173, 3) := by decide +kernel
theorem dX7_owner_60 : decode cX7_owner 60 = .ok (.ireturn, 1) := by decide +kernel
theorem dX7_wind_0 : decode cX7_wind 0 = .ok (.aload_n 0, 1) := by decide +kernel
theorem dX7_wind_1 : decode cX7_wind 1 = .ok (.iload_n 1, 1) := by decide +kernel
theorem dX7_wind_2 : decode cX7_wind 2 = .ok (.iload_n 2, 1) := by decide +kernel
theorem dX7_wind_3 : decode cX7_wind 3 = .ok (.iload_n 3, 1) := by decide +kernel
theorem dX7_wind_4 : decode cX7_wind 4 = .ok (.invokevirtual 157, 3) := by decide +kernel
theorem dX7_wind_7 : decode cX7_wind 7 = .ok (.ifCond .eq 14, 3) := by decide +kernel
theorem dX7_wind_10 : decode cX7_wind 10 = .ok (.iload 4, 2) := by decide +kernel
theorem dX7_wind_12 : decode cX7_wind 12 = .ok (.iconst 0, 1) := by decide +kernel
theorem dX7_wind_13 : decode cX7_wind 13 = .ok (.bipush 10, 2) := by decide +kernel
theorem dX7_wind_15 : decode cX7_wind 15 = .ok (.invokestatic 70, 3) := by decide +kernel
theorem dX7_wind_18 : decode cX7_wind 18 = .ok (.ifCond .ne 8, 3) := by decide +kernel
theorem dX7_wind_21 : decode cX7_wind 21 = .ok (.aload_n 0, 1) := by decide +kernel
theorem dX7_wind_22 : decode cX7_wind 22 = .ok (.invokevirtual 74, 3) := by decide +kernel
theorem dX7_wind_25 : decode cX7_wind 25 = .ok (.ireturn, 1) := by decide +kernel
theorem dX7_wind_26 : decode cX7_wind 26 = .ok (.aload_n 0, 1) := by decide +kernel
theorem dX7_wind_27 : decode cX7_wind 27 = .ok (.getfield 10, 3) := by decide +kernel
theorem dX7_wind_30 : decode cX7_wind 30 = .ok (.iload_n 1, 1) := by decide +kernel
theorem dX7_wind_31 : decode cX7_wind 31 = .ok (.iload_n 2, 1) := by decide +kernel
theorem dX7_wind_32 : decode cX7_wind 32 = .ok (.iload_n 3, 1) := by decide +kernel
theorem dX7_wind_33 : decode cX7_wind 33 = .ok (.invokevirtual 160, 3) := by decide +kernel
theorem dX7_wind_36 : decode cX7_wind 36 = .ok (.istore 5, 2) := by decide +kernel
theorem dX7_wind_38 : decode cX7_wind 38 = .ok (.iload 5, 2) := by decide +kernel
theorem dX7_wind_40 : decode cX7_wind 40 = .ok (.iload 5, 2) := by decide +kernel
theorem dX7_wind_42 : decode cX7_wind 42 = .ok (.iconst 2, 1) := by decide +kernel
theorem dX7_wind_43 : decode cX7_wind 43 = .ok (.idiv, 1) := by decide +kernel
theorem dX7_wind_44 : decode cX7_wind 44 = .ok (.iadd, 1) := by decide +kernel
theorem dX7_wind_45 : decode cX7_wind 45 = .ok (.istore 6, 2) := by decide +kernel
theorem dX7_wind_47 : decode cX7_wind 47 = .ok (.aload_n 0, 1) := by decide +kernel
theorem dX7_wind_48 : decode cX7_wind 48 = .ok (.iload 4, 2) := by decide +kernel
theorem dX7_wind_50 : decode cX7_wind 50 = .ok (.iload 6, 2) := by decide +kernel
theorem dX7_wind_52 : decode cX7_wind 52 = .ok (.imul, 1) := by decide +kernel
theorem dX7_wind_53 : decode cX7_wind 53 = .ok (.bipush 10, 2) := by decide +kernel
theorem dX7_wind_55 : decode cX7_wind 55 = .ok (.iload 4, 2) := by decide +kernel
theorem dX7_wind_57 : decode cX7_wind 57 = .ok (.isub, 1) := by decide +kernel
theorem dX7_wind_58 : decode cX7_wind 58 = .ok (.iload 5, 2) := by decide +kernel
theorem dX7_wind_60 : decode cX7_wind 60 = .ok (.imul, 1) := by decide +kernel
theorem dX7_wind_61 : decode cX7_wind 61 = .ok (.iadd, 1) := by decide +kernel
theorem dX7_wind_62 : decode cX7_wind 62 = .ok (.bipush 10, 2) := by decide +kernel
theorem dX7_wind_64 : decode cX7_wind 64 = .ok (.invokevirtual 234, 3) := by decide +kernel
theorem dX7_wind_67 : decode cX7_wind 67 = .ok (.iconst 1, 1) := by decide +kernel
theorem dX7_wind_68 : decode cX7_wind 68 = .ok (.ireturn, 1) := by decide +kernel
theorem dX7_years_0 : decode cX7_years 0 = .ok (.iload_n 1, 1) := by decide +kernel
theorem dX7_years_1 : decode cX7_years 1 = .ok (.iconst 0, 1) := by decide +kernel
theorem dX7_years_2 : decode cX7_years 2 = .ok (.ldc 238, 2) := by decide +kernel
theorem dX7_years_4 : decode cX7_years 4 = .ok (.invokestatic 70, 3) := by decide +kernel
theorem dX7_years_7 : decode cX7_years 7 = .ok (.ifCond .eq 13, 3) := by decide +kernel
theorem dX7_years_10 : decode cX7_years 10 = .ok (.iload_n 2, 1) := by decide +kernel
theorem dX7_years_11 : decode cX7_years 11 = .ok (.iconst 0, 1) := by decide +kernel
theorem dX7_years_12 : decode cX7_years 12 = .ok (.bipush 60, 2) := by decide +kernel
theorem dX7_years_14 : decode cX7_years 14 = .ok (.invokestatic 70, 3) := by decide +kernel
theorem dX7_years_17 : decode cX7_years 17 = .ok (.ifCond .ne 8, 3) := by decide +kernel
theorem dX7_years_20 : decode cX7_years 20 = .ok (.aload_n 0, 1) := by decide +kernel
theorem dX7_years_21 : decode cX7_years 21 = .ok (.invokevirtual 74, 3) := by decide +kernel
theorem dX7_years_24 : decode cX7_years 24 = .ok (.ireturn, 1) := by decide +kernel
theorem dX7_years_25 : decode cX7_years 25 = .ok (.aload_n 0, 1) := by decide +kernel
theorem dX7_years_26 : decode cX7_years 26 = .ok (.getfield 49, 3) := by decide +kernel
theorem dX7_years_29 : decode cX7_years 29 = .ok (.aload_n 0, 1) := by decide +kernel
theorem dX7_years_30 : decode cX7_years 30 = .ok (.getfield 10, 3) := by decide +kernel
theorem dX7_years_33 : decode cX7_years 33 = .ok (.getfield 112, 3) := by decide +kernel
theorem dX7_years_36 : decode cX7_years 36 = .ok (.invokevirtual 239, 3) := by decide +kernel
theorem dX7_years_39 : decode cX7_years 39 = .ok (.iload_n 1, 1) := by decide +kernel
theorem dX7_years_40 : decode cX7_years 40 = .ok (.i2l, 1) := by decide +kernel
theorem dX7_years_41 : decode cX7_years 41 = .ok (.lstore_n 3, 1) := by decide +kernel
theorem dX7_years_42 : decode cX7_years 42 = .ok (.iconst 0, 1) := by decide +kernel
theorem dX7_years_43 : decode cX7_years 43 = .ok (.istore 5, 2) := by decide +kernel
theorem dX7_years_45 : decode cX7_years 45 = .ok (.iconst 0, 1) := by decide +kernel
theorem dX7_years_46 : decode cX7_years 46 = .ok (.istore 6, 2) := by decide +kernel
theorem dX7_years_48 : decode cX7_years 48 = .ok (.iload 6, 2) := by decide +kernel
theorem dX7_years_50 : decode cX7_years 50 = .ok (.iload_n 2, 1) := by decide +kernel
theorem dX7_years_51 : decode cX7_years 51 = .ok (.if_icmp .ge 52, 3) := by decide +kernel
theorem dX7_years_54 : decode cX7_years 54 = .ok (.lload_n 3, 1) := by decide +kernel
theorem dX7_years_55 : decode cX7_years 55 = .ok (.ldc2_w 242, 3) := by decide +kernel
theorem dX7_years_58 : decode cX7_years 58 = .ok (.lmul, 1) := by decide +kernel
theorem dX7_years_59 : decode cX7_years 59 = .ok (.ldc2_w 244, 3) := by decide +kernel
theorem dX7_years_62 : decode cX7_years 62 = .ok (.ladd, 1) := by decide +kernel
theorem dX7_years_63 : decode cX7_years 63 = .ok (.ldc2_w 246, 3) := by decide +kernel
theorem dX7_years_66 : decode cX7_years 66 = .ok (.lrem, 1) := by decide +kernel
theorem dX7_years_67 : decode cX7_years 67 = .ok (.lstore_n 3, 1) := by decide +kernel
theorem dX7_years_68 : decode cX7_years 68 = .ok (.iload 5, 2) := by decide +kernel
theorem dX7_years_70 : decode cX7_years 70 = .ok (.aload_n 0, 1) := by decide +kernel
theorem dX7_years_71 : decode cX7_years 71 = .ok (.lload_n 3, 1) := by decide +kernel
theorem dX7_years_72 : decode cX7_years 72 = .ok (.ldc2_w 248, 3) := by decide +kernel
theorem dX7_years_75 : decode cX7_years 75 = .ok (.ldiv, 1) := by decide +kernel
theorem dX7_years_76 : decode cX7_years 76 = .ok (.ldc2_w 250, 3) := by decide +kernel
theorem dX7_years_79 : decode cX7_years 79 = .ok (.lrem, 1) := by decide +kernel
theorem dX7_years_80 : decode cX7_years 80 = .ok (.l2i, 1) := by decide +kernel
theorem dX7_years_81 : decode cX7_years 81 = .ok (.lload_n 3, 1) := by decide +kernel
theorem dX7_years_82 : decode cX7_years 82 = .ok (.ldc2_w 252, 3) := by decide +kernel
theorem dX7_years_85 : decode cX7_years 85 = .ok (.ldiv, 1) := by decide +kernel
theorem dX7_years_86 : decode cX7_years 86 = .ok (.ldc2_w 254, 3) := by decide +kernel
theorem dX7_years_89 : decode cX7_years 89 = .ok (.lrem, 1) := by decide +kernel
theorem dX7_years_90 : decode cX7_years 90 = .ok (.l2i, 1) := by decide +kernel
theorem dX7_years_91 : decode cX7_years 91 = .ok (.invokevirtual 256, 3) := by decide +kernel
theorem dX7_years_94 : decode cX7_years 94 = .ok (.iadd, 1) := by decide +kernel
theorem dX7_years_95 : decode cX7_years 95 = .ok (.istore 5, 2) := by decide +kernel
theorem dX7_years_97 : decode cX7_years 97 = .ok (.iinc 6 1, 3) := by decide +kernel
theorem dX7_years_100 : decode cX7_years 100 = .ok (.goto (-52), 3) := by decide +kernel
theorem dX7_years_103 : decode cX7_years 103 = .ok (.iload 5, 2) := by decide +kernel
theorem dX7_years_105 : decode cX7_years 105 = .ok (.ireturn, 1) := by decide +kernel
theorem dX7_part_0 : decode cX7_part 0 = .ok (.iload_n 1, 1) := by decide +kernel
theorem dX7_part_1 : decode cX7_part 1 = .ok (.ifCond .ne 9, 3) := by decide +kernel
theorem dX7_part_4 : decode cX7_part 4 = .ok (.aload_n 0, 1) := by decide +kernel
theorem dX7_part_5 : decode cX7_part 5 = .ok (.getfield 259, 3) := by decide +kernel
theorem dX7_part_8 : decode cX7_part 8 = .ok (.i2l, 1) := by decide +kernel
theorem dX7_part_9 : decode cX7_part 9 = .ok (.lreturn, 1) := by decide +kernel
theorem dX7_part_10 : decode cX7_part 10 = .ok (.iload_n 1, 1) := by decide +kernel
theorem dX7_part_11 : decode cX7_part 11 = .ok (.iconst 1, 1) := by decide +kernel
theorem dX7_part_12 : decode cX7_part 12 = .ok (.if_icmp .ne 11, 3) := by decide +kernel
theorem dX7_part_15 : decode cX7_part 15 = .ok (.aload_n 0, 1) := by decide +kernel
theorem dX7_part_16 : decode cX7_part 16 = .ok (.getfield 28, 3) := by decide +kernel
theorem dX7_part_19 : decode cX7_part 19 = .ok (.i2l, 1) := by decide +kernel
theorem dX7_part_20 : decode cX7_part 20 = .ok (.goto 8, 3) := by decide +kernel
theorem dX7_part_23 : decode cX7_part 23 = .ok (.aload_n 0, 1) := by decide +kernel
theorem dX7_part_24 : decode cX7_part 24 = .ok (.invokevirtual 74, 3) := by decide +kernel
theorem dX7_part_27 : decode cX7_part 27 = .ok (.i2l, 1) := by decide +kernel
theorem dX7_part_28 : decode cX7_part 28 = .ok (.lreturn, 1) := by decide +kernel
theorem dX7_image_0 : decode cX7_image 0 = .ok (.iload_n 1, 1) := by decide +kernel
theorem dX7_image_1 : decode cX7_image 1 = .ok (.iconst 0, 1) := by decide +kernel
theorem dX7_image_2 : decode cX7_image 2 = .ok (.iconst 1, 1) := by decide +kernel
theorem dX7_image_3 : decode cX7_image 3 = .ok (.invokestatic 70, 3) := by decide +kernel
theorem dX7_image_6 : decode cX7_image 6 = .ok (.ifCond .ne 8, 3) := by decide +kernel
theorem dX7_image_9 : decode cX7_image 9 = .ok (.aload_n 0, 1) := by decide +kernel
theorem dX7_image_10 : decode cX7_image 10 = .ok (.invokevirtual 74, 3) := by decide +kernel
theorem dX7_image_13 : decode cX7_image 13 = .ok (.ireturn, 1) := by decide +kernel
theorem dX7_image_14 : decode cX7_image 14 = .ok (.aload_n 0, 1) := by decide +kernel
theorem dX7_image_15 : decode cX7_image 15 = .ok (.getfield 16, 3) := by decide +kernel
theorem dX7_image_18 : decode cX7_image 18 = .ok (.iload_n 1, 1) := by decide +kernel
theorem dX7_image_19 : decode cX7_image 19 = .ok (.aaload, 1) := by decide +kernel
theorem dX7_image_20 : decode cX7_image 20 = .ok (.aload_n 0, 1) := by decide +kernel
theorem dX7_image_21 : decode cX7_image 21 = .ok (.getfield 10, 3) := by decide +kernel
theorem dX7_image_24 : decode cX7_image 24 = .ok (.invokevirtual 105, 3) := by decide +kernel
theorem dX7_image_27 : decode cX7_image 27 = .ok (.aload_n 0, 1) := by decide +kernel
theorem dX7_image_28 : decode cX7_image 28 = .ok (.getfield 20, 3) := by decide +kernel
theorem dX7_image_31 : decode cX7_image 31 = .ok (.iload_n 1, 1) := by decide +kernel
theorem dX7_image_32 : decode cX7_image 32 = .ok (.iconst 1, 1) := by decide +kernel
theorem dX7_image_33 : decode cX7_image 33 = .ok (.bastore, 1) := by decide +kernel
theorem dX7_image_34 : decode cX7_image 34 = .ok (.iconst 1, 1) := by decide +kernel
theorem dX7_image_35 : decode cX7_image 35 = .ok (.ireturn, 1) := by decide +kernel
theorem dX7_from_0 : decode cX7_from 0 = .ok (.iload_n 1, 1) := by decide +kernel
theorem dX7_from_1 : decode cX7_from 1 = .ok (.iconst 0, 1) := by decide +kernel
theorem dX7_from_2 : decode cX7_from 2 = .ok (.iconst 1, 1) := by decide +kernel
theorem dX7_from_3 : decode cX7_from 3 = .ok (.invokestatic 70, 3) := by decide +kernel
theorem dX7_from_6 : decode cX7_from 6 = .ok (.ifCond .ne 8, 3) := by decide +kernel
theorem dX7_from_9 : decode cX7_from 9 = .ok (.aload_n 0, 1) := by decide +kernel
theorem dX7_from_10 : decode cX7_from 10 = .ok (.invokevirtual 74, 3) := by decide +kernel
theorem dX7_from_13 : decode cX7_from 13 = .ok (.ireturn, 1) := by decide +kernel
theorem dX7_from_14 : decode cX7_from 14 = .ok (.aload_n 0, 1) := by decide +kernel
theorem dX7_from_15 : decode cX7_from 15 = .ok (.getfield 20, 3) := by decide +kernel
theorem dX7_from_18 : decode cX7_from 18 = .ok (.iload_n 1, 1) := by decide +kernel
theorem dX7_from_19 : decode cX7_from 19 = .ok (.baload, 1) := by decide +kernel
theorem dX7_from_20 : decode cX7_from 20 = .ok (.ifCond .ne 8, 3) := by decide +kernel
theorem dX7_from_23 : decode cX7_from 23 = .ok (.aload_n 0, 1) := by decide +kernel
theorem dX7_from_24 : decode cX7_from 24 = .ok (.invokevirtual 122, 3) := by decide +kernel
theorem dX7_from_27 : decode cX7_from 27 = .ok (.ireturn, 1) := by decide +kernel
theorem dX7_from_28 : decode cX7_from 28 = .ok (.aload_n 0, 1) := by decide +kernel
theorem dX7_from_29 : decode cX7_from 29 = .ok (.getfield 10, 3) := by decide +kernel
theorem dX7_from_32 : decode cX7_from 32 = .ok (.aload_n 0, 1) := by decide +kernel
theorem dX7_from_33 : decode cX7_from 33 = .ok (.getfield 16, 3) := by decide +kernel
theorem dX7_from_36 : decode cX7_from 36 = .ok (.iload_n 1, 1) := by decide +kernel
theorem dX7_from_37 : decode cX7_from 37 = .ok (.aaload, 1) := by decide +kernel
theorem dX7_from_38 : decode cX7_from 38 = .ok (.invokevirtual 105, 3) := by decide +kernel
theorem dX7_from_41 : decode cX7_from 41 = .ok (.iconst 1, 1) := by decide +kernel
theorem dX7_from_42 : decode cX7_from 42 = .ok (.ireturn, 1) := by decide +kernel
theorem dX7_status_0 : decode cX7_status 0 = .ok (.iload_n 1, 1) := by decide +kernel
theorem dX7_status_1 : decode cX7_status 1 = .ok (.tableswitch 42 0 2 #[27, 32, 37], 27) := by decide +kernel
theorem dX7_status_28 : decode cX7_status 28 = .ok (.aload_n 0, 1) := by decide +kernel
theorem dX7_status_29 : decode cX7_status 29 = .ok (.getfield 262, 3) := by decide +kernel
theorem dX7_status_32 : decode cX7_status 32 = .ok (.ireturn, 1) := by decide +kernel
theorem dX7_status_33 : decode cX7_status 33 = .ok (.aload_n 0, 1) := by decide +kernel
theorem dX7_status_34 : decode cX7_status 34 = .ok (.getfield 265, 3) := by decide +kernel
theorem dX7_status_37 : decode cX7_status 37 = .ok (.ireturn, 1) := by decide +kernel
theorem dX7_status_38 : decode cX7_status 38 = .ok (.aload_n 0, 1) := by decide +kernel
theorem dX7_status_39 : decode cX7_status 39 = .ok (.getfield 268, 3) := by decide +kernel
theorem dX7_status_42 : decode cX7_status 42 = .ok (.ireturn, 1) := by decide +kernel
theorem dX7_status_43 : decode cX7_status 43 = .ok (.aload_n 0, 1) := by decide +kernel
theorem dX7_status_44 : decode cX7_status 44 = .ok (.invokevirtual 74, 3) := by decide +kernel
theorem dX7_status_47 : decode cX7_status 47 = .ok (.pop, 1) := by decide +kernel
theorem dX7_status_48 : decode cX7_status 48 = .ok (.iconst (-1), 1) := by decide +kernel
theorem dX7_status_49 : decode cX7_status 49 = .ok (.ireturn, 1) := by decide +kernel
theorem dX7_count_0 : decode cX7_count 0 = .ok (.iload_n 1, 1) := by decide +kernel
theorem dX7_count_1 : decode cX7_count 1 = .ok (.iconst 0, 1) := by decide +kernel
theorem dX7_count_2 : decode cX7_count 2 = .ok (.bipush 8, 2) := by decide +kernel
theorem dX7_count_4 : decode cX7_count 4 = .ok (.invokestatic 70, 3) := by decide +kernel
theorem dX7_count_7 : decode cX7_count 7 = .ok (.ifCond .eq 11, 3) := by decide +kernel
theorem dX7_count_10 : decode cX7_count 10 = .ok (.aload_n 0, 1) := by decide +kernel
theorem dX7_count_11 : decode cX7_count 11 = .ok (.iload_n 1, 1) := by decide +kernel
theorem dX7_count_12 : decode cX7_count 12 = .ok (.invokevirtual 271, 3) := by decide +kernel
theorem dX7_count_15 : decode cX7_count 15 = .ok (.goto 7, 3) := by decide +kernel
theorem dX7_count_18 : decode cX7_count 18 = .ok (.aload_n 0, 1) := by decide +kernel
theorem dX7_count_19 : decode cX7_count 19 = .ok (.invokevirtual 74, 3) := by decide +kernel
theorem dX7_count_22 : decode cX7_count 22 = .ok (.ireturn, 1) := by decide +kernel
theorem dX7_digest_0 : decode cX7_digest 0 = .ok (.ldc2_w 274, 3) := by decide +kernel
theorem dX7_digest_3 : decode cX7_digest 3 = .ok (.lstore_n 1, 1) := by decide +kernel
theorem dX7_digest_4 : decode cX7_digest 4 = .ok (.iconst 0, 1) := by decide +kernel
theorem dX7_digest_5 : decode cX7_digest 5 = .ok (.istore_n 3, 1) := by decide +kernel
theorem dX7_digest_6 : decode cX7_digest 6 = .ok (.iload_n 3, 1) := by decide +kernel
theorem dX7_digest_7 : decode cX7_digest 7 = .ok (.bipush 9, 2) := by decide +kernel
theorem dX7_digest_9 : decode cX7_digest 9 = .ok (.if_icmp .ge 22, 3) := by decide +kernel
theorem dX7_digest_12 : decode cX7_digest 12 = .ok (.ldc2_w 276, 3) := by decide +kernel
theorem dX7_digest_15 : decode cX7_digest 15 = .ok (.lload_n 1, 1) := by decide +kernel
theorem dX7_digest_16 : decode cX7_digest 16 = .ok (.lmul, 1) := by decide +kernel
theorem dX7_digest_17 : decode cX7_digest 17 = .ok (.aload_n 0, 1) := by decide +kernel
theorem dX7_digest_18 : decode cX7_digest 18 = .ok (.iload_n 3, 1) := by decide +kernel
theorem dX7_digest_19 : decode cX7_digest 19 = .ok (.invokevirtual 271, 3) := by decide +kernel
theorem dX7_digest_22 : decode cX7_digest 22 = .ok (.i2l, 1) := by decide +kernel
theorem dX7_digest_23 : decode cX7_digest 23 = .ok (.ladd, 1) := by decide +kernel
theorem dX7_digest_24 : decode cX7_digest 24 = .ok (.lstore_n 1, 1) := by decide +kernel
theorem dX7_digest_25 : decode cX7_digest 25 = .ok (.iinc 3 1, 3) := by decide +kernel
theorem dX7_digest_28 : decode cX7_digest 28 = .ok (.goto (-22), 3) := by decide +kernel
theorem dX7_digest_31 : decode cX7_digest 31 = .ok (.aload_n 0, 1) := by decide +kernel
theorem dX7_digest_32 : decode cX7_digest 32 = .ok (.getfield 10, 3) := by decide +kernel
theorem dX7_digest_35 : decode cX7_digest 35 = .ok (.lload_n 1, 1) := by decide +kernel
theorem dX7_digest_36 : decode cX7_digest 36 = .ok (.invokevirtual 278, 3) := by decide +kernel
theorem dX7_digest_39 : decode cX7_digest 39 = .ok (.lstore_n 1, 1) := by decide +kernel
theorem dX7_digest_40 : decode cX7_digest 40 = .ok (.ldc2_w 276, 3) := by decide +kernel
theorem dX7_digest_43 : decode cX7_digest 43 = .ok (.lload_n 1, 1) := by decide +kernel
theorem dX7_digest_44 : decode cX7_digest 44 = .ok (.lmul, 1) := by decide +kernel
theorem dX7_digest_45 : decode cX7_digest 45 = .ok (.aload_n 0, 1) := by decide +kernel
theorem dX7_digest_46 : decode cX7_digest 46 = .ok (.getfield 259, 3) := by decide +kernel
theorem dX7_digest_49 : decode cX7_digest 49 = .ok (.i2l, 1) := by decide +kernel
theorem dX7_digest_50 : decode cX7_digest 50 = .ok (.ladd, 1) := by decide +kernel
theorem dX7_digest_51 : decode cX7_digest 51 = .ok (.lstore_n 1, 1) := by decide +kernel
theorem dX7_digest_52 : decode cX7_digest 52 = .ok (.ldc2_w 276, 3) := by decide +kernel
theorem dX7_digest_55 : decode cX7_digest 55 = .ok (.lload_n 1, 1) := by decide +kernel
theorem dX7_digest_56 : decode cX7_digest 56 = .ok (.lmul, 1) := by decide +kernel
theorem dX7_digest_57 : decode cX7_digest 57 = .ok (.aload_n 0, 1) := by decide +kernel
theorem dX7_digest_58 : decode cX7_digest 58 = .ok (.getfield 28, 3) := by decide +kernel
theorem dX7_digest_61 : decode cX7_digest 61 = .ok (.i2l, 1) := by decide +kernel
theorem dX7_digest_62 : decode cX7_digest 62 = .ok (.ladd, 1) := by decide +kernel
theorem dX7_digest_63 : decode cX7_digest 63 = .ok (.lreturn, 1) := by decide +kernel
theorem dX7_within_0 : decode cX7_within 0 = .ok (.iload_n 0, 1) := by decide +kernel
theorem dX7_within_1 : decode cX7_within 1 = .ok (.iload_n 1, 1) := by decide +kernel
theorem dX7_within_2 : decode cX7_within 2 = .ok (.if_icmp .lt 12, 3) := by decide +kernel
theorem dX7_within_5 : decode cX7_within 5 = .ok (.iload_n 0, 1) := by decide +kernel
theorem dX7_within_6 : decode cX7_within 6 = .ok (.iload_n 2, 1) := by decide +kernel
theorem dX7_within_7 : decode cX7_within 7 = .ok (.if_icmp .gt 7, 3) := by decide +kernel
theorem dX7_within_10 : decode cX7_within 10 = .ok (.iconst 1, 1) := by decide +kernel
theorem dX7_within_11 : decode cX7_within 11 = .ok (.goto 4, 3) := by decide +kernel
theorem dX7_within_14 : decode cX7_within 14 = .ok (.iconst 0, 1) := by decide +kernel
theorem dX7_within_15 : decode cX7_within 15 = .ok (.ireturn, 1) := by decide +kernel
theorem dX7_isKind_0 : decode cX7_isKind 0 = .ok (.iload_n 0, 1) := by decide +kernel
theorem dX7_isKind_1 : decode cX7_isKind 1 = .ok (.iconst 0, 1) := by decide +kernel
theorem dX7_isKind_2 : decode cX7_isKind 2 = .ok (.iconst 5, 1) := by decide +kernel
theorem dX7_isKind_3 : decode cX7_isKind 3 = .ok (.invokestatic 70, 3) := by decide +kernel
theorem dX7_isKind_6 : decode cX7_isKind 6 = .ok (.ireturn, 1) := by decide +kernel
theorem dX7_isDayHour_0 : decode cX7_isDayHour 0 = .ok (.iload_n 0, 1) := by decide +kernel
theorem dX7_isDayHour_1 : decode cX7_isDayHour 1 = .ok (.iconst 0, 1) := by decide +kernel
theorem dX7_isDayHour_2 : decode cX7_isDayHour 2 = .ok (.bipush 23, 2) := by decide +kernel
theorem dX7_isDayHour_4 : decode cX7_isDayHour 4 = .ok (.invokestatic 70, 3) := by decide +kernel
theorem dX7_isDayHour_7 : decode cX7_isDayHour 7 = .ok (.ireturn, 1) := by decide +kernel
theorem dX7_isTrip_0 : decode cX7_isTrip 0 = .ok (.aload_n 0, 1) := by decide +kernel
theorem dX7_isTrip_1 : decode cX7_isTrip 1 = .ok (.getfield 10, 3) := by decide +kernel
theorem dX7_isTrip_4 : decode cX7_isTrip 4 = .ok (.iload_n 1, 1) := by decide +kernel
theorem dX7_isTrip_5 : decode cX7_isTrip 5 = .ok (.invokevirtual 109, 3) := by decide +kernel
theorem dX7_isTrip_8 : decode cX7_isTrip 8 = .ok (.ifCond .eq 29, 3) := by decide +kernel
theorem dX7_isTrip_11 : decode cX7_isTrip 11 = .ok (.aload_n 0, 1) := by decide +kernel
theorem dX7_isTrip_12 : decode cX7_isTrip 12 = .ok (.getfield 10, 3) := by decide +kernel
theorem dX7_isTrip_15 : decode cX7_isTrip 15 = .ok (.iload_n 2, 1) := by decide +kernel
theorem dX7_isTrip_16 : decode cX7_isTrip 16 = .ok (.invokevirtual 85, 3) := by decide +kernel
theorem dX7_isTrip_19 : decode cX7_isTrip 19 = .ok (.ifCond .eq 18, 3) := by decide +kernel
theorem dX7_isTrip_22 : decode cX7_isTrip 22 = .ok (.aload_n 0, 1) := by decide +kernel
theorem dX7_isTrip_23 : decode cX7_isTrip 23 = .ok (.getfield 10, 3) := by decide +kernel
theorem dX7_isTrip_26 : decode cX7_isTrip 26 = .ok (.iload_n 3, 1) := by decide +kernel
theorem dX7_isTrip_27 : decode cX7_isTrip 27 = .ok (.invokevirtual 85, 3) := by decide +kernel
theorem dX7_isTrip_30 : decode cX7_isTrip 30 = .ok (.ifCond .eq 7, 3) := by decide +kernel
theorem dX7_isTrip_33 : decode cX7_isTrip 33 = .ok (.iconst 1, 1) := by decide +kernel
theorem dX7_isTrip_34 : decode cX7_isTrip 34 = .ok (.goto 4, 3) := by decide +kernel
theorem dX7_isTrip_37 : decode cX7_isTrip 37 = .ok (.iconst 0, 1) := by decide +kernel
theorem dX7_isTrip_38 : decode cX7_isTrip 38 = .ok (.ireturn, 1) := by decide +kernel
theorem dX7_refuseBad_0 : decode cX7_refuseBad 0 = .ok (.aload_n 0, 1) := by decide +kernel
theorem dX7_refuseBad_1 : decode cX7_refuseBad 1 = .ok (.dup, 1) := by decide +kernel
theorem dX7_refuseBad_2 : decode cX7_refuseBad 2 = .ok (.getfield 262, 3) := by decide +kernel
theorem dX7_refuseBad_5 : decode cX7_refuseBad 5 = .ok (.iconst 1, 1) := by decide +kernel
theorem dX7_refuseBad_6 : decode cX7_refuseBad 6 = .ok (.iadd, 1) := by decide +kernel
theorem dX7_refuseBad_7 : decode cX7_refuseBad 7 = .ok (.putfield 262, 3) := by decide +kernel
theorem dX7_refuseBad_10 : decode cX7_refuseBad 10 = .ok (.bipush (-2), 2) := by decide +kernel
theorem dX7_refuseBad_12 : decode cX7_refuseBad 12 = .ok (.ireturn, 1) := by decide +kernel
theorem dX7_refuseList_0 : decode cX7_refuseList 0 = .ok (.aload_n 0, 1) := by decide +kernel
theorem dX7_refuseList_1 : decode cX7_refuseList 1 = .ok (.dup, 1) := by decide +kernel
theorem dX7_refuseList_2 : decode cX7_refuseList 2 = .ok (.getfield 262, 3) := by decide +kernel
theorem dX7_refuseList_5 : decode cX7_refuseList 5 = .ok (.iconst 1, 1) := by decide +kernel
theorem dX7_refuseList_6 : decode cX7_refuseList 6 = .ok (.iadd, 1) := by decide +kernel
theorem dX7_refuseList_7 : decode cX7_refuseList 7 = .ok (.putfield 262, 3) := by decide +kernel
theorem dX7_refuseList_10 : decode cX7_refuseList 10 = .ok (.bipush (-10), 2) := by decide +kernel
theorem dX7_refuseList_12 : decode cX7_refuseList 12 = .ok (.ireturn, 1) := by decide +kernel
theorem dX7_refuseNo_0 : decode cX7_refuseNo 0 = .ok (.aload_n 0, 1) := by decide +kernel
theorem dX7_refuseNo_1 : decode cX7_refuseNo 1 = .ok (.dup, 1) := by decide +kernel
theorem dX7_refuseNo_2 : decode cX7_refuseNo 2 = .ok (.getfield 265, 3) := by decide +kernel
theorem dX7_refuseNo_5 : decode cX7_refuseNo 5 = .ok (.iconst 1, 1) := by decide +kernel
theorem dX7_refuseNo_6 : decode cX7_refuseNo 6 = .ok (.iadd, 1) := by decide +kernel
theorem dX7_refuseNo_7 : decode cX7_refuseNo 7 = .ok (.putfield 265, 3) := by decide +kernel
theorem dX7_refuseNo_10 : decode cX7_refuseNo 10 = .ok (.bipush (-3), 2) := by decide +kernel
theorem dX7_refuseNo_12 : decode cX7_refuseNo 12 = .ok (.ireturn, 1) := by decide +kernel
theorem dX7_refuseFull_0 : decode cX7_refuseFull 0 = .ok (.aload_n 0, 1) := by decide +kernel
theorem dX7_refuseFull_1 : decode cX7_refuseFull 1 = .ok (.dup, 1) := by decide +kernel
theorem dX7_refuseFull_2 : decode cX7_refuseFull 2 = .ok (.getfield 268, 3) := by decide +kernel
theorem dX7_refuseFull_5 : decode cX7_refuseFull 5 = .ok (.iconst 1, 1) := by decide +kernel
theorem dX7_refuseFull_6 : decode cX7_refuseFull 6 = .ok (.iadd, 1) := by decide +kernel
theorem dX7_refuseFull_7 : decode cX7_refuseFull 7 = .ok (.putfield 268, 3) := by decide +kernel
theorem dX7_refuseFull_10 : decode cX7_refuseFull 10 = .ok (.bipush (-4), 2) := by decide +kernel
theorem dX7_refuseFull_12 : decode cX7_refuseFull 12 = .ok (.ireturn, 1) := by decide +kernel
theorem dX7_amount_0 : decode cX7_amount 0 = .ok (.iload_n 1, 1) := by decide +kernel
theorem dX7_amount_1 : decode cX7_amount 1 = .ok (.tableswitch 126 0 7 #[47, 55, 63, 74, 85, 96, 107, 118], 47) := by decide +kernel
theorem dX7_amount_48 : decode cX7_amount 48 = .ok (.aload_n 0, 1) := by decide +kernel
theorem dX7_amount_49 : decode cX7_amount 49 = .ok (.getfield 10, 3) := by decide +kernel
theorem dX7_amount_52 : decode cX7_amount 52 = .ok (.getfield 60, 3) := by decide +kernel
theorem dX7_amount_55 : decode cX7_amount 55 = .ok (.ireturn, 1) := by decide +kernel
theorem dX7_amount_56 : decode cX7_amount 56 = .ok (.aload_n 0, 1) := by decide +kernel
theorem dX7_amount_57 : decode cX7_amount 57 = .ok (.getfield 10, 3) := by decide +kernel
theorem dX7_amount_60 : decode cX7_amount 60 = .ok (.getfield 88, 3) := by decide +kernel
theorem dX7_amount_63 : decode cX7_amount 63 = .ok (.ireturn, 1) := by decide +kernel
theorem dX7_amount_64 : decode cX7_amount 64 = .ok (.aload_n 0, 1) := by decide +kernel
theorem dX7_amount_65 : decode cX7_amount 65 = .ok (.getfield 10, 3) := by decide +kernel
theorem dX7_amount_68 : decode cX7_amount 68 = .ok (.getfield 112, 3) := by decide +kernel
theorem dX7_amount_71 : decode cX7_amount 71 = .ok (.getfield 119, 3) := by decide +kernel
theorem dX7_amount_74 : decode cX7_amount 74 = .ok (.ireturn, 1) := by decide +kernel
theorem dX7_amount_75 : decode cX7_amount 75 = .ok (.aload_n 0, 1) := by decide +kernel
theorem dX7_amount_76 : decode cX7_amount 76 = .ok (.getfield 10, 3) := by decide +kernel
theorem dX7_amount_79 : decode cX7_amount 79 = .ok (.getfield 112, 3) := by decide +kernel
theorem dX7_amount_82 : decode cX7_amount 82 = .ok (.getfield 189, 3) := by decide +kernel
theorem dX7_amount_85 : decode cX7_amount 85 = .ok (.ireturn, 1) := by decide +kernel
theorem dX7_amount_86 : decode cX7_amount 86 = .ok (.aload_n 0, 1) := by decide +kernel
theorem dX7_amount_87 : decode cX7_amount 87 = .ok (.getfield 10, 3) := by decide +kernel
theorem dX7_amount_90 : decode cX7_amount 90 = .ok (.getfield 112, 3) := by decide +kernel
theorem dX7_amount_93 : decode cX7_amount 93 = .ok (.invokevirtual 282, 3) := by decide +kernel
theorem dX7_amount_96 : decode cX7_amount 96 = .ok (.ireturn, 1) := by decide +kernel
theorem dX7_amount_97 : decode cX7_amount 97 = .ok (.aload_n 0, 1) := by decide +kernel
theorem dX7_amount_98 : decode cX7_amount 98 = .ok (.getfield 10, 3) := by decide +kernel
theorem dX7_amount_101 : decode cX7_amount 101 = .ok (.getfield 202, 3) := by decide +kernel
theorem dX7_amount_104 : decode cX7_amount 104 = .ok (.getfield 285, 3) := by decide +kernel
theorem dX7_amount_107 : decode cX7_amount 107 = .ok (.ireturn, 1) := by decide +kernel
theorem dX7_amount_108 : decode cX7_amount 108 = .ok (.aload_n 0, 1) := by decide +kernel
theorem dX7_amount_109 : decode cX7_amount 109 = .ok (.getfield 10, 3) := by decide +kernel
theorem dX7_amount_112 : decode cX7_amount 112 = .ok (.getfield 215, 3) := by decide +kernel
theorem dX7_amount_115 : decode cX7_amount 115 = .ok (.getfield 285, 3) := by decide +kernel
theorem dX7_amount_118 : decode cX7_amount 118 = .ok (.ireturn, 1) := by decide +kernel
theorem dX7_amount_119 : decode cX7_amount 119 = .ok (.aload_n 0, 1) := by decide +kernel
theorem dX7_amount_120 : decode cX7_amount 120 = .ok (.getfield 10, 3) := by decide +kernel
theorem dX7_amount_123 : decode cX7_amount 123 = .ok (.getfield 142, 3) := by decide +kernel
theorem dX7_amount_126 : decode cX7_amount 126 = .ok (.ireturn, 1) := by decide +kernel
theorem dX7_amount_127 : decode cX7_amount 127 = .ok (.aload_n 0, 1) := by decide +kernel
theorem dX7_amount_128 : decode cX7_amount 128 = .ok (.getfield 95, 3) := by decide +kernel
theorem dX7_amount_131 : decode cX7_amount 131 = .ok (.ireturn, 1) := by decide +kernel
theorem dX7_keepFraction_0 : decode cX7_keepFraction 0 = .ok (.iload_n 1, 1) := by decide +kernel
theorem dX7_keepFraction_1 : decode cX7_keepFraction 1 = .ok (.istore_n 3, 1) := by decide +kernel
theorem dX7_keepFraction_2 : decode cX7_keepFraction 2 = .ok (.iload_n 2, 1) := by decide +kernel
theorem dX7_keepFraction_3 : decode cX7_keepFraction 3 = .ok (.istore 4, 2) := by decide +kernel
theorem dX7_keepFraction_5 : decode cX7_keepFraction 5 = .ok (.iconst 0, 1) := by decide +kernel
theorem dX7_keepFraction_6 : decode cX7_keepFraction 6 = .ok (.istore 5, 2) := by decide +kernel
theorem dX7_keepFraction_8 : decode cX7_keepFraction 8 = .ok (.iload 5, 2) := by decide +kernel
theorem dX7_keepFraction_10 : decode cX7_keepFraction 10 = .ok (.bipush 64, 2) := by decide +kernel
theorem dX7_keepFraction_12 : decode cX7_keepFraction 12 = .ok (.if_icmp .ge 27, 3) := by decide +kernel
theorem dX7_keepFraction_15 : decode cX7_keepFraction 15 = .ok (.iload 4, 2) := by decide +kernel
theorem dX7_keepFraction_17 : decode cX7_keepFraction 17 = .ok (.ifCond .eq 22, 3) := by decide +kernel
theorem dX7_keepFraction_20 : decode cX7_keepFraction 20 = .ok (.iload_n 3, 1) := by decide +kernel
theorem dX7_keepFraction_21 : decode cX7_keepFraction 21 = .ok (.iload 4, 2) := by decide +kernel
theorem dX7_keepFraction_23 : decode cX7_keepFraction 23 = .ok (.irem, 1) := by decide +kernel
theorem dX7_keepFraction_24 : decode cX7_keepFraction 24 = .ok (.istore 6, 2) := by decide +kernel
theorem dX7_keepFraction_26 : decode cX7_keepFraction 26 = .ok (.iload 4, 2) := by decide +kernel
theorem dX7_keepFraction_28 : decode cX7_keepFraction 28 = .ok (.istore_n 3, 1) := by decide +kernel
theorem dX7_keepFraction_29 : decode cX7_keepFraction 29 = .ok (.iload 6, 2) := by decide +kernel
theorem dX7_keepFraction_31 : decode cX7_keepFraction 31 = .ok (.istore 4, 2) := by decide +kernel
theorem dX7_keepFraction_33 : decode cX7_keepFraction 33 = .ok (.iinc 5 1, 3) := by decide +kernel
theorem dX7_keepFraction_36 : decode cX7_keepFraction 36 = .ok (.goto (-28), 3) := by decide +kernel
theorem dX7_keepFraction_39 : decode cX7_keepFraction 39 = .ok (.iload_n 3, 1) := by decide +kernel
theorem dX7_keepFraction_40 : decode cX7_keepFraction 40 = .ok (.ifCond .ne 7, 3) := by decide +kernel
theorem dX7_keepFraction_43 : decode cX7_keepFraction 43 = .ok (.iconst 1, 1) := by decide +kernel
theorem dX7_keepFraction_44 : decode cX7_keepFraction 44 = .ok (.goto 4, 3) := by decide +kernel
theorem dX7_keepFraction_47 : decode cX7_keepFraction 47 = .ok (.iload_n 3, 1) := by decide +kernel
theorem dX7_keepFraction_48 : decode cX7_keepFraction 48 = .ok (.istore 5, 2) := by decide +kernel
theorem dX7_keepFraction_50 : decode cX7_keepFraction 50 = .ok (.aload_n 0, 1) := by decide +kernel
theorem dX7_keepFraction_51 : decode cX7_keepFraction 51 = .ok (.iload_n 1, 1) := by decide +kernel
theorem dX7_keepFraction_52 : decode cX7_keepFraction 52 = .ok (.iload 5, 2) := by decide +kernel
theorem dX7_keepFraction_54 : decode cX7_keepFraction 54 = .ok (.idiv, 1) := by decide +kernel
theorem dX7_keepFraction_55 : decode cX7_keepFraction 55 = .ok (.putfield 259, 3) := by decide +kernel
theorem dX7_keepFraction_58 : decode cX7_keepFraction 58 = .ok (.aload_n 0, 1) := by decide +kernel
theorem dX7_keepFraction_59 : decode cX7_keepFraction 59 = .ok (.iload_n 2, 1) := by decide +kernel
theorem dX7_keepFraction_60 : decode cX7_keepFraction 60 = .ok (.iload 5, 2) := by decide +kernel
theorem dX7_keepFraction_62 : decode cX7_keepFraction 62 = .ok (.idiv, 1) := by decide +kernel
theorem dX7_keepFraction_63 : decode cX7_keepFraction 63 = .ok (.putfield 28, 3) := by decide +kernel
theorem dX7_keepFraction_66 : decode cX7_keepFraction 66 = .ok (.return_, 1) := by decide +kernel
theorem dX7_travel_0 : decode cX7_travel 0 = .ok (.iload_n 1, 1) := by decide +kernel
theorem dX7_travel_1 : decode cX7_travel 1 = .ok (.aload_n 0, 1) := by decide +kernel
theorem dX7_travel_2 : decode cX7_travel 2 = .ok (.getfield 10, 3) := by decide +kernel
theorem dX7_travel_5 : decode cX7_travel 5 = .ok (.getfield 88, 3) := by decide +kernel
theorem dX7_travel_8 : decode cX7_travel 8 = .ok (.if_icmp .lt 18, 3) := by decide +kernel
theorem dX7_travel_11 : decode cX7_travel 11 = .ok (.aload_n 0, 1) := by decide +kernel
theorem dX7_travel_12 : decode cX7_travel 12 = .ok (.getfield 49, 3) := by decide +kernel
theorem dX7_travel_15 : decode cX7_travel 15 = .ok (.dup, 1) := by decide +kernel
theorem dX7_travel_16 : decode cX7_travel 16 = .ok (.getfield 119, 3) := by decide +kernel
theorem dX7_travel_19 : decode cX7_travel 19 = .ok (.iconst 1, 1) := by decide +kernel
theorem dX7_travel_20 : decode cX7_travel 20 = .ok (.iadd, 1) := by decide +kernel
theorem dX7_travel_21 : decode cX7_travel 21 = .ok (.putfield 119, 3) := by decide +kernel
theorem dX7_travel_24 : decode cX7_travel 24 = .ok (.iconst 0, 1) := by decide +kernel
theorem dX7_travel_25 : decode cX7_travel 25 = .ok (.ireturn, 1) := by decide +kernel
theorem dX7_travel_26 : decode cX7_travel 26 = .ok (.iload_n 2, 1) := by decide +kernel
theorem dX7_travel_27 : decode cX7_travel 27 = .ok (.aload_n 0, 1) := by decide +kernel
theorem dX7_travel_28 : decode cX7_travel 28 = .ok (.getfield 10, 3) := by decide +kernel
theorem dX7_travel_31 : decode cX7_travel 31 = .ok (.getfield 60, 3) := by decide +kernel
theorem dX7_travel_34 : decode cX7_travel 34 = .ok (.if_icmp .ge 30, 3) := by decide +kernel
theorem dX7_travel_37 : decode cX7_travel 37 = .ok (.iload_n 2, 1) := by decide +kernel
theorem dX7_travel_38 : decode cX7_travel 38 = .ok (.aload_n 0, 1) := by decide +kernel
theorem dX7_travel_39 : decode cX7_travel 39 = .ok (.getfield 49, 3) := by decide +kernel
theorem dX7_travel_42 : decode cX7_travel 42 = .ok (.getfield 115, 3) := by decide +kernel
theorem dX7_travel_45 : decode cX7_travel 45 = .ok (.iload_n 1, 1) := by decide +kernel
theorem dX7_travel_46 : decode cX7_travel 46 = .ok (.iaload, 1) := by decide +kernel
theorem dX7_travel_47 : decode cX7_travel 47 = .ok (.if_icmp .eq 17, 3) := by decide +kernel
theorem dX7_travel_50 : decode cX7_travel 50 = .ok (.aload_n 0, 1) := by decide +kernel
theorem dX7_travel_51 : decode cX7_travel 51 = .ok (.getfield 10, 3) := by decide +kernel
theorem dX7_travel_54 : decode cX7_travel 54 = .ok (.aload_n 0, 1) := by decide +kernel
theorem dX7_travel_55 : decode cX7_travel 55 = .ok (.getfield 49, 3) := by decide +kernel
theorem dX7_travel_58 : decode cX7_travel 58 = .ok (.iload_n 1, 1) := by decide +kernel
theorem dX7_travel_59 : decode cX7_travel 59 = .ok (.iload_n 2, 1) := by decide +kernel
theorem dX7_travel_60 : decode cX7_travel 60 = .ok (.invokevirtual 128, 3) := by decide +kernel
theorem dX7_travel_63 : decode cX7_travel 63 = .ok (.ireturn, 1) := by decide +kernel
theorem dX7_travel_64 : decode cX7_travel 64 = .ok (.aload_n 0, 1) := by decide +kernel
theorem dX7_travel_65 : decode cX7_travel 65 = .ok (.getfield 49, 3) := by decide +kernel
theorem dX7_travel_68 : decode cX7_travel 68 = .ok (.iload_n 1, 1) := by decide +kernel
theorem dX7_travel_69 : decode cX7_travel 69 = .ok (.invokevirtual 135, 3) := by decide +kernel
theorem dX7_travel_72 : decode cX7_travel 72 = .ok (.iconst 0, 1) := by decide +kernel
theorem dX7_travel_73 : decode cX7_travel 73 = .ok (.ireturn, 1) := by decide +kernel
theorem dX8_init_0 : decode cX8_init 0 = .ok (.aload_n 0, 1) := by decide +kernel
theorem dX8_init_1 : decode cX8_init 1 = .ok (.invokespecial 1, 3) := by decide +kernel
theorem dX8_init_4 : decode cX8_init 4 = .ok (.aload_n 0, 1) := by decide +kernel
theorem dX8_init_5 : decode cX8_init 5 = .ok (.sipush 1960, 3) := by decide +kernel
theorem dX8_init_8 : decode cX8_init 8 = .ok (.newarray .int, 2) := by decide +kernel
theorem dX8_init_10 : decode cX8_init 10 = .ok (.putfield 7, 3) := by decide +kernel
theorem dX8_init_13 : decode cX8_init 13 = .ok (.aload_n 0, 1) := by decide +kernel
theorem dX8_init_14 : decode cX8_init 14 = .ok (.sipush 150, 3) := by decide +kernel
theorem dX8_init_17 : decode cX8_init 17 = .ok (.newarray .int, 2) := by decide +kernel
theorem dX8_init_19 : decode cX8_init 19 = .ok (.putfield 13, 3) := by decide +kernel
theorem dX8_init_22 : decode cX8_init 22 = .ok (.aload_n 0, 1) := by decide +kernel
theorem dX8_init_23 : decode cX8_init 23 = .ok (.lconst 1, 1) := by decide +kernel
theorem dX8_init_24 : decode cX8_init 24 = .ok (.putfield 16, 3) := by decide +kernel
theorem dX8_init_27 : decode cX8_init 27 = .ok (.aload_n 0, 1) := by decide +kernel
theorem dX8_init_28 : decode cX8_init 28 = .ok (.sipush 896, 3) := by decide +kernel
theorem dX8_init_31 : decode cX8_init 31 = .ok (.newarray .int, 2) := by decide +kernel
theorem dX8_init_33 : decode cX8_init 33 = .ok (.putfield 20, 3) := by decide +kernel
theorem dX8_init_36 : decode cX8_init 36 = .ok (.aload_n 0, 1) := by decide +kernel
theorem dX8_init_37 : decode cX8_init 37 = .ok (.bipush 49, 2) := by decide +kernel
theorem dX8_init_39 : decode cX8_init 39 = .ok (.newarray .int, 2) := by decide +kernel
theorem dX8_init_41 : decode cX8_init 41 = .ok (.putfield 23, 3) := by decide +kernel
theorem dX8_init_44 : decode cX8_init 44 = .ok (.aload_n 0, 1) := by decide +kernel
theorem dX8_init_45 : decode cX8_init 45 = .ok (.bipush 6, 2) := by decide +kernel
theorem dX8_init_47 : decode cX8_init 47 = .ok (.newarray .int, 2) := by decide +kernel
theorem dX8_init_49 : decode cX8_init 49 = .ok (.putfield 26, 3) := by decide +kernel
theorem dX8_init_52 : decode cX8_init 52 = .ok (.aload_n 0, 1) := by decide +kernel
theorem dX8_init_53 : decode cX8_init 53 = .ok (.getfield 7, 3) := by decide +kernel
theorem dX8_init_56 : decode cX8_init 56 = .ok (.bipush 6, 2) := by decide +kernel
theorem dX8_init_58 : decode cX8_init 58 = .ok (.iconst 0, 1) := by decide +kernel
theorem dX8_init_59 : decode cX8_init 59 = .ok (.iastore, 1) := by decide +kernel
theorem dX8_init_60 : decode cX8_init 60 = .ok (.return_, 1) := by decide +kernel
theorem dX8_in_0 : decode cX8_in 0 = .ok (.iload_n 0, 1) := by decide +kernel
theorem dX8_in_1 : decode cX8_in 1 = .ok (.iload_n 1, 1) := by decide +kernel
theorem dX8_in_2 : decode cX8_in 2 = .ok (.if_icmp .lt 12, 3) := by decide +kernel
theorem dX8_in_5 : decode cX8_in 5 = .ok (.iload_n 0, 1) := by decide +kernel
theorem dX8_in_6 : decode cX8_in 6 = .ok (.iload_n 2, 1) := by decide +kernel
theorem dX8_in_7 : decode cX8_in 7 = .ok (.if_icmp .gt 7, 3) := by decide +kernel
theorem dX8_in_10 : decode cX8_in 10 = .ok (.iconst 1, 1) := by decide +kernel
theorem dX8_in_11 : decode cX8_in 11 = .ok (.goto 4, 3) := by decide +kernel
theorem dX8_in_14 : decode cX8_in 14 = .ok (.iconst 0, 1) := by decide +kernel
theorem dX8_in_15 : decode cX8_in 15 = .ok (.ireturn, 1) := by decide +kernel
theorem dX8_has_0 : decode cX8_has 0 = .ok (.iload_n 0, 1) := by decide +kernel
theorem dX8_has_1 : decode cX8_has 1 = .ok (.iload_n 1, 1) := by decide +kernel
theorem dX8_has_2 : decode cX8_has 2 = .ok (.ishr, 1) := by decide +kernel
theorem dX8_has_3 : decode cX8_has 3 = .ok (.iconst 1, 1) := by decide +kernel
theorem dX8_has_4 : decode cX8_has 4 = .ok (.iand, 1) := by decide +kernel
theorem dX8_has_5 : decode cX8_has 5 = .ok (.iconst 1, 1) := by decide +kernel
theorem dX8_has_6 : decode cX8_has 6 = .ok (.if_icmp .ne 7, 3) := by decide +kernel
theorem dX8_has_9 : decode cX8_has 9 = .ok (.iconst 1, 1) := by decide +kernel
theorem dX8_has_10 : decode cX8_has 10 = .ok (.goto 4, 3) := by decide +kernel
theorem dX8_has_13 : decode cX8_has 13 = .ok (.iconst 0, 1) := by decide +kernel
theorem dX8_has_14 : decode cX8_has 14 = .ok (.ireturn, 1) := by decide +kernel
theorem dX8_bad_0 : decode cX8_bad 0 = .ok (.aload_n 0, 1) := by decide +kernel
theorem dX8_bad_1 : decode cX8_bad 1 = .ok (.dup, 1) := by decide +kernel
theorem dX8_bad_2 : decode cX8_bad 2 = .ok (.getfield 29, 3) := by decide +kernel
theorem dX8_bad_5 : decode cX8_bad 5 = .ok (.iconst 1, 1) := by decide +kernel
theorem dX8_bad_6 : decode cX8_bad 6 = .ok (.iadd, 1) := by decide +kernel
theorem dX8_bad_7 : decode cX8_bad 7 = .ok (.putfield 29, 3) := by decide +kernel
theorem dX8_bad_10 : decode cX8_bad 10 = .ok (.bipush (-2), 2) := by decide +kernel
theorem dX8_bad_12 : decode cX8_bad 12 = .ok (.ireturn, 1) := by decide +kernel
theorem dX8_badTen_0 : decode cX8_badTen 0 = .ok (.aload_n 0, 1) := by decide +kernel
theorem dX8_badTen_1 : decode cX8_badTen 1 = .ok (.dup, 1) := by decide +kernel
theorem dX8_badTen_2 : decode cX8_badTen 2 = .ok (.getfield 29, 3) := by decide +kernel
theorem dX8_badTen_5 : decode cX8_badTen 5 = .ok (.iconst 1, 1) := by decide +kernel
theorem dX8_badTen_6 : decode cX8_badTen 6 = .ok (.iadd, 1) := by decide +kernel
theorem dX8_badTen_7 : decode cX8_badTen 7 = .ok (.putfield 29, 3) := by decide +kernel
theorem dX8_badTen_10 : decode cX8_badTen 10 = .ok (.bipush (-10), 2) := by decide +kernel
theorem dX8_badTen_12 : decode cX8_badTen 12 = .ok (.ireturn, 1) := by decide +kernel
theorem dX8_no_0 : decode cX8_no 0 = .ok (.aload_n 0, 1) := by decide +kernel
theorem dX8_no_1 : decode cX8_no 1 = .ok (.dup, 1) := by decide +kernel
theorem dX8_no_2 : decode cX8_no 2 = .ok (.getfield 33, 3) := by decide +kernel
theorem dX8_no_5 : decode cX8_no 5 = .ok (.iconst 1, 1) := by decide +kernel
theorem dX8_no_6 : decode cX8_no 6 = .ok (.iadd, 1) := by decide +kernel
theorem dX8_no_7 : decode cX8_no 7 = .ok (.putfield 33, 3) := by decide +kernel
theorem dX8_no_10 : decode cX8_no 10 = .ok (.bipush (-3), 2) := by decide +kernel
theorem dX8_no_12 : decode cX8_no 12 = .ok (.ireturn, 1) := by decide +kernel
theorem dX8_full_0 : decode cX8_full 0 = .ok (.aload_n 0, 1) := by decide +kernel
theorem dX8_full_1 : decode cX8_full 1 = .ok (.dup, 1) := by decide +kernel
theorem dX8_full_2 : decode cX8_full 2 = .ok (.getfield 36, 3) := by decide +kernel
theorem dX8_full_5 : decode cX8_full 5 = .ok (.iconst 1, 1) := by decide +kernel
theorem dX8_full_6 : decode cX8_full 6 = .ok (.iadd, 1) := by decide +kernel
theorem dX8_full_7 : decode cX8_full 7 = .ok (.putfield 36, 3) := by decide +kernel
theorem dX8_full_10 : decode cX8_full 10 = .ok (.bipush (-4), 2) := by decide +kernel
theorem dX8_full_12 : decode cX8_full 12 = .ok (.ireturn, 1) := by decide +kernel
theorem dX8_copyRow_0 : decode cX8_copyRow 0 = .ok (.iconst 0, 1) := by decide +kernel
theorem dX8_copyRow_1 : decode cX8_copyRow 1 = .ok (.istore 4, 2) := by decide +kernel
theorem dX8_copyRow_3 : decode cX8_copyRow 3 = .ok (.iload 4, 2) := by decide +kernel
theorem dX8_copyRow_5 : decode cX8_copyRow 5 = .ok (.iload_n 3, 1) := by decide +kernel
theorem dX8_copyRow_6 : decode cX8_copyRow 6 = .ok (.if_icmp .ge 27, 3) := by decide +kernel
theorem dX8_copyRow_9 : decode cX8_copyRow 9 = .ok (.aload_n 0, 1) := by decide +kernel
theorem dX8_copyRow_10 : decode cX8_copyRow 10 = .ok (.getfield 7, 3) := by decide +kernel
theorem dX8_copyRow_13 : decode cX8_copyRow 13 = .ok (.iload_n 2, 1) := by decide +kernel
theorem dX8_copyRow_14 : decode cX8_copyRow 14 = .ok (.iload 4, 2) := by decide +kernel
theorem dX8_copyRow_16 : decode cX8_copyRow 16 = .ok (.iadd, 1) := by decide +kernel
theorem dX8_copyRow_17 : decode cX8_copyRow 17 = .ok (.aload_n 0, 1) := by decide +kernel
theorem dX8_copyRow_18 : decode cX8_copyRow 18 = .ok (.getfield 7, 3) := by decide +kernel
theorem dX8_copyRow_21 : decode cX8_copyRow 21 = .ok (.iload_n 1, 1) := by decide +kernel
theorem dX8_copyRow_22 : decode cX8_copyRow 22 = .ok (.iload 4, 2) := by decide +kernel
theorem dX8_copyRow_24 : decode cX8_copyRow 24 = .ok (.iadd, 1) := by decide +kernel
theorem dX8_copyRow_25 : decode cX8_copyRow 25 = .ok (.iaload, 1) := by decide +kernel
theorem dX8_copyRow_26 : decode cX8_copyRow 26 = .ok (.iastore, 1) := by decide +kernel
theorem dX8_copyRow_27 : decode cX8_copyRow 27 = .ok (.iinc 4 1, 3) := by decide +kernel
theorem dX8_copyRow_30 : decode cX8_copyRow 30 = .ok (.goto (-27), 3) := by decide +kernel
theorem dX8_copyRow_33 : decode cX8_copyRow 33 = .ok (.return_, 1) := by decide +kernel
theorem dX8_clearRow_0 : decode cX8_clearRow 0 = .ok (.iconst 0, 1) := by decide +kernel
theorem dX8_clearRow_1 : decode cX8_clearRow 1 = .ok (.istore_n 2, 1) := by decide +kernel
theorem dX8_clearRow_2 : decode cX8_clearRow 2 = .ok (.iload_n 2, 1) := by decide +kernel
theorem dX8_clearRow_3 : decode cX8_clearRow 3 = .ok (.sipush 479, 3) := by decide +kernel
theorem dX8_clearRow_6 : decode cX8_clearRow 6 = .ok (.if_icmp .ge 18, 3) := by decide +kernel
theorem dX8_clearRow_9 : decode cX8_clearRow 9 = .ok (.aload_n 0, 1) := by decide +kernel
theorem dX8_clearRow_10 : decode cX8_clearRow 10 = .ok (.getfield 7, 3) := by decide +kernel
theorem dX8_clearRow_13 : decode cX8_clearRow 13 = .ok (.iload_n 1, 1) := by decide +kernel
theorem dX8_clearRow_14 : decode cX8_clearRow 14 = .ok (.iload_n 2, 1) := by decide +kernel
theorem dX8_clearRow_15 : decode cX8_clearRow 15 = .ok (.iadd, 1) := by decide +kernel
theorem dX8_clearRow_16 : decode cX8_clearRow 16 = .ok (.iconst 0, 1) := by decide +kernel
theorem dX8_clearRow_17 : decode cX8_clearRow 17 = .ok (.iastore, 1) := by decide +kernel
theorem dX8_clearRow_18 : decode cX8_clearRow 18 = .ok (.iinc 2 1, 3) := by decide +kernel
theorem dX8_clearRow_21 : decode cX8_clearRow 21 = .ok (.goto (-19), 3) := by decide +kernel
theorem dX8_clearRow_24 : decode cX8_clearRow 24 = .ok (.return_, 1) := by decide +kernel
theorem dX8_isPlace_0 : decode cX8_isPlace 0 = .ok (.iload_n 1, 1) := by decide +kernel
theorem dX8_isPlace_1 : decode cX8_isPlace 1 = .ok (.iconst 0, 1) := by decide +kernel
theorem dX8_isPlace_2 : decode cX8_isPlace 2 = .ok (.aload_n 0, 1) := by decide +kernel
theorem dX8_isPlace_3 : decode cX8_isPlace 3 = .ok (.getfield 7, 3) := by decide +kernel
theorem dX8_isPlace_6 : decode cX8_isPlace 6 = .ok (.sipush 418, 3) := by decide +kernel
theorem dX8_isPlace_9 : decode cX8_isPlace 9 = .ok (.iaload, 1) := by decide +kernel
theorem dX8_isPlace_10 : decode cX8_isPlace 10 = .ok (.iconst 1, 1) := by decide +kernel
theorem dX8_isPlace_11 : decode cX8_isPlace 11 = .ok (.isub, 1) := by decide +kernel
theorem dX8_isPlace_12 : decode cX8_isPlace 12 = .ok (.invokestatic 39, 3) := by decide +kernel
theorem dX8_isPlace_15 : decode cX8_isPlace 15 = .ok (.ireturn, 1) := by decide +kernel
theorem dX8_isCrow_0 : decode cX8_isCrow 0 = .ok (.iload_n 1, 1) := by decide +kernel
theorem dX8_isCrow_1 : decode cX8_isCrow 1 = .ok (.iconst 0, 1) := by decide +kernel
theorem dX8_isCrow_2 : decode cX8_isCrow 2 = .ok (.aload_n 0, 1) := by decide +kernel
theorem dX8_isCrow_3 : decode cX8_isCrow 3 = .ok (.getfield 7, 3) := by decide +kernel
theorem dX8_isCrow_6 : decode cX8_isCrow 6 = .ok (.sipush 422, 3) := by decide +kernel
theorem dX8_isCrow_9 : decode cX8_isCrow 9 = .ok (.iaload, 1) := by decide +kernel
theorem dX8_isCrow_10 : decode cX8_isCrow 10 = .ok (.iconst 1, 1) := by decide +kernel
theorem dX8_isCrow_11 : decode cX8_isCrow 11 = .ok (.isub, 1) := by decide +kernel
theorem dX8_isCrow_12 : decode cX8_isCrow 12 = .ok (.invokestatic 39, 3) := by decide +kernel
theorem dX8_isCrow_15 : decode cX8_isCrow 15 = .ok (.ireturn, 1) := by decide +kernel
theorem dX8_most_0 : decode cX8_most 0 = .ok (.iload_n 0, 1) := by decide +kernel
theorem dX8_most_1 : decode cX8_most 1 = .ok (.iload_n 1, 1) := by decide +kernel
theorem dX8_most_2 : decode cX8_most 2 = .ok (.if_icmp .le 7, 3) := by decide +kernel
theorem dX8_most_5 : decode cX8_most 5 = .ok (.iload_n 0, 1) := by decide +kernel
theorem dX8_most_6 : decode cX8_most 6 = .ok (.goto 4, 3) := by decide +kernel
theorem dX8_most_9 : decode cX8_most 9 = .ok (.iload_n 1, 1) := by decide +kernel
theorem dX8_most_10 : decode cX8_most 10 = .ok (.ireturn, 1) := by decide +kernel
theorem dX8_madeOf_0 : decode cX8_madeOf 0 = .ok (.bipush 10, 2) := by decide +kernel
theorem dX8_madeOf_2 : decode cX8_madeOf 2 = .ok (.iload_n 1, 1) := by decide +kernel
theorem dX8_madeOf_3 : decode cX8_madeOf 3 = .ok (.imul, 1) := by decide +kernel
theorem dX8_madeOf_4 : decode cX8_madeOf 4 = .ok (.istore 4, 2) := by decide +kernel
theorem dX8_madeOf_6 : decode cX8_madeOf 6 = .ok (.iload 4, 2) := by decide +kernel
theorem dX8_madeOf_8 : decode cX8_madeOf 8 = .ok (.iconst 3, 1) := by decide +kernel
theorem dX8_madeOf_9 : decode cX8_madeOf 9 = .ok (.iload_n 3, 1) := by decide +kernel
theorem dX8_madeOf_10 : decode cX8_madeOf 10 = .ok (.bipush 9, 2) := by decide +kernel
theorem dX8_madeOf_12 : decode cX8_madeOf 12 = .ok (.if_icmp .ge 7, 3) := by decide +kernel
theorem dX8_madeOf_15 : decode cX8_madeOf 15 = .ok (.iload_n 3, 1) := by decide +kernel
theorem dX8_madeOf_16 : decode cX8_madeOf 16 = .ok (.goto 5, 3) := by decide +kernel
theorem dX8_madeOf_19 : decode cX8_madeOf 19 = .ok (.bipush 9, 2) := by decide +kernel
theorem dX8_madeOf_21 : decode cX8_madeOf 21 = .ok (.imul, 1) := by decide +kernel
theorem dX8_madeOf_22 : decode cX8_madeOf 22 = .ok (.iadd, 1) := by decide +kernel
theorem dX8_madeOf_23 : decode cX8_madeOf 23 = .ok (.istore 5, 2) := by decide +kernel
theorem dX8_madeOf_25 : decode cX8_madeOf 25 = .ok (.iload_n 0, 1) := by decide +kernel
theorem dX8_madeOf_26 : decode cX8_madeOf 26 = .ok (.tableswitch 76 0 4 #[34, 37, 53, 56, 71], 34) := by decide +kernel
theorem dX8_madeOf_60 : decode cX8_madeOf 60 = .ok (.iload 4, 2) := by decide +kernel
theorem dX8_madeOf_62 : decode cX8_madeOf 62 = .ok (.ireturn, 1) := by decide +kernel
theorem dX8_madeOf_63 : decode cX8_madeOf 63 = .ok (.iload_n 2, 1) := by decide +kernel
theorem dX8_madeOf_64 : decode cX8_madeOf 64 = .ok (.bipush 12, 2) := by decide +kernel
theorem dX8_madeOf_66 : decode cX8_madeOf 66 = .ok (.if_icmp .lt 10, 3) := by decide +kernel
theorem dX8_madeOf_69 : decode cX8_madeOf 69 = .ok (.iload 4, 2) := by decide +kernel
theorem dX8_madeOf_71 : decode cX8_madeOf 71 = .ok (.iconst 5, 1) := by decide +kernel
theorem dX8_madeOf_72 : decode cX8_madeOf 72 = .ok (.iadd, 1) := by decide +kernel
theorem dX8_madeOf_73 : decode cX8_madeOf 73 = .ok (.goto 5, 3) := by decide +kernel
theorem dX8_madeOf_76 : decode cX8_madeOf 76 = .ok (.iload 4, 2) := by decide +kernel
theorem dX8_madeOf_78 : decode cX8_madeOf 78 = .ok (.ireturn, 1) := by decide +kernel
theorem dX8_madeOf_79 : decode cX8_madeOf 79 = .ok (.iload 5, 2) := by decide +kernel
theorem dX8_madeOf_81 : decode cX8_madeOf 81 = .ok (.ireturn, 1) := by decide +kernel
theorem dX8_madeOf_82 : decode cX8_madeOf 82 = .ok (.iload_n 3, 1) := by decide +kernel
theorem dX8_madeOf_83 : decode cX8_madeOf 83 = .ok (.iconst 3, 1) := by decide +kernel
theorem dX8_madeOf_84 : decode cX8_madeOf 84 = .ok (.if_icmp .lt 10, 3) := by decide +kernel
theorem dX8_madeOf_87 : decode cX8_madeOf 87 = .ok (.iconst 2, 1) := by decide +kernel
theorem dX8_madeOf_88 : decode cX8_madeOf 88 = .ok (.iload 5, 2) := by decide +kernel
theorem dX8_madeOf_90 : decode cX8_madeOf 90 = .ok (.imul, 1) := by decide +kernel
theorem dX8_madeOf_91 : decode cX8_madeOf 91 = .ok (.goto 5, 3) := by decide +kernel
theorem dX8_madeOf_94 : decode cX8_madeOf 94 = .ok (.iload 5, 2) := by decide +kernel
theorem dX8_madeOf_96 : decode cX8_madeOf 96 = .ok (.ireturn, 1) := by decide +kernel
theorem dX8_madeOf_97 : decode cX8_madeOf 97 = .ok (.iload 4, 2) := by decide +kernel
theorem dX8_madeOf_99 : decode cX8_madeOf 99 = .ok (.iload_n 1, 1) := by decide +kernel
theorem dX8_madeOf_100 : decode cX8_madeOf 100 = .ok (.isub, 1) := by decide +kernel
theorem dX8_madeOf_101 : decode cX8_madeOf 101 = .ok (.ireturn, 1) := by decide +kernel
theorem dX8_madeOf_102 : decode cX8_madeOf 102 = .ok (.iconst 1, 1) := by decide +kernel
theorem dX8_madeOf_103 : decode cX8_madeOf 103 = .ok (.iload 4, 2) := by decide +kernel
theorem dX8_madeOf_105 : decode cX8_madeOf 105 = .ok (.iload_n 1, 1) := by decide +kernel
theorem dX8_madeOf_106 : decode cX8_madeOf 106 = .ok (.isub, 1) := by decide +kernel
theorem dX8_madeOf_107 : decode cX8_madeOf 107 = .ok (.invokestatic 43, 3) := by decide +kernel
theorem dX8_madeOf_110 : decode cX8_madeOf 110 = .ok (.ireturn, 1) := by decide +kernel
theorem dX8_farOf_0 : decode cX8_farOf 0 = .ok (.iconst 1, 1) := by decide +kernel
theorem dX8_farOf_1 : decode cX8_farOf 1 = .ok (.iload_n 1, 1) := by decide +kernel
theorem dX8_farOf_2 : decode cX8_farOf 2 = .ok (.bipush 7, 2) := by decide +kernel
theorem dX8_farOf_4 : decode cX8_farOf 4 = .ok (.isub, 1) := by decide +kernel
theorem dX8_farOf_5 : decode cX8_farOf 5 = .ok (.invokestatic 43, 3) := by decide +kernel
theorem dX8_farOf_8 : decode cX8_farOf 8 = .ok (.istore_n 3, 1) := by decide +kernel
theorem dX8_farOf_9 : decode cX8_farOf 9 = .ok (.iload_n 1, 1) := by decide +kernel
theorem dX8_farOf_10 : decode cX8_farOf 10 = .ok (.iconst 4, 1) := by decide +kernel
theorem dX8_farOf_11 : decode cX8_farOf 11 = .ok (.iadd, 1) := by decide +kernel
theorem dX8_farOf_12 : decode cX8_farOf 12 = .ok (.iload_n 2, 1) := by decide +kernel
theorem dX8_farOf_13 : decode cX8_farOf 13 = .ok (.iconst 3, 1) := by decide +kernel
theorem dX8_farOf_14 : decode cX8_farOf 14 = .ok (.irem, 1) := by decide +kernel
theorem dX8_farOf_15 : decode cX8_farOf 15 = .ok (.iadd, 1) := by decide +kernel
theorem dX8_farOf_16 : decode cX8_farOf 16 = .ok (.istore 4, 2) := by decide +kernel
theorem dX8_farOf_18 : decode cX8_farOf 18 = .ok (.iload_n 0, 1) := by decide +kernel
theorem dX8_farOf_19 : decode cX8_farOf 19 = .ok (.tableswitch 64 0 4 #[33, 35, 37, 40, 48], 33) := by decide +kernel
theorem dX8_farOf_52 : decode cX8_farOf 52 = .ok (.iload_n 1, 1) := by decide +kernel
theorem dX8_farOf_53 : decode cX8_farOf 53 = .ok (.ireturn, 1) := by decide +kernel
theorem dX8_farOf_54 : decode cX8_farOf 54 = .ok (.iload_n 3, 1) := by decide +kernel
theorem dX8_farOf_55 : decode cX8_farOf 55 = .ok (.ireturn, 1) := by decide +kernel
theorem dX8_farOf_56 : decode cX8_farOf 56 = .ok (.iload 4, 2) := by decide +kernel
theorem dX8_farOf_58 : decode cX8_farOf 58 = .ok (.ireturn, 1) := by decide +kernel
theorem dX8_farOf_59 : decode cX8_farOf 59 = .ok (.iload 4, 2) := by decide +kernel
theorem dX8_farOf_61 : decode cX8_farOf 61 = .ok (.iload 4, 2) := by decide +kernel
theorem dX8_farOf_63 : decode cX8_farOf 63 = .ok (.iconst 4, 1) := by decide +kernel
theorem dX8_farOf_64 : decode cX8_farOf 64 = .ok (.idiv, 1) := by decide +kernel
theorem dX8_farOf_65 : decode cX8_farOf 65 = .ok (.iadd, 1) := by decide +kernel
theorem dX8_farOf_66 : decode cX8_farOf 66 = .ok (.ireturn, 1) := by decide +kernel
theorem dX8_farOf_67 : decode cX8_farOf 67 = .ok (.iload_n 2, 1) := by decide +kernel
theorem dX8_farOf_68 : decode cX8_farOf 68 = .ok (.iconst 2, 1) := by decide +kernel
theorem dX8_farOf_69 : decode cX8_farOf 69 = .ok (.irem, 1) := by decide +kernel
theorem dX8_farOf_70 : decode cX8_farOf 70 = .ok (.ifCond .ne 11, 3) := by decide +kernel
theorem dX8_farOf_73 : decode cX8_farOf 73 = .ok (.iload_n 3, 1) := by decide +kernel
theorem dX8_farOf_74 : decode cX8_farOf 74 = .ok (.iconst 1, 1) := by decide +kernel
theorem dX8_farOf_75 : decode cX8_farOf 75 = .ok (.iadd, 1) := by decide +kernel
theorem dX8_farOf_76 : decode cX8_farOf 76 = .ok (.iconst 2, 1) := by decide +kernel
theorem dX8_farOf_77 : decode cX8_farOf 77 = .ok (.idiv, 1) := by decide +kernel
theorem dX8_farOf_78 : decode cX8_farOf 78 = .ok (.goto 4, 3) := by decide +kernel
theorem dX8_farOf_81 : decode cX8_farOf 81 = .ok (.iload_n 3, 1) := by decide +kernel
theorem dX8_farOf_82 : decode cX8_farOf 82 = .ok (.ireturn, 1) := by decide +kernel
theorem dX8_farOf_83 : decode cX8_farOf 83 = .ok (.bipush 10, 2) := by decide +kernel
theorem dX8_farOf_85 : decode cX8_farOf 85 = .ok (.iload_n 1, 1) := by decide +kernel
theorem dX8_farOf_86 : decode cX8_farOf 86 = .ok (.iload_n 1, 1) := by decide +kernel
theorem dX8_farOf_87 : decode cX8_farOf 87 = .ok (.bipush 10, 2) := by decide +kernel
theorem dX8_farOf_89 : decode cX8_farOf 89 = .ok (.irem, 1) := by decide +kernel
theorem dX8_farOf_90 : decode cX8_farOf 90 = .ok (.isub, 1) := by decide +kernel
theorem dX8_farOf_91 : decode cX8_farOf 91 = .ok (.invokestatic 43, 3) := by decide +kernel
theorem dX8_farOf_94 : decode cX8_farOf 94 = .ok (.ireturn, 1) := by decide +kernel
theorem dX8_straightIn_0 : decode cX8_straightIn 0 = .ok (.aload_n 0, 1) := by decide +kernel
theorem dX8_straightIn_1 : decode cX8_straightIn 1 = .ok (.getfield 7, 3) := by decide +kernel
theorem dX8_straightIn_4 : decode cX8_straightIn 4 = .ok (.iload_n 1, 1) := by decide +kernel
theorem dX8_straightIn_5 : decode cX8_straightIn 5 = .ok (.sipush 397, 3) := by decide +kernel
theorem dX8_straightIn_8 : decode cX8_straightIn 8 = .ok (.iadd, 1) := by decide +kernel
theorem dX8_straightIn_9 : decode cX8_straightIn 9 = .ok (.iconst 3, 1) := by decide +kernel
theorem dX8_straightIn_10 : decode cX8_straightIn 10 = .ok (.iload_n 2, 1) := by decide +kernel
theorem dX8_straightIn_11 : decode cX8_straightIn 11 = .ok (.imul, 1) := by decide +kernel
theorem dX8_straightIn_12 : decode cX8_straightIn 12 = .ok (.iadd, 1) := by decide +kernel
theorem dX8_straightIn_13 : decode cX8_straightIn 13 = .ok (.iconst 1, 1) := by decide +kernel
theorem dX8_straightIn_14 : decode cX8_straightIn 14 = .ok (.iadd, 1) := by decide +kernel
theorem dX8_straightIn_15 : decode cX8_straightIn 15 = .ok (.iaload, 1) := by decide +kernel
theorem dX8_straightIn_16 : decode cX8_straightIn 16 = .ok (.aload_n 0, 1) := by decide +kernel
theorem dX8_straightIn_17 : decode cX8_straightIn 17 = .ok (.getfield 7, 3) := by decide +kernel
theorem dX8_straightIn_20 : decode cX8_straightIn 20 = .ok (.iload_n 1, 1) := by decide +kernel
theorem dX8_straightIn_21 : decode cX8_straightIn 21 = .ok (.sipush 397, 3) := by decide +kernel
theorem dX8_straightIn_24 : decode cX8_straightIn 24 = .ok (.iadd, 1) := by decide +kernel
theorem dX8_straightIn_25 : decode cX8_straightIn 25 = .ok (.iconst 3, 1) := by decide +kernel
theorem dX8_straightIn_26 : decode cX8_straightIn 26 = .ok (.iload_n 3, 1) := by decide +kernel
theorem dX8_straightIn_27 : decode cX8_straightIn 27 = .ok (.imul, 1) := by decide +kernel
theorem dX8_straightIn_28 : decode cX8_straightIn 28 = .ok (.iadd, 1) := by decide +kernel
theorem dX8_straightIn_29 : decode cX8_straightIn 29 = .ok (.iconst 1, 1) := by decide +kernel
theorem dX8_straightIn_30 : decode cX8_straightIn 30 = .ok (.iadd, 1) := by decide +kernel
theorem dX8_straightIn_31 : decode cX8_straightIn 31 = .ok (.iaload, 1) := by decide +kernel
theorem dX8_straightIn_32 : decode cX8_straightIn 32 = .ok (.isub, 1) := by decide +kernel
theorem dX8_straightIn_33 : decode cX8_straightIn 33 = .ok (.istore 4, 2) := by decide +kernel
theorem dX8_straightIn_35 : decode cX8_straightIn 35 = .ok (.aload_n 0, 1) := by decide +kernel
theorem dX8_straightIn_36 : decode cX8_straightIn 36 = .ok (.getfield 7, 3) := by decide +kernel
theorem dX8_straightIn_39 : decode cX8_straightIn 39 = .ok (.iload_n 1, 1) := by decide +kernel
theorem dX8_straightIn_40 : decode cX8_straightIn 40 = .ok (.sipush 397, 3) := by decide +kernel
theorem dX8_straightIn_43 : decode cX8_straightIn 43 = .ok (.iadd, 1) := by decide +kernel
theorem dX8_straightIn_44 : decode cX8_straightIn 44 = .ok (.iconst 3, 1) := by decide +kernel
theorem dX8_straightIn_45 : decode cX8_straightIn 45 = .ok (.iload_n 2, 1) := by decide +kernel
theorem dX8_straightIn_46 : decode cX8_straightIn 46 = .ok (.imul, 1) := by decide +kernel
theorem dX8_straightIn_47 : decode cX8_straightIn 47 = .ok (.iadd, 1) := by decide +kernel
theorem dX8_straightIn_48 : decode cX8_straightIn 48 = .ok (.iconst 2, 1) := by decide +kernel
theorem dX8_straightIn_49 : decode cX8_straightIn 49 = .ok (.iadd, 1) := by decide +kernel
theorem dX8_straightIn_50 : decode cX8_straightIn 50 = .ok (.iaload, 1) := by decide +kernel
theorem dX8_straightIn_51 : decode cX8_straightIn 51 = .ok (.aload_n 0, 1) := by decide +kernel
theorem dX8_straightIn_52 : decode cX8_straightIn 52 = .ok (.getfield 7, 3) := by decide +kernel
theorem dX8_straightIn_55 : decode cX8_straightIn 55 = .ok (.iload_n 1, 1) := by decide +kernel
theorem dX8_straightIn_56 : decode cX8_straightIn 56 = .ok (.sipush 397, 3) := by decide +kernel
theorem dX8_straightIn_59 : decode cX8_straightIn 59 = .ok (.iadd, 1) := by decide +kernel
theorem dX8_straightIn_60 : decode cX8_straightIn 60 = .ok (.iconst 3, 1) := by decide +kernel
theorem dX8_straightIn_61 : decode cX8_straightIn 61 = .ok (.iload_n 3, 1) := by decide +kernel
theorem dX8_straightIn_62 : decode cX8_straightIn 62 = .ok (.imul, 1) := by decide +kernel
theorem dX8_straightIn_63 : decode cX8_straightIn 63 = .ok (.iadd, 1) := by decide +kernel
theorem dX8_straightIn_64 : decode cX8_straightIn 64 = .ok (.iconst 2, 1) := by decide +kernel
theorem dX8_straightIn_65 : decode cX8_straightIn 65 = .ok (.iadd, 1) := by decide +kernel
theorem dX8_straightIn_66 : decode cX8_straightIn 66 = .ok (.iaload, 1) := by decide +kernel
theorem dX8_straightIn_67 : decode cX8_straightIn 67 = .ok (.isub, 1) := by decide +kernel
theorem dX8_straightIn_68 : decode cX8_straightIn 68 = .ok (.istore 5, 2) := by decide +kernel
theorem dX8_straightIn_70 : decode cX8_straightIn 70 = .ok (.iload 4, 2) := by decide +kernel
theorem dX8_straightIn_72 : decode cX8_straightIn 72 = .ok (.ifCond .ge 9, 3) := by decide +kernel
theorem dX8_straightIn_75 : decode cX8_straightIn 75 = .ok (.iload 4, 2) := by decide +kernel
theorem dX8_straightIn_77 : decode cX8_straightIn 77 = .ok (.ineg, 1) := by decide +kernel
theorem dX8_straightIn_78 : decode cX8_straightIn 78 = .ok (.goto 5, 3) := by decide +kernel
theorem dX8_straightIn_81 : decode cX8_straightIn 81 = .ok (.iload 4, 2) := by decide +kernel
theorem dX8_straightIn_83 : decode cX8_straightIn 83 = .ok (.iload 5, 2) := by decide +kernel
theorem dX8_straightIn_85 : decode cX8_straightIn 85 = .ok (.ifCond .ge 9, 3) := by decide +kernel
theorem dX8_straightIn_88 : decode cX8_straightIn 88 = .ok (.iload 5, 2) := by decide +kernel
theorem dX8_straightIn_90 : decode cX8_straightIn 90 = .ok (.ineg, 1) := by decide +kernel
theorem dX8_straightIn_91 : decode cX8_straightIn 91 = .ok (.goto 5, 3) := by decide +kernel
theorem dX8_straightIn_94 : decode cX8_straightIn 94 = .ok (.iload 5, 2) := by decide +kernel
theorem dX8_straightIn_96 : decode cX8_straightIn 96 = .ok (.iadd, 1) := by decide +kernel
theorem dX8_straightIn_97 : decode cX8_straightIn 97 = .ok (.ireturn, 1) := by decide +kernel
theorem dX8_farAt_0 : decode cX8_farAt 0 = .ok (.iload 4, 2) := by decide +kernel
theorem dX8_farAt_2 : decode cX8_farAt 2 = .ok (.iload 5, 2) := by decide +kernel
theorem dX8_farAt_4 : decode cX8_farAt 4 = .ok (.if_icmp .ne 5, 3) := by decide +kernel
theorem dX8_farAt_7 : decode cX8_farAt 7 = .ok (.iconst 0, 1) := by decide +kernel
theorem dX8_farAt_8 : decode cX8_farAt 8 = .ok (.ireturn, 1) := by decide +kernel
theorem dX8_farAt_9 : decode cX8_farAt 9 = .ok (.aload_n 0, 1) := by decide +kernel
theorem dX8_farAt_10 : decode cX8_farAt 10 = .ok (.getfield 7, 3) := by decide +kernel
theorem dX8_farAt_13 : decode cX8_farAt 13 = .ok (.iload_n 2, 1) := by decide +kernel
theorem dX8_farAt_14 : decode cX8_farAt 14 = .ok (.sipush 419, 3) := by decide +kernel
theorem dX8_farAt_17 : decode cX8_farAt 17 = .ok (.iadd, 1) := by decide +kernel
theorem dX8_farAt_18 : decode cX8_farAt 18 = .ok (.iload_n 3, 1) := by decide +kernel
theorem dX8_farAt_19 : decode cX8_farAt 19 = .ok (.iadd, 1) := by decide +kernel
theorem dX8_farAt_20 : decode cX8_farAt 20 = .ok (.iaload, 1) := by decide +kernel
theorem dX8_farAt_21 : decode cX8_farAt 21 = .ok (.aload_n 0, 1) := by decide +kernel
theorem dX8_farAt_22 : decode cX8_farAt 22 = .ok (.iload_n 2, 1) := by decide +kernel
theorem dX8_farAt_23 : decode cX8_farAt 23 = .ok (.iload 4, 2) := by decide +kernel
theorem dX8_farAt_25 : decode cX8_farAt 25 = .ok (.iload 5, 2) := by decide +kernel
theorem dX8_farAt_27 : decode cX8_farAt 27 = .ok (.invokevirtual 47, 3) := by decide +kernel
theorem dX8_farAt_30 : decode cX8_farAt 30 = .ok (.iload 6, 2) := by decide +kernel
theorem dX8_farAt_32 : decode cX8_farAt 32 = .ok (.aload_n 0, 1) := by decide +kernel
theorem dX8_farAt_33 : decode cX8_farAt 33 = .ok (.getfield 7, 3) := by decide +kernel
theorem dX8_farAt_36 : decode cX8_farAt 36 = .ok (.iload_n 1, 1) := by decide +kernel
theorem dX8_farAt_37 : decode cX8_farAt 37 = .ok (.iconst 3, 1) := by decide +kernel
theorem dX8_farAt_38 : decode cX8_farAt 38 = .ok (.iadd, 1) := by decide +kernel
theorem dX8_farAt_39 : decode cX8_farAt 39 = .ok (.iload_n 3, 1) := by decide +kernel
theorem dX8_farAt_40 : decode cX8_farAt 40 = .ok (.iadd, 1) := by decide +kernel
theorem dX8_farAt_41 : decode cX8_farAt 41 = .ok (.iaload, 1) := by decide +kernel
theorem dX8_farAt_42 : decode cX8_farAt 42 = .ok (.invokestatic 51, 3) := by decide +kernel
theorem dX8_farAt_45 : decode cX8_farAt 45 = .ok (.istore 7, 2) := by decide +kernel
theorem dX8_farAt_47 : decode cX8_farAt 47 = .ok (.aload_n 0, 1) := by decide +kernel
theorem dX8_farAt_48 : decode cX8_farAt 48 = .ok (.getfield 7, 3) := by decide +kernel
theorem dX8_farAt_51 : decode cX8_farAt 51 = .ok (.iload_n 2, 1) := by decide +kernel
theorem dX8_farAt_52 : decode cX8_farAt 52 = .ok (.sipush 397, 3) := by decide +kernel
theorem dX8_farAt_55 : decode cX8_farAt 55 = .ok (.iadd, 1) := by decide +kernel
theorem dX8_farAt_56 : decode cX8_farAt 56 = .ok (.iconst 3, 1) := by decide +kernel
theorem dX8_farAt_57 : decode cX8_farAt 57 = .ok (.iload 5, 2) := by decide +kernel
theorem dX8_farAt_59 : decode cX8_farAt 59 = .ok (.imul, 1) := by decide +kernel
theorem dX8_farAt_60 : decode cX8_farAt 60 = .ok (.iadd, 1) := by decide +kernel
theorem dX8_farAt_61 : decode cX8_farAt 61 = .ok (.iaload, 1) := by decide +kernel
theorem dX8_farAt_62 : decode cX8_farAt 62 = .ok (.iload 7, 2) := by decide +kernel
theorem dX8_farAt_64 : decode cX8_farAt 64 = .ok (.iload 6, 2) := by decide +kernel
theorem dX8_farAt_66 : decode cX8_farAt 66 = .ok (.invokestatic 55, 3) := by decide +kernel
theorem dX8_farAt_69 : decode cX8_farAt 69 = .ok (.ireturn, 1) := by decide +kernel
theorem dX8_farIn_0 : decode cX8_farIn 0 = .ok (.aload_n 0, 1) := by decide +kernel
theorem dX8_farIn_1 : decode cX8_farIn 1 = .ok (.iload_n 1, 1) := by decide +kernel
theorem dX8_farIn_2 : decode cX8_farIn 2 = .ok (.iload_n 2, 1) := by decide +kernel
theorem dX8_farIn_3 : decode cX8_farIn 3 = .ok (.iload_n 3, 1) := by decide +kernel
theorem dX8_farIn_4 : decode cX8_farIn 4 = .ok (.iload 4, 2) := by decide +kernel
theorem dX8_farIn_6 : decode cX8_farIn 6 = .ok (.iload 5, 2) := by decide +kernel
theorem dX8_farIn_8 : decode cX8_farIn 8 = .ok (.aload_n 0, 1) := by decide +kernel
theorem dX8_farIn_9 : decode cX8_farIn 9 = .ok (.getfield 7, 3) := by decide +kernel
theorem dX8_farIn_12 : decode cX8_farIn 12 = .ok (.iload_n 1, 1) := by decide +kernel
theorem dX8_farIn_13 : decode cX8_farIn 13 = .ok (.bipush 6, 2) := by decide +kernel
theorem dX8_farIn_15 : decode cX8_farIn 15 = .ok (.iadd, 1) := by decide +kernel
theorem dX8_farIn_16 : decode cX8_farIn 16 = .ok (.iaload, 1) := by decide +kernel
theorem dX8_farIn_17 : decode cX8_farIn 17 = .ok (.bipush 24, 2) := by decide +kernel
theorem dX8_farIn_19 : decode cX8_farIn 19 = .ok (.irem, 1) := by decide +kernel
theorem dX8_farIn_20 : decode cX8_farIn 20 = .ok (.invokevirtual 58, 3) := by decide +kernel
theorem dX8_farIn_23 : decode cX8_farIn 23 = .ok (.ireturn, 1) := by decide +kernel
theorem dX8_farNow_0 : decode cX8_farNow 0 = .ok (.aload_n 0, 1) := by decide +kernel
theorem dX8_farNow_1 : decode cX8_farNow 1 = .ok (.iconst 0, 1) := by decide +kernel
theorem dX8_farNow_2 : decode cX8_farNow 2 = .ok (.iconst 0, 1) := by decide +kernel
theorem dX8_farNow_3 : decode cX8_farNow 3 = .ok (.iload_n 1, 1) := by decide +kernel
theorem dX8_farNow_4 : decode cX8_farNow 4 = .ok (.iload_n 2, 1) := by decide +kernel
theorem dX8_farNow_5 : decode cX8_farNow 5 = .ok (.iload_n 3, 1) := by decide +kernel
theorem dX8_farNow_6 : decode cX8_farNow 6 = .ok (.invokevirtual 62, 3) := by decide +kernel
theorem dX8_farNow_9 : decode cX8_farNow 9 = .ok (.ireturn, 1) := by decide +kernel
theorem dX8_goOn_0 : decode cX8_goOn 0 = .ok (.aload_n 0, 1) := by decide +kernel
theorem dX8_goOn_1 : decode cX8_goOn 1 = .ok (.getfield 7, 3) := by decide +kernel
theorem dX8_goOn_4 : decode cX8_goOn 4 = .ok (.iload_n 1, 1) := by decide +kernel
theorem dX8_goOn_5 : decode cX8_goOn 5 = .ok (.bipush 6, 2) := by decide +kernel
theorem dX8_goOn_7 : decode cX8_goOn 7 = .ok (.iadd, 1) := by decide +kernel
theorem dX8_goOn_8 : decode cX8_goOn 8 = .ok (.iaload, 1) := by decide +kernel
theorem dX8_goOn_9 : decode cX8_goOn 9 = .ok (.iload_n 2, 1) := by decide +kernel
theorem dX8_goOn_10 : decode cX8_goOn 10 = .ok (.iadd, 1) := by decide +kernel
theorem dX8_goOn_11 : decode cX8_goOn 11 = .ok (.istore_n 3, 1) := by decide +kernel
theorem dX8_goOn_12 : decode cX8_goOn 12 = .ok (.aload_n 0, 1) := by decide +kernel
theorem dX8_goOn_13 : decode cX8_goOn 13 = .ok (.getfield 7, 3) := by decide +kernel
theorem dX8_goOn_16 : decode cX8_goOn 16 = .ok (.iload_n 1, 1) := by decide +kernel
theorem dX8_goOn_17 : decode cX8_goOn 17 = .ok (.bipush 6, 2) := by decide +kernel
theorem dX8_goOn_19 : decode cX8_goOn 19 = .ok (.iadd, 1) := by decide +kernel
theorem dX8_goOn_20 : decode cX8_goOn 20 = .ok (.iload_n 1, 1) := by decide +kernel
theorem dX8_goOn_21 : decode cX8_goOn 21 = .ok (.sipush 1916, 3) := by decide +kernel
theorem dX8_goOn_24 : decode cX8_goOn 24 = .ok (.if_icmp .eq 16, 3) := by decide +kernel
theorem dX8_goOn_27 : decode cX8_goOn 27 = .ok (.iload_n 3, 1) := by decide +kernel
theorem dX8_goOn_28 : decode cX8_goOn 28 = .ok (.sipush 9999, 3) := by decide +kernel
theorem dX8_goOn_31 : decode cX8_goOn 31 = .ok (.if_icmp .le 9, 3) := by decide +kernel
theorem dX8_goOn_34 : decode cX8_goOn 34 = .ok (.sipush 9999, 3) := by decide +kernel
theorem dX8_goOn_37 : decode cX8_goOn 37 = .ok (.goto 4, 3) := by decide +kernel
theorem dX8_goOn_40 : decode cX8_goOn 40 = .ok (.iload_n 3, 1) := by decide +kernel
theorem dX8_goOn_41 : decode cX8_goOn 41 = .ok (.iastore, 1) := by decide +kernel
theorem dX8_goOn_42 : decode cX8_goOn 42 = .ok (.return_, 1) := by decide +kernel
theorem dX8_flyIn_0 : decode cX8_flyIn 0 = .ok (.aload_n 0, 1) := by decide +kernel
theorem dX8_flyIn_1 : decode cX8_flyIn 1 = .ok (.iload_n 1, 1) := by decide +kernel
theorem dX8_flyIn_2 : decode cX8_flyIn 2 = .ok (.iload_n 2, 1) := by decide +kernel
theorem dX8_flyIn_3 : decode cX8_flyIn 3 = .ok (.iload_n 3, 1) := by decide +kernel
theorem dX8_flyIn_4 : decode cX8_flyIn 4 = .ok (.aload_n 0, 1) := by decide +kernel
theorem dX8_flyIn_5 : decode cX8_flyIn 5 = .ok (.getfield 7, 3) := by decide +kernel
theorem dX8_flyIn_8 : decode cX8_flyIn 8 = .ok (.iload_n 1, 1) := by decide +kernel
theorem dX8_flyIn_9 : decode cX8_flyIn 9 = .ok (.iload_n 3, 1) := by decide +kernel
theorem dX8_flyIn_10 : decode cX8_flyIn 10 = .ok (.iadd, 1) := by decide +kernel
theorem dX8_flyIn_11 : decode cX8_flyIn 11 = .ok (.iaload, 1) := by decide +kernel
theorem dX8_flyIn_12 : decode cX8_flyIn 12 = .ok (.iload 4, 2) := by decide +kernel
theorem dX8_flyIn_14 : decode cX8_flyIn 14 = .ok (.invokevirtual 62, 3) := by decide +kernel
theorem dX8_flyIn_17 : decode cX8_flyIn 17 = .ok (.istore 5, 2) := by decide +kernel
theorem dX8_flyIn_19 : decode cX8_flyIn 19 = .ok (.aload_n 0, 1) := by decide +kernel
theorem dX8_flyIn_20 : decode cX8_flyIn 20 = .ok (.getfield 7, 3) := by decide +kernel
theorem dX8_flyIn_23 : decode cX8_flyIn 23 = .ok (.iload_n 1, 1) := by decide +kernel
theorem dX8_flyIn_24 : decode cX8_flyIn 24 = .ok (.bipush 7, 2) := by decide +kernel
theorem dX8_flyIn_26 : decode cX8_flyIn 26 = .ok (.iadd, 1) := by decide +kernel
theorem dX8_flyIn_27 : decode cX8_flyIn 27 = .ok (.iaload, 1) := by decide +kernel
theorem dX8_flyIn_28 : decode cX8_flyIn 28 = .ok (.bipush 12, 2) := by decide +kernel
theorem dX8_flyIn_30 : decode cX8_flyIn 30 = .ok (.if_icmp .ne 58, 3) := by decide +kernel
theorem dX8_flyIn_33 : decode cX8_flyIn 33 = .ok (.iconst 3, 1) := by decide +kernel
theorem dX8_flyIn_34 : decode cX8_flyIn 34 = .ok (.istore 6, 2) := by decide +kernel
theorem dX8_flyIn_36 : decode cX8_flyIn 36 = .ok (.iload 6, 2) := by decide +kernel
theorem dX8_flyIn_38 : decode cX8_flyIn 38 = .ok (.bipush 36, 2) := by decide +kernel
theorem dX8_flyIn_40 : decode cX8_flyIn 40 = .ok (.if_icmp .ge 35, 3) := by decide +kernel
theorem dX8_flyIn_43 : decode cX8_flyIn 43 = .ok (.aload_n 0, 1) := by decide +kernel
theorem dX8_flyIn_44 : decode cX8_flyIn 44 = .ok (.getfield 7, 3) := by decide +kernel
theorem dX8_flyIn_47 : decode cX8_flyIn 47 = .ok (.iload_n 1, 1) := by decide +kernel
theorem dX8_flyIn_48 : decode cX8_flyIn 48 = .ok (.bipush 8, 2) := by decide +kernel
theorem dX8_flyIn_50 : decode cX8_flyIn 50 = .ok (.iadd, 1) := by decide +kernel
theorem dX8_flyIn_51 : decode cX8_flyIn 51 = .ok (.iload 6, 2) := by decide +kernel
theorem dX8_flyIn_53 : decode cX8_flyIn 53 = .ok (.iadd, 1) := by decide +kernel
theorem dX8_flyIn_54 : decode cX8_flyIn 54 = .ok (.iconst 3, 1) := by decide +kernel
theorem dX8_flyIn_55 : decode cX8_flyIn 55 = .ok (.isub, 1) := by decide +kernel
theorem dX8_flyIn_56 : decode cX8_flyIn 56 = .ok (.aload_n 0, 1) := by decide +kernel
theorem dX8_flyIn_57 : decode cX8_flyIn 57 = .ok (.getfield 7, 3) := by decide +kernel
theorem dX8_flyIn_60 : decode cX8_flyIn 60 = .ok (.iload_n 1, 1) := by decide +kernel
theorem dX8_flyIn_61 : decode cX8_flyIn 61 = .ok (.bipush 8, 2) := by decide +kernel
theorem dX8_flyIn_63 : decode cX8_flyIn 63 = .ok (.iadd, 1) := by decide +kernel
theorem dX8_flyIn_64 : decode cX8_flyIn 64 = .ok (.iload 6, 2) := by decide +kernel
theorem dX8_flyIn_66 : decode cX8_flyIn 66 = .ok (.iadd, 1) := by decide +kernel
theorem dX8_flyIn_67 : decode cX8_flyIn 67 = .ok (.iaload, 1) := by decide +kernel
theorem dX8_flyIn_68 : decode cX8_flyIn 68 = .ok (.iastore, 1) := by decide +kernel
theorem dX8_flyIn_69 : decode cX8_flyIn 69 = .ok (.iinc 6 1, 3) := by decide +kernel
theorem dX8_flyIn_72 : decode cX8_flyIn 72 = .ok (.goto (-36), 3) := by decide +kernel
theorem dX8_flyIn_75 : decode cX8_flyIn 75 = .ok (.aload_n 0, 1) := by decide +kernel
theorem dX8_flyIn_76 : decode cX8_flyIn 76 = .ok (.getfield 7, 3) := by decide +kernel
theorem dX8_flyIn_79 : decode cX8_flyIn 79 = .ok (.iload_n 1, 1) := by decide +kernel
theorem dX8_flyIn_80 : decode cX8_flyIn 80 = .ok (.bipush 7, 2) := by decide +kernel
theorem dX8_flyIn_82 : decode cX8_flyIn 82 = .ok (.iadd, 1) := by decide +kernel
theorem dX8_flyIn_83 : decode cX8_flyIn 83 = .ok (.dup2, 1) := by decide +kernel
theorem dX8_flyIn_84 : decode cX8_flyIn 84 = .ok (.iaload, 1) := by decide +kernel
theorem dX8_flyIn_85 : decode cX8_flyIn 85 = .ok (.iconst 1, 1) := by decide +kernel
theorem dX8_flyIn_86 : decode cX8_flyIn 86 = .ok (.isub, 1) := by decide +kernel
theorem dX8_flyIn_87 : decode cX8_flyIn 87 = .ok (.iastore, 1) := by decide +kernel
theorem dX8_flyIn_88 : decode cX8_flyIn 88 = .ok (.iload_n 1, 1) := by decide +kernel
theorem dX8_flyIn_89 : decode cX8_flyIn 89 = .ok (.bipush 8, 2) := by decide +kernel
theorem dX8_flyIn_91 : decode cX8_flyIn 91 = .ok (.iadd, 1) := by decide +kernel
theorem dX8_flyIn_92 : decode cX8_flyIn 92 = .ok (.iconst 3, 1) := by decide +kernel
theorem dX8_flyIn_93 : decode cX8_flyIn 93 = .ok (.aload_n 0, 1) := by decide +kernel
theorem dX8_flyIn_94 : decode cX8_flyIn 94 = .ok (.getfield 7, 3) := by decide +kernel
theorem dX8_flyIn_97 : decode cX8_flyIn 97 = .ok (.iload_n 1, 1) := by decide +kernel
theorem dX8_flyIn_98 : decode cX8_flyIn 98 = .ok (.bipush 7, 2) := by decide +kernel
theorem dX8_flyIn_100 : decode cX8_flyIn 100 = .ok (.iadd, 1) := by decide +kernel
theorem dX8_flyIn_101 : decode cX8_flyIn 101 = .ok (.iaload, 1) := by decide +kernel
theorem dX8_flyIn_102 : decode cX8_flyIn 102 = .ok (.imul, 1) := by decide +kernel
theorem dX8_flyIn_103 : decode cX8_flyIn 103 = .ok (.iadd, 1) := by decide +kernel
theorem dX8_flyIn_104 : decode cX8_flyIn 104 = .ok (.istore 6, 2) := by decide +kernel
theorem dX8_flyIn_106 : decode cX8_flyIn 106 = .ok (.aload_n 0, 1) := by decide +kernel
theorem dX8_flyIn_107 : decode cX8_flyIn 107 = .ok (.getfield 7, 3) := by decide +kernel
theorem dX8_flyIn_110 : decode cX8_flyIn 110 = .ok (.iload 6, 2) := by decide +kernel
theorem dX8_flyIn_112 : decode cX8_flyIn 112 = .ok (.aload_n 0, 1) := by decide +kernel
theorem dX8_flyIn_113 : decode cX8_flyIn 113 = .ok (.getfield 7, 3) := by decide +kernel
theorem dX8_flyIn_116 : decode cX8_flyIn 116 = .ok (.iload_n 1, 1) := by decide +kernel
theorem dX8_flyIn_117 : decode cX8_flyIn 117 = .ok (.iload_n 3, 1) := by decide +kernel
theorem dX8_flyIn_118 : decode cX8_flyIn 118 = .ok (.iadd, 1) := by decide +kernel
theorem dX8_flyIn_119 : decode cX8_flyIn 119 = .ok (.iaload, 1) := by decide +kernel
theorem dX8_flyIn_120 : decode cX8_flyIn 120 = .ok (.iastore, 1) := by decide +kernel
theorem dX8_flyIn_121 : decode cX8_flyIn 121 = .ok (.aload_n 0, 1) := by decide +kernel
theorem dX8_flyIn_122 : decode cX8_flyIn 122 = .ok (.getfield 7, 3) := by decide +kernel
theorem dX8_flyIn_125 : decode cX8_flyIn 125 = .ok (.iload 6, 2) := by decide +kernel
theorem dX8_flyIn_127 : decode cX8_flyIn 127 = .ok (.iconst 1, 1) := by decide +kernel
theorem dX8_flyIn_128 : decode cX8_flyIn 128 = .ok (.iadd, 1) := by decide +kernel
theorem dX8_flyIn_129 : decode cX8_flyIn 129 = .ok (.iload 4, 2) := by decide +kernel
theorem dX8_flyIn_131 : decode cX8_flyIn 131 = .ok (.iastore, 1) := by decide +kernel
theorem dX8_flyIn_132 : decode cX8_flyIn 132 = .ok (.aload_n 0, 1) := by decide +kernel
theorem dX8_flyIn_133 : decode cX8_flyIn 133 = .ok (.getfield 7, 3) := by decide +kernel
theorem dX8_flyIn_136 : decode cX8_flyIn 136 = .ok (.iload 6, 2) := by decide +kernel
theorem dX8_flyIn_138 : decode cX8_flyIn 138 = .ok (.iconst 2, 1) := by decide +kernel
theorem dX8_flyIn_139 : decode cX8_flyIn 139 = .ok (.iadd, 1) := by decide +kernel
theorem dX8_flyIn_140 : decode cX8_flyIn 140 = .ok (.iload 5, 2) := by decide +kernel
theorem dX8_flyIn_142 : decode cX8_flyIn 142 = .ok (.iastore, 1) := by decide +kernel
theorem dX8_flyIn_143 : decode cX8_flyIn 143 = .ok (.aload_n 0, 1) := by decide +kernel
theorem dX8_flyIn_144 : decode cX8_flyIn 144 = .ok (.getfield 7, 3) := by decide +kernel
theorem dX8_flyIn_147 : decode cX8_flyIn 147 = .ok (.iload_n 1, 1) := by decide +kernel
theorem dX8_flyIn_148 : decode cX8_flyIn 148 = .ok (.bipush 7, 2) := by decide +kernel
theorem dX8_flyIn_150 : decode cX8_flyIn 150 = .ok (.iadd, 1) := by decide +kernel
theorem dX8_flyIn_151 : decode cX8_flyIn 151 = .ok (.dup2, 1) := by decide +kernel
theorem dX8_flyIn_152 : decode cX8_flyIn 152 = .ok (.iaload, 1) := by decide +kernel
theorem dX8_flyIn_153 : decode cX8_flyIn 153 = .ok (.iconst 1, 1) := by decide +kernel
theorem dX8_flyIn_154 : decode cX8_flyIn 154 = .ok (.iadd, 1) := by decide +kernel
theorem dX8_flyIn_155 : decode cX8_flyIn 155 = .ok (.iastore, 1) := by decide +kernel
theorem dX8_flyIn_156 : decode cX8_flyIn 156 = .ok (.aload_n 0, 1) := by decide +kernel
theorem dX8_flyIn_157 : decode cX8_flyIn 157 = .ok (.getfield 7, 3) := by decide +kernel
theorem dX8_flyIn_160 : decode cX8_flyIn 160 = .ok (.iload_n 1, 1) := by decide +kernel
theorem dX8_flyIn_161 : decode cX8_flyIn 161 = .ok (.iload_n 3, 1) := by decide +kernel
theorem dX8_flyIn_162 : decode cX8_flyIn 162 = .ok (.iadd, 1) := by decide +kernel
theorem dX8_flyIn_163 : decode cX8_flyIn 163 = .ok (.iload 4, 2) := by decide +kernel
theorem dX8_flyIn_165 : decode cX8_flyIn 165 = .ok (.iastore, 1) := by decide +kernel
theorem dX8_flyIn_166 : decode cX8_flyIn 166 = .ok (.aload_n 0, 1) := by decide +kernel
theorem dX8_flyIn_167 : decode cX8_flyIn 167 = .ok (.getfield 7, 3) := by decide +kernel
theorem dX8_flyIn_170 : decode cX8_flyIn 170 = .ok (.iload_n 1, 1) := by decide +kernel
theorem dX8_flyIn_171 : decode cX8_flyIn 171 = .ok (.iconst 3, 1) := by decide +kernel
theorem dX8_flyIn_172 : decode cX8_flyIn 172 = .ok (.iadd, 1) := by decide +kernel
theorem dX8_flyIn_173 : decode cX8_flyIn 173 = .ok (.iload_n 3, 1) := by decide +kernel
theorem dX8_flyIn_174 : decode cX8_flyIn 174 = .ok (.iadd, 1) := by decide +kernel
theorem dX8_flyIn_175 : decode cX8_flyIn 175 = .ok (.dup2, 1) := by decide +kernel
theorem dX8_flyIn_176 : decode cX8_flyIn 176 = .ok (.iaload, 1) := by decide +kernel
theorem dX8_flyIn_177 : decode cX8_flyIn 177 = .ok (.aload_n 0, 1) := by decide +kernel
theorem dX8_flyIn_178 : decode cX8_flyIn 178 = .ok (.getfield 7, 3) := by decide +kernel
theorem dX8_flyIn_181 : decode cX8_flyIn 181 = .ok (.iload_n 1, 1) := by decide +kernel
theorem dX8_flyIn_182 : decode cX8_flyIn 182 = .ok (.iconst 3, 1) := by decide +kernel
theorem dX8_flyIn_183 : decode cX8_flyIn 183 = .ok (.iadd, 1) := by decide +kernel
theorem dX8_flyIn_184 : decode cX8_flyIn 184 = .ok (.iload_n 3, 1) := by decide +kernel
theorem dX8_flyIn_185 : decode cX8_flyIn 185 = .ok (.iadd, 1) := by decide +kernel
theorem dX8_flyIn_186 : decode cX8_flyIn 186 = .ok (.iaload, 1) := by decide +kernel
theorem dX8_flyIn_187 : decode cX8_flyIn 187 = .ok (.bipush 99, 2) := by decide +kernel
theorem dX8_flyIn_189 : decode cX8_flyIn 189 = .ok (.if_icmp .ge 7, 3) := by decide +kernel
theorem dX8_flyIn_192 : decode cX8_flyIn 192 = .ok (.iconst 1, 1) := by decide +kernel
theorem dX8_flyIn_193 : decode cX8_flyIn 193 = .ok (.goto 4, 3) := by decide +kernel
theorem dX8_flyIn_196 : decode cX8_flyIn 196 = .ok (.iconst 0, 1) := by decide +kernel
theorem dX8_flyIn_197 : decode cX8_flyIn 197 = .ok (.iadd, 1) := by decide +kernel
theorem dX8_flyIn_198 : decode cX8_flyIn 198 = .ok (.iastore, 1) := by decide +kernel
theorem dX8_flyIn_199 : decode cX8_flyIn 199 = .ok (.aload_n 0, 1) := by decide +kernel
theorem dX8_flyIn_200 : decode cX8_flyIn 200 = .ok (.iload_n 1, 1) := by decide +kernel
theorem dX8_flyIn_201 : decode cX8_flyIn 201 = .ok (.iconst 1, 1) := by decide +kernel
theorem dX8_flyIn_202 : decode cX8_flyIn 202 = .ok (.invokevirtual 66, 3) := by decide +kernel
theorem dX8_flyIn_205 : decode cX8_flyIn 205 = .ok (.iload 5, 2) := by decide +kernel
theorem dX8_flyIn_207 : decode cX8_flyIn 207 = .ok (.ireturn, 1) := by decide +kernel
theorem dX8_restIn_0 : decode cX8_restIn 0 = .ok (.aload_n 0, 1) := by decide +kernel
theorem dX8_restIn_1 : decode cX8_restIn 1 = .ok (.getfield 7, 3) := by decide +kernel
theorem dX8_restIn_4 : decode cX8_restIn 4 = .ok (.iload_n 1, 1) := by decide +kernel
theorem dX8_restIn_5 : decode cX8_restIn 5 = .ok (.iconst 3, 1) := by decide +kernel
theorem dX8_restIn_6 : decode cX8_restIn 6 = .ok (.iadd, 1) := by decide +kernel
theorem dX8_restIn_7 : decode cX8_restIn 7 = .ok (.iload_n 2, 1) := by decide +kernel
theorem dX8_restIn_8 : decode cX8_restIn 8 = .ok (.iadd, 1) := by decide +kernel
theorem dX8_restIn_9 : decode cX8_restIn 9 = .ok (.iaload, 1) := by decide +kernel
theorem dX8_restIn_10 : decode cX8_restIn 10 = .ok (.istore_n 3, 1) := by decide +kernel
theorem dX8_restIn_11 : decode cX8_restIn 11 = .ok (.aload_n 0, 1) := by decide +kernel
theorem dX8_restIn_12 : decode cX8_restIn 12 = .ok (.getfield 7, 3) := by decide +kernel
theorem dX8_restIn_15 : decode cX8_restIn 15 = .ok (.iload_n 1, 1) := by decide +kernel
theorem dX8_restIn_16 : decode cX8_restIn 16 = .ok (.iconst 3, 1) := by decide +kernel
theorem dX8_restIn_17 : decode cX8_restIn 17 = .ok (.iadd, 1) := by decide +kernel
theorem dX8_restIn_18 : decode cX8_restIn 18 = .ok (.iload_n 2, 1) := by decide +kernel
theorem dX8_restIn_19 : decode cX8_restIn 19 = .ok (.iadd, 1) := by decide +kernel
theorem dX8_restIn_20 : decode cX8_restIn 20 = .ok (.iconst 0, 1) := by decide +kernel
theorem dX8_restIn_21 : decode cX8_restIn 21 = .ok (.iastore, 1) := by decide +kernel
theorem dX8_restIn_22 : decode cX8_restIn 22 = .ok (.aload_n 0, 1) := by decide +kernel
theorem dX8_restIn_23 : decode cX8_restIn 23 = .ok (.iload_n 1, 1) := by decide +kernel
theorem dX8_restIn_24 : decode cX8_restIn 24 = .ok (.bipush 8, 2) := by decide +kernel
theorem dX8_restIn_26 : decode cX8_restIn 26 = .ok (.invokevirtual 66, 3) := by decide +kernel
theorem dX8_restIn_29 : decode cX8_restIn 29 = .ok (.iload_n 3, 1) := by decide +kernel
theorem dX8_restIn_30 : decode cX8_restIn 30 = .ok (.ireturn, 1) := by decide +kernel
theorem dX8_remember_0 : decode cX8_remember 0 = .ok (.aload_n 0, 1) := by decide +kernel
theorem dX8_remember_1 : decode cX8_remember 1 = .ok (.getfield 7, 3) := by decide +kernel
theorem dX8_remember_4 : decode cX8_remember 4 = .ok (.sipush 396, 3) := by decide +kernel
theorem dX8_remember_7 : decode cX8_remember 7 = .ok (.iaload, 1) := by decide +kernel
theorem dX8_remember_8 : decode cX8_remember 8 = .ok (.bipush 8, 2) := by decide +kernel
theorem dX8_remember_10 : decode cX8_remember 10 = .ok (.if_icmp .ne 48, 3) := by decide +kernel
theorem dX8_remember_13 : decode cX8_remember 13 = .ok (.iconst 0, 1) := by decide +kernel
theorem dX8_remember_14 : decode cX8_remember 14 = .ok (.istore_n 1, 1) := by decide +kernel
theorem dX8_remember_15 : decode cX8_remember 15 = .ok (.iload_n 1, 1) := by decide +kernel
theorem dX8_remember_16 : decode cX8_remember 16 = .ok (.sipush 308, 3) := by decide +kernel
theorem dX8_remember_19 : decode cX8_remember 19 = .ok (.if_icmp .ge 27, 3) := by decide +kernel
theorem dX8_remember_22 : decode cX8_remember 22 = .ok (.aload_n 0, 1) := by decide +kernel
theorem dX8_remember_23 : decode cX8_remember 23 = .ok (.getfield 7, 3) := by decide +kernel
theorem dX8_remember_26 : decode cX8_remember 26 = .ok (.bipush 44, 2) := by decide +kernel
theorem dX8_remember_28 : decode cX8_remember 28 = .ok (.iload_n 1, 1) := by decide +kernel
theorem dX8_remember_29 : decode cX8_remember 29 = .ok (.iadd, 1) := by decide +kernel
theorem dX8_remember_30 : decode cX8_remember 30 = .ok (.aload_n 0, 1) := by decide +kernel
theorem dX8_remember_31 : decode cX8_remember 31 = .ok (.getfield 7, 3) := by decide +kernel
theorem dX8_remember_34 : decode cX8_remember 34 = .ok (.bipush 88, 2) := by decide +kernel
theorem dX8_remember_36 : decode cX8_remember 36 = .ok (.iload_n 1, 1) := by decide +kernel
theorem dX8_remember_37 : decode cX8_remember 37 = .ok (.iadd, 1) := by decide +kernel
theorem dX8_remember_38 : decode cX8_remember 38 = .ok (.iaload, 1) := by decide +kernel
theorem dX8_remember_39 : decode cX8_remember 39 = .ok (.iastore, 1) := by decide +kernel
theorem dX8_remember_40 : decode cX8_remember 40 = .ok (.iinc 1 1, 3) := by decide +kernel
theorem dX8_remember_43 : decode cX8_remember 43 = .ok (.goto (-28), 3) := by decide +kernel
theorem dX8_remember_46 : decode cX8_remember 46 = .ok (.aload_n 0, 1) := by decide +kernel
theorem dX8_remember_47 : decode cX8_remember 47 = .ok (.getfield 7, 3) := by decide +kernel
theorem dX8_remember_50 : decode cX8_remember 50 = .ok (.sipush 396, 3) := by decide +kernel
theorem dX8_remember_53 : decode cX8_remember 53 = .ok (.dup2, 1) := by decide +kernel
theorem dX8_remember_54 : decode cX8_remember 54 = .ok (.iaload, 1) := by decide +kernel
theorem dX8_remember_55 : decode cX8_remember 55 = .ok (.iconst 1, 1) := by decide +kernel
theorem dX8_remember_56 : decode cX8_remember 56 = .ok (.isub, 1) := by decide +kernel
theorem dX8_remember_57 : decode cX8_remember 57 = .ok (.iastore, 1) := by decide +kernel
theorem dX8_remember_58 : decode cX8_remember 58 = .ok (.aload_n 0, 1) := by decide +kernel
theorem dX8_remember_59 : decode cX8_remember 59 = .ok (.iconst 0, 1) := by decide +kernel
theorem dX8_remember_60 : decode cX8_remember 60 = .ok (.bipush 44, 2) := by decide +kernel
theorem dX8_remember_62 : decode cX8_remember 62 = .ok (.bipush 44, 2) := by decide +kernel
theorem dX8_remember_64 : decode cX8_remember 64 = .ok (.aload_n 0, 1) := by decide +kernel
theorem dX8_remember_65 : decode cX8_remember 65 = .ok (.getfield 7, 3) := by decide +kernel
theorem dX8_remember_68 : decode cX8_remember 68 = .ok (.sipush 396, 3) := by decide +kernel
theorem dX8_remember_71 : decode cX8_remember 71 = .ok (.iaload, 1) := by decide +kernel
theorem dX8_remember_72 : decode cX8_remember 72 = .ok (.imul, 1) := by decide +kernel
theorem dX8_remember_73 : decode cX8_remember 73 = .ok (.iadd, 1) := by decide +kernel
theorem dX8_remember_74 : decode cX8_remember 74 = .ok (.bipush 44, 2) := by decide +kernel
theorem dX8_remember_76 : decode cX8_remember 76 = .ok (.invokevirtual 70, 3) := by decide +kernel
theorem dX8_remember_79 : decode cX8_remember 79 = .ok (.aload_n 0, 1) := by decide +kernel
theorem dX8_remember_80 : decode cX8_remember 80 = .ok (.getfield 7, 3) := by decide +kernel
theorem dX8_remember_83 : decode cX8_remember 83 = .ok (.sipush 396, 3) := by decide +kernel
theorem dX8_remember_86 : decode cX8_remember 86 = .ok (.dup2, 1) := by decide +kernel
theorem dX8_remember_87 : decode cX8_remember 87 = .ok (.iaload, 1) := by decide +kernel
theorem dX8_remember_88 : decode cX8_remember 88 = .ok (.iconst 1, 1) := by decide +kernel
theorem dX8_remember_89 : decode cX8_remember 89 = .ok (.iadd, 1) := by decide +kernel
theorem dX8_remember_90 : decode cX8_remember 90 = .ok (.iastore, 1) := by decide +kernel
theorem dX8_remember_91 : decode cX8_remember 91 = .ok (.return_, 1) := by decide +kernel
theorem dX8_country_0 : decode cX8_country 0 = .ok (.aload_n 0, 1) := by decide +kernel
theorem dX8_country_1 : decode cX8_country 1 = .ok (.getfield 7, 3) := by decide +kernel
theorem dX8_country_4 : decode cX8_country 4 = .ok (.sipush 418, 3) := by decide +kernel
theorem dX8_country_7 : decode cX8_country 7 = .ok (.iaload, 1) := by decide +kernel
theorem dX8_country_8 : decode cX8_country 8 = .ok (.istore_n 1, 1) := by decide +kernel
theorem dX8_country_9 : decode cX8_country 9 = .ok (.aload_n 0, 1) := by decide +kernel
theorem dX8_country_10 : decode cX8_country 10 = .ok (.iconst 0, 1) := by decide +kernel
theorem dX8_country_11 : decode cX8_country 11 = .ok (.invokevirtual 74, 3) := by decide +kernel
theorem dX8_country_14 : decode cX8_country 14 = .ok (.iload_n 1, 1) := by decide +kernel
theorem dX8_country_15 : decode cX8_country 15 = .ok (.ireturn, 1) := by decide +kernel
theorem dX8_placeIn_0 : decode cX8_placeIn 0 = .ok (.aload_n 0, 1) := by decide +kernel
theorem dX8_placeIn_1 : decode cX8_placeIn 1 = .ok (.getfield 7, 3) := by decide +kernel
theorem dX8_placeIn_4 : decode cX8_placeIn 4 = .ok (.iload_n 1, 1) := by decide +kernel
theorem dX8_placeIn_5 : decode cX8_placeIn 5 = .ok (.sipush 418, 3) := by decide +kernel
theorem dX8_placeIn_8 : decode cX8_placeIn 8 = .ok (.iadd, 1) := by decide +kernel
theorem dX8_placeIn_9 : decode cX8_placeIn 9 = .ok (.iaload, 1) := by decide +kernel
theorem dX8_placeIn_10 : decode cX8_placeIn 10 = .ok (.istore 5, 2) := by decide +kernel
theorem dX8_placeIn_12 : decode cX8_placeIn 12 = .ok (.aload_n 0, 1) := by decide +kernel
theorem dX8_placeIn_13 : decode cX8_placeIn 13 = .ok (.getfield 7, 3) := by decide +kernel
theorem dX8_placeIn_16 : decode cX8_placeIn 16 = .ok (.iload_n 1, 1) := by decide +kernel
theorem dX8_placeIn_17 : decode cX8_placeIn 17 = .ok (.sipush 397, 3) := by decide +kernel
theorem dX8_placeIn_20 : decode cX8_placeIn 20 = .ok (.iadd, 1) := by decide +kernel
theorem dX8_placeIn_21 : decode cX8_placeIn 21 = .ok (.iconst 3, 1) := by decide +kernel
theorem dX8_placeIn_22 : decode cX8_placeIn 22 = .ok (.iload 5, 2) := by decide +kernel
theorem dX8_placeIn_24 : decode cX8_placeIn 24 = .ok (.imul, 1) := by decide +kernel
theorem dX8_placeIn_25 : decode cX8_placeIn 25 = .ok (.iadd, 1) := by decide +kernel
theorem dX8_placeIn_26 : decode cX8_placeIn 26 = .ok (.iload_n 2, 1) := by decide +kernel
theorem dX8_placeIn_27 : decode cX8_placeIn 27 = .ok (.iastore, 1) := by decide +kernel
theorem dX8_placeIn_28 : decode cX8_placeIn 28 = .ok (.aload_n 0, 1) := by decide +kernel
theorem dX8_placeIn_29 : decode cX8_placeIn 29 = .ok (.getfield 7, 3) := by decide +kernel
theorem dX8_placeIn_32 : decode cX8_placeIn 32 = .ok (.iload_n 1, 1) := by decide +kernel
theorem dX8_placeIn_33 : decode cX8_placeIn 33 = .ok (.sipush 397, 3) := by decide +kernel
theorem dX8_placeIn_36 : decode cX8_placeIn 36 = .ok (.iadd, 1) := by decide +kernel
theorem dX8_placeIn_37 : decode cX8_placeIn 37 = .ok (.iconst 3, 1) := by decide +kernel
theorem dX8_placeIn_38 : decode cX8_placeIn 38 = .ok (.iload 5, 2) := by decide +kernel
theorem dX8_placeIn_40 : decode cX8_placeIn 40 = .ok (.imul, 1) := by decide +kernel
theorem dX8_placeIn_41 : decode cX8_placeIn 41 = .ok (.iadd, 1) := by decide +kernel
theorem dX8_placeIn_42 : decode cX8_placeIn 42 = .ok (.iconst 1, 1) := by decide +kernel
theorem dX8_placeIn_43 : decode cX8_placeIn 43 = .ok (.iadd, 1) := by decide +kernel
theorem dX8_placeIn_44 : decode cX8_placeIn 44 = .ok (.iload_n 3, 1) := by decide +kernel
theorem dX8_placeIn_45 : decode cX8_placeIn 45 = .ok (.iastore, 1) := by decide +kernel
theorem dX8_placeIn_46 : decode cX8_placeIn 46 = .ok (.aload_n 0, 1) := by decide +kernel
theorem dX8_placeIn_47 : decode cX8_placeIn 47 = .ok (.getfield 7, 3) := by decide +kernel
theorem dX8_placeIn_50 : decode cX8_placeIn 50 = .ok (.iload_n 1, 1) := by decide +kernel
theorem dX8_placeIn_51 : decode cX8_placeIn 51 = .ok (.sipush 397, 3) := by decide +kernel
theorem dX8_placeIn_54 : decode cX8_placeIn 54 = .ok (.iadd, 1) := by decide +kernel
theorem dX8_placeIn_55 : decode cX8_placeIn 55 = .ok (.iconst 3, 1) := by decide +kernel
theorem dX8_placeIn_56 : decode cX8_placeIn 56 = .ok (.iload 5, 2) := by decide +kernel
theorem dX8_placeIn_58 : decode cX8_placeIn 58 = .ok (.imul, 1) := by decide +kernel
theorem dX8_placeIn_59 : decode cX8_placeIn 59 = .ok (.iadd, 1) := by decide +kernel
theorem dX8_placeIn_60 : decode cX8_placeIn 60 = .ok (.iconst 2, 1) := by decide +kernel
theorem dX8_placeIn_61 : decode cX8_placeIn 61 = .ok (.iadd, 1) := by decide +kernel
theorem dX8_placeIn_62 : decode cX8_placeIn 62 = .ok (.iload 4, 2) := by decide +kernel
theorem dX8_placeIn_64 : decode cX8_placeIn 64 = .ok (.iastore, 1) := by decide +kernel
theorem dX8_placeIn_65 : decode cX8_placeIn 65 = .ok (.aload_n 0, 1) := by decide +kernel
theorem dX8_placeIn_66 : decode cX8_placeIn 66 = .ok (.getfield 7, 3) := by decide +kernel
theorem dX8_placeIn_69 : decode cX8_placeIn 69 = .ok (.iload_n 1, 1) := by decide +kernel
theorem dX8_placeIn_70 : decode cX8_placeIn 70 = .ok (.sipush 418, 3) := by decide +kernel
theorem dX8_placeIn_73 : decode cX8_placeIn 73 = .ok (.iadd, 1) := by decide +kernel
theorem dX8_placeIn_74 : decode cX8_placeIn 74 = .ok (.dup2, 1) := by decide +kernel
theorem dX8_placeIn_75 : decode cX8_placeIn 75 = .ok (.iaload, 1) := by decide +kernel
theorem dX8_placeIn_76 : decode cX8_placeIn 76 = .ok (.iconst 1, 1) := by decide +kernel
theorem dX8_placeIn_77 : decode cX8_placeIn 77 = .ok (.iadd, 1) := by decide +kernel
theorem dX8_placeIn_78 : decode cX8_placeIn 78 = .ok (.iastore, 1) := by decide +kernel
theorem dX8_placeIn_79 : decode cX8_placeIn 79 = .ok (.aload_n 0, 1) := by decide +kernel
theorem dX8_placeIn_80 : decode cX8_placeIn 80 = .ok (.getfield 7, 3) := by decide +kernel
theorem dX8_placeIn_83 : decode cX8_placeIn 83 = .ok (.iload_n 1, 1) := by decide +kernel
theorem dX8_placeIn_84 : decode cX8_placeIn 84 = .ok (.sipush 396, 3) := by decide +kernel
theorem dX8_placeIn_87 : decode cX8_placeIn 87 = .ok (.iadd, 1) := by decide +kernel
theorem dX8_placeIn_88 : decode cX8_placeIn 88 = .ok (.iconst 0, 1) := by decide +kernel
theorem dX8_placeIn_89 : decode cX8_placeIn 89 = .ok (.iastore, 1) := by decide +kernel
theorem dX8_placeIn_90 : decode cX8_placeIn 90 = .ok (.iload 5, 2) := by decide +kernel
theorem dX8_placeIn_92 : decode cX8_placeIn 92 = .ok (.ireturn, 1) := by decide +kernel
theorem dX8_crowIn_0 : decode cX8_crowIn 0 = .ok (.aload_n 0, 1) := by decide +kernel
theorem dX8_crowIn_1 : decode cX8_crowIn 1 = .ok (.getfield 7, 3) := by decide +kernel
theorem dX8_crowIn_4 : decode cX8_crowIn 4 = .ok (.iload_n 1, 1) := by decide +kernel
theorem dX8_crowIn_5 : decode cX8_crowIn 5 = .ok (.sipush 422, 3) := by decide +kernel
theorem dX8_crowIn_8 : decode cX8_crowIn 8 = .ok (.iadd, 1) := by decide +kernel
theorem dX8_crowIn_9 : decode cX8_crowIn 9 = .ok (.iaload, 1) := by decide +kernel
theorem dX8_crowIn_10 : decode cX8_crowIn 10 = .ok (.istore 4, 2) := by decide +kernel
theorem dX8_crowIn_12 : decode cX8_crowIn 12 = .ok (.aload_n 0, 1) := by decide +kernel
theorem dX8_crowIn_13 : decode cX8_crowIn 13 = .ok (.getfield 7, 3) := by decide +kernel
theorem dX8_crowIn_16 : decode cX8_crowIn 16 = .ok (.iload_n 1, 1) := by decide +kernel
theorem dX8_crowIn_17 : decode cX8_crowIn 17 = .ok (.sipush 419, 3) := by decide +kernel
theorem dX8_crowIn_20 : decode cX8_crowIn 20 = .ok (.iadd, 1) := by decide +kernel
theorem dX8_crowIn_21 : decode cX8_crowIn 21 = .ok (.iload 4, 2) := by decide +kernel
theorem dX8_crowIn_23 : decode cX8_crowIn 23 = .ok (.iadd, 1) := by decide +kernel
theorem dX8_crowIn_24 : decode cX8_crowIn 24 = .ok (.iload_n 2, 1) := by decide +kernel
theorem dX8_crowIn_25 : decode cX8_crowIn 25 = .ok (.iastore, 1) := by decide +kernel
theorem dX8_crowIn_26 : decode cX8_crowIn 26 = .ok (.aload_n 0, 1) := by decide +kernel
theorem dX8_crowIn_27 : decode cX8_crowIn 27 = .ok (.getfield 7, 3) := by decide +kernel
theorem dX8_crowIn_30 : decode cX8_crowIn 30 = .ok (.iload_n 1, 1) := by decide +kernel
theorem dX8_crowIn_31 : decode cX8_crowIn 31 = .ok (.iload 4, 2) := by decide +kernel
theorem dX8_crowIn_33 : decode cX8_crowIn 33 = .ok (.iadd, 1) := by decide +kernel
theorem dX8_crowIn_34 : decode cX8_crowIn 34 = .ok (.iload_n 3, 1) := by decide +kernel
theorem dX8_crowIn_35 : decode cX8_crowIn 35 = .ok (.iastore, 1) := by decide +kernel
theorem dX8_crowIn_36 : decode cX8_crowIn 36 = .ok (.aload_n 0, 1) := by decide +kernel
theorem dX8_crowIn_37 : decode cX8_crowIn 37 = .ok (.getfield 7, 3) := by decide +kernel
theorem dX8_crowIn_40 : decode cX8_crowIn 40 = .ok (.iload_n 1, 1) := by decide +kernel
theorem dX8_crowIn_41 : decode cX8_crowIn 41 = .ok (.iconst 3, 1) := by decide +kernel
theorem dX8_crowIn_42 : decode cX8_crowIn 42 = .ok (.iadd, 1) := by decide +kernel
theorem dX8_crowIn_43 : decode cX8_crowIn 43 = .ok (.iload 4, 2) := by decide +kernel
theorem dX8_crowIn_45 : decode cX8_crowIn 45 = .ok (.iadd, 1) := by decide +kernel
theorem dX8_crowIn_46 : decode cX8_crowIn 46 = .ok (.iconst 0, 1) := by decide +kernel
theorem dX8_crowIn_47 : decode cX8_crowIn 47 = .ok (.iastore, 1) := by decide +kernel
theorem dX8_crowIn_48 : decode cX8_crowIn 48 = .ok (.aload_n 0, 1) := by decide +kernel
theorem dX8_crowIn_49 : decode cX8_crowIn 49 = .ok (.getfield 7, 3) := by decide +kernel
theorem dX8_crowIn_52 : decode cX8_crowIn 52 = .ok (.iload_n 1, 1) := by decide +kernel
theorem dX8_crowIn_53 : decode cX8_crowIn 53 = .ok (.sipush 422, 3) := by decide +kernel
theorem dX8_crowIn_56 : decode cX8_crowIn 56 = .ok (.iadd, 1) := by decide +kernel
theorem dX8_crowIn_57 : decode cX8_crowIn 57 = .ok (.dup2, 1) := by decide +kernel
theorem dX8_crowIn_58 : decode cX8_crowIn 58 = .ok (.iaload, 1) := by decide +kernel
theorem dX8_crowIn_59 : decode cX8_crowIn 59 = .ok (.iconst 1, 1) := by decide +kernel
theorem dX8_crowIn_60 : decode cX8_crowIn 60 = .ok (.iadd, 1) := by decide +kernel
theorem dX8_crowIn_61 : decode cX8_crowIn 61 = .ok (.iastore, 1) := by decide +kernel
theorem dX8_crowIn_62 : decode cX8_crowIn 62 = .ok (.aload_n 0, 1) := by decide +kernel
theorem dX8_crowIn_63 : decode cX8_crowIn 63 = .ok (.getfield 7, 3) := by decide +kernel
theorem dX8_crowIn_66 : decode cX8_crowIn 66 = .ok (.iload_n 1, 1) := by decide +kernel
theorem dX8_crowIn_67 : decode cX8_crowIn 67 = .ok (.sipush 396, 3) := by decide +kernel
theorem dX8_crowIn_70 : decode cX8_crowIn 70 = .ok (.iadd, 1) := by decide +kernel
theorem dX8_crowIn_71 : decode cX8_crowIn 71 = .ok (.iconst 0, 1) := by decide +kernel
theorem dX8_crowIn_72 : decode cX8_crowIn 72 = .ok (.iastore, 1) := by decide +kernel
theorem dX8_crowIn_73 : decode cX8_crowIn 73 = .ok (.iload 4, 2) := by decide +kernel
theorem dX8_crowIn_75 : decode cX8_crowIn 75 = .ok (.ireturn, 1) := by decide +kernel
theorem dX8_place_0 : decode cX8_place 0 = .ok (.iload_n 1, 1) := by decide +kernel
theorem dX8_place_1 : decode cX8_place 1 = .ok (.iconst 0, 1) := by decide +kernel
theorem dX8_place_2 : decode cX8_place 2 = .ok (.iconst 5, 1) := by decide +kernel
theorem dX8_place_3 : decode cX8_place 3 = .ok (.invokestatic 39, 3) := by decide +kernel
theorem dX8_place_6 : decode cX8_place 6 = .ok (.ifCond .eq 23, 3) := by decide +kernel
theorem dX8_place_9 : decode cX8_place 9 = .ok (.iload_n 2, 1) := by decide +kernel
theorem dX8_place_10 : decode cX8_place 10 = .ok (.iconst 0, 1) := by decide +kernel
theorem dX8_place_11 : decode cX8_place 11 = .ok (.bipush 9, 2) := by decide +kernel
theorem dX8_place_13 : decode cX8_place 13 = .ok (.invokestatic 39, 3) := by decide +kernel
theorem dX8_place_16 : decode cX8_place 16 = .ok (.ifCond .eq 13, 3) := by decide +kernel
theorem dX8_place_19 : decode cX8_place 19 = .ok (.iload_n 3, 1) := by decide +kernel
theorem dX8_place_20 : decode cX8_place 20 = .ok (.iconst 0, 1) := by decide +kernel
theorem dX8_place_21 : decode cX8_place 21 = .ok (.bipush 9, 2) := by decide +kernel
theorem dX8_place_23 : decode cX8_place 23 = .ok (.invokestatic 39, 3) := by decide +kernel
theorem dX8_place_26 : decode cX8_place 26 = .ok (.ifCond .ne 8, 3) := by decide +kernel
theorem dX8_place_29 : decode cX8_place 29 = .ok (.aload_n 0, 1) := by decide +kernel
theorem dX8_place_30 : decode cX8_place 30 = .ok (.invokevirtual 78, 3) := by decide +kernel
theorem dX8_place_33 : decode cX8_place 33 = .ok (.ireturn, 1) := by decide +kernel
theorem dX8_place_34 : decode cX8_place 34 = .ok (.aload_n 0, 1) := by decide +kernel
theorem dX8_place_35 : decode cX8_place 35 = .ok (.getfield 7, 3) := by decide +kernel
theorem dX8_place_38 : decode cX8_place 38 = .ok (.sipush 418, 3) := by decide +kernel
theorem dX8_place_41 : decode cX8_place 41 = .ok (.iaload, 1) := by decide +kernel
theorem dX8_place_42 : decode cX8_place 42 = .ok (.bipush 7, 2) := by decide +kernel
theorem dX8_place_44 : decode cX8_place 44 = .ok (.if_icmp .ne 10, 3) := by decide +kernel
theorem dX8_place_47 : decode cX8_place 47 = .ok (.aload_n 0, 1) := by decide +kernel
theorem dX8_place_48 : decode cX8_place 48 = .ok (.invokevirtual 82, 3) := by decide +kernel
theorem dX8_place_51 : decode cX8_place 51 = .ok (.goto 11, 3) := by decide +kernel
theorem dX8_place_54 : decode cX8_place 54 = .ok (.aload_n 0, 1) := by decide +kernel
theorem dX8_place_55 : decode cX8_place 55 = .ok (.iconst 0, 1) := by decide +kernel
theorem dX8_place_56 : decode cX8_place 56 = .ok (.iload_n 1, 1) := by decide +kernel
theorem dX8_place_57 : decode cX8_place 57 = .ok (.iload_n 2, 1) := by decide +kernel
theorem dX8_place_58 : decode cX8_place 58 = .ok (.iload_n 3, 1) := by decide +kernel
theorem dX8_place_59 : decode cX8_place 59 = .ok (.invokevirtual 85, 3) := by decide +kernel
theorem dX8_place_62 : decode cX8_place 62 = .ok (.ireturn, 1) := by decide +kernel
theorem dX8_crow_0 : decode cX8_crow 0 = .ok (.iload_n 1, 1) := by decide +kernel
theorem dX8_crow_1 : decode cX8_crow 1 = .ok (.iconst 0, 1) := by decide +kernel
theorem dX8_crow_2 : decode cX8_crow 2 = .ok (.iconst 5, 1) := by decide +kernel
theorem dX8_crow_3 : decode cX8_crow 3 = .ok (.invokestatic 39, 3) := by decide +kernel
theorem dX8_crow_6 : decode cX8_crow 6 = .ok (.ifCond .eq 11, 3) := by decide +kernel
theorem dX8_crow_9 : decode cX8_crow 9 = .ok (.aload_n 0, 1) := by decide +kernel
theorem dX8_crow_10 : decode cX8_crow 10 = .ok (.iload_n 2, 1) := by decide +kernel
theorem dX8_crow_11 : decode cX8_crow 11 = .ok (.invokevirtual 88, 3) := by decide +kernel
theorem dX8_crow_14 : decode cX8_crow 14 = .ok (.ifCond .ne 8, 3) := by decide +kernel
theorem dX8_crow_17 : decode cX8_crow 17 = .ok (.aload_n 0, 1) := by decide +kernel
theorem dX8_crow_18 : decode cX8_crow 18 = .ok (.invokevirtual 78, 3) := by decide +kernel
theorem dX8_crow_21 : decode cX8_crow 21 = .ok (.ireturn, 1) := by decide +kernel
theorem dX8_crow_22 : decode cX8_crow 22 = .ok (.aload_n 0, 1) := by decide +kernel
theorem dX8_crow_23 : decode cX8_crow 23 = .ok (.getfield 7, 3) := by decide +kernel
theorem dX8_crow_26 : decode cX8_crow 26 = .ok (.sipush 422, 3) := by decide +kernel
theorem dX8_crow_29 : decode cX8_crow 29 = .ok (.iaload, 1) := by decide +kernel
theorem dX8_crow_30 : decode cX8_crow 30 = .ok (.iconst 3, 1) := by decide +kernel
theorem dX8_crow_31 : decode cX8_crow 31 = .ok (.if_icmp .ne 10, 3) := by decide +kernel
theorem dX8_crow_34 : decode cX8_crow 34 = .ok (.aload_n 0, 1) := by decide +kernel
theorem dX8_crow_35 : decode cX8_crow 35 = .ok (.invokevirtual 82, 3) := by decide +kernel
theorem dX8_crow_38 : decode cX8_crow 38 = .ok (.goto 10, 3) := by decide +kernel
theorem dX8_crow_41 : decode cX8_crow 41 = .ok (.aload_n 0, 1) := by decide +kernel
theorem dX8_crow_42 : decode cX8_crow 42 = .ok (.iconst 0, 1) := by decide +kernel
theorem dX8_crow_43 : decode cX8_crow 43 = .ok (.iload_n 1, 1) := by decide +kernel
theorem dX8_crow_44 : decode cX8_crow 44 = .ok (.iload_n 2, 1) := by decide +kernel
theorem dX8_crow_45 : decode cX8_crow 45 = .ok (.invokevirtual 92, 3) := by decide +kernel
theorem dX8_crow_48 : decode cX8_crow 48 = .ok (.ireturn, 1) := by decide +kernel
theorem dX8_type_0 : decode cX8_type 0 = .ok (.iload_n 1, 1) := by decide +kernel
theorem dX8_type_1 : decode cX8_type 1 = .ok (.iconst 0, 1) := by decide +kernel
theorem dX8_type_2 : decode cX8_type 2 = .ok (.bipush 127, 2) := by decide +kernel
theorem dX8_type_4 : decode cX8_type 4 = .ok (.invokestatic 39, 3) := by decide +kernel
theorem dX8_type_7 : decode cX8_type 7 = .ok (.ifCond .ne 8, 3) := by decide +kernel
theorem dX8_type_10 : decode cX8_type 10 = .ok (.aload_n 0, 1) := by decide +kernel
theorem dX8_type_11 : decode cX8_type 11 = .ok (.invokevirtual 78, 3) := by decide +kernel
theorem dX8_type_14 : decode cX8_type 14 = .ok (.ireturn, 1) := by decide +kernel
theorem dX8_type_15 : decode cX8_type 15 = .ok (.aload_n 0, 1) := by decide +kernel
theorem dX8_type_16 : decode cX8_type 16 = .ok (.getfield 95, 3) := by decide +kernel
theorem dX8_type_19 : decode cX8_type 19 = .ok (.sipush 150, 3) := by decide +kernel
theorem dX8_type_22 : decode cX8_type 22 = .ok (.if_icmp .ne 8, 3) := by decide +kernel
theorem dX8_type_25 : decode cX8_type 25 = .ok (.aload_n 0, 1) := by decide +kernel
theorem dX8_type_26 : decode cX8_type 26 = .ok (.invokevirtual 82, 3) := by decide +kernel
theorem dX8_type_29 : decode cX8_type 29 = .ok (.ireturn, 1) := by decide +kernel
theorem dX8_type_30 : decode cX8_type 30 = .ok (.aload_n 0, 1) := by decide +kernel
theorem dX8_type_31 : decode cX8_type 31 = .ok (.getfield 13, 3) := by decide +kernel
theorem dX8_type_34 : decode cX8_type 34 = .ok (.aload_n 0, 1) := by decide +kernel
theorem dX8_type_35 : decode cX8_type 35 = .ok (.getfield 95, 3) := by decide +kernel
theorem dX8_type_38 : decode cX8_type 38 = .ok (.iload_n 1, 1) := by decide +kernel
theorem dX8_type_39 : decode cX8_type 39 = .ok (.iastore, 1) := by decide +kernel
theorem dX8_type_40 : decode cX8_type 40 = .ok (.aload_n 0, 1) := by decide +kernel
theorem dX8_type_41 : decode cX8_type 41 = .ok (.dup, 1) := by decide +kernel
theorem dX8_type_42 : decode cX8_type 42 = .ok (.getfield 95, 3) := by decide +kernel
theorem dX8_type_45 : decode cX8_type 45 = .ok (.iconst 1, 1) := by decide +kernel
theorem dX8_type_46 : decode cX8_type 46 = .ok (.iadd, 1) := by decide +kernel
theorem dX8_type_47 : decode cX8_type 47 = .ok (.putfield 95, 3) := by decide +kernel
theorem dX8_type_50 : decode cX8_type 50 = .ok (.aload_n 0, 1) := by decide +kernel
theorem dX8_type_51 : decode cX8_type 51 = .ok (.getfield 95, 3) := by decide +kernel
theorem dX8_type_54 : decode cX8_type 54 = .ok (.ireturn, 1) := by decide +kernel
theorem dX8_clear_0 : decode cX8_clear 0 = .ok (.aload_n 0, 1) := by decide +kernel
theorem dX8_clear_1 : decode cX8_clear 1 = .ok (.getfield 95, 3) := by decide +kernel
theorem dX8_clear_4 : decode cX8_clear 4 = .ok (.istore_n 1, 1) := by decide +kernel
theorem dX8_clear_5 : decode cX8_clear 5 = .ok (.aload_n 0, 1) := by decide +kernel
theorem dX8_clear_6 : decode cX8_clear 6 = .ok (.iconst 0, 1) := by decide +kernel
theorem dX8_clear_7 : decode cX8_clear 7 = .ok (.putfield 95, 3) := by decide +kernel
theorem dX8_clear_10 : decode cX8_clear 10 = .ok (.iload_n 1, 1) := by decide +kernel
theorem dX8_clear_11 : decode cX8_clear 11 = .ok (.ireturn, 1) := by decide +kernel
theorem dX8_isLetter_0 : decode cX8_isLetter 0 = .ok (.iload_n 1, 1) := by decide +kernel
theorem dX8_isLetter_1 : decode cX8_isLetter 1 = .ok (.aload_n 0, 1) := by decide +kernel
theorem dX8_isLetter_2 : decode cX8_isLetter 2 = .ok (.getfield 95, 3) := by decide +kernel
theorem dX8_isLetter_5 : decode cX8_isLetter 5 = .ok (.if_icmp .ge 23, 3) := by decide +kernel
theorem dX8_isLetter_8 : decode cX8_isLetter 8 = .ok (.aload_n 0, 1) := by decide +kernel
theorem dX8_isLetter_9 : decode cX8_isLetter 9 = .ok (.getfield 13, 3) := by decide +kernel
theorem dX8_isLetter_12 : decode cX8_isLetter 12 = .ok (.iload_n 1, 1) := by decide +kernel
theorem dX8_isLetter_13 : decode cX8_isLetter 13 = .ok (.iaload, 1) := by decide +kernel
theorem dX8_isLetter_14 : decode cX8_isLetter 14 = .ok (.bipush 97, 2) := by decide +kernel
theorem dX8_isLetter_16 : decode cX8_isLetter 16 = .ok (.bipush 122, 2) := by decide +kernel
theorem dX8_isLetter_18 : decode cX8_isLetter 18 = .ok (.invokestatic 39, 3) := by decide +kernel
theorem dX8_isLetter_21 : decode cX8_isLetter 21 = .ok (.ifCond .eq 7, 3) := by decide +kernel
theorem dX8_isLetter_24 : decode cX8_isLetter 24 = .ok (.iconst 1, 1) := by decide +kernel
theorem dX8_isLetter_25 : decode cX8_isLetter 25 = .ok (.goto 4, 3) := by decide +kernel
theorem dX8_isLetter_28 : decode cX8_isLetter 28 = .ok (.iconst 0, 1) := by decide +kernel
theorem dX8_isLetter_29 : decode cX8_isLetter 29 = .ok (.ireturn, 1) := by decide +kernel
theorem dX8_isFigure_0 : decode cX8_isFigure 0 = .ok (.iload_n 1, 1) := by decide +kernel
theorem dX8_isFigure_1 : decode cX8_isFigure 1 = .ok (.aload_n 0, 1) := by decide +kernel
theorem dX8_isFigure_2 : decode cX8_isFigure 2 = .ok (.getfield 95, 3) := by decide +kernel
theorem dX8_isFigure_5 : decode cX8_isFigure 5 = .ok (.if_icmp .ge 23, 3) := by decide +kernel
theorem dX8_isFigure_8 : decode cX8_isFigure 8 = .ok (.aload_n 0, 1) := by decide +kernel
theorem dX8_isFigure_9 : decode cX8_isFigure 9 = .ok (.getfield 13, 3) := by decide +kernel
theorem dX8_isFigure_12 : decode cX8_isFigure 12 = .ok (.iload_n 1, 1) := by decide +kernel
theorem dX8_isFigure_13 : decode cX8_isFigure 13 = .ok (.iaload, 1) := by decide +kernel
theorem dX8_isFigure_14 : decode cX8_isFigure 14 = .ok (.bipush 48, 2) := by decide +kernel
theorem dX8_isFigure_16 : decode cX8_isFigure 16 = .ok (.bipush 57, 2) := by decide +kernel
theorem dX8_isFigure_18 : decode cX8_isFigure 18 = .ok (.invokestatic 39, 3) := by decide +kernel
theorem dX8_isFigure_21 : decode cX8_isFigure 21 = .ok (.ifCond .eq 7, 3) := by decide +kernel
theorem dX8_isFigure_24 : decode cX8_isFigure 24 = .ok (.iconst 1, 1) := by decide +kernel
theorem dX8_isFigure_25 : decode cX8_isFigure 25 = .ok (.goto 4, 3) := by decide +kernel
theorem dX8_isFigure_28 : decode cX8_isFigure 28 = .ok (.iconst 0, 1) := by decide +kernel
theorem dX8_isFigure_29 : decode cX8_isFigure 29 = .ok (.ireturn, 1) := by decide +kernel
theorem dX8_readNumber_0 : decode cX8_readNumber 0 = .ok (.aload_n 0, 1) := by decide +kernel
theorem dX8_readNumber_1 : decode cX8_readNumber 1 = .ok (.iconst 0, 1) := by decide +kernel
theorem dX8_readNumber_2 : decode cX8_readNumber 2 = .ok (.putfield 98, 3) := by decide +kernel
theorem dX8_readNumber_5 : decode cX8_readNumber 5 = .ok (.aload_n 0, 1) := by decide +kernel
theorem dX8_readNumber_6 : decode cX8_readNumber 6 = .ok (.aload_n 0, 1) := by decide +kernel
theorem dX8_readNumber_7 : decode cX8_readNumber 7 = .ok (.getfield 101, 3) := by decide +kernel
theorem dX8_readNumber_10 : decode cX8_readNumber 10 = .ok (.invokevirtual 104, 3) := by decide +kernel
theorem dX8_readNumber_13 : decode cX8_readNumber 13 = .ok (.ifCond .eq 60, 3) := by decide +kernel
theorem dX8_readNumber_16 : decode cX8_readNumber 16 = .ok (.aload_n 0, 1) := by decide +kernel
theorem dX8_readNumber_17 : decode cX8_readNumber 17 = .ok (.aload_n 0, 1) := by decide +kernel
theorem dX8_readNumber_18 : decode cX8_readNumber 18 = .ok (.getfield 101, 3) := by decide +kernel
theorem dX8_readNumber_21 : decode cX8_readNumber 21 = .ok (.aload_n 0, 1) := by decide +kernel
theorem dX8_readNumber_22 : decode cX8_readNumber 22 = .ok (.getfield 107, 3) := by decide +kernel
theorem dX8_readNumber_25 : decode cX8_readNumber 25 = .ok (.isub, 1) := by decide +kernel
theorem dX8_readNumber_26 : decode cX8_readNumber 26 = .ok (.iconst 2, 1) := by decide +kernel
theorem dX8_readNumber_27 : decode cX8_readNumber 27 = .ok (.if_icmp .ge 26, 3) := by decide +kernel
theorem dX8_readNumber_30 : decode cX8_readNumber 30 = .ok (.bipush 10, 2) := by decide +kernel
theorem dX8_readNumber_32 : decode cX8_readNumber 32 = .ok (.aload_n 0, 1) := by decide +kernel
theorem dX8_readNumber_33 : decode cX8_readNumber 33 = .ok (.getfield 98, 3) := by decide +kernel
theorem dX8_readNumber_36 : decode cX8_readNumber 36 = .ok (.imul, 1) := by decide +kernel
theorem dX8_readNumber_37 : decode cX8_readNumber 37 = .ok (.aload_n 0, 1) := by decide +kernel
theorem dX8_readNumber_38 : decode cX8_readNumber 38 = .ok (.getfield 13, 3) := by decide +kernel
theorem dX8_readNumber_41 : decode cX8_readNumber 41 = .ok (.aload_n 0, 1) := by decide +kernel
theorem dX8_readNumber_42 : decode cX8_readNumber 42 = .ok (.getfield 101, 3) := by decide +kernel
theorem dX8_readNumber_45 : decode cX8_readNumber 45 = .ok (.iaload, 1) := by decide +kernel
theorem dX8_readNumber_46 : decode cX8_readNumber 46 = .ok (.iadd, 1) := by decide +kernel
theorem dX8_readNumber_47 : decode cX8_readNumber 47 = .ok (.bipush 48, 2) := by decide +kernel
theorem dX8_readNumber_49 : decode cX8_readNumber 49 = .ok (.isub, 1) := by decide +kernel
theorem dX8_readNumber_50 : decode cX8_readNumber 50 = .ok (.goto 7, 3) := by decide +kernel
theorem dX8_readNumber_53 : decode cX8_readNumber 53 = .ok (.aload_n 0, 1) := by decide +kernel
theorem dX8_readNumber_54 : decode cX8_readNumber 54 = .ok (.getfield 98, 3) := by decide +kernel
theorem dX8_readNumber_57 : decode cX8_readNumber 57 = .ok (.putfield 98, 3) := by decide +kernel
theorem dX8_readNumber_60 : decode cX8_readNumber 60 = .ok (.aload_n 0, 1) := by decide +kernel
theorem dX8_readNumber_61 : decode cX8_readNumber 61 = .ok (.dup, 1) := by decide +kernel
theorem dX8_readNumber_62 : decode cX8_readNumber 62 = .ok (.getfield 101, 3) := by decide +kernel
theorem dX8_readNumber_65 : decode cX8_readNumber 65 = .ok (.iconst 1, 1) := by decide +kernel
theorem dX8_readNumber_66 : decode cX8_readNumber 66 = .ok (.iadd, 1) := by decide +kernel
theorem dX8_readNumber_67 : decode cX8_readNumber 67 = .ok (.putfield 101, 3) := by decide +kernel
theorem dX8_readNumber_70 : decode cX8_readNumber 70 = .ok (.goto (-65), 3) := by decide +kernel
theorem dX8_readNumber_73 : decode cX8_readNumber 73 = .ok (.aload_n 0, 1) := by decide +kernel
theorem dX8_readNumber_74 : decode cX8_readNumber 74 = .ok (.aload_n 0, 1) := by decide +kernel
theorem dX8_readNumber_75 : decode cX8_readNumber 75 = .ok (.getfield 101, 3) := by decide +kernel
theorem dX8_readNumber_78 : decode cX8_readNumber 78 = .ok (.aload_n 0, 1) := by decide +kernel
theorem dX8_readNumber_79 : decode cX8_readNumber 79 = .ok (.getfield 107, 3) := by decide +kernel
theorem dX8_readNumber_82 : decode cX8_readNumber 82 = .ok (.isub, 1) := by decide +kernel
theorem dX8_readNumber_83 : decode cX8_readNumber 83 = .ok (.iconst 2, 1) := by decide +kernel
theorem dX8_readNumber_84 : decode cX8_readNumber 84 = .ok (.if_icmp .le 7, 3) := by decide +kernel
theorem dX8_readNumber_87 : decode cX8_readNumber 87 = .ok (.iconst 4, 1) := by decide +kernel
theorem dX8_readNumber_88 : decode cX8_readNumber 88 = .ok (.goto 4, 3) := by decide +kernel
theorem dX8_readNumber_91 : decode cX8_readNumber 91 = .ok (.iconst 2, 1) := by decide +kernel
theorem dX8_readNumber_92 : decode cX8_readNumber 92 = .ok (.putfield 110, 3) := by decide +kernel
theorem dX8_readNumber_95 : decode cX8_readNumber 95 = .ok (.return_, 1) := by decide +kernel
theorem dX8_nextToken_0 : decode cX8_nextToken 0 = .ok (.aload_n 0, 1) := by decide +kernel
theorem dX8_nextToken_1 : decode cX8_nextToken 1 = .ok (.getfield 101, 3) := by decide +kernel
theorem dX8_nextToken_4 : decode cX8_nextToken 4 = .ok (.aload_n 0, 1) := by decide +kernel
theorem dX8_nextToken_5 : decode cX8_nextToken 5 = .ok (.getfield 95, 3) := by decide +kernel
theorem dX8_nextToken_8 : decode cX8_nextToken 8 = .ok (.if_icmp .ge 30, 3) := by decide +kernel
theorem dX8_nextToken_11 : decode cX8_nextToken 11 = .ok (.aload_n 0, 1) := by decide +kernel
theorem dX8_nextToken_12 : decode cX8_nextToken 12 = .ok (.getfield 13, 3) := by decide +kernel
theorem dX8_nextToken_15 : decode cX8_nextToken 15 = .ok (.aload_n 0, 1) := by decide +kernel
theorem dX8_nextToken_16 : decode cX8_nextToken 16 = .ok (.getfield 101, 3) := by decide +kernel
theorem dX8_nextToken_19 : decode cX8_nextToken 19 = .ok (.iaload, 1) := by decide +kernel
theorem dX8_nextToken_20 : decode cX8_nextToken 20 = .ok (.bipush 32, 2) := by decide +kernel
theorem dX8_nextToken_22 : decode cX8_nextToken 22 = .ok (.if_icmp .ne 16, 3) := by decide +kernel
theorem dX8_nextToken_25 : decode cX8_nextToken 25 = .ok (.aload_n 0, 1) := by decide +kernel
theorem dX8_nextToken_26 : decode cX8_nextToken 26 = .ok (.dup, 1) := by decide +kernel
theorem dX8_nextToken_27 : decode cX8_nextToken 27 = .ok (.getfield 101, 3) := by decide +kernel
theorem dX8_nextToken_30 : decode cX8_nextToken 30 = .ok (.iconst 1, 1) := by decide +kernel
theorem dX8_nextToken_31 : decode cX8_nextToken 31 = .ok (.iadd, 1) := by decide +kernel
theorem dX8_nextToken_32 : decode cX8_nextToken 32 = .ok (.putfield 101, 3) := by decide +kernel
theorem dX8_nextToken_35 : decode cX8_nextToken 35 = .ok (.goto (-35), 3) := by decide +kernel
theorem dX8_nextToken_38 : decode cX8_nextToken 38 = .ok (.aload_n 0, 1) := by decide +kernel
theorem dX8_nextToken_39 : decode cX8_nextToken 39 = .ok (.aload_n 0, 1) := by decide +kernel
theorem dX8_nextToken_40 : decode cX8_nextToken 40 = .ok (.getfield 101, 3) := by decide +kernel
theorem dX8_nextToken_43 : decode cX8_nextToken 43 = .ok (.putfield 107, 3) := by decide +kernel
theorem dX8_nextToken_46 : decode cX8_nextToken 46 = .ok (.aload_n 0, 1) := by decide +kernel
theorem dX8_nextToken_47 : decode cX8_nextToken 47 = .ok (.getfield 101, 3) := by decide +kernel
theorem dX8_nextToken_50 : decode cX8_nextToken 50 = .ok (.aload_n 0, 1) := by decide +kernel
theorem dX8_nextToken_51 : decode cX8_nextToken 51 = .ok (.getfield 95, 3) := by decide +kernel
theorem dX8_nextToken_54 : decode cX8_nextToken 54 = .ok (.if_icmp .ne 11, 3) := by decide +kernel
theorem dX8_nextToken_57 : decode cX8_nextToken 57 = .ok (.aload_n 0, 1) := by decide +kernel
theorem dX8_nextToken_58 : decode cX8_nextToken 58 = .ok (.iconst 0, 1) := by decide +kernel
theorem dX8_nextToken_59 : decode cX8_nextToken 59 = .ok (.putfield 110, 3) := by decide +kernel
theorem dX8_nextToken_62 : decode cX8_nextToken 62 = .ok (.goto 94, 3) := by decide +kernel
theorem dX8_nextToken_65 : decode cX8_nextToken 65 = .ok (.aload_n 0, 1) := by decide +kernel
theorem dX8_nextToken_66 : decode cX8_nextToken 66 = .ok (.aload_n 0, 1) := by decide +kernel
theorem dX8_nextToken_67 : decode cX8_nextToken 67 = .ok (.getfield 101, 3) := by decide +kernel
theorem dX8_nextToken_70 : decode cX8_nextToken 70 = .ok (.invokevirtual 113, 3) := by decide +kernel
theorem dX8_nextToken_73 : decode cX8_nextToken 73 = .ok (.ifCond .eq 32, 3) := by decide +kernel
theorem dX8_nextToken_76 : decode cX8_nextToken 76 = .ok (.aload_n 0, 1) := by decide +kernel
theorem dX8_nextToken_77 : decode cX8_nextToken 77 = .ok (.iconst 1, 1) := by decide +kernel
theorem dX8_nextToken_78 : decode cX8_nextToken 78 = .ok (.putfield 110, 3) := by decide +kernel
theorem dX8_nextToken_81 : decode cX8_nextToken 81 = .ok (.aload_n 0, 1) := by decide +kernel
theorem dX8_nextToken_82 : decode cX8_nextToken 82 = .ok (.aload_n 0, 1) := by decide +kernel
theorem dX8_nextToken_83 : decode cX8_nextToken 83 = .ok (.getfield 101, 3) := by decide +kernel
theorem dX8_nextToken_86 : decode cX8_nextToken 86 = .ok (.invokevirtual 113, 3) := by decide +kernel
theorem dX8_nextToken_89 : decode cX8_nextToken 89 = .ok (.ifCond .eq 67, 3) := by decide +kernel
theorem dX8_nextToken_92 : decode cX8_nextToken 92 = .ok (.aload_n 0, 1) := by decide +kernel
theorem dX8_nextToken_93 : decode cX8_nextToken 93 = .ok (.dup, 1) := by decide +kernel
theorem dX8_nextToken_94 : decode cX8_nextToken 94 = .ok (.getfield 101, 3) := by decide +kernel
theorem dX8_nextToken_97 : decode cX8_nextToken 97 = .ok (.iconst 1, 1) := by decide +kernel
theorem dX8_nextToken_98 : decode cX8_nextToken 98 = .ok (.iadd, 1) := by decide +kernel
theorem dX8_nextToken_99 : decode cX8_nextToken 99 = .ok (.putfield 101, 3) := by decide +kernel
theorem dX8_nextToken_102 : decode cX8_nextToken 102 = .ok (.goto (-21), 3) := by decide +kernel
theorem dX8_nextToken_105 : decode cX8_nextToken 105 = .ok (.aload_n 0, 1) := by decide +kernel
theorem dX8_nextToken_106 : decode cX8_nextToken 106 = .ok (.aload_n 0, 1) := by decide +kernel
theorem dX8_nextToken_107 : decode cX8_nextToken 107 = .ok (.getfield 101, 3) := by decide +kernel
theorem dX8_nextToken_110 : decode cX8_nextToken 110 = .ok (.invokevirtual 104, 3) := by decide +kernel
theorem dX8_nextToken_113 : decode cX8_nextToken 113 = .ok (.ifCond .eq 10, 3) := by decide +kernel
theorem dX8_nextToken_116 : decode cX8_nextToken 116 = .ok (.aload_n 0, 1) := by decide +kernel
theorem dX8_nextToken_117 : decode cX8_nextToken 117 = .ok (.invokevirtual 116, 3) := by decide +kernel
theorem dX8_nextToken_120 : decode cX8_nextToken 120 = .ok (.goto 36, 3) := by decide +kernel
theorem dX8_nextToken_123 : decode cX8_nextToken 123 = .ok (.aload_n 0, 1) := by decide +kernel
theorem dX8_nextToken_124 : decode cX8_nextToken 124 = .ok (.aload_n 0, 1) := by decide +kernel
theorem dX8_nextToken_125 : decode cX8_nextToken 125 = .ok (.getfield 13, 3) := by decide +kernel
theorem dX8_nextToken_128 : decode cX8_nextToken 128 = .ok (.aload_n 0, 1) := by decide +kernel
theorem dX8_nextToken_129 : decode cX8_nextToken 129 = .ok (.getfield 101, 3) := by decide +kernel
theorem dX8_nextToken_132 : decode cX8_nextToken 132 = .ok (.iaload, 1) := by decide +kernel
theorem dX8_nextToken_133 : decode cX8_nextToken 133 = .ok (.bipush 59, 2) := by decide +kernel
theorem dX8_nextToken_135 : decode cX8_nextToken 135 = .ok (.if_icmp .ne 7, 3) := by decide +kernel
theorem dX8_nextToken_138 : decode cX8_nextToken 138 = .ok (.iconst 3, 1) := by decide +kernel
theorem dX8_nextToken_139 : decode cX8_nextToken 139 = .ok (.goto 4, 3) := by decide +kernel
theorem dX8_nextToken_142 : decode cX8_nextToken 142 = .ok (.iconst 4, 1) := by decide +kernel
theorem dX8_nextToken_143 : decode cX8_nextToken 143 = .ok (.putfield 110, 3) := by decide +kernel
theorem dX8_nextToken_146 : decode cX8_nextToken 146 = .ok (.aload_n 0, 1) := by decide +kernel
theorem dX8_nextToken_147 : decode cX8_nextToken 147 = .ok (.dup, 1) := by decide +kernel
theorem dX8_nextToken_148 : decode cX8_nextToken 148 = .ok (.getfield 101, 3) := by decide +kernel
theorem dX8_nextToken_151 : decode cX8_nextToken 151 = .ok (.iconst 1, 1) := by decide +kernel
theorem dX8_nextToken_152 : decode cX8_nextToken 152 = .ok (.iadd, 1) := by decide +kernel
theorem dX8_nextToken_153 : decode cX8_nextToken 153 = .ok (.putfield 101, 3) := by decide +kernel
theorem dX8_nextToken_156 : decode cX8_nextToken 156 = .ok (.return_, 1) := by decide +kernel
theorem dX8_wrong_0 : decode cX8_wrong 0 = .ok (.aload_n 0, 1) := by decide +kernel
theorem dX8_wrong_1 : decode cX8_wrong 1 = .ok (.getfield 119, 3) := by decide +kernel
theorem dX8_wrong_4 : decode cX8_wrong 4 = .ok (.iconst (-1), 1) := by decide +kernel
theorem dX8_wrong_5 : decode cX8_wrong 5 = .ok (.if_icmp .ne 11, 3) := by decide +kernel
theorem dX8_wrong_8 : decode cX8_wrong 8 = .ok (.aload_n 0, 1) := by decide +kernel
theorem dX8_wrong_9 : decode cX8_wrong 9 = .ok (.aload_n 0, 1) := by decide +kernel
theorem dX8_wrong_10 : decode cX8_wrong 10 = .ok (.getfield 107, 3) := by decide +kernel
theorem dX8_wrong_13 : decode cX8_wrong 13 = .ok (.putfield 119, 3) := by decide +kernel
theorem dX8_wrong_16 : decode cX8_wrong 16 = .ok (.return_, 1) := by decide +kernel
theorem dX8_fine_0 : decode cX8_fine 0 = .ok (.aload_n 0, 1) := by decide +kernel
theorem dX8_fine_1 : decode cX8_fine 1 = .ok (.getfield 119, 3) := by decide +kernel
theorem dX8_fine_4 : decode cX8_fine 4 = .ok (.iconst (-1), 1) := by decide +kernel
theorem dX8_fine_5 : decode cX8_fine 5 = .ok (.if_icmp .ne 7, 3) := by decide +kernel
theorem dX8_fine_8 : decode cX8_fine 8 = .ok (.iconst 1, 1) := by decide +kernel
theorem dX8_fine_9 : decode cX8_fine 9 = .ok (.goto 4, 3) := by decide +kernel
theorem dX8_fine_12 : decode cX8_fine 12 = .ok (.iconst 0, 1) := by decide +kernel
theorem dX8_fine_13 : decode cX8_fine 13 = .ok (.ireturn, 1) := by decide +kernel
theorem dX8_letter_0 : decode cX8_letter 0 = .ok (.aload_n 0, 1) := by decide +kernel
theorem dX8_letter_1 : decode cX8_letter 1 = .ok (.getfield 107, 3) := by decide +kernel
theorem dX8_letter_4 : decode cX8_letter 4 = .ok (.iload_n 1, 1) := by decide +kernel
theorem dX8_letter_5 : decode cX8_letter 5 = .ok (.iadd, 1) := by decide +kernel
theorem dX8_letter_6 : decode cX8_letter 6 = .ok (.aload_n 0, 1) := by decide +kernel
theorem dX8_letter_7 : decode cX8_letter 7 = .ok (.getfield 101, 3) := by decide +kernel
theorem dX8_letter_10 : decode cX8_letter 10 = .ok (.if_icmp .ge 17, 3) := by decide +kernel
theorem dX8_letter_13 : decode cX8_letter 13 = .ok (.aload_n 0, 1) := by decide +kernel
theorem dX8_letter_14 : decode cX8_letter 14 = .ok (.getfield 13, 3) := by decide +kernel
theorem dX8_letter_17 : decode cX8_letter 17 = .ok (.aload_n 0, 1) := by decide +kernel
theorem dX8_letter_18 : decode cX8_letter 18 = .ok (.getfield 107, 3) := by decide +kernel
theorem dX8_letter_21 : decode cX8_letter 21 = .ok (.iload_n 1, 1) := by decide +kernel
theorem dX8_letter_22 : decode cX8_letter 22 = .ok (.iadd, 1) := by decide +kernel
theorem dX8_letter_23 : decode cX8_letter 23 = .ok (.iaload, 1) := by decide +kernel
theorem dX8_letter_24 : decode cX8_letter 24 = .ok (.goto 4, 3) := by decide +kernel
theorem dX8_letter_27 : decode cX8_letter 27 = .ok (.iconst 0, 1) := by decide +kernel
theorem dX8_letter_28 : decode cX8_letter 28 = .ok (.ireturn, 1) := by decide +kernel
theorem dX8_spells_0 : decode cX8_spells 0 = .ok (.aload_n 0, 1) := by decide +kernel
theorem dX8_spells_1 : decode cX8_spells 1 = .ok (.iconst 0, 1) := by decide +kernel
theorem dX8_spells_2 : decode cX8_spells 2 = .ok (.invokevirtual 122, 3) := by decide +kernel
theorem dX8_spells_5 : decode cX8_spells 5 = .ok (.iload_n 1, 1) := by decide +kernel
theorem dX8_spells_6 : decode cX8_spells 6 = .ok (.if_icmp .ne 35, 3) := by decide +kernel
theorem dX8_spells_9 : decode cX8_spells 9 = .ok (.aload_n 0, 1) := by decide +kernel
theorem dX8_spells_10 : decode cX8_spells 10 = .ok (.iconst 1, 1) := by decide +kernel
theorem dX8_spells_11 : decode cX8_spells 11 = .ok (.invokevirtual 122, 3) := by decide +kernel
theorem dX8_spells_14 : decode cX8_spells 14 = .ok (.iload_n 2, 1) := by decide +kernel
theorem dX8_spells_15 : decode cX8_spells 15 = .ok (.if_icmp .ne 26, 3) := by decide +kernel
theorem dX8_spells_18 : decode cX8_spells 18 = .ok (.aload_n 0, 1) := by decide +kernel
theorem dX8_spells_19 : decode cX8_spells 19 = .ok (.iconst 2, 1) := by decide +kernel
theorem dX8_spells_20 : decode cX8_spells 20 = .ok (.invokevirtual 122, 3) := by decide +kernel
theorem dX8_spells_23 : decode cX8_spells 23 = .ok (.iload_n 3, 1) := by decide +kernel
theorem dX8_spells_24 : decode cX8_spells 24 = .ok (.if_icmp .ne 17, 3) := by decide +kernel
theorem dX8_spells_27 : decode cX8_spells 27 = .ok (.aload_n 0, 1) := by decide +kernel
theorem dX8_spells_28 : decode cX8_spells 28 = .ok (.iconst 3, 1) := by decide +kernel
theorem dX8_spells_29 : decode cX8_spells 29 = .ok (.invokevirtual 122, 3) := by decide +kernel
theorem dX8_spells_32 : decode cX8_spells 32 = .ok (.iload 4, 2) := by decide +kernel
theorem dX8_spells_34 : decode cX8_spells 34 = .ok (.if_icmp .ne 7, 3) := by decide +kernel
theorem dX8_spells_37 : decode cX8_spells 37 = .ok (.iconst 1, 1) := by decide +kernel
theorem dX8_spells_38 : decode cX8_spells 38 = .ok (.goto 4, 3) := by decide +kernel
theorem dX8_spells_41 : decode cX8_spells 41 = .ok (.iconst 0, 1) := by decide +kernel
theorem dX8_spells_42 : decode cX8_spells 42 = .ok (.istore 8, 2) := by decide +kernel
theorem dX8_spells_44 : decode cX8_spells 44 = .ok (.aload_n 0, 1) := by decide +kernel
theorem dX8_spells_45 : decode cX8_spells 45 = .ok (.getfield 110, 3) := by decide +kernel
theorem dX8_spells_48 : decode cX8_spells 48 = .ok (.iconst 1, 1) := by decide +kernel
theorem dX8_spells_49 : decode cX8_spells 49 = .ok (.if_icmp .ne 57, 3) := by decide +kernel
theorem dX8_spells_52 : decode cX8_spells 52 = .ok (.aload_n 0, 1) := by decide +kernel
theorem dX8_spells_53 : decode cX8_spells 53 = .ok (.getfield 101, 3) := by decide +kernel
theorem dX8_spells_56 : decode cX8_spells 56 = .ok (.aload_n 0, 1) := by decide +kernel
theorem dX8_spells_57 : decode cX8_spells 57 = .ok (.getfield 107, 3) := by decide +kernel
theorem dX8_spells_60 : decode cX8_spells 60 = .ok (.isub, 1) := by decide +kernel
theorem dX8_spells_61 : decode cX8_spells 61 = .ok (.bipush 8, 2) := by decide +kernel
theorem dX8_spells_63 : decode cX8_spells 63 = .ok (.if_icmp .ge 43, 3) := by decide +kernel
theorem dX8_spells_66 : decode cX8_spells 66 = .ok (.iload 8, 2) := by decide +kernel
theorem dX8_spells_68 : decode cX8_spells 68 = .ok (.ifCond .eq 38, 3) := by decide +kernel
theorem dX8_spells_71 : decode cX8_spells 71 = .ok (.aload_n 0, 1) := by decide +kernel
theorem dX8_spells_72 : decode cX8_spells 72 = .ok (.iconst 4, 1) := by decide +kernel
theorem dX8_spells_73 : decode cX8_spells 73 = .ok (.invokevirtual 122, 3) := by decide +kernel
theorem dX8_spells_76 : decode cX8_spells 76 = .ok (.iload 5, 2) := by decide +kernel
theorem dX8_spells_78 : decode cX8_spells 78 = .ok (.if_icmp .ne 28, 3) := by decide +kernel
theorem dX8_spells_81 : decode cX8_spells 81 = .ok (.aload_n 0, 1) := by decide +kernel
theorem dX8_spells_82 : decode cX8_spells 82 = .ok (.iconst 5, 1) := by decide +kernel
theorem dX8_spells_83 : decode cX8_spells 83 = .ok (.invokevirtual 122, 3) := by decide +kernel
theorem dX8_spells_86 : decode cX8_spells 86 = .ok (.iload 6, 2) := by decide +kernel
theorem dX8_spells_88 : decode cX8_spells 88 = .ok (.if_icmp .ne 18, 3) := by decide +kernel
theorem dX8_spells_91 : decode cX8_spells 91 = .ok (.aload_n 0, 1) := by decide +kernel
theorem dX8_spells_92 : decode cX8_spells 92 = .ok (.bipush 6, 2) := by decide +kernel
theorem dX8_spells_94 : decode cX8_spells 94 = .ok (.invokevirtual 122, 3) := by decide +kernel
theorem dX8_spells_97 : decode cX8_spells 97 = .ok (.iload 7, 2) := by decide +kernel
theorem dX8_spells_99 : decode cX8_spells 99 = .ok (.if_icmp .ne 7, 3) := by decide +kernel
theorem dX8_spells_102 : decode cX8_spells 102 = .ok (.iconst 1, 1) := by decide +kernel
theorem dX8_spells_103 : decode cX8_spells 103 = .ok (.goto 4, 3) := by decide +kernel
theorem dX8_spells_106 : decode cX8_spells 106 = .ok (.iconst 0, 1) := by decide +kernel
theorem dX8_spells_107 : decode cX8_spells 107 = .ok (.ireturn, 1) := by decide +kernel
theorem dX8_number_0 : decode cX8_number 0 = .ok (.aload_n 0, 1) := by decide +kernel
theorem dX8_number_1 : decode cX8_number 1 = .ok (.invokevirtual 126, 3) := by decide +kernel
theorem dX8_number_4 : decode cX8_number 4 = .ok (.ifCond .ne 5, 3) := by decide +kernel
theorem dX8_number_7 : decode cX8_number 7 = .ok (.iload_n 1, 1) := by decide +kernel
theorem dX8_number_8 : decode cX8_number 8 = .ok (.ireturn, 1) := by decide +kernel
theorem dX8_number_9 : decode cX8_number 9 = .ok (.aload_n 0, 1) := by decide +kernel
theorem dX8_number_10 : decode cX8_number 10 = .ok (.invokevirtual 130, 3) := by decide +kernel
theorem dX8_number_13 : decode cX8_number 13 = .ok (.aload_n 0, 1) := by decide +kernel
theorem dX8_number_14 : decode cX8_number 14 = .ok (.getfield 110, 3) := by decide +kernel
theorem dX8_number_17 : decode cX8_number 17 = .ok (.iconst 2, 1) := by decide +kernel
theorem dX8_number_18 : decode cX8_number 18 = .ok (.if_icmp .ne 15, 3) := by decide +kernel
theorem dX8_number_21 : decode cX8_number 21 = .ok (.aload_n 0, 1) := by decide +kernel
theorem dX8_number_22 : decode cX8_number 22 = .ok (.getfield 98, 3) := by decide +kernel
theorem dX8_number_25 : decode cX8_number 25 = .ok (.iload_n 1, 1) := by decide +kernel
theorem dX8_number_26 : decode cX8_number 26 = .ok (.iload_n 2, 1) := by decide +kernel
theorem dX8_number_27 : decode cX8_number 27 = .ok (.invokestatic 39, 3) := by decide +kernel
theorem dX8_number_30 : decode cX8_number 30 = .ok (.ifCond .ne 9, 3) := by decide +kernel
theorem dX8_number_33 : decode cX8_number 33 = .ok (.aload_n 0, 1) := by decide +kernel
theorem dX8_number_34 : decode cX8_number 34 = .ok (.invokevirtual 133, 3) := by decide +kernel
theorem dX8_number_37 : decode cX8_number 37 = .ok (.iload_n 1, 1) := by decide +kernel
theorem dX8_number_38 : decode cX8_number 38 = .ok (.ireturn, 1) := by decide +kernel
theorem dX8_number_39 : decode cX8_number 39 = .ok (.aload_n 0, 1) := by decide +kernel
theorem dX8_number_40 : decode cX8_number 40 = .ok (.getfield 98, 3) := by decide +kernel
theorem dX8_number_43 : decode cX8_number 43 = .ok (.ireturn, 1) := by decide +kernel
theorem dX8_stop_0 : decode cX8_stop 0 = .ok (.aload_n 0, 1) := by decide +kernel
theorem dX8_stop_1 : decode cX8_stop 1 = .ok (.invokevirtual 126, 3) := by decide +kernel
theorem dX8_stop_4 : decode cX8_stop 4 = .ok (.ifCond .eq 19, 3) := by decide +kernel
theorem dX8_stop_7 : decode cX8_stop 7 = .ok (.aload_n 0, 1) := by decide +kernel
theorem dX8_stop_8 : decode cX8_stop 8 = .ok (.invokevirtual 130, 3) := by decide +kernel
theorem dX8_stop_11 : decode cX8_stop 11 = .ok (.aload_n 0, 1) := by decide +kernel
theorem dX8_stop_12 : decode cX8_stop 12 = .ok (.getfield 110, 3) := by decide +kernel
theorem dX8_stop_15 : decode cX8_stop 15 = .ok (.iconst 3, 1) := by decide +kernel
theorem dX8_stop_16 : decode cX8_stop 16 = .ok (.if_icmp .eq 7, 3) := by decide +kernel
theorem dX8_stop_19 : decode cX8_stop 19 = .ok (.aload_n 0, 1) := by decide +kernel
theorem dX8_stop_20 : decode cX8_stop 20 = .ok (.invokevirtual 133, 3) := by decide +kernel
theorem dX8_stop_23 : decode cX8_stop 23 = .ok (.return_, 1) := by decide +kernel
theorem dX8_readPlace_0 : decode cX8_readPlace 0 = .ok (.aload_n 0, 1) := by decide +kernel
theorem dX8_readPlace_1 : decode cX8_readPlace 1 = .ok (.getfield 7, 3) := by decide +kernel
theorem dX8_readPlace_4 : decode cX8_readPlace 4 = .ok (.sipush 1855, 3) := by decide +kernel
theorem dX8_readPlace_7 : decode cX8_readPlace 7 = .ok (.iaload, 1) := by decide +kernel
theorem dX8_readPlace_8 : decode cX8_readPlace 8 = .ok (.bipush 7, 2) := by decide +kernel
theorem dX8_readPlace_10 : decode cX8_readPlace 10 = .ok (.if_icmp .ne 8, 3) := by decide +kernel
theorem dX8_readPlace_13 : decode cX8_readPlace 13 = .ok (.aload_n 0, 1) := by decide +kernel
theorem dX8_readPlace_14 : decode cX8_readPlace 14 = .ok (.invokevirtual 133, 3) := by decide +kernel
theorem dX8_readPlace_17 : decode cX8_readPlace 17 = .ok (.return_, 1) := by decide +kernel
theorem dX8_readPlace_18 : decode cX8_readPlace 18 = .ok (.aload_n 0, 1) := by decide +kernel
theorem dX8_readPlace_19 : decode cX8_readPlace 19 = .ok (.iconst 0, 1) := by decide +kernel
theorem dX8_readPlace_20 : decode cX8_readPlace 20 = .ok (.iconst 5, 1) := by decide +kernel
theorem dX8_readPlace_21 : decode cX8_readPlace 21 = .ok (.invokevirtual 136, 3) := by decide +kernel
theorem dX8_readPlace_24 : decode cX8_readPlace 24 = .ok (.istore_n 1, 1) := by decide +kernel
theorem dX8_readPlace_25 : decode cX8_readPlace 25 = .ok (.aload_n 0, 1) := by decide +kernel
theorem dX8_readPlace_26 : decode cX8_readPlace 26 = .ok (.iconst 0, 1) := by decide +kernel
theorem dX8_readPlace_27 : decode cX8_readPlace 27 = .ok (.bipush 9, 2) := by decide +kernel
theorem dX8_readPlace_29 : decode cX8_readPlace 29 = .ok (.invokevirtual 136, 3) := by decide +kernel
theorem dX8_readPlace_32 : decode cX8_readPlace 32 = .ok (.istore_n 2, 1) := by decide +kernel
theorem dX8_readPlace_33 : decode cX8_readPlace 33 = .ok (.aload_n 0, 1) := by decide +kernel
theorem dX8_readPlace_34 : decode cX8_readPlace 34 = .ok (.iconst 0, 1) := by decide +kernel
theorem dX8_readPlace_35 : decode cX8_readPlace 35 = .ok (.bipush 9, 2) := by decide +kernel
theorem dX8_readPlace_37 : decode cX8_readPlace 37 = .ok (.invokevirtual 136, 3) := by decide +kernel
theorem dX8_readPlace_40 : decode cX8_readPlace 40 = .ok (.istore_n 3, 1) := by decide +kernel
theorem dX8_readPlace_41 : decode cX8_readPlace 41 = .ok (.aload_n 0, 1) := by decide +kernel
theorem dX8_readPlace_42 : decode cX8_readPlace 42 = .ok (.invokevirtual 126, 3) := by decide +kernel
theorem dX8_readPlace_45 : decode cX8_readPlace 45 = .ok (.ifCond .eq 15, 3) := by decide +kernel
theorem dX8_readPlace_48 : decode cX8_readPlace 48 = .ok (.aload_n 0, 1) := by decide +kernel
theorem dX8_readPlace_49 : decode cX8_readPlace 49 = .ok (.sipush 1437, 3) := by decide +kernel
theorem dX8_readPlace_52 : decode cX8_readPlace 52 = .ok (.iload_n 1, 1) := by decide +kernel
theorem dX8_readPlace_53 : decode cX8_readPlace 53 = .ok (.iload_n 2, 1) := by decide +kernel
theorem dX8_readPlace_54 : decode cX8_readPlace 54 = .ok (.iload_n 3, 1) := by decide +kernel
theorem dX8_readPlace_55 : decode cX8_readPlace 55 = .ok (.invokevirtual 85, 3) := by decide +kernel
theorem dX8_readPlace_58 : decode cX8_readPlace 58 = .ok (.istore 4, 2) := by decide +kernel
theorem dX8_readPlace_60 : decode cX8_readPlace 60 = .ok (.return_, 1) := by decide +kernel
theorem dX8_readCrow_0 : decode cX8_readCrow 0 = .ok (.aload_n 0, 1) := by decide +kernel
theorem dX8_readCrow_1 : decode cX8_readCrow 1 = .ok (.getfield 7, 3) := by decide +kernel
theorem dX8_readCrow_4 : decode cX8_readCrow 4 = .ok (.sipush 1859, 3) := by decide +kernel
theorem dX8_readCrow_7 : decode cX8_readCrow 7 = .ok (.iaload, 1) := by decide +kernel
theorem dX8_readCrow_8 : decode cX8_readCrow 8 = .ok (.iconst 3, 1) := by decide +kernel
theorem dX8_readCrow_9 : decode cX8_readCrow 9 = .ok (.if_icmp .ne 8, 3) := by decide +kernel
theorem dX8_readCrow_12 : decode cX8_readCrow 12 = .ok (.aload_n 0, 1) := by decide +kernel
theorem dX8_readCrow_13 : decode cX8_readCrow 13 = .ok (.invokevirtual 133, 3) := by decide +kernel
theorem dX8_readCrow_16 : decode cX8_readCrow 16 = .ok (.return_, 1) := by decide +kernel
theorem dX8_readCrow_17 : decode cX8_readCrow 17 = .ok (.aload_n 0, 1) := by decide +kernel
theorem dX8_readCrow_18 : decode cX8_readCrow 18 = .ok (.iconst 0, 1) := by decide +kernel
theorem dX8_readCrow_19 : decode cX8_readCrow 19 = .ok (.iconst 5, 1) := by decide +kernel
theorem dX8_readCrow_20 : decode cX8_readCrow 20 = .ok (.invokevirtual 136, 3) := by decide +kernel
theorem dX8_readCrow_23 : decode cX8_readCrow 23 = .ok (.istore_n 1, 1) := by decide +kernel
theorem dX8_readCrow_24 : decode cX8_readCrow 24 = .ok (.aload_n 0, 1) := by decide +kernel
theorem dX8_readCrow_25 : decode cX8_readCrow 25 = .ok (.iconst 0, 1) := by decide +kernel
theorem dX8_readCrow_26 : decode cX8_readCrow 26 = .ok (.aload_n 0, 1) := by decide +kernel
theorem dX8_readCrow_27 : decode cX8_readCrow 27 = .ok (.getfield 7, 3) := by decide +kernel
theorem dX8_readCrow_30 : decode cX8_readCrow 30 = .ok (.sipush 1855, 3) := by decide +kernel
theorem dX8_readCrow_33 : decode cX8_readCrow 33 = .ok (.iaload, 1) := by decide +kernel
theorem dX8_readCrow_34 : decode cX8_readCrow 34 = .ok (.iconst 1, 1) := by decide +kernel
theorem dX8_readCrow_35 : decode cX8_readCrow 35 = .ok (.isub, 1) := by decide +kernel
theorem dX8_readCrow_36 : decode cX8_readCrow 36 = .ok (.invokevirtual 136, 3) := by decide +kernel
theorem dX8_readCrow_39 : decode cX8_readCrow 39 = .ok (.istore_n 2, 1) := by decide +kernel
theorem dX8_readCrow_40 : decode cX8_readCrow 40 = .ok (.aload_n 0, 1) := by decide +kernel
theorem dX8_readCrow_41 : decode cX8_readCrow 41 = .ok (.invokevirtual 126, 3) := by decide +kernel
theorem dX8_readCrow_44 : decode cX8_readCrow 44 = .ok (.ifCond .eq 13, 3) := by decide +kernel
theorem dX8_readCrow_47 : decode cX8_readCrow 47 = .ok (.aload_n 0, 1) := by decide +kernel
theorem dX8_readCrow_48 : decode cX8_readCrow 48 = .ok (.sipush 1437, 3) := by decide +kernel
theorem dX8_readCrow_51 : decode cX8_readCrow 51 = .ok (.iload_n 1, 1) := by decide +kernel
theorem dX8_readCrow_52 : decode cX8_readCrow 52 = .ok (.iload_n 2, 1) := by decide +kernel
theorem dX8_readCrow_53 : decode cX8_readCrow 53 = .ok (.invokevirtual 92, 3) := by decide +kernel
theorem dX8_readCrow_56 : decode cX8_readCrow 56 = .ok (.istore_n 3, 1) := by decide +kernel
theorem dX8_readCrow_57 : decode cX8_readCrow 57 = .ok (.return_, 1) := by decide +kernel
theorem dX8_readFly_0 : decode cX8_readFly 0 = .ok (.aload_n 0, 1) := by decide +kernel
theorem dX8_readFly_1 : decode cX8_readFly 1 = .ok (.iconst 0, 1) := by decide +kernel
theorem dX8_readFly_2 : decode cX8_readFly 2 = .ok (.aload_n 0, 1) := by decide +kernel
theorem dX8_readFly_3 : decode cX8_readFly 3 = .ok (.getfield 7, 3) := by decide +kernel
theorem dX8_readFly_6 : decode cX8_readFly 6 = .ok (.sipush 1859, 3) := by decide +kernel
theorem dX8_readFly_9 : decode cX8_readFly 9 = .ok (.iaload, 1) := by decide +kernel
theorem dX8_readFly_10 : decode cX8_readFly 10 = .ok (.iconst 1, 1) := by decide +kernel
theorem dX8_readFly_11 : decode cX8_readFly 11 = .ok (.isub, 1) := by decide +kernel
theorem dX8_readFly_12 : decode cX8_readFly 12 = .ok (.invokevirtual 136, 3) := by decide +kernel
theorem dX8_readFly_15 : decode cX8_readFly 15 = .ok (.istore_n 1, 1) := by decide +kernel
theorem dX8_readFly_16 : decode cX8_readFly 16 = .ok (.aload_n 0, 1) := by decide +kernel
theorem dX8_readFly_17 : decode cX8_readFly 17 = .ok (.iconst 0, 1) := by decide +kernel
theorem dX8_readFly_18 : decode cX8_readFly 18 = .ok (.aload_n 0, 1) := by decide +kernel
theorem dX8_readFly_19 : decode cX8_readFly 19 = .ok (.getfield 7, 3) := by decide +kernel
theorem dX8_readFly_22 : decode cX8_readFly 22 = .ok (.sipush 1855, 3) := by decide +kernel
theorem dX8_readFly_25 : decode cX8_readFly 25 = .ok (.iaload, 1) := by decide +kernel
theorem dX8_readFly_26 : decode cX8_readFly 26 = .ok (.iconst 1, 1) := by decide +kernel
theorem dX8_readFly_27 : decode cX8_readFly 27 = .ok (.isub, 1) := by decide +kernel
theorem dX8_readFly_28 : decode cX8_readFly 28 = .ok (.invokevirtual 136, 3) := by decide +kernel
theorem dX8_readFly_31 : decode cX8_readFly 31 = .ok (.istore_n 2, 1) := by decide +kernel
theorem dX8_readFly_32 : decode cX8_readFly 32 = .ok (.aload_n 0, 1) := by decide +kernel
theorem dX8_readFly_33 : decode cX8_readFly 33 = .ok (.invokevirtual 126, 3) := by decide +kernel
theorem dX8_readFly_36 : decode cX8_readFly 36 = .ok (.ifCond .eq 21, 3) := by decide +kernel
theorem dX8_readFly_39 : decode cX8_readFly 39 = .ok (.aload_n 0, 1) := by decide +kernel
theorem dX8_readFly_40 : decode cX8_readFly 40 = .ok (.getfield 7, 3) := by decide +kernel
theorem dX8_readFly_43 : decode cX8_readFly 43 = .ok (.sipush 1437, 3) := by decide +kernel
theorem dX8_readFly_46 : decode cX8_readFly 46 = .ok (.iload_n 1, 1) := by decide +kernel
theorem dX8_readFly_47 : decode cX8_readFly 47 = .ok (.iadd, 1) := by decide +kernel
theorem dX8_readFly_48 : decode cX8_readFly 48 = .ok (.iaload, 1) := by decide +kernel
theorem dX8_readFly_49 : decode cX8_readFly 49 = .ok (.iload_n 2, 1) := by decide +kernel
theorem dX8_readFly_50 : decode cX8_readFly 50 = .ok (.if_icmp .ne 7, 3) := by decide +kernel
theorem dX8_readFly_53 : decode cX8_readFly 53 = .ok (.aload_n 0, 1) := by decide +kernel
theorem dX8_readFly_54 : decode cX8_readFly 54 = .ok (.invokevirtual 133, 3) := by decide +kernel
theorem dX8_readFly_57 : decode cX8_readFly 57 = .ok (.aload_n 0, 1) := by decide +kernel
theorem dX8_readFly_58 : decode cX8_readFly 58 = .ok (.invokevirtual 126, 3) := by decide +kernel
theorem dX8_readFly_61 : decode cX8_readFly 61 = .ok (.ifCond .eq 16, 3) := by decide +kernel
theorem dX8_readFly_64 : decode cX8_readFly 64 = .ok (.aload_n 0, 1) := by decide +kernel
theorem dX8_readFly_65 : decode cX8_readFly 65 = .ok (.sipush 1437, 3) := by decide +kernel
theorem dX8_readFly_68 : decode cX8_readFly 68 = .ok (.sipush 1437, 3) := by decide +kernel
theorem dX8_readFly_71 : decode cX8_readFly 71 = .ok (.iload_n 1, 1) := by decide +kernel
theorem dX8_readFly_72 : decode cX8_readFly 72 = .ok (.iload_n 2, 1) := by decide +kernel
theorem dX8_readFly_73 : decode cX8_readFly 73 = .ok (.invokevirtual 139, 3) := by decide +kernel
theorem dX8_readFly_76 : decode cX8_readFly 76 = .ok (.istore_n 3, 1) := by decide +kernel
theorem dX8_readFly_77 : decode cX8_readFly 77 = .ok (.return_, 1) := by decide +kernel
theorem dX8_readRest_0 : decode cX8_readRest 0 = .ok (.aload_n 0, 1) := by decide +kernel
theorem dX8_readRest_1 : decode cX8_readRest 1 = .ok (.iconst 0, 1) := by decide +kernel
theorem dX8_readRest_2 : decode cX8_readRest 2 = .ok (.aload_n 0, 1) := by decide +kernel
theorem dX8_readRest_3 : decode cX8_readRest 3 = .ok (.getfield 7, 3) := by decide +kernel
theorem dX8_readRest_6 : decode cX8_readRest 6 = .ok (.sipush 1859, 3) := by decide +kernel
theorem dX8_readRest_9 : decode cX8_readRest 9 = .ok (.iaload, 1) := by decide +kernel
theorem dX8_readRest_10 : decode cX8_readRest 10 = .ok (.iconst 1, 1) := by decide +kernel
theorem dX8_readRest_11 : decode cX8_readRest 11 = .ok (.isub, 1) := by decide +kernel
theorem dX8_readRest_12 : decode cX8_readRest 12 = .ok (.invokevirtual 136, 3) := by decide +kernel
theorem dX8_readRest_15 : decode cX8_readRest 15 = .ok (.istore_n 1, 1) := by decide +kernel
theorem dX8_readRest_16 : decode cX8_readRest 16 = .ok (.aload_n 0, 1) := by decide +kernel
theorem dX8_readRest_17 : decode cX8_readRest 17 = .ok (.invokevirtual 126, 3) := by decide +kernel
theorem dX8_readRest_20 : decode cX8_readRest 20 = .ok (.ifCond .eq 12, 3) := by decide +kernel
theorem dX8_readRest_23 : decode cX8_readRest 23 = .ok (.aload_n 0, 1) := by decide +kernel
theorem dX8_readRest_24 : decode cX8_readRest 24 = .ok (.sipush 1437, 3) := by decide +kernel
theorem dX8_readRest_27 : decode cX8_readRest 27 = .ok (.iload_n 1, 1) := by decide +kernel
theorem dX8_readRest_28 : decode cX8_readRest 28 = .ok (.invokevirtual 142, 3) := by decide +kernel
theorem dX8_readRest_31 : decode cX8_readRest 31 = .ok (.istore_n 2, 1) := by decide +kernel
theorem dX8_readRest_32 : decode cX8_readRest 32 = .ok (.return_, 1) := by decide +kernel
theorem dX8_readHours_0 : decode cX8_readHours 0 = .ok (.aload_n 0, 1) := by decide +kernel
theorem dX8_readHours_1 : decode cX8_readHours 1 = .ok (.iconst 1, 1) := by decide +kernel
theorem dX8_readHours_2 : decode cX8_readHours 2 = .ok (.bipush 99, 2) := by decide +kernel
theorem dX8_readHours_4 : decode cX8_readHours 4 = .ok (.invokevirtual 136, 3) := by decide +kernel
theorem dX8_readHours_7 : decode cX8_readHours 7 = .ok (.istore_n 1, 1) := by decide +kernel
theorem dX8_readHours_8 : decode cX8_readHours 8 = .ok (.aload_n 0, 1) := by decide +kernel
theorem dX8_readHours_9 : decode cX8_readHours 9 = .ok (.invokevirtual 126, 3) := by decide +kernel
theorem dX8_readHours_12 : decode cX8_readHours 12 = .ok (.ifCond .eq 11, 3) := by decide +kernel
theorem dX8_readHours_15 : decode cX8_readHours 15 = .ok (.aload_n 0, 1) := by decide +kernel
theorem dX8_readHours_16 : decode cX8_readHours 16 = .ok (.sipush 1437, 3) := by decide +kernel
theorem dX8_readHours_19 : decode cX8_readHours 19 = .ok (.iload_n 1, 1) := by decide +kernel
theorem dX8_readHours_20 : decode cX8_readHours 20 = .ok (.invokevirtual 66, 3) := by decide +kernel
theorem dX8_readHours_23 : decode cX8_readHours 23 = .ok (.return_, 1) := by decide +kernel
theorem dX8_readItem_0 : decode cX8_readItem 0 = .ok (.aload_n 0, 1) := by decide +kernel
theorem dX8_readItem_1 : decode cX8_readItem 1 = .ok (.bipush 112, 2) := by decide +kernel
theorem dX8_readItem_3 : decode cX8_readItem 3 = .ok (.bipush 108, 2) := by decide +kernel
theorem dX8_readItem_5 : decode cX8_readItem 5 = .ok (.bipush 97, 2) := by decide +kernel
theorem dX8_readItem_7 : decode cX8_readItem 7 = .ok (.bipush 99, 2) := by decide +kernel
theorem dX8_readItem_9 : decode cX8_readItem 9 = .ok (.bipush 101, 2) := by decide +kernel
theorem dX8_readItem_11 : decode cX8_readItem 11 = .ok (.iconst 0, 1) := by decide +kernel
theorem dX8_readItem_12 : decode cX8_readItem 12 = .ok (.iconst 0, 1) := by decide +kernel
theorem dX8_readItem_13 : decode cX8_readItem 13 = .ok (.invokevirtual 145, 3) := by decide +kernel
theorem dX8_readItem_16 : decode cX8_readItem 16 = .ok (.ifCond .eq 10, 3) := by decide +kernel
theorem dX8_readItem_19 : decode cX8_readItem 19 = .ok (.aload_n 0, 1) := by decide +kernel
theorem dX8_readItem_20 : decode cX8_readItem 20 = .ok (.invokevirtual 149, 3) := by decide +kernel
theorem dX8_readItem_23 : decode cX8_readItem 23 = .ok (.goto 107, 3) := by decide +kernel
theorem dX8_readItem_26 : decode cX8_readItem 26 = .ok (.aload_n 0, 1) := by decide +kernel
theorem dX8_readItem_27 : decode cX8_readItem 27 = .ok (.bipush 99, 2) := by decide +kernel
theorem dX8_readItem_29 : decode cX8_readItem 29 = .ok (.bipush 114, 2) := by decide +kernel
theorem dX8_readItem_31 : decode cX8_readItem 31 = .ok (.bipush 111, 2) := by decide +kernel
theorem dX8_readItem_33 : decode cX8_readItem 33 = .ok (.bipush 119, 2) := by decide +kernel
theorem dX8_readItem_35 : decode cX8_readItem 35 = .ok (.iconst 0, 1) := by decide +kernel
theorem dX8_readItem_36 : decode cX8_readItem 36 = .ok (.iconst 0, 1) := by decide +kernel
theorem dX8_readItem_37 : decode cX8_readItem 37 = .ok (.iconst 0, 1) := by decide +kernel
theorem dX8_readItem_38 : decode cX8_readItem 38 = .ok (.invokevirtual 145, 3) := by decide +kernel
theorem dX8_readItem_41 : decode cX8_readItem 41 = .ok (.ifCond .eq 10, 3) := by decide +kernel
theorem dX8_readItem_44 : decode cX8_readItem 44 = .ok (.aload_n 0, 1) := by decide +kernel
theorem dX8_readItem_45 : decode cX8_readItem 45 = .ok (.invokevirtual 152, 3) := by decide +kernel
theorem dX8_readItem_48 : decode cX8_readItem 48 = .ok (.goto 82, 3) := by decide +kernel
theorem dX8_readItem_51 : decode cX8_readItem 51 = .ok (.aload_n 0, 1) := by decide +kernel
theorem dX8_readItem_52 : decode cX8_readItem 52 = .ok (.bipush 102, 2) := by decide +kernel
theorem dX8_readItem_54 : decode cX8_readItem 54 = .ok (.bipush 108, 2) := by decide +kernel
theorem dX8_readItem_56 : decode cX8_readItem 56 = .ok (.bipush 121, 2) := by decide +kernel
theorem dX8_readItem_58 : decode cX8_readItem 58 = .ok (.iconst 0, 1) := by decide +kernel
theorem dX8_readItem_59 : decode cX8_readItem 59 = .ok (.iconst 0, 1) := by decide +kernel
theorem dX8_readItem_60 : decode cX8_readItem 60 = .ok (.iconst 0, 1) := by decide +kernel
theorem dX8_readItem_61 : decode cX8_readItem 61 = .ok (.iconst 0, 1) := by decide +kernel
theorem dX8_readItem_62 : decode cX8_readItem 62 = .ok (.invokevirtual 145, 3) := by decide +kernel
theorem dX8_readItem_65 : decode cX8_readItem 65 = .ok (.ifCond .eq 10, 3) := by decide +kernel
theorem dX8_readItem_68 : decode cX8_readItem 68 = .ok (.aload_n 0, 1) := by decide +kernel
theorem dX8_readItem_69 : decode cX8_readItem 69 = .ok (.invokevirtual 155, 3) := by decide +kernel
theorem dX8_readItem_72 : decode cX8_readItem 72 = .ok (.goto 58, 3) := by decide +kernel
theorem dX8_readItem_75 : decode cX8_readItem 75 = .ok (.aload_n 0, 1) := by decide +kernel
theorem dX8_readItem_76 : decode cX8_readItem 76 = .ok (.bipush 114, 2) := by decide +kernel
theorem dX8_readItem_78 : decode cX8_readItem 78 = .ok (.bipush 101, 2) := by decide +kernel
theorem dX8_readItem_80 : decode cX8_readItem 80 = .ok (.bipush 115, 2) := by decide +kernel
theorem dX8_readItem_82 : decode cX8_readItem 82 = .ok (.bipush 116, 2) := by decide +kernel
theorem dX8_readItem_84 : decode cX8_readItem 84 = .ok (.iconst 0, 1) := by decide +kernel
theorem dX8_readItem_85 : decode cX8_readItem 85 = .ok (.iconst 0, 1) := by decide +kernel
theorem dX8_readItem_86 : decode cX8_readItem 86 = .ok (.iconst 0, 1) := by decide +kernel
theorem dX8_readItem_87 : decode cX8_readItem 87 = .ok (.invokevirtual 145, 3) := by decide +kernel
theorem dX8_readItem_90 : decode cX8_readItem 90 = .ok (.ifCond .eq 10, 3) := by decide +kernel
theorem dX8_readItem_93 : decode cX8_readItem 93 = .ok (.aload_n 0, 1) := by decide +kernel
theorem dX8_readItem_94 : decode cX8_readItem 94 = .ok (.invokevirtual 158, 3) := by decide +kernel
theorem dX8_readItem_97 : decode cX8_readItem 97 = .ok (.goto 33, 3) := by decide +kernel
theorem dX8_readItem_100 : decode cX8_readItem 100 = .ok (.aload_n 0, 1) := by decide +kernel
theorem dX8_readItem_101 : decode cX8_readItem 101 = .ok (.bipush 104, 2) := by decide +kernel
theorem dX8_readItem_103 : decode cX8_readItem 103 = .ok (.bipush 111, 2) := by decide +kernel
theorem dX8_readItem_105 : decode cX8_readItem 105 = .ok (.bipush 117, 2) := by decide +kernel
theorem dX8_readItem_107 : decode cX8_readItem 107 = .ok (.bipush 114, 2) := by decide +kernel
theorem dX8_readItem_109 : decode cX8_readItem 109 = .ok (.bipush 115, 2) := by decide +kernel
theorem dX8_readItem_111 : decode cX8_readItem 111 = .ok (.iconst 0, 1) := by decide +kernel
theorem dX8_readItem_112 : decode cX8_readItem 112 = .ok (.iconst 0, 1) := by decide +kernel
theorem dX8_readItem_113 : decode cX8_readItem 113 = .ok (.invokevirtual 145, 3) := by decide +kernel
theorem dX8_readItem_116 : decode cX8_readItem 116 = .ok (.ifCond .eq 10, 3) := by decide +kernel
theorem dX8_readItem_119 : decode cX8_readItem 119 = .ok (.aload_n 0, 1) := by decide +kernel
theorem dX8_readItem_120 : decode cX8_readItem 120 = .ok (.invokevirtual 161, 3) := by decide +kernel
theorem dX8_readItem_123 : decode cX8_readItem 123 = .ok (.goto 7, 3) := by decide +kernel
theorem dX8_readItem_126 : decode cX8_readItem 126 = .ok (.aload_n 0, 1) := by decide +kernel
theorem dX8_readItem_127 : decode cX8_readItem 127 = .ok (.invokevirtual 133, 3) := by decide +kernel
theorem dX8_readItem_130 : decode cX8_readItem 130 = .ok (.aload_n 0, 1) := by decide +kernel
theorem dX8_readItem_131 : decode cX8_readItem 131 = .ok (.invokevirtual 164, 3) := by decide +kernel
theorem dX8_readItem_134 : decode cX8_readItem 134 = .ok (.return_, 1) := by decide +kernel
theorem dX8_read_0 : decode cX8_read 0 = .ok (.aload_n 0, 1) := by decide +kernel
theorem dX8_read_1 : decode cX8_read 1 = .ok (.iconst 0, 1) := by decide +kernel
theorem dX8_read_2 : decode cX8_read 2 = .ok (.putfield 101, 3) := by decide +kernel
theorem dX8_read_5 : decode cX8_read 5 = .ok (.aload_n 0, 1) := by decide +kernel
theorem dX8_read_6 : decode cX8_read 6 = .ok (.iconst (-1), 1) := by decide +kernel
theorem dX8_read_7 : decode cX8_read 7 = .ok (.putfield 119, 3) := by decide +kernel
theorem dX8_read_10 : decode cX8_read 10 = .ok (.aload_n 0, 1) := by decide +kernel
theorem dX8_read_11 : decode cX8_read 11 = .ok (.sipush 1437, 3) := by decide +kernel
theorem dX8_read_14 : decode cX8_read 14 = .ok (.invokevirtual 74, 3) := by decide +kernel
theorem dX8_read_17 : decode cX8_read 17 = .ok (.aload_n 0, 1) := by decide +kernel
theorem dX8_read_18 : decode cX8_read 18 = .ok (.invokevirtual 130, 3) := by decide +kernel
theorem dX8_read_21 : decode cX8_read 21 = .ok (.aload_n 0, 1) := by decide +kernel
theorem dX8_read_22 : decode cX8_read 22 = .ok (.bipush 99, 2) := by decide +kernel
theorem dX8_read_24 : decode cX8_read 24 = .ok (.bipush 111, 2) := by decide +kernel
theorem dX8_read_26 : decode cX8_read 26 = .ok (.bipush 117, 2) := by decide +kernel
theorem dX8_read_28 : decode cX8_read 28 = .ok (.bipush 110, 2) := by decide +kernel
theorem dX8_read_30 : decode cX8_read 30 = .ok (.bipush 116, 2) := by decide +kernel
theorem dX8_read_32 : decode cX8_read 32 = .ok (.bipush 114, 2) := by decide +kernel
theorem dX8_read_34 : decode cX8_read 34 = .ok (.bipush 121, 2) := by decide +kernel
theorem dX8_read_36 : decode cX8_read 36 = .ok (.invokevirtual 145, 3) := by decide +kernel
theorem dX8_read_39 : decode cX8_read 39 = .ok (.ifCond .ne 7, 3) := by decide +kernel
theorem dX8_read_42 : decode cX8_read 42 = .ok (.aload_n 0, 1) := by decide +kernel
theorem dX8_read_43 : decode cX8_read 43 = .ok (.invokevirtual 133, 3) := by decide +kernel
theorem dX8_read_46 : decode cX8_read 46 = .ok (.aload_n 0, 1) := by decide +kernel
theorem dX8_read_47 : decode cX8_read 47 = .ok (.invokevirtual 164, 3) := by decide +kernel
theorem dX8_read_50 : decode cX8_read 50 = .ok (.iconst 1, 1) := by decide +kernel
theorem dX8_read_51 : decode cX8_read 51 = .ok (.istore_n 1, 1) := by decide +kernel
theorem dX8_read_52 : decode cX8_read 52 = .ok (.aload_n 0, 1) := by decide +kernel
theorem dX8_read_53 : decode cX8_read 53 = .ok (.invokevirtual 126, 3) := by decide +kernel
theorem dX8_read_56 : decode cX8_read 56 = .ok (.istore_n 2, 1) := by decide +kernel
theorem dX8_read_57 : decode cX8_read 57 = .ok (.iload_n 2, 1) := by decide +kernel
theorem dX8_read_58 : decode cX8_read 58 = .ok (.ifCond .eq 39, 3) := by decide +kernel
theorem dX8_read_61 : decode cX8_read 61 = .ok (.aload_n 0, 1) := by decide +kernel
theorem dX8_read_62 : decode cX8_read 62 = .ok (.invokevirtual 130, 3) := by decide +kernel
theorem dX8_read_65 : decode cX8_read 65 = .ok (.aload_n 0, 1) := by decide +kernel
theorem dX8_read_66 : decode cX8_read 66 = .ok (.getfield 110, 3) := by decide +kernel
theorem dX8_read_69 : decode cX8_read 69 = .ok (.ifCond .eq 7, 3) := by decide +kernel
theorem dX8_read_72 : decode cX8_read 72 = .ok (.iconst 1, 1) := by decide +kernel
theorem dX8_read_73 : decode cX8_read 73 = .ok (.goto 4, 3) := by decide +kernel
theorem dX8_read_76 : decode cX8_read 76 = .ok (.iconst 0, 1) := by decide +kernel
theorem dX8_read_77 : decode cX8_read 77 = .ok (.istore_n 2, 1) := by decide +kernel
theorem dX8_read_78 : decode cX8_read 78 = .ok (.iload_n 2, 1) := by decide +kernel
theorem dX8_read_79 : decode cX8_read 79 = .ok (.ifCond .eq (-22), 3) := by decide +kernel
theorem dX8_read_82 : decode cX8_read 82 = .ok (.aload_n 0, 1) := by decide +kernel
theorem dX8_read_83 : decode cX8_read 83 = .ok (.invokevirtual 167, 3) := by decide +kernel
theorem dX8_read_86 : decode cX8_read 86 = .ok (.iinc 1 1, 3) := by decide +kernel
theorem dX8_read_89 : decode cX8_read 89 = .ok (.aload_n 0, 1) := by decide +kernel
theorem dX8_read_90 : decode cX8_read 90 = .ok (.invokevirtual 126, 3) := by decide +kernel
theorem dX8_read_93 : decode cX8_read 93 = .ok (.istore_n 2, 1) := by decide +kernel
theorem dX8_read_94 : decode cX8_read 94 = .ok (.goto (-37), 3) := by decide +kernel
theorem dX8_read_97 : decode cX8_read 97 = .ok (.aload_n 0, 1) := by decide +kernel
theorem dX8_read_98 : decode cX8_read 98 = .ok (.invokevirtual 126, 3) := by decide +kernel
theorem dX8_read_101 : decode cX8_read 101 = .ok (.ifCond .ne 11, 3) := by decide +kernel
theorem dX8_read_104 : decode cX8_read 104 = .ok (.bipush (-10), 2) := by decide +kernel
theorem dX8_read_106 : decode cX8_read 106 = .ok (.aload_n 0, 1) := by decide +kernel
theorem dX8_read_107 : decode cX8_read 107 = .ok (.getfield 119, 3) := by decide +kernel
theorem dX8_read_110 : decode cX8_read 110 = .ok (.isub, 1) := by decide +kernel
theorem dX8_read_111 : decode cX8_read 111 = .ok (.ireturn, 1) := by decide +kernel
theorem dX8_read_112 : decode cX8_read 112 = .ok (.aload_n 0, 1) := by decide +kernel
theorem dX8_read_113 : decode cX8_read 113 = .ok (.sipush 1437, 3) := by decide +kernel
theorem dX8_read_116 : decode cX8_read 116 = .ok (.iconst 0, 1) := by decide +kernel
theorem dX8_read_117 : decode cX8_read 117 = .ok (.sipush 479, 3) := by decide +kernel
theorem dX8_read_120 : decode cX8_read 120 = .ok (.invokevirtual 70, 3) := by decide +kernel
theorem dX8_read_123 : decode cX8_read 123 = .ok (.iload_n 1, 1) := by decide +kernel
theorem dX8_read_124 : decode cX8_read 124 = .ok (.ireturn, 1) := by decide +kernel
theorem dX8_flies_0 : decode cX8_flies 0 = .ok (.aload_n 0, 1) := by decide +kernel
theorem dX8_flies_1 : decode cX8_flies 1 = .ok (.iload_n 1, 1) := by decide +kernel
theorem dX8_flies_2 : decode cX8_flies 2 = .ok (.invokevirtual 170, 3) := by decide +kernel
theorem dX8_flies_5 : decode cX8_flies 5 = .ok (.ifCond .eq 11, 3) := by decide +kernel
theorem dX8_flies_8 : decode cX8_flies 8 = .ok (.aload_n 0, 1) := by decide +kernel
theorem dX8_flies_9 : decode cX8_flies 9 = .ok (.iload_n 2, 1) := by decide +kernel
theorem dX8_flies_10 : decode cX8_flies 10 = .ok (.invokevirtual 88, 3) := by decide +kernel
theorem dX8_flies_13 : decode cX8_flies 13 = .ok (.ifCond .ne 8, 3) := by decide +kernel
theorem dX8_flies_16 : decode cX8_flies 16 = .ok (.aload_n 0, 1) := by decide +kernel
theorem dX8_flies_17 : decode cX8_flies 17 = .ok (.invokevirtual 78, 3) := by decide +kernel
theorem dX8_flies_20 : decode cX8_flies 20 = .ok (.ireturn, 1) := by decide +kernel
theorem dX8_flies_21 : decode cX8_flies 21 = .ok (.aload_n 0, 1) := by decide +kernel
theorem dX8_flies_22 : decode cX8_flies 22 = .ok (.getfield 7, 3) := by decide +kernel
theorem dX8_flies_25 : decode cX8_flies 25 = .ok (.iload_n 1, 1) := by decide +kernel
theorem dX8_flies_26 : decode cX8_flies 26 = .ok (.iaload, 1) := by decide +kernel
theorem dX8_flies_27 : decode cX8_flies 27 = .ok (.iload_n 2, 1) := by decide +kernel
theorem dX8_flies_28 : decode cX8_flies 28 = .ok (.if_icmp .eq 16, 3) := by decide +kernel
theorem dX8_flies_31 : decode cX8_flies 31 = .ok (.aload_n 0, 1) := by decide +kernel
theorem dX8_flies_32 : decode cX8_flies 32 = .ok (.getfield 7, 3) := by decide +kernel
theorem dX8_flies_35 : decode cX8_flies 35 = .ok (.bipush 6, 2) := by decide +kernel
theorem dX8_flies_37 : decode cX8_flies 37 = .ok (.iaload, 1) := by decide +kernel
theorem dX8_flies_38 : decode cX8_flies 38 = .ok (.sipush 9999, 3) := by decide +kernel
theorem dX8_flies_41 : decode cX8_flies 41 = .ok (.if_icmp .ne 8, 3) := by decide +kernel
theorem dX8_flies_44 : decode cX8_flies 44 = .ok (.aload_n 0, 1) := by decide +kernel
theorem dX8_flies_45 : decode cX8_flies 45 = .ok (.invokevirtual 173, 3) := by decide +kernel
theorem dX8_flies_48 : decode cX8_flies 48 = .ok (.ireturn, 1) := by decide +kernel
theorem dX8_flies_49 : decode cX8_flies 49 = .ok (.aload_n 0, 1) := by decide +kernel
theorem dX8_flies_50 : decode cX8_flies 50 = .ok (.invokevirtual 176, 3) := by decide +kernel
theorem dX8_flies_53 : decode cX8_flies 53 = .ok (.aload_n 0, 1) := by decide +kernel
theorem dX8_flies_54 : decode cX8_flies 54 = .ok (.iconst 0, 1) := by decide +kernel
theorem dX8_flies_55 : decode cX8_flies 55 = .ok (.iconst 0, 1) := by decide +kernel
theorem dX8_flies_56 : decode cX8_flies 56 = .ok (.iload_n 1, 1) := by decide +kernel
