theorem dX0_init_0 : decode cX0_init 0 = .ok (.aload_n 0, 1) := by decide +kernel
theorem dX0_init_1 : decode cX0_init 1 = .ok (.invokespecial 3, 3) := by decide +kernel
theorem dX0_init_4 : decode cX0_init 4 = .ok (.aload_n 0, 1) := by decide +kernel
theorem dX0_init_5 : decode cX0_init 5 = .ok (.bipush 7, 2) := by decide +kernel
theorem dX0_init_7 : decode cX0_init 7 = .ok (.newarray .int, 2) := by decide +kernel
theorem dX0_init_9 : decode cX0_init 9 = .ok (.putfield 9, 3) := by decide +kernel
theorem dX0_init_12 : decode cX0_init 12 = .ok (.aload_n 0, 1) := by decide +kernel
theorem dX0_init_13 : decode cX0_init 13 = .ok (.bipush 7, 2) := by decide +kernel
theorem dX0_init_15 : decode cX0_init 15 = .ok (.newarray .int, 2) := by decide +kernel
theorem dX0_init_17 : decode cX0_init 17 = .ok (.putfield 15, 3) := by decide +kernel
theorem dX0_init_20 : decode cX0_init 20 = .ok (.aload_n 0, 1) := by decide +kernel
theorem dX0_init_21 : decode cX0_init 21 = .ok (.bipush 7, 2) := by decide +kernel
theorem dX0_init_23 : decode cX0_init 23 = .ok (.newarray .int, 2) := by decide +kernel
theorem dX0_init_25 : decode cX0_init 25 = .ok (.putfield 18, 3) := by decide +kernel
theorem dX0_init_28 : decode cX0_init 28 = .ok (.aload_n 0, 1) := by decide +kernel
theorem dX0_init_29 : decode cX0_init 29 = .ok (.iconst 3, 1) := by decide +kernel
theorem dX0_init_30 : decode cX0_init 30 = .ok (.newarray .int, 2) := by decide +kernel
theorem dX0_init_32 : decode cX0_init 32 = .ok (.putfield 21, 3) := by decide +kernel
theorem dX0_init_35 : decode cX0_init 35 = .ok (.aload_n 0, 1) := by decide +kernel
theorem dX0_init_36 : decode cX0_init 36 = .ok (.new 24, 3) := by decide +kernel
theorem dX0_init_39 : decode cX0_init 39 = .ok (.dup, 1) := by decide +kernel
theorem dX0_init_40 : decode cX0_init 40 = .ok (.invokespecial 26, 3) := by decide +kernel
theorem dX0_init_43 : decode cX0_init 43 = .ok (.putfield 27, 3) := by decide +kernel
theorem dX0_init_46 : decode cX0_init 46 = .ok (.aload_n 0, 1) := by decide +kernel
theorem dX0_init_47 : decode cX0_init 47 = .ok (.bipush 8, 2) := by decide +kernel
theorem dX0_init_49 : decode cX0_init 49 = .ok (.anewarray 24, 3) := by decide +kernel
theorem dX0_init_52 : decode cX0_init 52 = .ok (.putfield 31, 3) := by decide +kernel
theorem dX0_init_55 : decode cX0_init 55 = .ok (.aload_n 0, 1) := by decide +kernel
theorem dX0_init_56 : decode cX0_init 56 = .ok (.new 35, 3) := by decide +kernel
theorem dX0_init_59 : decode cX0_init 59 = .ok (.dup, 1) := by decide +kernel
theorem dX0_init_60 : decode cX0_init 60 = .ok (.iconst 0, 1) := by decide +kernel
theorem dX0_init_61 : decode cX0_init 61 = .ok (.invokespecial 37, 3) := by decide +kernel
theorem dX0_init_64 : decode cX0_init 64 = .ok (.putfield 40, 3) := by decide +kernel
theorem dX0_init_67 : decode cX0_init 67 = .ok (.aload_n 0, 1) := by decide +kernel
theorem dX0_init_68 : decode cX0_init 68 = .ok (.new 35, 3) := by decide +kernel
theorem dX0_init_71 : decode cX0_init 71 = .ok (.dup, 1) := by decide +kernel
theorem dX0_init_72 : decode cX0_init 72 = .ok (.iconst 1, 1) := by decide +kernel
theorem dX0_init_73 : decode cX0_init 73 = .ok (.invokespecial 37, 3) := by decide +kernel
theorem dX0_init_76 : decode cX0_init 76 = .ok (.putfield 44, 3) := by decide +kernel
theorem dX0_init_79 : decode cX0_init 79 = .ok (.iconst 0, 1) := by decide +kernel
theorem dX0_init_80 : decode cX0_init 80 = .ok (.istore_n 1, 1) := by decide +kernel
theorem dX0_init_81 : decode cX0_init 81 = .ok (.iload_n 1, 1) := by decide +kernel
theorem dX0_init_82 : decode cX0_init 82 = .ok (.bipush 8, 2) := by decide +kernel
theorem dX0_init_84 : decode cX0_init 84 = .ok (.if_icmp .ge 22, 3) := by decide +kernel
theorem dX0_init_87 : decode cX0_init 87 = .ok (.aload_n 0, 1) := by decide +kernel
theorem dX0_init_88 : decode cX0_init 88 = .ok (.getfield 31, 3) := by decide +kernel
theorem dX0_init_91 : decode cX0_init 91 = .ok (.iload_n 1, 1) := by decide +kernel
theorem dX0_init_92 : decode cX0_init 92 = .ok (.new 24, 3) := by decide +kernel
theorem dX0_init_95 : decode cX0_init 95 = .ok (.dup, 1) := by decide +kernel
theorem dX0_init_96 : decode cX0_init 96 = .ok (.invokespecial 26, 3) := by decide +kernel
theorem dX0_init_99 : decode cX0_init 99 = .ok (.aastore, 1) := by decide +kernel
theorem dX0_init_100 : decode cX0_init 100 = .ok (.iinc 1 1, 3) := by decide +kernel
theorem dX0_init_103 : decode cX0_init 103 = .ok (.goto (-22), 3) := by decide +kernel
theorem dX0_init_106 : decode cX0_init 106 = .ok (.return_, 1) := by decide +kernel
theorem dX0_empty_0 : decode cX0_empty 0 = .ok (.aload_n 0, 1) := by decide +kernel
theorem dX0_empty_1 : decode cX0_empty 1 = .ok (.iconst 0, 1) := by decide +kernel
theorem dX0_empty_2 : decode cX0_empty 2 = .ok (.putfield 47, 3) := by decide +kernel
theorem dX0_empty_5 : decode cX0_empty 5 = .ok (.aload_n 0, 1) := by decide +kernel
theorem dX0_empty_6 : decode cX0_empty 6 = .ok (.iconst 0, 1) := by decide +kernel
theorem dX0_empty_7 : decode cX0_empty 7 = .ok (.putfield 51, 3) := by decide +kernel
theorem dX0_empty_10 : decode cX0_empty 10 = .ok (.aload_n 0, 1) := by decide +kernel
theorem dX0_empty_11 : decode cX0_empty 11 = .ok (.getfield 27, 3) := by decide +kernel
theorem dX0_empty_14 : decode cX0_empty 14 = .ok (.iconst 0, 1) := by decide +kernel
theorem dX0_empty_15 : decode cX0_empty 15 = .ok (.putfield 54, 3) := by decide +kernel
theorem dX0_empty_18 : decode cX0_empty 18 = .ok (.aload_n 0, 1) := by decide +kernel
theorem dX0_empty_19 : decode cX0_empty 19 = .ok (.getfield 27, 3) := by decide +kernel
theorem dX0_empty_22 : decode cX0_empty 22 = .ok (.iconst 0, 1) := by decide +kernel
theorem dX0_empty_23 : decode cX0_empty 23 = .ok (.putfield 57, 3) := by decide +kernel
theorem dX0_empty_26 : decode cX0_empty 26 = .ok (.aload_n 0, 1) := by decide +kernel
theorem dX0_empty_27 : decode cX0_empty 27 = .ok (.iconst 0, 1) := by decide +kernel
theorem dX0_empty_28 : decode cX0_empty 28 = .ok (.putfield 60, 3) := by decide +kernel
theorem dX0_empty_31 : decode cX0_empty 31 = .ok (.aload_n 0, 1) := by decide +kernel
theorem dX0_empty_32 : decode cX0_empty 32 = .ok (.getfield 40, 3) := by decide +kernel
theorem dX0_empty_35 : decode cX0_empty 35 = .ok (.iconst 0, 1) := by decide +kernel
theorem dX0_empty_36 : decode cX0_empty 36 = .ok (.putfield 63, 3) := by decide +kernel
theorem dX0_empty_39 : decode cX0_empty 39 = .ok (.aload_n 0, 1) := by decide +kernel
theorem dX0_empty_40 : decode cX0_empty 40 = .ok (.getfield 44, 3) := by decide +kernel
theorem dX0_empty_43 : decode cX0_empty 43 = .ok (.iconst 0, 1) := by decide +kernel
theorem dX0_empty_44 : decode cX0_empty 44 = .ok (.putfield 63, 3) := by decide +kernel
theorem dX0_empty_47 : decode cX0_empty 47 = .ok (.return_, 1) := by decide +kernel
theorem dX0_become_0 : decode cX0_become 0 = .ok (.aload_n 1, 1) := by decide +kernel
theorem dX0_become_1 : decode cX0_become 1 = .ok (.getfield 9, 3) := by decide +kernel
theorem dX0_become_4 : decode cX0_become 4 = .ok (.iconst 0, 1) := by decide +kernel
theorem dX0_become_5 : decode cX0_become 5 = .ok (.aload_n 0, 1) := by decide +kernel
theorem dX0_become_6 : decode cX0_become 6 = .ok (.getfield 9, 3) := by decide +kernel
theorem dX0_become_9 : decode cX0_become 9 = .ok (.iconst 0, 1) := by decide +kernel
theorem dX0_become_10 : decode cX0_become 10 = .ok (.bipush 7, 2) := by decide +kernel
theorem dX0_become_12 : decode cX0_become 12 = .ok (.invokestatic 66, 3) := by decide +kernel
theorem dX0_become_15 : decode cX0_become 15 = .ok (.aload_n 1, 1) := by decide +kernel
theorem dX0_become_16 : decode cX0_become 16 = .ok (.getfield 15, 3) := by decide +kernel
theorem dX0_become_19 : decode cX0_become 19 = .ok (.iconst 0, 1) := by decide +kernel
theorem dX0_become_20 : decode cX0_become 20 = .ok (.aload_n 0, 1) := by decide +kernel
theorem dX0_become_21 : decode cX0_become 21 = .ok (.getfield 15, 3) := by decide +kernel
theorem dX0_become_24 : decode cX0_become 24 = .ok (.iconst 0, 1) := by decide +kernel
theorem dX0_become_25 : decode cX0_become 25 = .ok (.bipush 7, 2) := by decide +kernel
theorem dX0_become_27 : decode cX0_become 27 = .ok (.invokestatic 66, 3) := by decide +kernel
theorem dX0_become_30 : decode cX0_become 30 = .ok (.aload_n 1, 1) := by decide +kernel
theorem dX0_become_31 : decode cX0_become 31 = .ok (.getfield 18, 3) := by decide +kernel
theorem dX0_become_34 : decode cX0_become 34 = .ok (.iconst 0, 1) := by decide +kernel
theorem dX0_become_35 : decode cX0_become 35 = .ok (.aload_n 0, 1) := by decide +kernel
theorem dX0_become_36 : decode cX0_become 36 = .ok (.getfield 18, 3) := by decide +kernel
theorem dX0_become_39 : decode cX0_become 39 = .ok (.iconst 0, 1) := by decide +kernel
theorem dX0_become_40 : decode cX0_become 40 = .ok (.bipush 7, 2) := by decide +kernel
theorem dX0_become_42 : decode cX0_become 42 = .ok (.invokestatic 66, 3) := by decide +kernel
theorem dX0_become_45 : decode cX0_become 45 = .ok (.aload_n 0, 1) := by decide +kernel
theorem dX0_become_46 : decode cX0_become 46 = .ok (.aload_n 1, 1) := by decide +kernel
theorem dX0_become_47 : decode cX0_become 47 = .ok (.getfield 47, 3) := by decide +kernel
theorem dX0_become_50 : decode cX0_become 50 = .ok (.putfield 47, 3) := by decide +kernel
theorem dX0_become_53 : decode cX0_become 53 = .ok (.aload_n 1, 1) := by decide +kernel
theorem dX0_become_54 : decode cX0_become 54 = .ok (.getfield 21, 3) := by decide +kernel
theorem dX0_become_57 : decode cX0_become 57 = .ok (.iconst 0, 1) := by decide +kernel
theorem dX0_become_58 : decode cX0_become 58 = .ok (.aload_n 0, 1) := by decide +kernel
theorem dX0_become_59 : decode cX0_become 59 = .ok (.getfield 21, 3) := by decide +kernel
theorem dX0_become_62 : decode cX0_become 62 = .ok (.iconst 0, 1) := by decide +kernel
theorem dX0_become_63 : decode cX0_become 63 = .ok (.iconst 3, 1) := by decide +kernel
theorem dX0_become_64 : decode cX0_become 64 = .ok (.invokestatic 66, 3) := by decide +kernel
theorem dX0_become_67 : decode cX0_become 67 = .ok (.aload_n 0, 1) := by decide +kernel
theorem dX0_become_68 : decode cX0_become 68 = .ok (.aload_n 1, 1) := by decide +kernel
theorem dX0_become_69 : decode cX0_become 69 = .ok (.getfield 51, 3) := by decide +kernel
theorem dX0_become_72 : decode cX0_become 72 = .ok (.putfield 51, 3) := by decide +kernel
theorem dX0_become_75 : decode cX0_become 75 = .ok (.aload_n 0, 1) := by decide +kernel
theorem dX0_become_76 : decode cX0_become 76 = .ok (.getfield 27, 3) := by decide +kernel
theorem dX0_become_79 : decode cX0_become 79 = .ok (.aload_n 1, 1) := by decide +kernel
theorem dX0_become_80 : decode cX0_become 80 = .ok (.getfield 27, 3) := by decide +kernel
theorem dX0_become_83 : decode cX0_become 83 = .ok (.invokevirtual 72, 3) := by decide +kernel
theorem dX0_become_86 : decode cX0_become 86 = .ok (.iconst 0, 1) := by decide +kernel
theorem dX0_become_87 : decode cX0_become 87 = .ok (.istore_n 2, 1) := by decide +kernel
theorem dX0_become_88 : decode cX0_become 88 = .ok (.iload_n 2, 1) := by decide +kernel
theorem dX0_become_89 : decode cX0_become 89 = .ok (.bipush 8, 2) := by decide +kernel
theorem dX0_become_91 : decode cX0_become 91 = .ok (.if_icmp .ge 32, 3) := by decide +kernel
theorem dX0_become_94 : decode cX0_become 94 = .ok (.iload_n 2, 1) := by decide +kernel
theorem dX0_become_95 : decode cX0_become 95 = .ok (.aload_n 1, 1) := by decide +kernel
theorem dX0_become_96 : decode cX0_become 96 = .ok (.getfield 60, 3) := by decide +kernel
theorem dX0_become_99 : decode cX0_become 99 = .ok (.if_icmp .ge 24, 3) := by decide +kernel
theorem dX0_become_102 : decode cX0_become 102 = .ok (.aload_n 0, 1) := by decide +kernel
theorem dX0_become_103 : decode cX0_become 103 = .ok (.getfield 31, 3) := by decide +kernel
theorem dX0_become_106 : decode cX0_become 106 = .ok (.iload_n 2, 1) := by decide +kernel
theorem dX0_become_107 : decode cX0_become 107 = .ok (.aaload, 1) := by decide +kernel
theorem dX0_become_108 : decode cX0_become 108 = .ok (.aload_n 1, 1) := by decide +kernel
theorem dX0_become_109 : decode cX0_become 109 = .ok (.getfield 31, 3) := by decide +kernel
theorem dX0_become_112 : decode cX0_become 112 = .ok (.iload_n 2, 1) := by decide +kernel
theorem dX0_become_113 : decode cX0_become 113 = .ok (.aaload, 1) := by decide +kernel
theorem dX0_become_114 : decode cX0_become 114 = .ok (.invokevirtual 72, 3) := by decide +kernel
theorem dX0_become_117 : decode cX0_become 117 = .ok (.iinc 2 1, 3) := by decide +kernel
theorem dX0_become_120 : decode cX0_become 120 = .ok (.goto (-32), 3) := by decide +kernel
theorem dX0_become_123 : decode cX0_become 123 = .ok (.aload_n 0, 1) := by decide +kernel
theorem dX0_become_124 : decode cX0_become 124 = .ok (.aload_n 1, 1) := by decide +kernel
theorem dX0_become_125 : decode cX0_become 125 = .ok (.getfield 60, 3) := by decide +kernel
theorem dX0_become_128 : decode cX0_become 128 = .ok (.putfield 60, 3) := by decide +kernel
theorem dX0_become_131 : decode cX0_become 131 = .ok (.aload_n 0, 1) := by decide +kernel
theorem dX0_become_132 : decode cX0_become 132 = .ok (.getfield 40, 3) := by decide +kernel
theorem dX0_become_135 : decode cX0_become 135 = .ok (.aload_n 1, 1) := by decide +kernel
theorem dX0_become_136 : decode cX0_become 136 = .ok (.getfield 40, 3) := by decide +kernel
theorem dX0_become_139 : decode cX0_become 139 = .ok (.invokevirtual 76, 3) := by decide +kernel
theorem dX0_become_142 : decode cX0_become 142 = .ok (.aload_n 0, 1) := by decide +kernel
theorem dX0_become_143 : decode cX0_become 143 = .ok (.getfield 44, 3) := by decide +kernel
theorem dX0_become_146 : decode cX0_become 146 = .ok (.aload_n 1, 1) := by decide +kernel
theorem dX0_become_147 : decode cX0_become 147 = .ok (.getfield 44, 3) := by decide +kernel
theorem dX0_become_150 : decode cX0_become 150 = .ok (.invokevirtual 76, 3) := by decide +kernel
theorem dX0_become_153 : decode cX0_become 153 = .ok (.return_, 1) := by decide +kernel
theorem dX0_hasPlace_0 : decode cX0_hasPlace 0 = .ok (.iload_n 1, 1) := by decide +kernel
theorem dX0_hasPlace_1 : decode cX0_hasPlace 1 = .ok (.ifCond .lt 15, 3) := by decide +kernel
theorem dX0_hasPlace_4 : decode cX0_hasPlace 4 = .ok (.iload_n 1, 1) := by decide +kernel
theorem dX0_hasPlace_5 : decode cX0_hasPlace 5 = .ok (.aload_n 0, 1) := by decide +kernel
theorem dX0_hasPlace_6 : decode cX0_hasPlace 6 = .ok (.getfield 47, 3) := by decide +kernel
theorem dX0_hasPlace_9 : decode cX0_hasPlace 9 = .ok (.if_icmp .ge 7, 3) := by decide +kernel
theorem dX0_hasPlace_12 : decode cX0_hasPlace 12 = .ok (.iconst 1, 1) := by decide +kernel
theorem dX0_hasPlace_13 : decode cX0_hasPlace 13 = .ok (.goto 4, 3) := by decide +kernel
theorem dX0_hasPlace_16 : decode cX0_hasPlace 16 = .ok (.iconst 0, 1) := by decide +kernel
theorem dX0_hasPlace_17 : decode cX0_hasPlace 17 = .ok (.ireturn, 1) := by decide +kernel
theorem dX0_hasCrow_0 : decode cX0_hasCrow 0 = .ok (.iload_n 1, 1) := by decide +kernel
theorem dX0_hasCrow_1 : decode cX0_hasCrow 1 = .ok (.ifCond .lt 15, 3) := by decide +kernel
theorem dX0_hasCrow_4 : decode cX0_hasCrow 4 = .ok (.iload_n 1, 1) := by decide +kernel
theorem dX0_hasCrow_5 : decode cX0_hasCrow 5 = .ok (.aload_n 0, 1) := by decide +kernel
theorem dX0_hasCrow_6 : decode cX0_hasCrow 6 = .ok (.getfield 51, 3) := by decide +kernel
theorem dX0_hasCrow_9 : decode cX0_hasCrow 9 = .ok (.if_icmp .ge 7, 3) := by decide +kernel
theorem dX0_hasCrow_12 : decode cX0_hasCrow 12 = .ok (.iconst 1, 1) := by decide +kernel
theorem dX0_hasCrow_13 : decode cX0_hasCrow 13 = .ok (.goto 4, 3) := by decide +kernel
theorem dX0_hasCrow_16 : decode cX0_hasCrow 16 = .ok (.iconst 0, 1) := by decide +kernel
theorem dX0_hasCrow_17 : decode cX0_hasCrow 17 = .ok (.ireturn, 1) := by decide +kernel
theorem dX0_addPlace_0 : decode cX0_addPlace 0 = .ok (.aload_n 0, 1) := by decide +kernel
theorem dX0_addPlace_1 : decode cX0_addPlace 1 = .ok (.getfield 47, 3) := by decide +kernel
theorem dX0_addPlace_4 : decode cX0_addPlace 4 = .ok (.bipush 7, 2) := by decide +kernel
theorem dX0_addPlace_6 : decode cX0_addPlace 6 = .ok (.if_icmp .lt 6, 3) := by decide +kernel
theorem dX0_addPlace_9 : decode cX0_addPlace 9 = .ok (.bipush (-4), 2) := by decide +kernel
theorem dX0_addPlace_11 : decode cX0_addPlace 11 = .ok (.ireturn, 1) := by decide +kernel
theorem dX0_addPlace_12 : decode cX0_addPlace 12 = .ok (.aload_n 0, 1) := by decide +kernel
theorem dX0_addPlace_13 : decode cX0_addPlace 13 = .ok (.getfield 9, 3) := by decide +kernel
theorem dX0_addPlace_16 : decode cX0_addPlace 16 = .ok (.aload_n 0, 1) := by decide +kernel
theorem dX0_addPlace_17 : decode cX0_addPlace 17 = .ok (.getfield 47, 3) := by decide +kernel
theorem dX0_addPlace_20 : decode cX0_addPlace 20 = .ok (.iload_n 1, 1) := by decide +kernel
theorem dX0_addPlace_21 : decode cX0_addPlace 21 = .ok (.iastore, 1) := by decide +kernel
theorem dX0_addPlace_22 : decode cX0_addPlace 22 = .ok (.aload_n 0, 1) := by decide +kernel
theorem dX0_addPlace_23 : decode cX0_addPlace 23 = .ok (.getfield 15, 3) := by decide +kernel
theorem dX0_addPlace_26 : decode cX0_addPlace 26 = .ok (.aload_n 0, 1) := by decide +kernel
theorem dX0_addPlace_27 : decode cX0_addPlace 27 = .ok (.getfield 47, 3) := by decide +kernel
theorem dX0_addPlace_30 : decode cX0_addPlace 30 = .ok (.iload_n 2, 1) := by decide +kernel
theorem dX0_addPlace_31 : decode cX0_addPlace 31 = .ok (.iastore, 1) := by decide +kernel
theorem dX0_addPlace_32 : decode cX0_addPlace 32 = .ok (.aload_n 0, 1) := by decide +kernel
theorem dX0_addPlace_33 : decode cX0_addPlace 33 = .ok (.getfield 18, 3) := by decide +kernel
theorem dX0_addPlace_36 : decode cX0_addPlace 36 = .ok (.aload_n 0, 1) := by decide +kernel
theorem dX0_addPlace_37 : decode cX0_addPlace 37 = .ok (.getfield 47, 3) := by decide +kernel
theorem dX0_addPlace_40 : decode cX0_addPlace 40 = .ok (.iload_n 3, 1) := by decide +kernel
theorem dX0_addPlace_41 : decode cX0_addPlace 41 = .ok (.iastore, 1) := by decide +kernel
theorem dX0_addPlace_42 : decode cX0_addPlace 42 = .ok (.aload_n 0, 1) := by decide +kernel
theorem dX0_addPlace_43 : decode cX0_addPlace 43 = .ok (.dup, 1) := by decide +kernel
theorem dX0_addPlace_44 : decode cX0_addPlace 44 = .ok (.getfield 47, 3) := by decide +kernel
theorem dX0_addPlace_47 : decode cX0_addPlace 47 = .ok (.iconst 1, 1) := by decide +kernel
theorem dX0_addPlace_48 : decode cX0_addPlace 48 = .ok (.iadd, 1) := by decide +kernel
theorem dX0_addPlace_49 : decode cX0_addPlace 49 = .ok (.putfield 47, 3) := by decide +kernel
theorem dX0_addPlace_52 : decode cX0_addPlace 52 = .ok (.aload_n 0, 1) := by decide +kernel
theorem dX0_addPlace_53 : decode cX0_addPlace 53 = .ok (.iconst 0, 1) := by decide +kernel
theorem dX0_addPlace_54 : decode cX0_addPlace 54 = .ok (.putfield 60, 3) := by decide +kernel
theorem dX0_addPlace_57 : decode cX0_addPlace 57 = .ok (.aload_n 0, 1) := by decide +kernel
theorem dX0_addPlace_58 : decode cX0_addPlace 58 = .ok (.getfield 47, 3) := by decide +kernel
theorem dX0_addPlace_61 : decode cX0_addPlace 61 = .ok (.iconst 1, 1) := by decide +kernel
theorem dX0_addPlace_62 : decode cX0_addPlace 62 = .ok (.isub, 1) := by decide +kernel
theorem dX0_addPlace_63 : decode cX0_addPlace 63 = .ok (.ireturn, 1) := by decide +kernel
theorem dX0_addCrow_0 : decode cX0_addCrow 0 = .ok (.aload_n 0, 1) := by decide +kernel
theorem dX0_addCrow_1 : decode cX0_addCrow 1 = .ok (.getfield 51, 3) := by decide +kernel
theorem dX0_addCrow_4 : decode cX0_addCrow 4 = .ok (.iconst 3, 1) := by decide +kernel
theorem dX0_addCrow_5 : decode cX0_addCrow 5 = .ok (.if_icmp .lt 6, 3) := by decide +kernel
theorem dX0_addCrow_8 : decode cX0_addCrow 8 = .ok (.bipush (-4), 2) := by decide +kernel
theorem dX0_addCrow_10 : decode cX0_addCrow 10 = .ok (.ireturn, 1) := by decide +kernel
theorem dX0_addCrow_11 : decode cX0_addCrow 11 = .ok (.aload_n 0, 1) := by decide +kernel
theorem dX0_addCrow_12 : decode cX0_addCrow 12 = .ok (.getfield 21, 3) := by decide +kernel
theorem dX0_addCrow_15 : decode cX0_addCrow 15 = .ok (.aload_n 0, 1) := by decide +kernel
theorem dX0_addCrow_16 : decode cX0_addCrow 16 = .ok (.getfield 51, 3) := by decide +kernel
theorem dX0_addCrow_19 : decode cX0_addCrow 19 = .ok (.iload_n 1, 1) := by decide +kernel
theorem dX0_addCrow_20 : decode cX0_addCrow 20 = .ok (.iastore, 1) := by decide +kernel
theorem dX0_addCrow_21 : decode cX0_addCrow 21 = .ok (.aload_n 0, 1) := by decide +kernel
theorem dX0_addCrow_22 : decode cX0_addCrow 22 = .ok (.getfield 27, 3) := by decide +kernel
theorem dX0_addCrow_25 : decode cX0_addCrow 25 = .ok (.getfield 79, 3) := by decide +kernel
theorem dX0_addCrow_28 : decode cX0_addCrow 28 = .ok (.aload_n 0, 1) := by decide +kernel
theorem dX0_addCrow_29 : decode cX0_addCrow 29 = .ok (.getfield 51, 3) := by decide +kernel
theorem dX0_addCrow_32 : decode cX0_addCrow 32 = .ok (.iload_n 2, 1) := by decide +kernel
theorem dX0_addCrow_33 : decode cX0_addCrow 33 = .ok (.iastore, 1) := by decide +kernel
theorem dX0_addCrow_34 : decode cX0_addCrow 34 = .ok (.aload_n 0, 1) := by decide +kernel
theorem dX0_addCrow_35 : decode cX0_addCrow 35 = .ok (.getfield 27, 3) := by decide +kernel
theorem dX0_addCrow_38 : decode cX0_addCrow 38 = .ok (.getfield 82, 3) := by decide +kernel
theorem dX0_addCrow_41 : decode cX0_addCrow 41 = .ok (.aload_n 0, 1) := by decide +kernel
theorem dX0_addCrow_42 : decode cX0_addCrow 42 = .ok (.getfield 51, 3) := by decide +kernel
theorem dX0_addCrow_45 : decode cX0_addCrow 45 = .ok (.iconst 0, 1) := by decide +kernel
theorem dX0_addCrow_46 : decode cX0_addCrow 46 = .ok (.iastore, 1) := by decide +kernel
theorem dX0_addCrow_47 : decode cX0_addCrow 47 = .ok (.aload_n 0, 1) := by decide +kernel
theorem dX0_addCrow_48 : decode cX0_addCrow 48 = .ok (.dup, 1) := by decide +kernel
theorem dX0_addCrow_49 : decode cX0_addCrow 49 = .ok (.getfield 51, 3) := by decide +kernel
theorem dX0_addCrow_52 : decode cX0_addCrow 52 = .ok (.iconst 1, 1) := by decide +kernel
theorem dX0_addCrow_53 : decode cX0_addCrow 53 = .ok (.iadd, 1) := by decide +kernel
theorem dX0_addCrow_54 : decode cX0_addCrow 54 = .ok (.putfield 51, 3) := by decide +kernel
theorem dX0_addCrow_57 : decode cX0_addCrow 57 = .ok (.aload_n 0, 1) := by decide +kernel
theorem dX0_addCrow_58 : decode cX0_addCrow 58 = .ok (.iconst 0, 1) := by decide +kernel
theorem dX0_addCrow_59 : decode cX0_addCrow 59 = .ok (.putfield 60, 3) := by decide +kernel
theorem dX0_addCrow_62 : decode cX0_addCrow 62 = .ok (.aload_n 0, 1) := by decide +kernel
theorem dX0_addCrow_63 : decode cX0_addCrow 63 = .ok (.getfield 51, 3) := by decide +kernel
theorem dX0_addCrow_66 : decode cX0_addCrow 66 = .ok (.iconst 1, 1) := by decide +kernel
theorem dX0_addCrow_67 : decode cX0_addCrow 67 = .ok (.isub, 1) := by decide +kernel
theorem dX0_addCrow_68 : decode cX0_addCrow 68 = .ok (.ireturn, 1) := by decide +kernel
theorem dX0_aboutPlace_0 : decode cX0_aboutPlace 0 = .ok (.iload_n 2, 1) := by decide +kernel
theorem dX0_aboutPlace_1 : decode cX0_aboutPlace 1 = .ok (.ifCond .ne 10, 3) := by decide +kernel
theorem dX0_aboutPlace_4 : decode cX0_aboutPlace 4 = .ok (.aload_n 0, 1) := by decide +kernel
theorem dX0_aboutPlace_5 : decode cX0_aboutPlace 5 = .ok (.getfield 9, 3) := by decide +kernel
theorem dX0_aboutPlace_8 : decode cX0_aboutPlace 8 = .ok (.iload_n 1, 1) := by decide +kernel
theorem dX0_aboutPlace_9 : decode cX0_aboutPlace 9 = .ok (.iaload, 1) := by decide +kernel
theorem dX0_aboutPlace_10 : decode cX0_aboutPlace 10 = .ok (.ireturn, 1) := by decide +kernel
theorem dX0_aboutPlace_11 : decode cX0_aboutPlace 11 = .ok (.iload_n 2, 1) := by decide +kernel
theorem dX0_aboutPlace_12 : decode cX0_aboutPlace 12 = .ok (.iconst 1, 1) := by decide +kernel
theorem dX0_aboutPlace_13 : decode cX0_aboutPlace 13 = .ok (.if_icmp .ne 12, 3) := by decide +kernel
theorem dX0_aboutPlace_16 : decode cX0_aboutPlace 16 = .ok (.aload_n 0, 1) := by decide +kernel
theorem dX0_aboutPlace_17 : decode cX0_aboutPlace 17 = .ok (.getfield 15, 3) := by decide +kernel
theorem dX0_aboutPlace_20 : decode cX0_aboutPlace 20 = .ok (.iload_n 1, 1) := by decide +kernel
theorem dX0_aboutPlace_21 : decode cX0_aboutPlace 21 = .ok (.iaload, 1) := by decide +kernel
theorem dX0_aboutPlace_22 : decode cX0_aboutPlace 22 = .ok (.goto 9, 3) := by decide +kernel
theorem dX0_aboutPlace_25 : decode cX0_aboutPlace 25 = .ok (.aload_n 0, 1) := by decide +kernel
theorem dX0_aboutPlace_26 : decode cX0_aboutPlace 26 = .ok (.getfield 18, 3) := by decide +kernel
theorem dX0_aboutPlace_29 : decode cX0_aboutPlace 29 = .ok (.iload_n 1, 1) := by decide +kernel
theorem dX0_aboutPlace_30 : decode cX0_aboutPlace 30 = .ok (.iaload, 1) := by decide +kernel
theorem dX0_aboutPlace_31 : decode cX0_aboutPlace 31 = .ok (.ireturn, 1) := by decide +kernel
theorem dX0_aboutCrow_0 : decode cX0_aboutCrow 0 = .ok (.iload_n 2, 1) := by decide +kernel
theorem dX0_aboutCrow_1 : decode cX0_aboutCrow 1 = .ok (.ifCond .ne 10, 3) := by decide +kernel
theorem dX0_aboutCrow_4 : decode cX0_aboutCrow 4 = .ok (.aload_n 0, 1) := by decide +kernel
theorem dX0_aboutCrow_5 : decode cX0_aboutCrow 5 = .ok (.getfield 21, 3) := by decide +kernel
theorem dX0_aboutCrow_8 : decode cX0_aboutCrow 8 = .ok (.iload_n 1, 1) := by decide +kernel
theorem dX0_aboutCrow_9 : decode cX0_aboutCrow 9 = .ok (.iaload, 1) := by decide +kernel
theorem dX0_aboutCrow_10 : decode cX0_aboutCrow 10 = .ok (.ireturn, 1) := by decide +kernel
theorem dX0_aboutCrow_11 : decode cX0_aboutCrow 11 = .ok (.iload_n 2, 1) := by decide +kernel
theorem dX0_aboutCrow_12 : decode cX0_aboutCrow 12 = .ok (.iconst 1, 1) := by decide +kernel
theorem dX0_aboutCrow_13 : decode cX0_aboutCrow 13 = .ok (.if_icmp .ne 15, 3) := by decide +kernel
theorem dX0_aboutCrow_16 : decode cX0_aboutCrow 16 = .ok (.aload_n 0, 1) := by decide +kernel
theorem dX0_aboutCrow_17 : decode cX0_aboutCrow 17 = .ok (.getfield 27, 3) := by decide +kernel
theorem dX0_aboutCrow_20 : decode cX0_aboutCrow 20 = .ok (.getfield 79, 3) := by decide +kernel
theorem dX0_aboutCrow_23 : decode cX0_aboutCrow 23 = .ok (.iload_n 1, 1) := by decide +kernel
theorem dX0_aboutCrow_24 : decode cX0_aboutCrow 24 = .ok (.iaload, 1) := by decide +kernel
theorem dX0_aboutCrow_25 : decode cX0_aboutCrow 25 = .ok (.goto 12, 3) := by decide +kernel
theorem dX0_aboutCrow_28 : decode cX0_aboutCrow 28 = .ok (.aload_n 0, 1) := by decide +kernel
theorem dX0_aboutCrow_29 : decode cX0_aboutCrow 29 = .ok (.getfield 27, 3) := by decide +kernel
theorem dX0_aboutCrow_32 : decode cX0_aboutCrow 32 = .ok (.getfield 82, 3) := by decide +kernel
theorem dX0_aboutCrow_35 : decode cX0_aboutCrow 35 = .ok (.iload_n 1, 1) := by decide +kernel
theorem dX0_aboutCrow_36 : decode cX0_aboutCrow 36 = .ok (.iaload, 1) := by decide +kernel
theorem dX0_aboutCrow_37 : decode cX0_aboutCrow 37 = .ok (.ireturn, 1) := by decide +kernel
theorem dX0_remember_0 : decode cX0_remember 0 = .ok (.aload_n 0, 1) := by decide +kernel
theorem dX0_remember_1 : decode cX0_remember 1 = .ok (.getfield 60, 3) := by decide +kernel
theorem dX0_remember_4 : decode cX0_remember 4 = .ok (.bipush 8, 2) := by decide +kernel
theorem dX0_remember_6 : decode cX0_remember 6 = .ok (.if_icmp .lt 7, 3) := by decide +kernel
theorem dX0_remember_9 : decode cX0_remember 9 = .ok (.aload_n 0, 1) := by decide +kernel
theorem dX0_remember_10 : decode cX0_remember 10 = .ok (.invokevirtual 85, 3) := by decide +kernel
theorem dX0_remember_13 : decode cX0_remember 13 = .ok (.aload_n 0, 1) := by decide +kernel
theorem dX0_remember_14 : decode cX0_remember 14 = .ok (.getfield 31, 3) := by decide +kernel
theorem dX0_remember_17 : decode cX0_remember 17 = .ok (.aload_n 0, 1) := by decide +kernel
theorem dX0_remember_18 : decode cX0_remember 18 = .ok (.getfield 60, 3) := by decide +kernel
theorem dX0_remember_21 : decode cX0_remember 21 = .ok (.aaload, 1) := by decide +kernel
theorem dX0_remember_22 : decode cX0_remember 22 = .ok (.aload_n 0, 1) := by decide +kernel
theorem dX0_remember_23 : decode cX0_remember 23 = .ok (.getfield 27, 3) := by decide +kernel
theorem dX0_remember_26 : decode cX0_remember 26 = .ok (.invokevirtual 72, 3) := by decide +kernel
theorem dX0_remember_29 : decode cX0_remember 29 = .ok (.aload_n 0, 1) := by decide +kernel
theorem dX0_remember_30 : decode cX0_remember 30 = .ok (.dup, 1) := by decide +kernel
theorem dX0_remember_31 : decode cX0_remember 31 = .ok (.getfield 60, 3) := by decide +kernel
theorem dX0_remember_34 : decode cX0_remember 34 = .ok (.iconst 1, 1) := by decide +kernel
theorem dX0_remember_35 : decode cX0_remember 35 = .ok (.iadd, 1) := by decide +kernel
theorem dX0_remember_36 : decode cX0_remember 36 = .ok (.putfield 60, 3) := by decide +kernel
theorem dX0_remember_39 : decode cX0_remember 39 = .ok (.return_, 1) := by decide +kernel
theorem dX0_dropFirstPast_0 : decode cX0_dropFirstPast 0 = .ok (.aload_n 0, 1) := by decide +kernel
theorem dX0_dropFirstPast_1 : decode cX0_dropFirstPast 1 = .ok (.getfield 31, 3) := by decide +kernel
theorem dX0_dropFirstPast_4 : decode cX0_dropFirstPast 4 = .ok (.iconst 0, 1) := by decide +kernel
theorem dX0_dropFirstPast_5 : decode cX0_dropFirstPast 5 = .ok (.aaload, 1) := by decide +kernel
theorem dX0_dropFirstPast_6 : decode cX0_dropFirstPast 6 = .ok (.astore_n 1, 1) := by decide +kernel
theorem dX0_dropFirstPast_7 : decode cX0_dropFirstPast 7 = .ok (.iconst 1, 1) := by decide +kernel
theorem dX0_dropFirstPast_8 : decode cX0_dropFirstPast 8 = .ok (.istore_n 2, 1) := by decide +kernel
theorem dX0_dropFirstPast_9 : decode cX0_dropFirstPast 9 = .ok (.iload_n 2, 1) := by decide +kernel
theorem dX0_dropFirstPast_10 : decode cX0_dropFirstPast 10 = .ok (.bipush 8, 2) := by decide +kernel
theorem dX0_dropFirstPast_12 : decode cX0_dropFirstPast 12 = .ok (.if_icmp .ge 23, 3) := by decide +kernel
theorem dX0_dropFirstPast_15 : decode cX0_dropFirstPast 15 = .ok (.aload_n 0, 1) := by decide +kernel
theorem dX0_dropFirstPast_16 : decode cX0_dropFirstPast 16 = .ok (.getfield 31, 3) := by decide +kernel
theorem dX0_dropFirstPast_19 : decode cX0_dropFirstPast 19 = .ok (.iload_n 2, 1) := by decide +kernel
theorem dX0_dropFirstPast_20 : decode cX0_dropFirstPast 20 = .ok (.iconst 1, 1) := by decide +kernel
theorem dX0_dropFirstPast_21 : decode cX0_dropFirstPast 21 = .ok (.isub, 1) := by decide +kernel
theorem dX0_dropFirstPast_22 : decode cX0_dropFirstPast 22 = .ok (.aload_n 0, 1) := by decide +kernel
theorem dX0_dropFirstPast_23 : decode cX0_dropFirstPast 23 = .ok (.getfield 31, 3) := by decide +kernel
theorem dX0_dropFirstPast_26 : decode cX0_dropFirstPast 26 = .ok (.iload_n 2, 1) := by decide +kernel
theorem dX0_dropFirstPast_27 : decode cX0_dropFirstPast 27 = .ok (.aaload, 1) := by decide +kernel
theorem dX0_dropFirstPast_28 : decode cX0_dropFirstPast 28 = .ok (.aastore, 1) := by decide +kernel
theorem dX0_dropFirstPast_29 : decode cX0_dropFirstPast 29 = .ok (.iinc 2 1, 3) := by decide +kernel
theorem dX0_dropFirstPast_32 : decode cX0_dropFirstPast 32 = .ok (.goto (-23), 3) := by decide +kernel
theorem dX0_dropFirstPast_35 : decode cX0_dropFirstPast 35 = .ok (.aload_n 0, 1) := by decide +kernel
theorem dX0_dropFirstPast_36 : decode cX0_dropFirstPast 36 = .ok (.getfield 31, 3) := by decide +kernel
theorem dX0_dropFirstPast_39 : decode cX0_dropFirstPast 39 = .ok (.bipush 7, 2) := by decide +kernel
theorem dX0_dropFirstPast_41 : decode cX0_dropFirstPast 41 = .ok (.aload_n 1, 1) := by decide +kernel
theorem dX0_dropFirstPast_42 : decode cX0_dropFirstPast 42 = .ok (.aastore, 1) := by decide +kernel
theorem dX0_dropFirstPast_43 : decode cX0_dropFirstPast 43 = .ok (.aload_n 0, 1) := by decide +kernel
theorem dX0_dropFirstPast_44 : decode cX0_dropFirstPast 44 = .ok (.bipush 7, 2) := by decide +kernel
theorem dX0_dropFirstPast_46 : decode cX0_dropFirstPast 46 = .ok (.putfield 60, 3) := by decide +kernel
theorem dX0_dropFirstPast_49 : decode cX0_dropFirstPast 49 = .ok (.return_, 1) := by decide +kernel
theorem dX0_goBack_0 : decode cX0_goBack 0 = .ok (.aload_n 0, 1) := by decide +kernel
theorem dX0_goBack_1 : decode cX0_goBack 1 = .ok (.getfield 60, 3) := by decide +kernel
theorem dX0_goBack_4 : decode cX0_goBack 4 = .ok (.ifCond .le 29, 3) := by decide +kernel
theorem dX0_goBack_7 : decode cX0_goBack 7 = .ok (.aload_n 0, 1) := by decide +kernel
theorem dX0_goBack_8 : decode cX0_goBack 8 = .ok (.dup, 1) := by decide +kernel
theorem dX0_goBack_9 : decode cX0_goBack 9 = .ok (.getfield 60, 3) := by decide +kernel
theorem dX0_goBack_12 : decode cX0_goBack 12 = .ok (.iconst 1, 1) := by decide +kernel
theorem dX0_goBack_13 : decode cX0_goBack 13 = .ok (.isub, 1) := by decide +kernel
theorem dX0_goBack_14 : decode cX0_goBack 14 = .ok (.putfield 60, 3) := by decide +kernel
theorem dX0_goBack_17 : decode cX0_goBack 17 = .ok (.aload_n 0, 1) := by decide +kernel
theorem dX0_goBack_18 : decode cX0_goBack 18 = .ok (.getfield 27, 3) := by decide +kernel
theorem dX0_goBack_21 : decode cX0_goBack 21 = .ok (.aload_n 0, 1) := by decide +kernel
theorem dX0_goBack_22 : decode cX0_goBack 22 = .ok (.getfield 31, 3) := by decide +kernel
theorem dX0_goBack_25 : decode cX0_goBack 25 = .ok (.aload_n 0, 1) := by decide +kernel
theorem dX0_goBack_26 : decode cX0_goBack 26 = .ok (.getfield 60, 3) := by decide +kernel
theorem dX0_goBack_29 : decode cX0_goBack 29 = .ok (.aaload, 1) := by decide +kernel
theorem dX0_goBack_30 : decode cX0_goBack 30 = .ok (.invokevirtual 72, 3) := by decide +kernel
theorem dX0_goBack_33 : decode cX0_goBack 33 = .ok (.return_, 1) := by decide +kernel
theorem dX0_line_0 : decode cX0_line 0 = .ok (.aload_n 0, 1) := by decide +kernel
theorem dX0_line_1 : decode cX0_line 1 = .ok (.getfield 15, 3) := by decide +kernel
theorem dX0_line_4 : decode cX0_line 4 = .ok (.iload_n 1, 1) := by decide +kernel
theorem dX0_line_5 : decode cX0_line 5 = .ok (.iaload, 1) := by decide +kernel
theorem dX0_line_6 : decode cX0_line 6 = .ok (.aload_n 0, 1) := by decide +kernel
theorem dX0_line_7 : decode cX0_line 7 = .ok (.getfield 15, 3) := by decide +kernel
theorem dX0_line_10 : decode cX0_line 10 = .ok (.iload_n 2, 1) := by decide +kernel
theorem dX0_line_11 : decode cX0_line 11 = .ok (.iaload, 1) := by decide +kernel
theorem dX0_line_12 : decode cX0_line 12 = .ok (.isub, 1) := by decide +kernel
theorem dX0_line_13 : decode cX0_line 13 = .ok (.invokestatic 88, 3) := by decide +kernel
theorem dX0_line_16 : decode cX0_line 16 = .ok (.aload_n 0, 1) := by decide +kernel
theorem dX0_line_17 : decode cX0_line 17 = .ok (.getfield 18, 3) := by decide +kernel
theorem dX0_line_20 : decode cX0_line 20 = .ok (.iload_n 1, 1) := by decide +kernel
theorem dX0_line_21 : decode cX0_line 21 = .ok (.iaload, 1) := by decide +kernel
theorem dX0_line_22 : decode cX0_line 22 = .ok (.aload_n 0, 1) := by decide +kernel
theorem dX0_line_23 : decode cX0_line 23 = .ok (.getfield 18, 3) := by decide +kernel
theorem dX0_line_26 : decode cX0_line 26 = .ok (.iload_n 2, 1) := by decide +kernel
theorem dX0_line_27 : decode cX0_line 27 = .ok (.iaload, 1) := by decide +kernel
theorem dX0_line_28 : decode cX0_line 28 = .ok (.isub, 1) := by decide +kernel
theorem dX0_line_29 : decode cX0_line 29 = .ok (.invokestatic 88, 3) := by decide +kernel
theorem dX0_line_32 : decode cX0_line 32 = .ok (.iadd, 1) := by decide +kernel
theorem dX0_line_33 : decode cX0_line 33 = .ok (.ireturn, 1) := by decide +kernel
theorem dX0_farAt_0 : decode cX0_farAt 0 = .ok (.iload_n 2, 1) := by decide +kernel
theorem dX0_farAt_1 : decode cX0_farAt 1 = .ok (.iload_n 3, 1) := by decide +kernel
theorem dX0_farAt_2 : decode cX0_farAt 2 = .ok (.if_icmp .ne 5, 3) := by decide +kernel
theorem dX0_farAt_5 : decode cX0_farAt 5 = .ok (.iconst 0, 1) := by decide +kernel
theorem dX0_farAt_6 : decode cX0_farAt 6 = .ok (.ireturn, 1) := by decide +kernel
theorem dX0_farAt_7 : decode cX0_farAt 7 = .ok (.iload 5, 2) := by decide +kernel
theorem dX0_farAt_9 : decode cX0_farAt 9 = .ok (.bipush 24, 2) := by decide +kernel
theorem dX0_farAt_11 : decode cX0_farAt 11 = .ok (.irem, 1) := by decide +kernel
theorem dX0_farAt_12 : decode cX0_farAt 12 = .ok (.istore 6, 2) := by decide +kernel
theorem dX0_farAt_14 : decode cX0_farAt 14 = .ok (.aload_n 0, 1) := by decide +kernel
theorem dX0_farAt_15 : decode cX0_farAt 15 = .ok (.getfield 9, 3) := by decide +kernel
theorem dX0_farAt_18 : decode cX0_farAt 18 = .ok (.iload_n 3, 1) := by decide +kernel
theorem dX0_farAt_19 : decode cX0_farAt 19 = .ok (.iaload, 1) := by decide +kernel
theorem dX0_farAt_20 : decode cX0_farAt 20 = .ok (.aload_n 0, 1) := by decide +kernel
theorem dX0_farAt_21 : decode cX0_farAt 21 = .ok (.getfield 21, 3) := by decide +kernel
theorem dX0_farAt_24 : decode cX0_farAt 24 = .ok (.iload_n 1, 1) := by decide +kernel
theorem dX0_farAt_25 : decode cX0_farAt 25 = .ok (.iaload, 1) := by decide +kernel
theorem dX0_farAt_26 : decode cX0_farAt 26 = .ok (.aload_n 0, 1) := by decide +kernel
theorem dX0_farAt_27 : decode cX0_farAt 27 = .ok (.iload_n 2, 1) := by decide +kernel
theorem dX0_farAt_28 : decode cX0_farAt 28 = .ok (.iload_n 3, 1) := by decide +kernel
theorem dX0_farAt_29 : decode cX0_farAt 29 = .ok (.invokevirtual 94, 3) := by decide +kernel
theorem dX0_farAt_32 : decode cX0_farAt 32 = .ok (.iload 6, 2) := by decide +kernel
theorem dX0_farAt_34 : decode cX0_farAt 34 = .ok (.iload 4, 2) := by decide +kernel
theorem dX0_farAt_36 : decode cX0_farAt 36 = .ok (.invokestatic 98, 3) := by decide +kernel
theorem dX0_farAt_39 : decode cX0_farAt 39 = .ok (.iload 6, 2) := by decide +kernel
theorem dX0_farAt_41 : decode cX0_farAt 41 = .ok (.invokestatic 104, 3) := by decide +kernel
theorem dX0_farAt_44 : decode cX0_farAt 44 = .ok (.ireturn, 1) := by decide +kernel
theorem dX0_farNow_0 : decode cX0_farNow 0 = .ok (.aload_n 0, 1) := by decide +kernel
theorem dX0_farNow_1 : decode cX0_farNow 1 = .ok (.iload_n 1, 1) := by decide +kernel
theorem dX0_farNow_2 : decode cX0_farNow 2 = .ok (.iload_n 2, 1) := by decide +kernel
theorem dX0_farNow_3 : decode cX0_farNow 3 = .ok (.iload_n 3, 1) := by decide +kernel
theorem dX0_farNow_4 : decode cX0_farNow 4 = .ok (.aload_n 0, 1) := by decide +kernel
theorem dX0_farNow_5 : decode cX0_farNow 5 = .ok (.getfield 27, 3) := by decide +kernel
theorem dX0_farNow_8 : decode cX0_farNow 8 = .ok (.getfield 82, 3) := by decide +kernel
theorem dX0_farNow_11 : decode cX0_farNow 11 = .ok (.iload_n 1, 1) := by decide +kernel
theorem dX0_farNow_12 : decode cX0_farNow 12 = .ok (.iaload, 1) := by decide +kernel
theorem dX0_farNow_13 : decode cX0_farNow 13 = .ok (.aload_n 0, 1) := by decide +kernel
theorem dX0_farNow_14 : decode cX0_farNow 14 = .ok (.getfield 27, 3) := by decide +kernel
theorem dX0_farNow_17 : decode cX0_farNow 17 = .ok (.getfield 57, 3) := by decide +kernel
theorem dX0_farNow_20 : decode cX0_farNow 20 = .ok (.invokevirtual 108, 3) := by decide +kernel
theorem dX0_farNow_23 : decode cX0_farNow 23 = .ok (.ireturn, 1) := by decide +kernel
theorem dX0_fly_0 : decode cX0_fly 0 = .ok (.aload_n 0, 1) := by decide +kernel
theorem dX0_fly_1 : decode cX0_fly 1 = .ok (.iload_n 2, 1) := by decide +kernel
theorem dX0_fly_2 : decode cX0_fly 2 = .ok (.aload_n 1, 1) := by decide +kernel
theorem dX0_fly_3 : decode cX0_fly 3 = .ok (.getfield 79, 3) := by decide +kernel
theorem dX0_fly_6 : decode cX0_fly 6 = .ok (.iload_n 2, 1) := by decide +kernel
theorem dX0_fly_7 : decode cX0_fly 7 = .ok (.iaload, 1) := by decide +kernel
theorem dX0_fly_8 : decode cX0_fly 8 = .ok (.iload_n 3, 1) := by decide +kernel
theorem dX0_fly_9 : decode cX0_fly 9 = .ok (.aload_n 1, 1) := by decide +kernel
theorem dX0_fly_10 : decode cX0_fly 10 = .ok (.getfield 82, 3) := by decide +kernel
theorem dX0_fly_13 : decode cX0_fly 13 = .ok (.iload_n 2, 1) := by decide +kernel
theorem dX0_fly_14 : decode cX0_fly 14 = .ok (.iaload, 1) := by decide +kernel
theorem dX0_fly_15 : decode cX0_fly 15 = .ok (.aload_n 1, 1) := by decide +kernel
theorem dX0_fly_16 : decode cX0_fly 16 = .ok (.getfield 57, 3) := by decide +kernel
theorem dX0_fly_19 : decode cX0_fly 19 = .ok (.invokevirtual 108, 3) := by decide +kernel
theorem dX0_fly_22 : decode cX0_fly 22 = .ok (.istore 4, 2) := by decide +kernel
theorem dX0_fly_24 : decode cX0_fly 24 = .ok (.aload_n 1, 1) := by decide +kernel
theorem dX0_fly_25 : decode cX0_fly 25 = .ok (.iload_n 2, 1) := by decide +kernel
theorem dX0_fly_26 : decode cX0_fly 26 = .ok (.iload_n 3, 1) := by decide +kernel
theorem dX0_fly_27 : decode cX0_fly 27 = .ok (.iload 4, 2) := by decide +kernel
theorem dX0_fly_29 : decode cX0_fly 29 = .ok (.invokevirtual 112, 3) := by decide +kernel
theorem dX0_fly_32 : decode cX0_fly 32 = .ok (.iload 4, 2) := by decide +kernel
theorem dX0_fly_34 : decode cX0_fly 34 = .ok (.ireturn, 1) := by decide +kernel
theorem dX0_mixInto_0 : decode cX0_mixInto 0 = .ok (.lload_n 1, 1) := by decide +kernel
theorem dX0_mixInto_1 : decode cX0_mixInto 1 = .ok (.lstore_n 3, 1) := by decide +kernel
theorem dX0_mixInto_2 : decode cX0_mixInto 2 = .ok (.iconst 0, 1) := by decide +kernel
theorem dX0_mixInto_3 : decode cX0_mixInto 3 = .ok (.istore 5, 2) := by decide +kernel
theorem dX0_mixInto_5 : decode cX0_mixInto 5 = .ok (.iload 5, 2) := by decide +kernel
theorem dX0_mixInto_7 : decode cX0_mixInto 7 = .ok (.aload_n 0, 1) := by decide +kernel
theorem dX0_mixInto_8 : decode cX0_mixInto 8 = .ok (.getfield 47, 3) := by decide +kernel
theorem dX0_mixInto_11 : decode cX0_mixInto 11 = .ok (.if_icmp .ge 35, 3) := by decide +kernel
theorem dX0_mixInto_14 : decode cX0_mixInto 14 = .ok (.lload_n 3, 1) := by decide +kernel
theorem dX0_mixInto_15 : decode cX0_mixInto 15 = .ok (.aload_n 0, 1) := by decide +kernel
theorem dX0_mixInto_16 : decode cX0_mixInto 16 = .ok (.getfield 9, 3) := by decide +kernel
theorem dX0_mixInto_19 : decode cX0_mixInto 19 = .ok (.iload 5, 2) := by decide +kernel
theorem dX0_mixInto_21 : decode cX0_mixInto 21 = .ok (.iaload, 1) := by decide +kernel
theorem dX0_mixInto_22 : decode cX0_mixInto 22 = .ok (.aload_n 0, 1) := by decide +kernel
theorem dX0_mixInto_23 : decode cX0_mixInto 23 = .ok (.getfield 15, 3) := by decide +kernel
theorem dX0_mixInto_26 : decode cX0_mixInto 26 = .ok (.iload 5, 2) := by decide +kernel
theorem dX0_mixInto_28 : decode cX0_mixInto 28 = .ok (.iaload, 1) := by decide +kernel
theorem dX0_mixInto_29 : decode cX0_mixInto 29 = .ok (.aload_n 0, 1) := by decide +kernel
theorem dX0_mixInto_30 : decode cX0_mixInto 30 = .ok (.getfield 18, 3) := by decide +kernel
theorem dX0_mixInto_33 : decode cX0_mixInto 33 = .ok (.iload 5, 2) := by decide +kernel
theorem dX0_mixInto_35 : decode cX0_mixInto 35 = .ok (.iaload, 1) := by decide +kernel
theorem dX0_mixInto_36 : decode cX0_mixInto 36 = .ok (.invokestatic 116, 3) := by decide +kernel
theorem dX0_mixInto_39 : decode cX0_mixInto 39 = .ok (.lstore_n 3, 1) := by decide +kernel
theorem dX0_mixInto_40 : decode cX0_mixInto 40 = .ok (.iinc 5 1, 3) := by decide +kernel
theorem dX0_mixInto_43 : decode cX0_mixInto 43 = .ok (.goto (-38), 3) := by decide +kernel
theorem dX0_mixInto_46 : decode cX0_mixInto 46 = .ok (.iconst 0, 1) := by decide +kernel
theorem dX0_mixInto_47 : decode cX0_mixInto 47 = .ok (.istore 5, 2) := by decide +kernel
theorem dX0_mixInto_49 : decode cX0_mixInto 49 = .ok (.iload 5, 2) := by decide +kernel
theorem dX0_mixInto_51 : decode cX0_mixInto 51 = .ok (.aload_n 0, 1) := by decide +kernel
theorem dX0_mixInto_52 : decode cX0_mixInto 52 = .ok (.getfield 51, 3) := by decide +kernel
theorem dX0_mixInto_55 : decode cX0_mixInto 55 = .ok (.if_icmp .ge 41, 3) := by decide +kernel
theorem dX0_mixInto_58 : decode cX0_mixInto 58 = .ok (.lload_n 3, 1) := by decide +kernel
theorem dX0_mixInto_59 : decode cX0_mixInto 59 = .ok (.aload_n 0, 1) := by decide +kernel
theorem dX0_mixInto_60 : decode cX0_mixInto 60 = .ok (.getfield 21, 3) := by decide +kernel
theorem dX0_mixInto_63 : decode cX0_mixInto 63 = .ok (.iload 5, 2) := by decide +kernel
theorem dX0_mixInto_65 : decode cX0_mixInto 65 = .ok (.iaload, 1) := by decide +kernel
theorem dX0_mixInto_66 : decode cX0_mixInto 66 = .ok (.aload_n 0, 1) := by decide +kernel
theorem dX0_mixInto_67 : decode cX0_mixInto 67 = .ok (.getfield 27, 3) := by decide +kernel
theorem dX0_mixInto_70 : decode cX0_mixInto 70 = .ok (.getfield 79, 3) := by decide +kernel
theorem dX0_mixInto_73 : decode cX0_mixInto 73 = .ok (.iload 5, 2) := by decide +kernel
theorem dX0_mixInto_75 : decode cX0_mixInto 75 = .ok (.iaload, 1) := by decide +kernel
theorem dX0_mixInto_76 : decode cX0_mixInto 76 = .ok (.aload_n 0, 1) := by decide +kernel
theorem dX0_mixInto_77 : decode cX0_mixInto 77 = .ok (.getfield 27, 3) := by decide +kernel
theorem dX0_mixInto_80 : decode cX0_mixInto 80 = .ok (.getfield 82, 3) := by decide +kernel
theorem dX0_mixInto_83 : decode cX0_mixInto 83 = .ok (.iload 5, 2) := by decide +kernel
theorem dX0_mixInto_85 : decode cX0_mixInto 85 = .ok (.iaload, 1) := by decide +kernel
theorem dX0_mixInto_86 : decode cX0_mixInto 86 = .ok (.invokestatic 116, 3) := by decide +kernel
theorem dX0_mixInto_89 : decode cX0_mixInto 89 = .ok (.lstore_n 3, 1) := by decide +kernel
theorem dX0_mixInto_90 : decode cX0_mixInto 90 = .ok (.iinc 5 1, 3) := by decide +kernel
theorem dX0_mixInto_93 : decode cX0_mixInto 93 = .ok (.goto (-44), 3) := by decide +kernel
theorem dX0_mixInto_96 : decode cX0_mixInto 96 = .ok (.aload_n 0, 1) := by decide +kernel
theorem dX0_mixInto_97 : decode cX0_mixInto 97 = .ok (.getfield 27, 3) := by decide +kernel
theorem dX0_mixInto_100 : decode cX0_mixInto 100 = .ok (.lload_n 3, 1) := by decide +kernel
theorem dX0_mixInto_101 : decode cX0_mixInto 101 = .ok (.invokevirtual 120, 3) := by decide +kernel
theorem dX0_mixInto_104 : decode cX0_mixInto 104 = .ok (.lstore_n 3, 1) := by decide +kernel
theorem dX0_mixInto_105 : decode cX0_mixInto 105 = .ok (.aload_n 0, 1) := by decide +kernel
theorem dX0_mixInto_106 : decode cX0_mixInto 106 = .ok (.getfield 40, 3) := by decide +kernel
theorem dX0_mixInto_109 : decode cX0_mixInto 109 = .ok (.lload_n 3, 1) := by decide +kernel
theorem dX0_mixInto_110 : decode cX0_mixInto 110 = .ok (.invokevirtual 124, 3) := by decide +kernel
theorem dX0_mixInto_113 : decode cX0_mixInto 113 = .ok (.lstore_n 3, 1) := by decide +kernel
theorem dX0_mixInto_114 : decode cX0_mixInto 114 = .ok (.aload_n 0, 1) := by decide +kernel
theorem dX0_mixInto_115 : decode cX0_mixInto 115 = .ok (.getfield 44, 3) := by decide +kernel
theorem dX0_mixInto_118 : decode cX0_mixInto 118 = .ok (.lload_n 3, 1) := by decide +kernel
theorem dX0_mixInto_119 : decode cX0_mixInto 119 = .ok (.invokevirtual 124, 3) := by decide +kernel
theorem dX0_mixInto_122 : decode cX0_mixInto 122 = .ok (.lreturn, 1) := by decide +kernel
theorem dX0_mixThree_0 : decode cX0_mixThree 0 = .ok (.ldc2_w 127, 3) := by decide +kernel
theorem dX0_mixThree_3 : decode cX0_mixThree 3 = .ok (.ldc2_w 127, 3) := by decide +kernel
theorem dX0_mixThree_6 : decode cX0_mixThree 6 = .ok (.ldc2_w 127, 3) := by decide +kernel
theorem dX0_mixThree_9 : decode cX0_mixThree 9 = .ok (.lload_n 0, 1) := by decide +kernel
theorem dX0_mixThree_10 : decode cX0_mixThree 10 = .ok (.lmul, 1) := by decide +kernel
theorem dX0_mixThree_11 : decode cX0_mixThree 11 = .ok (.iload_n 2, 1) := by decide +kernel
theorem dX0_mixThree_12 : decode cX0_mixThree 12 = .ok (.i2l, 1) := by decide +kernel
theorem dX0_mixThree_13 : decode cX0_mixThree 13 = .ok (.ladd, 1) := by decide +kernel
theorem dX0_mixThree_14 : decode cX0_mixThree 14 = .ok (.lmul, 1) := by decide +kernel
theorem dX0_mixThree_15 : decode cX0_mixThree 15 = .ok (.iload_n 3, 1) := by decide +kernel
theorem dX0_mixThree_16 : decode cX0_mixThree 16 = .ok (.i2l, 1) := by decide +kernel
theorem dX0_mixThree_17 : decode cX0_mixThree 17 = .ok (.ladd, 1) := by decide +kernel
theorem dX0_mixThree_18 : decode cX0_mixThree 18 = .ok (.lmul, 1) := by decide +kernel
theorem dX0_mixThree_19 : decode cX0_mixThree 19 = .ok (.iload 4, 2) := by decide +kernel
theorem dX0_mixThree_21 : decode cX0_mixThree 21 = .ok (.i2l, 1) := by decide +kernel
theorem dX0_mixThree_22 : decode cX0_mixThree 22 = .ok (.ladd, 1) := by decide +kernel
theorem dX0_mixThree_23 : decode cX0_mixThree 23 = .ok (.lreturn, 1) := by decide +kernel
theorem dX1_init_0 : decode cX1_init 0 = .ok (.aload_n 0, 1) := by decide +kernel
theorem dX1_init_1 : decode cX1_init 1 = .ok (.invokespecial 3, 3) := by decide +kernel
theorem dX1_init_4 : decode cX1_init 4 = .ok (.aload_n 0, 1) := by decide +kernel
theorem dX1_init_5 : decode cX1_init 5 = .ok (.iconst 3, 1) := by decide +kernel
theorem dX1_init_6 : decode cX1_init 6 = .ok (.newarray .int, 2) := by decide +kernel
theorem dX1_init_8 : decode cX1_init 8 = .ok (.putfield 9, 3) := by decide +kernel
theorem dX1_init_11 : decode cX1_init 11 = .ok (.aload_n 0, 1) := by decide +kernel
theorem dX1_init_12 : decode cX1_init 12 = .ok (.iconst 3, 1) := by decide +kernel
theorem dX1_init_13 : decode cX1_init 13 = .ok (.newarray .int, 2) := by decide +kernel
theorem dX1_init_15 : decode cX1_init 15 = .ok (.putfield 15, 3) := by decide +kernel
theorem dX1_init_18 : decode cX1_init 18 = .ok (.aload_n 0, 1) := by decide +kernel
theorem dX1_init_19 : decode cX1_init 19 = .ok (.bipush 36, 2) := by decide +kernel
theorem dX1_init_21 : decode cX1_init 21 = .ok (.newarray .int, 2) := by decide +kernel
theorem dX1_init_23 : decode cX1_init 23 = .ok (.putfield 18, 3) := by decide +kernel
theorem dX1_init_26 : decode cX1_init 26 = .ok (.return_, 1) := by decide +kernel
theorem dX1_become_0 : decode cX1_become 0 = .ok (.aload_n 1, 1) := by decide +kernel
theorem dX1_become_1 : decode cX1_become 1 = .ok (.getfield 9, 3) := by decide +kernel
theorem dX1_become_4 : decode cX1_become 4 = .ok (.iconst 0, 1) := by decide +kernel
theorem dX1_become_5 : decode cX1_become 5 = .ok (.aload_n 0, 1) := by decide +kernel
theorem dX1_become_6 : decode cX1_become 6 = .ok (.getfield 9, 3) := by decide +kernel
theorem dX1_become_9 : decode cX1_become 9 = .ok (.iconst 0, 1) := by decide +kernel
theorem dX1_become_10 : decode cX1_become 10 = .ok (.iconst 3, 1) := by decide +kernel
theorem dX1_become_11 : decode cX1_become 11 = .ok (.invokestatic 21, 3) := by decide +kernel
theorem dX1_become_14 : decode cX1_become 14 = .ok (.aload_n 1, 1) := by decide +kernel
theorem dX1_become_15 : decode cX1_become 15 = .ok (.getfield 15, 3) := by decide +kernel
theorem dX1_become_18 : decode cX1_become 18 = .ok (.iconst 0, 1) := by decide +kernel
theorem dX1_become_19 : decode cX1_become 19 = .ok (.aload_n 0, 1) := by decide +kernel
theorem dX1_become_20 : decode cX1_become 20 = .ok (.getfield 15, 3) := by decide +kernel
theorem dX1_become_23 : decode cX1_become 23 = .ok (.iconst 0, 1) := by decide +kernel
theorem dX1_become_24 : decode cX1_become 24 = .ok (.iconst 3, 1) := by decide +kernel
theorem dX1_become_25 : decode cX1_become 25 = .ok (.invokestatic 21, 3) := by decide +kernel
theorem dX1_become_28 : decode cX1_become 28 = .ok (.aload_n 1, 1) := by decide +kernel
theorem dX1_become_29 : decode cX1_become 29 = .ok (.getfield 18, 3) := by decide +kernel
theorem dX1_become_32 : decode cX1_become 32 = .ok (.iconst 0, 1) := by decide +kernel
theorem dX1_become_33 : decode cX1_become 33 = .ok (.aload_n 0, 1) := by decide +kernel
theorem dX1_become_34 : decode cX1_become 34 = .ok (.getfield 18, 3) := by decide +kernel
theorem dX1_become_37 : decode cX1_become 37 = .ok (.iconst 0, 1) := by decide +kernel
theorem dX1_become_38 : decode cX1_become 38 = .ok (.bipush 36, 2) := by decide +kernel
theorem dX1_become_40 : decode cX1_become 40 = .ok (.invokestatic 21, 3) := by decide +kernel
theorem dX1_become_43 : decode cX1_become 43 = .ok (.aload_n 0, 1) := by decide +kernel
theorem dX1_become_44 : decode cX1_become 44 = .ok (.aload_n 1, 1) := by decide +kernel
theorem dX1_become_45 : decode cX1_become 45 = .ok (.getfield 27, 3) := by decide +kernel
theorem dX1_become_48 : decode cX1_become 48 = .ok (.putfield 27, 3) := by decide +kernel
theorem dX1_become_51 : decode cX1_become 51 = .ok (.aload_n 0, 1) := by decide +kernel
theorem dX1_become_52 : decode cX1_become 52 = .ok (.aload_n 1, 1) := by decide +kernel
theorem dX1_become_53 : decode cX1_become 53 = .ok (.getfield 31, 3) := by decide +kernel
theorem dX1_become_56 : decode cX1_become 56 = .ok (.putfield 31, 3) := by decide +kernel
theorem dX1_become_59 : decode cX1_become 59 = .ok (.return_, 1) := by decide +kernel
theorem dX1_move_0 : decode cX1_move 0 = .ok (.aload_n 0, 1) := by decide +kernel
theorem dX1_move_1 : decode cX1_move 1 = .ok (.getfield 27, 3) := by decide +kernel
theorem dX1_move_4 : decode cX1_move 4 = .ok (.bipush 12, 2) := by decide +kernel
theorem dX1_move_6 : decode cX1_move 6 = .ok (.if_icmp .lt 24, 3) := by decide +kernel
theorem dX1_move_9 : decode cX1_move 9 = .ok (.aload_n 0, 1) := by decide +kernel
theorem dX1_move_10 : decode cX1_move 10 = .ok (.getfield 18, 3) := by decide +kernel
theorem dX1_move_13 : decode cX1_move 13 = .ok (.iconst 3, 1) := by decide +kernel
theorem dX1_move_14 : decode cX1_move 14 = .ok (.aload_n 0, 1) := by decide +kernel
theorem dX1_move_15 : decode cX1_move 15 = .ok (.getfield 18, 3) := by decide +kernel
theorem dX1_move_18 : decode cX1_move 18 = .ok (.iconst 0, 1) := by decide +kernel
theorem dX1_move_19 : decode cX1_move 19 = .ok (.bipush 33, 2) := by decide +kernel
theorem dX1_move_21 : decode cX1_move 21 = .ok (.invokestatic 21, 3) := by decide +kernel
theorem dX1_move_24 : decode cX1_move 24 = .ok (.aload_n 0, 1) := by decide +kernel
theorem dX1_move_25 : decode cX1_move 25 = .ok (.bipush 11, 2) := by decide +kernel
theorem dX1_move_27 : decode cX1_move 27 = .ok (.putfield 27, 3) := by decide +kernel
theorem dX1_move_30 : decode cX1_move 30 = .ok (.aload_n 0, 1) := by decide +kernel
theorem dX1_move_31 : decode cX1_move 31 = .ok (.getfield 27, 3) := by decide +kernel
theorem dX1_move_34 : decode cX1_move 34 = .ok (.iconst 3, 1) := by decide +kernel
theorem dX1_move_35 : decode cX1_move 35 = .ok (.imul, 1) := by decide +kernel
theorem dX1_move_36 : decode cX1_move 36 = .ok (.istore 4, 2) := by decide +kernel
theorem dX1_move_38 : decode cX1_move 38 = .ok (.aload_n 0, 1) := by decide +kernel
theorem dX1_move_39 : decode cX1_move 39 = .ok (.getfield 18, 3) := by decide +kernel
theorem dX1_move_42 : decode cX1_move 42 = .ok (.iload 4, 2) := by decide +kernel
theorem dX1_move_44 : decode cX1_move 44 = .ok (.aload_n 0, 1) := by decide +kernel
theorem dX1_move_45 : decode cX1_move 45 = .ok (.getfield 9, 3) := by decide +kernel
theorem dX1_move_48 : decode cX1_move 48 = .ok (.iload_n 1, 1) := by decide +kernel
theorem dX1_move_49 : decode cX1_move 49 = .ok (.iaload, 1) := by decide +kernel
theorem dX1_move_50 : decode cX1_move 50 = .ok (.iastore, 1) := by decide +kernel
theorem dX1_move_51 : decode cX1_move 51 = .ok (.aload_n 0, 1) := by decide +kernel
theorem dX1_move_52 : decode cX1_move 52 = .ok (.getfield 18, 3) := by decide +kernel
theorem dX1_move_55 : decode cX1_move 55 = .ok (.iload 4, 2) := by decide +kernel
theorem dX1_move_57 : decode cX1_move 57 = .ok (.iconst 1, 1) := by decide +kernel
theorem dX1_move_58 : decode cX1_move 58 = .ok (.iadd, 1) := by decide +kernel
theorem dX1_move_59 : decode cX1_move 59 = .ok (.iload_n 2, 1) := by decide +kernel
theorem dX1_move_60 : decode cX1_move 60 = .ok (.iastore, 1) := by decide +kernel
theorem dX1_move_61 : decode cX1_move 61 = .ok (.aload_n 0, 1) := by decide +kernel
theorem dX1_move_62 : decode cX1_move 62 = .ok (.getfield 18, 3) := by decide +kernel
theorem dX1_move_65 : decode cX1_move 65 = .ok (.iload 4, 2) := by decide +kernel
theorem dX1_move_67 : decode cX1_move 67 = .ok (.iconst 2, 1) := by decide +kernel
theorem dX1_move_68 : decode cX1_move 68 = .ok (.iadd, 1) := by decide +kernel
theorem dX1_move_69 : decode cX1_move 69 = .ok (.iload_n 3, 1) := by decide +kernel
theorem dX1_move_70 : decode cX1_move 70 = .ok (.iastore, 1) := by decide +kernel
theorem dX1_move_71 : decode cX1_move 71 = .ok (.aload_n 0, 1) := by decide +kernel
theorem dX1_move_72 : decode cX1_move 72 = .ok (.dup, 1) := by decide +kernel
theorem dX1_move_73 : decode cX1_move 73 = .ok (.getfield 27, 3) := by decide +kernel
theorem dX1_move_76 : decode cX1_move 76 = .ok (.iconst 1, 1) := by decide +kernel
theorem dX1_move_77 : decode cX1_move 77 = .ok (.iadd, 1) := by decide +kernel
theorem dX1_move_78 : decode cX1_move 78 = .ok (.putfield 27, 3) := by decide +kernel
theorem dX1_move_81 : decode cX1_move 81 = .ok (.aload_n 0, 1) := by decide +kernel
theorem dX1_move_82 : decode cX1_move 82 = .ok (.getfield 9, 3) := by decide +kernel
theorem dX1_move_85 : decode cX1_move 85 = .ok (.iload_n 1, 1) := by decide +kernel
theorem dX1_move_86 : decode cX1_move 86 = .ok (.iload_n 2, 1) := by decide +kernel
theorem dX1_move_87 : decode cX1_move 87 = .ok (.iastore, 1) := by decide +kernel
theorem dX1_move_88 : decode cX1_move 88 = .ok (.aload_n 0, 1) := by decide +kernel
theorem dX1_move_89 : decode cX1_move 89 = .ok (.getfield 15, 3) := by decide +kernel
theorem dX1_move_92 : decode cX1_move 92 = .ok (.iload_n 1, 1) := by decide +kernel
theorem dX1_move_93 : decode cX1_move 93 = .ok (.aload_n 0, 1) := by decide +kernel
theorem dX1_move_94 : decode cX1_move 94 = .ok (.getfield 15, 3) := by decide +kernel
theorem dX1_move_97 : decode cX1_move 97 = .ok (.iload_n 1, 1) := by decide +kernel
theorem dX1_move_98 : decode cX1_move 98 = .ok (.iaload, 1) := by decide +kernel
theorem dX1_move_99 : decode cX1_move 99 = .ok (.iconst 1, 1) := by decide +kernel
theorem dX1_move_100 : decode cX1_move 100 = .ok (.iadd, 1) := by decide +kernel
theorem dX1_move_101 : decode cX1_move 101 = .ok (.bipush 99, 2) := by decide +kernel
theorem dX1_move_103 : decode cX1_move 103 = .ok (.invokestatic 34, 3) := by decide +kernel
theorem dX1_move_106 : decode cX1_move 106 = .ok (.iastore, 1) := by decide +kernel
theorem dX1_move_107 : decode cX1_move 107 = .ok (.aload_n 0, 1) := by decide +kernel
theorem dX1_move_108 : decode cX1_move 108 = .ok (.dup, 1) := by decide +kernel
theorem dX1_move_109 : decode cX1_move 109 = .ok (.getfield 31, 3) := by decide +kernel
theorem dX1_move_112 : decode cX1_move 112 = .ok (.iconst 1, 1) := by decide +kernel
theorem dX1_move_113 : decode cX1_move 113 = .ok (.iadd, 1) := by decide +kernel
theorem dX1_move_114 : decode cX1_move 114 = .ok (.putfield 31, 3) := by decide +kernel
theorem dX1_move_117 : decode cX1_move 117 = .ok (.return_, 1) := by decide +kernel
theorem dX1_sleep_0 : decode cX1_sleep 0 = .ok (.aload_n 0, 1) := by decide +kernel
theorem dX1_sleep_1 : decode cX1_sleep 1 = .ok (.getfield 15, 3) := by decide +kernel
theorem dX1_sleep_4 : decode cX1_sleep 4 = .ok (.iload_n 1, 1) := by decide +kernel
theorem dX1_sleep_5 : decode cX1_sleep 5 = .ok (.iconst 0, 1) := by decide +kernel
theorem dX1_sleep_6 : decode cX1_sleep 6 = .ok (.iastore, 1) := by decide +kernel
theorem dX1_sleep_7 : decode cX1_sleep 7 = .ok (.aload_n 0, 1) := by decide +kernel
theorem dX1_sleep_8 : decode cX1_sleep 8 = .ok (.dup, 1) := by decide +kernel
theorem dX1_sleep_9 : decode cX1_sleep 9 = .ok (.getfield 31, 3) := by decide +kernel
theorem dX1_sleep_12 : decode cX1_sleep 12 = .ok (.bipush 8, 2) := by decide +kernel
theorem dX1_sleep_14 : decode cX1_sleep 14 = .ok (.iadd, 1) := by decide +kernel
theorem dX1_sleep_15 : decode cX1_sleep 15 = .ok (.putfield 31, 3) := by decide +kernel
theorem dX1_sleep_18 : decode cX1_sleep 18 = .ok (.return_, 1) := by decide +kernel
theorem dX1_stopTheClock_0 : decode cX1_stopTheClock 0 = .ok (.aload_n 0, 1) := by decide +kernel
theorem dX1_stopTheClock_1 : decode cX1_stopTheClock 1 = .ok (.aload_n 0, 1) := by decide +kernel
theorem dX1_stopTheClock_2 : decode cX1_stopTheClock 2 = .ok (.getfield 31, 3) := by decide +kernel
theorem dX1_stopTheClock_5 : decode cX1_stopTheClock 5 = .ok (.sipush 9999, 3) := by decide +kernel
theorem dX1_stopTheClock_8 : decode cX1_stopTheClock 8 = .ok (.invokestatic 34, 3) := by decide +kernel
theorem dX1_stopTheClock_11 : decode cX1_stopTheClock 11 = .ok (.putfield 31, 3) := by decide +kernel
theorem dX1_stopTheClock_14 : decode cX1_stopTheClock 14 = .ok (.return_, 1) := by decide +kernel
theorem dX1_dropDeeds_0 : decode cX1_dropDeeds 0 = .ok (.aload_n 0, 1) := by decide +kernel
theorem dX1_dropDeeds_1 : decode cX1_dropDeeds 1 = .ok (.getfield 27, 3) := by decide +kernel
theorem dX1_dropDeeds_4 : decode cX1_dropDeeds 4 = .ok (.istore_n 1, 1) := by decide +kernel
theorem dX1_dropDeeds_5 : decode cX1_dropDeeds 5 = .ok (.aload_n 0, 1) := by decide +kernel
theorem dX1_dropDeeds_6 : decode cX1_dropDeeds 6 = .ok (.iconst 0, 1) := by decide +kernel
theorem dX1_dropDeeds_7 : decode cX1_dropDeeds 7 = .ok (.putfield 27, 3) := by decide +kernel
theorem dX1_dropDeeds_10 : decode cX1_dropDeeds 10 = .ok (.iload_n 1, 1) := by decide +kernel
theorem dX1_dropDeeds_11 : decode cX1_dropDeeds 11 = .ok (.ireturn, 1) := by decide +kernel
theorem dX1_deedEnds_0 : decode cX1_deedEnds 0 = .ok (.bipush 100, 2) := by decide +kernel
theorem dX1_deedEnds_2 : decode cX1_deedEnds 2 = .ok (.aload_n 0, 1) := by decide +kernel
theorem dX1_deedEnds_3 : decode cX1_deedEnds 3 = .ok (.getfield 18, 3) := by decide +kernel
theorem dX1_deedEnds_6 : decode cX1_deedEnds 6 = .ok (.iload_n 1, 1) := by decide +kernel
theorem dX1_deedEnds_7 : decode cX1_deedEnds 7 = .ok (.iconst 3, 1) := by decide +kernel
theorem dX1_deedEnds_8 : decode cX1_deedEnds 8 = .ok (.imul, 1) := by decide +kernel
theorem dX1_deedEnds_9 : decode cX1_deedEnds 9 = .ok (.iaload, 1) := by decide +kernel
theorem dX1_deedEnds_10 : decode cX1_deedEnds 10 = .ok (.imul, 1) := by decide +kernel
theorem dX1_deedEnds_11 : decode cX1_deedEnds 11 = .ok (.bipush 10, 2) := by decide +kernel
theorem dX1_deedEnds_13 : decode cX1_deedEnds 13 = .ok (.aload_n 0, 1) := by decide +kernel
theorem dX1_deedEnds_14 : decode cX1_deedEnds 14 = .ok (.getfield 18, 3) := by decide +kernel
theorem dX1_deedEnds_17 : decode cX1_deedEnds 17 = .ok (.iload_n 1, 1) := by decide +kernel
theorem dX1_deedEnds_18 : decode cX1_deedEnds 18 = .ok (.iconst 3, 1) := by decide +kernel
theorem dX1_deedEnds_19 : decode cX1_deedEnds 19 = .ok (.imul, 1) := by decide +kernel
theorem dX1_deedEnds_20 : decode cX1_deedEnds 20 = .ok (.iconst 1, 1) := by decide +kernel
theorem dX1_deedEnds_21 : decode cX1_deedEnds 21 = .ok (.iadd, 1) := by decide +kernel
theorem dX1_deedEnds_22 : decode cX1_deedEnds 22 = .ok (.iaload, 1) := by decide +kernel
theorem dX1_deedEnds_23 : decode cX1_deedEnds 23 = .ok (.imul, 1) := by decide +kernel
theorem dX1_deedEnds_24 : decode cX1_deedEnds 24 = .ok (.iadd, 1) := by decide +kernel
theorem dX1_deedEnds_25 : decode cX1_deedEnds 25 = .ok (.ireturn, 1) := by decide +kernel
theorem dX1_deedLength_0 : decode cX1_deedLength 0 = .ok (.aload_n 0, 1) := by decide +kernel
theorem dX1_deedLength_1 : decode cX1_deedLength 1 = .ok (.getfield 18, 3) := by decide +kernel
theorem dX1_deedLength_4 : decode cX1_deedLength 4 = .ok (.iload_n 1, 1) := by decide +kernel
theorem dX1_deedLength_5 : decode cX1_deedLength 5 = .ok (.iconst 3, 1) := by decide +kernel
theorem dX1_deedLength_6 : decode cX1_deedLength 6 = .ok (.imul, 1) := by decide +kernel
theorem dX1_deedLength_7 : decode cX1_deedLength 7 = .ok (.iconst 2, 1) := by decide +kernel
theorem dX1_deedLength_8 : decode cX1_deedLength 8 = .ok (.iadd, 1) := by decide +kernel
theorem dX1_deedLength_9 : decode cX1_deedLength 9 = .ok (.iaload, 1) := by decide +kernel
theorem dX1_deedLength_10 : decode cX1_deedLength 10 = .ok (.ireturn, 1) := by decide +kernel
theorem dX1_isDeed_0 : decode cX1_isDeed 0 = .ok (.aload_n 0, 1) := by decide +kernel
theorem dX1_isDeed_1 : decode cX1_isDeed 1 = .ok (.getfield 18, 3) := by decide +kernel
theorem dX1_isDeed_4 : decode cX1_isDeed 4 = .ok (.iload_n 1, 1) := by decide +kernel
theorem dX1_isDeed_5 : decode cX1_isDeed 5 = .ok (.iconst 3, 1) := by decide +kernel
theorem dX1_isDeed_6 : decode cX1_isDeed 6 = .ok (.imul, 1) := by decide +kernel
theorem dX1_isDeed_7 : decode cX1_isDeed 7 = .ok (.iaload, 1) := by decide +kernel
theorem dX1_isDeed_8 : decode cX1_isDeed 8 = .ok (.iload_n 2, 1) := by decide +kernel
theorem dX1_isDeed_9 : decode cX1_isDeed 9 = .ok (.if_icmp .ne 21, 3) := by decide +kernel
theorem dX1_isDeed_12 : decode cX1_isDeed 12 = .ok (.aload_n 0, 1) := by decide +kernel
theorem dX1_isDeed_13 : decode cX1_isDeed 13 = .ok (.getfield 18, 3) := by decide +kernel
theorem dX1_isDeed_16 : decode cX1_isDeed 16 = .ok (.iload_n 1, 1) := by decide +kernel
theorem dX1_isDeed_17 : decode cX1_isDeed 17 = .ok (.iconst 3, 1) := by decide +kernel
theorem dX1_isDeed_18 : decode cX1_isDeed 18 = .ok (.imul, 1) := by decide +kernel
theorem dX1_isDeed_19 : decode cX1_isDeed 19 = .ok (.iconst 1, 1) := by decide +kernel
theorem dX1_isDeed_20 : decode cX1_isDeed 20 = .ok (.iadd, 1) := by decide +kernel
theorem dX1_isDeed_21 : decode cX1_isDeed 21 = .ok (.iaload, 1) := by decide +kernel
theorem dX1_isDeed_22 : decode cX1_isDeed 22 = .ok (.iload_n 3, 1) := by decide +kernel
theorem dX1_isDeed_23 : decode cX1_isDeed 23 = .ok (.if_icmp .ne 7, 3) := by decide +kernel
theorem dX1_isDeed_26 : decode cX1_isDeed 26 = .ok (.iconst 1, 1) := by decide +kernel
theorem dX1_isDeed_27 : decode cX1_isDeed 27 = .ok (.goto 4, 3) := by decide +kernel
theorem dX1_isDeed_30 : decode cX1_isDeed 30 = .ok (.iconst 0, 1) := by decide +kernel
theorem dX1_isDeed_31 : decode cX1_isDeed 31 = .ok (.ireturn, 1) := by decide +kernel
theorem dX1_lengths_0 : decode cX1_lengths 0 = .ok (.iconst 0, 1) := by decide +kernel
theorem dX1_lengths_1 : decode cX1_lengths 1 = .ok (.istore_n 1, 1) := by decide +kernel
theorem dX1_lengths_2 : decode cX1_lengths 2 = .ok (.iconst 0, 1) := by decide +kernel
theorem dX1_lengths_3 : decode cX1_lengths 3 = .ok (.istore_n 2, 1) := by decide +kernel
theorem dX1_lengths_4 : decode cX1_lengths 4 = .ok (.iload_n 2, 1) := by decide +kernel
theorem dX1_lengths_5 : decode cX1_lengths 5 = .ok (.aload_n 0, 1) := by decide +kernel
theorem dX1_lengths_6 : decode cX1_lengths 6 = .ok (.getfield 27, 3) := by decide +kernel
theorem dX1_lengths_9 : decode cX1_lengths 9 = .ok (.if_icmp .ge 17, 3) := by decide +kernel
theorem dX1_lengths_12 : decode cX1_lengths 12 = .ok (.iload_n 1, 1) := by decide +kernel
theorem dX1_lengths_13 : decode cX1_lengths 13 = .ok (.aload_n 0, 1) := by decide +kernel
theorem dX1_lengths_14 : decode cX1_lengths 14 = .ok (.iload_n 2, 1) := by decide +kernel
theorem dX1_lengths_15 : decode cX1_lengths 15 = .ok (.invokevirtual 40, 3) := by decide +kernel
theorem dX1_lengths_18 : decode cX1_lengths 18 = .ok (.iadd, 1) := by decide +kernel
theorem dX1_lengths_19 : decode cX1_lengths 19 = .ok (.istore_n 1, 1) := by decide +kernel
theorem dX1_lengths_20 : decode cX1_lengths 20 = .ok (.iinc 2 1, 3) := by decide +kernel
theorem dX1_lengths_23 : decode cX1_lengths 23 = .ok (.goto (-19), 3) := by decide +kernel
theorem dX1_lengths_26 : decode cX1_lengths 26 = .ok (.iload_n 1, 1) := by decide +kernel
theorem dX1_lengths_27 : decode cX1_lengths 27 = .ok (.ireturn, 1) := by decide +kernel
theorem dX1_middleLength_0 : decode cX1_middleLength 0 = .ok (.iconst (-1), 1) := by decide +kernel
theorem dX1_middleLength_1 : decode cX1_middleLength 1 = .ok (.istore_n 3, 1) := by decide +kernel
theorem dX1_middleLength_2 : decode cX1_middleLength 2 = .ok (.iconst 0, 1) := by decide +kernel
theorem dX1_middleLength_3 : decode cX1_middleLength 3 = .ok (.istore 4, 2) := by decide +kernel
theorem dX1_middleLength_5 : decode cX1_middleLength 5 = .ok (.iconst 0, 1) := by decide +kernel
theorem dX1_middleLength_6 : decode cX1_middleLength 6 = .ok (.istore 5, 2) := by decide +kernel
theorem dX1_middleLength_8 : decode cX1_middleLength 8 = .ok (.iload 5, 2) := by decide +kernel
theorem dX1_middleLength_10 : decode cX1_middleLength 10 = .ok (.aload_n 0, 1) := by decide +kernel
theorem dX1_middleLength_11 : decode cX1_middleLength 11 = .ok (.getfield 27, 3) := by decide +kernel
theorem dX1_middleLength_14 : decode cX1_middleLength 14 = .ok (.if_icmp .ge 70, 3) := by decide +kernel
theorem dX1_middleLength_17 : decode cX1_middleLength 17 = .ok (.aload_n 0, 1) := by decide +kernel
theorem dX1_middleLength_18 : decode cX1_middleLength 18 = .ok (.iload 5, 2) := by decide +kernel
theorem dX1_middleLength_20 : decode cX1_middleLength 20 = .ok (.iload_n 1, 1) := by decide +kernel
theorem dX1_middleLength_21 : decode cX1_middleLength 21 = .ok (.iload_n 2, 1) := by decide +kernel
theorem dX1_middleLength_22 : decode cX1_middleLength 22 = .ok (.invokevirtual 44, 3) := by decide +kernel
theorem dX1_middleLength_25 : decode cX1_middleLength 25 = .ok (.ifCond .eq 53, 3) := by decide +kernel
theorem dX1_middleLength_28 : decode cX1_middleLength 28 = .ok (.aload_n 0, 1) := by decide +kernel
theorem dX1_middleLength_29 : decode cX1_middleLength 29 = .ok (.iload 5, 2) := by decide +kernel
theorem dX1_middleLength_31 : decode cX1_middleLength 31 = .ok (.invokevirtual 40, 3) := by decide +kernel
theorem dX1_middleLength_34 : decode cX1_middleLength 34 = .ok (.istore 6, 2) := by decide +kernel
theorem dX1_middleLength_36 : decode cX1_middleLength 36 = .ok (.aload_n 0, 1) := by decide +kernel
theorem dX1_middleLength_37 : decode cX1_middleLength 37 = .ok (.iload_n 1, 1) := by decide +kernel
theorem dX1_middleLength_38 : decode cX1_middleLength 38 = .ok (.iload_n 2, 1) := by decide +kernel
theorem dX1_middleLength_39 : decode cX1_middleLength 39 = .ok (.iload 6, 2) := by decide +kernel
theorem dX1_middleLength_41 : decode cX1_middleLength 41 = .ok (.invokevirtual 48, 3) := by decide +kernel
theorem dX1_middleLength_44 : decode cX1_middleLength 44 = .ok (.istore 7, 2) := by decide +kernel
theorem dX1_middleLength_46 : decode cX1_middleLength 46 = .ok (.iload_n 3, 1) := by decide +kernel
theorem dX1_middleLength_47 : decode cX1_middleLength 47 = .ok (.iconst (-1), 1) := by decide +kernel
theorem dX1_middleLength_48 : decode cX1_middleLength 48 = .ok (.if_icmp .eq 23, 3) := by decide +kernel
theorem dX1_middleLength_51 : decode cX1_middleLength 51 = .ok (.iload 7, 2) := by decide +kernel
theorem dX1_middleLength_53 : decode cX1_middleLength 53 = .ok (.iload 4, 2) := by decide +kernel
theorem dX1_middleLength_55 : decode cX1_middleLength 55 = .ok (.if_icmp .lt 16, 3) := by decide +kernel
theorem dX1_middleLength_58 : decode cX1_middleLength 58 = .ok (.iload 7, 2) := by decide +kernel
theorem dX1_middleLength_60 : decode cX1_middleLength 60 = .ok (.iload 4, 2) := by decide +kernel
theorem dX1_middleLength_62 : decode cX1_middleLength 62 = .ok (.if_icmp .ne 16, 3) := by decide +kernel
theorem dX1_middleLength_65 : decode cX1_middleLength 65 = .ok (.iload 6, 2) := by decide +kernel
theorem dX1_middleLength_67 : decode cX1_middleLength 67 = .ok (.iload_n 3, 1) := by decide +kernel
theorem dX1_middleLength_68 : decode cX1_middleLength 68 = .ok (.if_icmp .ge 10, 3) := by decide +kernel
theorem dX1_middleLength_71 : decode cX1_middleLength 71 = .ok (.iload 6, 2) := by decide +kernel
theorem dX1_middleLength_73 : decode cX1_middleLength 73 = .ok (.istore_n 3, 1) := by decide +kernel
theorem dX1_middleLength_74 : decode cX1_middleLength 74 = .ok (.iload 7, 2) := by decide +kernel
theorem dX1_middleLength_76 : decode cX1_middleLength 76 = .ok (.istore 4, 2) := by decide +kernel
theorem dX1_middleLength_78 : decode cX1_middleLength 78 = .ok (.iinc 5 1, 3) := by decide +kernel
theorem dX1_middleLength_81 : decode cX1_middleLength 81 = .ok (.goto (-73), 3) := by decide +kernel
theorem dX1_middleLength_84 : decode cX1_middleLength 84 = .ok (.iload_n 3, 1) := by decide +kernel
theorem dX1_middleLength_85 : decode cX1_middleLength 85 = .ok (.ireturn, 1) := by decide +kernel
theorem dX1_apartFrom_0 : decode cX1_apartFrom 0 = .ok (.iconst 0, 1) := by decide +kernel
theorem dX1_apartFrom_1 : decode cX1_apartFrom 1 = .ok (.istore 4, 2) := by decide +kernel
theorem dX1_apartFrom_3 : decode cX1_apartFrom 3 = .ok (.iconst 0, 1) := by decide +kernel
theorem dX1_apartFrom_4 : decode cX1_apartFrom 4 = .ok (.istore 5, 2) := by decide +kernel
theorem dX1_apartFrom_6 : decode cX1_apartFrom 6 = .ok (.iload 5, 2) := by decide +kernel
theorem dX1_apartFrom_8 : decode cX1_apartFrom 8 = .ok (.aload_n 0, 1) := by decide +kernel
theorem dX1_apartFrom_9 : decode cX1_apartFrom 9 = .ok (.getfield 27, 3) := by decide +kernel
theorem dX1_apartFrom_12 : decode cX1_apartFrom 12 = .ok (.if_icmp .ge 36, 3) := by decide +kernel
theorem dX1_apartFrom_15 : decode cX1_apartFrom 15 = .ok (.aload_n 0, 1) := by decide +kernel
theorem dX1_apartFrom_16 : decode cX1_apartFrom 16 = .ok (.iload 5, 2) := by decide +kernel
theorem dX1_apartFrom_18 : decode cX1_apartFrom 18 = .ok (.iload_n 1, 1) := by decide +kernel
theorem dX1_apartFrom_19 : decode cX1_apartFrom 19 = .ok (.iload_n 2, 1) := by decide +kernel
theorem dX1_apartFrom_20 : decode cX1_apartFrom 20 = .ok (.invokevirtual 44, 3) := by decide +kernel
theorem dX1_apartFrom_23 : decode cX1_apartFrom 23 = .ok (.ifCond .eq 19, 3) := by decide +kernel
theorem dX1_apartFrom_26 : decode cX1_apartFrom 26 = .ok (.iload 4, 2) := by decide +kernel
theorem dX1_apartFrom_28 : decode cX1_apartFrom 28 = .ok (.aload_n 0, 1) := by decide +kernel
theorem dX1_apartFrom_29 : decode cX1_apartFrom 29 = .ok (.iload 5, 2) := by decide +kernel
theorem dX1_apartFrom_31 : decode cX1_apartFrom 31 = .ok (.invokevirtual 40, 3) := by decide +kernel
theorem dX1_apartFrom_34 : decode cX1_apartFrom 34 = .ok (.iload_n 3, 1) := by decide +kernel
theorem dX1_apartFrom_35 : decode cX1_apartFrom 35 = .ok (.isub, 1) := by decide +kernel
theorem dX1_apartFrom_36 : decode cX1_apartFrom 36 = .ok (.invokestatic 52, 3) := by decide +kernel
theorem dX1_apartFrom_39 : decode cX1_apartFrom 39 = .ok (.iadd, 1) := by decide +kernel
theorem dX1_apartFrom_40 : decode cX1_apartFrom 40 = .ok (.istore 4, 2) := by decide +kernel
theorem dX1_apartFrom_42 : decode cX1_apartFrom 42 = .ok (.iinc 5 1, 3) := by decide +kernel
theorem dX1_apartFrom_45 : decode cX1_apartFrom 45 = .ok (.goto (-39), 3) := by decide +kernel
theorem dX1_apartFrom_48 : decode cX1_apartFrom 48 = .ok (.iload 4, 2) := by decide +kernel
theorem dX1_apartFrom_50 : decode cX1_apartFrom 50 = .ok (.ireturn, 1) := by decide +kernel
theorem dX1_mixDeeds_0 : decode cX1_mixDeeds 0 = .ok (.lload_n 1, 1) := by decide +kernel
theorem dX1_mixDeeds_1 : decode cX1_mixDeeds 1 = .ok (.lstore_n 3, 1) := by decide +kernel
theorem dX1_mixDeeds_2 : decode cX1_mixDeeds 2 = .ok (.iconst 0, 1) := by decide +kernel
theorem dX1_mixDeeds_3 : decode cX1_mixDeeds 3 = .ok (.istore 5, 2) := by decide +kernel
theorem dX1_mixDeeds_5 : decode cX1_mixDeeds 5 = .ok (.iload 5, 2) := by decide +kernel
theorem dX1_mixDeeds_7 : decode cX1_mixDeeds 7 = .ok (.aload_n 0, 1) := by decide +kernel
theorem dX1_mixDeeds_8 : decode cX1_mixDeeds 8 = .ok (.getfield 27, 3) := by decide +kernel
theorem dX1_mixDeeds_11 : decode cX1_mixDeeds 11 = .ok (.iconst 3, 1) := by decide +kernel
theorem dX1_mixDeeds_12 : decode cX1_mixDeeds 12 = .ok (.imul, 1) := by decide +kernel
theorem dX1_mixDeeds_13 : decode cX1_mixDeeds 13 = .ok (.if_icmp .ge 24, 3) := by decide +kernel
theorem dX1_mixDeeds_16 : decode cX1_mixDeeds 16 = .ok (.ldc2_w 55, 3) := by decide +kernel
theorem dX1_mixDeeds_19 : decode cX1_mixDeeds 19 = .ok (.lload_n 3, 1) := by decide +kernel
theorem dX1_mixDeeds_20 : decode cX1_mixDeeds 20 = .ok (.lmul, 1) := by decide +kernel
theorem dX1_mixDeeds_21 : decode cX1_mixDeeds 21 = .ok (.aload_n 0, 1) := by decide +kernel
theorem dX1_mixDeeds_22 : decode cX1_mixDeeds 22 = .ok (.getfield 18, 3) := by decide +kernel
theorem dX1_mixDeeds_25 : decode cX1_mixDeeds 25 = .ok (.iload 5, 2) := by decide +kernel
theorem dX1_mixDeeds_27 : decode cX1_mixDeeds 27 = .ok (.iaload, 1) := by decide +kernel
theorem dX1_mixDeeds_28 : decode cX1_mixDeeds 28 = .ok (.i2l, 1) := by decide +kernel
theorem dX1_mixDeeds_29 : decode cX1_mixDeeds 29 = .ok (.ladd, 1) := by decide +kernel
theorem dX1_mixDeeds_30 : decode cX1_mixDeeds 30 = .ok (.lstore_n 3, 1) := by decide +kernel
theorem dX1_mixDeeds_31 : decode cX1_mixDeeds 31 = .ok (.iinc 5 1, 3) := by decide +kernel
theorem dX1_mixDeeds_34 : decode cX1_mixDeeds 34 = .ok (.goto (-29), 3) := by decide +kernel
theorem dX1_mixDeeds_37 : decode cX1_mixDeeds 37 = .ok (.lload_n 3, 1) := by decide +kernel
theorem dX1_mixDeeds_38 : decode cX1_mixDeeds 38 = .ok (.lreturn, 1) := by decide +kernel
theorem dX2_made_0 : decode cX2_made 0 = .ok (.bipush 10, 2) := by decide +kernel
theorem dX2_made_2 : decode cX2_made 2 = .ok (.iload_n 1, 1) := by decide +kernel
theorem dX2_made_3 : decode cX2_made 3 = .ok (.imul, 1) := by decide +kernel
theorem dX2_made_4 : decode cX2_made 4 = .ok (.istore 4, 2) := by decide +kernel
theorem dX2_made_6 : decode cX2_made 6 = .ok (.iload 4, 2) := by decide +kernel
theorem dX2_made_8 : decode cX2_made 8 = .ok (.iconst 3, 1) := by decide +kernel
theorem dX2_made_9 : decode cX2_made 9 = .ok (.iload_n 3, 1) := by decide +kernel
theorem dX2_made_10 : decode cX2_made 10 = .ok (.bipush 9, 2) := by decide +kernel
theorem dX2_made_12 : decode cX2_made 12 = .ok (.if_icmp .ge 7, 3) := by decide +kernel
theorem dX2_made_15 : decode cX2_made 15 = .ok (.iload_n 3, 1) := by decide +kernel
theorem dX2_made_16 : decode cX2_made 16 = .ok (.goto 5, 3) := by decide +kernel
theorem dX2_made_19 : decode cX2_made 19 = .ok (.bipush 9, 2) := by decide +kernel
theorem dX2_made_21 : decode cX2_made 21 = .ok (.imul, 1) := by decide +kernel
theorem dX2_made_22 : decode cX2_made 22 = .ok (.iadd, 1) := by decide +kernel
theorem dX2_made_23 : decode cX2_made 23 = .ok (.istore 5, 2) := by decide +kernel
theorem dX2_made_25 : decode cX2_made 25 = .ok (.iload 4, 2) := by decide +kernel
theorem dX2_made_27 : decode cX2_made 27 = .ok (.iload_n 1, 1) := by decide +kernel
theorem dX2_made_28 : decode cX2_made 28 = .ok (.isub, 1) := by decide +kernel
theorem dX2_made_29 : decode cX2_made 29 = .ok (.istore 6, 2) := by decide +kernel
theorem dX2_made_31 : decode cX2_made 31 = .ok (.iload_n 0, 1) := by decide +kernel
theorem dX2_made_32 : decode cX2_made 32 = .ok (.tableswitch 86 1 5 #[36, 52, 55, 70, 73], 36) := by decide +kernel
theorem dX2_made_68 : decode cX2_made 68 = .ok (.iload_n 2, 1) := by decide +kernel
theorem dX2_made_69 : decode cX2_made 69 = .ok (.bipush 12, 2) := by decide +kernel
theorem dX2_made_71 : decode cX2_made 71 = .ok (.if_icmp .lt 10, 3) := by decide +kernel
theorem dX2_made_74 : decode cX2_made 74 = .ok (.iload 4, 2) := by decide +kernel
theorem dX2_made_76 : decode cX2_made 76 = .ok (.iconst 5, 1) := by decide +kernel
theorem dX2_made_77 : decode cX2_made 77 = .ok (.iadd, 1) := by decide +kernel
theorem dX2_made_78 : decode cX2_made 78 = .ok (.goto 5, 3) := by decide +kernel
theorem dX2_made_81 : decode cX2_made 81 = .ok (.iload 4, 2) := by decide +kernel
theorem dX2_made_83 : decode cX2_made 83 = .ok (.ireturn, 1) := by decide +kernel
theorem dX2_made_84 : decode cX2_made 84 = .ok (.iload 5, 2) := by decide +kernel
theorem dX2_made_86 : decode cX2_made 86 = .ok (.ireturn, 1) := by decide +kernel
theorem dX2_made_87 : decode cX2_made 87 = .ok (.iload_n 3, 1) := by decide +kernel
theorem dX2_made_88 : decode cX2_made 88 = .ok (.iconst 3, 1) := by decide +kernel
theorem dX2_made_89 : decode cX2_made 89 = .ok (.if_icmp .lt 10, 3) := by decide +kernel
theorem dX2_made_92 : decode cX2_made 92 = .ok (.iconst 2, 1) := by decide +kernel
theorem dX2_made_93 : decode cX2_made 93 = .ok (.iload 5, 2) := by decide +kernel
theorem dX2_made_95 : decode cX2_made 95 = .ok (.imul, 1) := by decide +kernel
theorem dX2_made_96 : decode cX2_made 96 = .ok (.goto 5, 3) := by decide +kernel
theorem dX2_made_99 : decode cX2_made 99 = .ok (.iload 5, 2) := by decide +kernel
theorem dX2_made_101 : decode cX2_made 101 = .ok (.ireturn, 1) := by decide +kernel
theorem dX2_made_102 : decode cX2_made 102 = .ok (.iload 6, 2) := by decide +kernel
theorem dX2_made_104 : decode cX2_made 104 = .ok (.ireturn, 1) := by decide +kernel
theorem dX2_made_105 : decode cX2_made 105 = .ok (.iload 6, 2) := by decide +kernel
theorem dX2_made_107 : decode cX2_made 107 = .ok (.iconst 1, 1) := by decide +kernel
theorem dX2_made_108 : decode cX2_made 108 = .ok (.if_icmp .ge 7, 3) := by decide +kernel
theorem dX2_made_111 : decode cX2_made 111 = .ok (.iconst 1, 1) := by decide +kernel
theorem dX2_made_112 : decode cX2_made 112 = .ok (.goto 5, 3) := by decide +kernel
theorem dX2_made_115 : decode cX2_made 115 = .ok (.iload 6, 2) := by decide +kernel
theorem dX2_made_117 : decode cX2_made 117 = .ok (.ireturn, 1) := by decide +kernel
theorem dX2_made_118 : decode cX2_made 118 = .ok (.iload 4, 2) := by decide +kernel
theorem dX2_made_120 : decode cX2_made 120 = .ok (.ireturn, 1) := by decide +kernel
theorem dX2_reach_0 : decode cX2_reach 0 = .ok (.iload_n 1, 1) := by decide +kernel
theorem dX2_reach_1 : decode cX2_reach 1 = .ok (.bipush 7, 2) := by decide +kernel
theorem dX2_reach_3 : decode cX2_reach 3 = .ok (.isub, 1) := by decide +kernel
theorem dX2_reach_4 : decode cX2_reach 4 = .ok (.iconst 1, 1) := by decide +kernel
theorem dX2_reach_5 : decode cX2_reach 5 = .ok (.if_icmp .ge 7, 3) := by decide +kernel
theorem dX2_reach_8 : decode cX2_reach 8 = .ok (.iconst 1, 1) := by decide +kernel
theorem dX2_reach_9 : decode cX2_reach 9 = .ok (.goto 7, 3) := by decide +kernel
theorem dX2_reach_12 : decode cX2_reach 12 = .ok (.iload_n 1, 1) := by decide +kernel
theorem dX2_reach_13 : decode cX2_reach 13 = .ok (.bipush 7, 2) := by decide +kernel
theorem dX2_reach_15 : decode cX2_reach 15 = .ok (.isub, 1) := by decide +kernel
theorem dX2_reach_16 : decode cX2_reach 16 = .ok (.istore_n 3, 1) := by decide +kernel
theorem dX2_reach_17 : decode cX2_reach 17 = .ok (.iload_n 1, 1) := by decide +kernel
theorem dX2_reach_18 : decode cX2_reach 18 = .ok (.iconst 4, 1) := by decide +kernel
theorem dX2_reach_19 : decode cX2_reach 19 = .ok (.iadd, 1) := by decide +kernel
theorem dX2_reach_20 : decode cX2_reach 20 = .ok (.iload_n 2, 1) := by decide +kernel
theorem dX2_reach_21 : decode cX2_reach 21 = .ok (.iconst 3, 1) := by decide +kernel
theorem dX2_reach_22 : decode cX2_reach 22 = .ok (.irem, 1) := by decide +kernel
theorem dX2_reach_23 : decode cX2_reach 23 = .ok (.iadd, 1) := by decide +kernel
theorem dX2_reach_24 : decode cX2_reach 24 = .ok (.istore 4, 2) := by decide +kernel
theorem dX2_reach_26 : decode cX2_reach 26 = .ok (.iload_n 1, 1) := by decide +kernel
theorem dX2_reach_27 : decode cX2_reach 27 = .ok (.bipush 10, 2) := by decide +kernel
theorem dX2_reach_29 : decode cX2_reach 29 = .ok (.idiv, 1) := by decide +kernel
theorem dX2_reach_30 : decode cX2_reach 30 = .ok (.bipush 10, 2) := by decide +kernel
theorem dX2_reach_32 : decode cX2_reach 32 = .ok (.imul, 1) := by decide +kernel
theorem dX2_reach_33 : decode cX2_reach 33 = .ok (.istore 5, 2) := by decide +kernel
theorem dX2_reach_35 : decode cX2_reach 35 = .ok (.iload_n 0, 1) := by decide +kernel
theorem dX2_reach_36 : decode cX2_reach 36 = .ok (.tableswitch 80 1 5 #[36, 38, 41, 49, 65], 36) := by decide +kernel
theorem dX2_reach_72 : decode cX2_reach 72 = .ok (.iload_n 3, 1) := by decide +kernel
theorem dX2_reach_73 : decode cX2_reach 73 = .ok (.ireturn, 1) := by decide +kernel
theorem dX2_reach_74 : decode cX2_reach 74 = .ok (.iload 4, 2) := by decide +kernel
theorem dX2_reach_76 : decode cX2_reach 76 = .ok (.ireturn, 1) := by decide +kernel
theorem dX2_reach_77 : decode cX2_reach 77 = .ok (.iload 4, 2) := by decide +kernel
theorem dX2_reach_79 : decode cX2_reach 79 = .ok (.iload 4, 2) := by decide +kernel
theorem dX2_reach_81 : decode cX2_reach 81 = .ok (.iconst 4, 1) := by decide +kernel
theorem dX2_reach_82 : decode cX2_reach 82 = .ok (.idiv, 1) := by decide +kernel
theorem dX2_reach_83 : decode cX2_reach 83 = .ok (.iadd, 1) := by decide +kernel
theorem dX2_reach_84 : decode cX2_reach 84 = .ok (.ireturn, 1) := by decide +kernel
theorem dX2_reach_85 : decode cX2_reach 85 = .ok (.iload_n 2, 1) := by decide +kernel
theorem dX2_reach_86 : decode cX2_reach 86 = .ok (.iconst 2, 1) := by decide +kernel
theorem dX2_reach_87 : decode cX2_reach 87 = .ok (.irem, 1) := by decide +kernel
theorem dX2_reach_88 : decode cX2_reach 88 = .ok (.ifCond .ne 11, 3) := by decide +kernel
theorem dX2_reach_91 : decode cX2_reach 91 = .ok (.iload_n 3, 1) := by decide +kernel
theorem dX2_reach_92 : decode cX2_reach 92 = .ok (.iconst 1, 1) := by decide +kernel
theorem dX2_reach_93 : decode cX2_reach 93 = .ok (.iadd, 1) := by decide +kernel
theorem dX2_reach_94 : decode cX2_reach 94 = .ok (.iconst 2, 1) := by decide +kernel
theorem dX2_reach_95 : decode cX2_reach 95 = .ok (.idiv, 1) := by decide +kernel
theorem dX2_reach_96 : decode cX2_reach 96 = .ok (.goto 4, 3) := by decide +kernel
theorem dX2_reach_99 : decode cX2_reach 99 = .ok (.iload_n 3, 1) := by decide +kernel
theorem dX2_reach_100 : decode cX2_reach 100 = .ok (.ireturn, 1) := by decide +kernel
theorem dX2_reach_101 : decode cX2_reach 101 = .ok (.iload 5, 2) := by decide +kernel
theorem dX2_reach_103 : decode cX2_reach 103 = .ok (.bipush 10, 2) := by decide +kernel
theorem dX2_reach_105 : decode cX2_reach 105 = .ok (.if_icmp .ge 8, 3) := by decide +kernel
theorem dX2_reach_108 : decode cX2_reach 108 = .ok (.bipush 10, 2) := by decide +kernel
theorem dX2_reach_110 : decode cX2_reach 110 = .ok (.goto 5, 3) := by decide +kernel
theorem dX2_reach_113 : decode cX2_reach 113 = .ok (.iload 5, 2) := by decide +kernel
theorem dX2_reach_115 : decode cX2_reach 115 = .ok (.ireturn, 1) := by decide +kernel
theorem dX2_reach_116 : decode cX2_reach 116 = .ok (.iload_n 1, 1) := by decide +kernel
theorem dX2_reach_117 : decode cX2_reach 117 = .ok (.ireturn, 1) := by decide +kernel
theorem dX2_told_0 : decode cX2_told 0 = .ok (.iload_n 0, 1) := by decide +kernel
theorem dX2_told_1 : decode cX2_told 1 = .ok (.ifCond .eq 14, 3) := by decide +kernel
theorem dX2_told_4 : decode cX2_told 4 = .ok (.iload_n 1, 1) := by decide +kernel
theorem dX2_told_5 : decode cX2_told 5 = .ok (.iload_n 2, 1) := by decide +kernel
theorem dX2_told_6 : decode cX2_told 6 = .ok (.iload_n 3, 1) := by decide +kernel
theorem dX2_told_7 : decode cX2_told 7 = .ok (.iload 4, 2) := by decide +kernel
theorem dX2_told_9 : decode cX2_told 9 = .ok (.invokestatic 7, 3) := by decide +kernel
theorem dX2_told_12 : decode cX2_told 12 = .ok (.goto 9, 3) := by decide +kernel
theorem dX2_told_15 : decode cX2_told 15 = .ok (.iload_n 1, 1) := by decide +kernel
theorem dX2_told_16 : decode cX2_told 16 = .ok (.iload_n 2, 1) := by decide +kernel
theorem dX2_told_17 : decode cX2_told 17 = .ok (.iload_n 3, 1) := by decide +kernel
theorem dX2_told_18 : decode cX2_told 18 = .ok (.invokestatic 13, 3) := by decide +kernel
theorem dX2_told_21 : decode cX2_told 21 = .ok (.ireturn, 1) := by decide +kernel
theorem dX3_init_0 : decode cX3_init 0 = .ok (.aload_n 0, 1) := by decide +kernel
theorem dX3_init_1 : decode cX3_init 1 = .ok (.invokespecial 3, 3) := by decide +kernel
theorem dX3_init_4 : decode cX3_init 4 = .ok (.aload_n 0, 1) := by decide +kernel
theorem dX3_init_5 : decode cX3_init 5 = .ok (.bipush 6, 2) := by decide +kernel
theorem dX3_init_7 : decode cX3_init 7 = .ok (.newarray .int, 2) := by decide +kernel
theorem dX3_init_9 : decode cX3_init 9 = .ok (.putfield 9, 3) := by decide +kernel
theorem dX3_init_12 : decode cX3_init 12 = .ok (.return_, 1) := by decide +kernel
theorem dX3_best_0 : decode cX3_best 0 = .ok (.iconst (-1), 1) := by decide +kernel
theorem dX3_best_1 : decode cX3_best 1 = .ok (.istore 5, 2) := by decide +kernel
theorem dX3_best_3 : decode cX3_best 3 = .ok (.bipush 7, 2) := by decide +kernel
theorem dX3_best_5 : decode cX3_best 5 = .ok (.istore 6, 2) := by decide +kernel
theorem dX3_best_7 : decode cX3_best 7 = .ok (.iconst 0, 1) := by decide +kernel
theorem dX3_best_8 : decode cX3_best 8 = .ok (.istore 7, 2) := by decide +kernel
theorem dX3_best_10 : decode cX3_best 10 = .ok (.iload 7, 2) := by decide +kernel
theorem dX3_best_12 : decode cX3_best 12 = .ok (.bipush 24, 2) := by decide +kernel
theorem dX3_best_14 : decode cX3_best 14 = .ok (.if_icmp .ge 103, 3) := by decide +kernel
theorem dX3_best_17 : decode cX3_best 17 = .ok (.iload_n 2, 1) := by decide +kernel
theorem dX3_best_18 : decode cX3_best 18 = .ok (.ifCond .eq 99, 3) := by decide +kernel
theorem dX3_best_21 : decode cX3_best 21 = .ok (.iload 6, 2) := by decide +kernel
theorem dX3_best_23 : decode cX3_best 23 = .ok (.iconst 1, 1) := by decide +kernel
theorem dX3_best_24 : decode cX3_best 24 = .ok (.if_icmp .le 93, 3) := by decide +kernel
theorem dX3_best_27 : decode cX3_best 27 = .ok (.iconst 0, 1) := by decide +kernel
theorem dX3_best_28 : decode cX3_best 28 = .ok (.istore 8, 2) := by decide +kernel
theorem dX3_best_30 : decode cX3_best 30 = .ok (.iload 8, 2) := by decide +kernel
theorem dX3_best_32 : decode cX3_best 32 = .ok (.iload_n 3, 1) := by decide +kernel
theorem dX3_best_33 : decode cX3_best 33 = .ok (.if_icmp .gt 78, 3) := by decide +kernel
theorem dX3_best_36 : decode cX3_best 36 = .ok (.iload 6, 2) := by decide +kernel
theorem dX3_best_38 : decode cX3_best 38 = .ok (.iconst 1, 1) := by decide +kernel
theorem dX3_best_39 : decode cX3_best 39 = .ok (.if_icmp .le 72, 3) := by decide +kernel
theorem dX3_best_42 : decode cX3_best 42 = .ok (.iconst 0, 1) := by decide +kernel
theorem dX3_best_43 : decode cX3_best 43 = .ok (.istore 9, 2) := by decide +kernel
theorem dX3_best_45 : decode cX3_best 45 = .ok (.iload 9, 2) := by decide +kernel
theorem dX3_best_47 : decode cX3_best 47 = .ok (.bipush 6, 2) := by decide +kernel
theorem dX3_best_49 : decode cX3_best 49 = .ok (.if_icmp .ge 28, 3) := by decide +kernel
theorem dX3_best_52 : decode cX3_best 52 = .ok (.aload_n 0, 1) := by decide +kernel
theorem dX3_best_53 : decode cX3_best 53 = .ok (.getfield 9, 3) := by decide +kernel
theorem dX3_best_56 : decode cX3_best 56 = .ok (.iload 9, 2) := by decide +kernel
theorem dX3_best_58 : decode cX3_best 58 = .ok (.iload_n 1, 1) := by decide +kernel
theorem dX3_best_59 : decode cX3_best 59 = .ok (.iload 9, 2) := by decide +kernel
theorem dX3_best_61 : decode cX3_best 61 = .ok (.iload 8, 2) := by decide +kernel
theorem dX3_best_63 : decode cX3_best 63 = .ok (.iload 7, 2) := by decide +kernel
theorem dX3_best_65 : decode cX3_best 65 = .ok (.iload 4, 2) := by decide +kernel
theorem dX3_best_67 : decode cX3_best 67 = .ok (.invokestatic 15, 3) := by decide +kernel
theorem dX3_best_70 : decode cX3_best 70 = .ok (.iastore, 1) := by decide +kernel
theorem dX3_best_71 : decode cX3_best 71 = .ok (.iinc 9 1, 3) := by decide +kernel
theorem dX3_best_74 : decode cX3_best 74 = .ok (.goto (-29), 3) := by decide +kernel
theorem dX3_best_77 : decode cX3_best 77 = .ok (.aload_n 0, 1) := by decide +kernel
theorem dX3_best_78 : decode cX3_best 78 = .ok (.iload_n 2, 1) := by decide +kernel
theorem dX3_best_79 : decode cX3_best 79 = .ok (.invokevirtual 21, 3) := by decide +kernel
theorem dX3_best_82 : decode cX3_best 82 = .ok (.istore 9, 2) := by decide +kernel
theorem dX3_best_84 : decode cX3_best 84 = .ok (.iload 9, 2) := by decide +kernel
theorem dX3_best_86 : decode cX3_best 86 = .ok (.iload 6, 2) := by decide +kernel
theorem dX3_best_88 : decode cX3_best 88 = .ok (.if_icmp .ge 17, 3) := by decide +kernel
theorem dX3_best_91 : decode cX3_best 91 = .ok (.iload 9, 2) := by decide +kernel
theorem dX3_best_93 : decode cX3_best 93 = .ok (.istore 6, 2) := by decide +kernel
theorem dX3_best_95 : decode cX3_best 95 = .ok (.bipush 100, 2) := by decide +kernel
theorem dX3_best_97 : decode cX3_best 97 = .ok (.iload 7, 2) := by decide +kernel
theorem dX3_best_99 : decode cX3_best 99 = .ok (.imul, 1) := by decide +kernel
theorem dX3_best_100 : decode cX3_best 100 = .ok (.iload 8, 2) := by decide +kernel
theorem dX3_best_102 : decode cX3_best 102 = .ok (.iadd, 1) := by decide +kernel
theorem dX3_best_103 : decode cX3_best 103 = .ok (.istore 5, 2) := by decide +kernel
theorem dX3_best_105 : decode cX3_best 105 = .ok (.iinc 8 1, 3) := by decide +kernel
theorem dX3_best_108 : decode cX3_best 108 = .ok (.goto (-78), 3) := by decide +kernel
theorem dX3_best_111 : decode cX3_best 111 = .ok (.iinc 7 1, 3) := by decide +kernel
theorem dX3_best_114 : decode cX3_best 114 = .ok (.goto (-104), 3) := by decide +kernel
theorem dX3_best_117 : decode cX3_best 117 = .ok (.iload 5, 2) := by decide +kernel
theorem dX3_best_119 : decode cX3_best 119 = .ok (.ireturn, 1) := by decide +kernel
theorem dX3_mostAlike_0 : decode cX3_mostAlike 0 = .ok (.iconst 0, 1) := by decide +kernel
theorem dX3_mostAlike_1 : decode cX3_mostAlike 1 = .ok (.istore_n 2, 1) := by decide +kernel
theorem dX3_mostAlike_2 : decode cX3_mostAlike 2 = .ok (.iconst 0, 1) := by decide +kernel
theorem dX3_mostAlike_3 : decode cX3_mostAlike 3 = .ok (.istore_n 3, 1) := by decide +kernel
theorem dX3_mostAlike_4 : decode cX3_mostAlike 4 = .ok (.iload_n 3, 1) := by decide +kernel
theorem dX3_mostAlike_5 : decode cX3_mostAlike 5 = .ok (.bipush 6, 2) := by decide +kernel
theorem dX3_mostAlike_7 : decode cX3_mostAlike 7 = .ok (.if_icmp .ge 71, 3) := by decide +kernel
theorem dX3_mostAlike_10 : decode cX3_mostAlike 10 = .ok (.iconst 0, 1) := by decide +kernel
theorem dX3_mostAlike_11 : decode cX3_mostAlike 11 = .ok (.istore 4, 2) := by decide +kernel
theorem dX3_mostAlike_13 : decode cX3_mostAlike 13 = .ok (.iconst 0, 1) := by decide +kernel
theorem dX3_mostAlike_14 : decode cX3_mostAlike 14 = .ok (.istore 5, 2) := by decide +kernel
theorem dX3_mostAlike_16 : decode cX3_mostAlike 16 = .ok (.iload 5, 2) := by decide +kernel
theorem dX3_mostAlike_18 : decode cX3_mostAlike 18 = .ok (.bipush 6, 2) := by decide +kernel
theorem dX3_mostAlike_20 : decode cX3_mostAlike 20 = .ok (.if_icmp .ge 45, 3) := by decide +kernel
theorem dX3_mostAlike_23 : decode cX3_mostAlike 23 = .ok (.iload_n 1, 1) := by decide +kernel
theorem dX3_mostAlike_24 : decode cX3_mostAlike 24 = .ok (.iconst 1, 1) := by decide +kernel
theorem dX3_mostAlike_25 : decode cX3_mostAlike 25 = .ok (.iload_n 3, 1) := by decide +kernel
theorem dX3_mostAlike_26 : decode cX3_mostAlike 26 = .ok (.ishl, 1) := by decide +kernel
theorem dX3_mostAlike_27 : decode cX3_mostAlike 27 = .ok (.iand, 1) := by decide +kernel
theorem dX3_mostAlike_28 : decode cX3_mostAlike 28 = .ok (.ifCond .eq 31, 3) := by decide +kernel
theorem dX3_mostAlike_31 : decode cX3_mostAlike 31 = .ok (.iload_n 1, 1) := by decide +kernel
theorem dX3_mostAlike_32 : decode cX3_mostAlike 32 = .ok (.iconst 1, 1) := by decide +kernel
theorem dX3_mostAlike_33 : decode cX3_mostAlike 33 = .ok (.iload 5, 2) := by decide +kernel
theorem dX3_mostAlike_35 : decode cX3_mostAlike 35 = .ok (.ishl, 1) := by decide +kernel
theorem dX3_mostAlike_36 : decode cX3_mostAlike 36 = .ok (.iand, 1) := by decide +kernel
theorem dX3_mostAlike_37 : decode cX3_mostAlike 37 = .ok (.ifCond .eq 22, 3) := by decide +kernel
theorem dX3_mostAlike_40 : decode cX3_mostAlike 40 = .ok (.aload_n 0, 1) := by decide +kernel
theorem dX3_mostAlike_41 : decode cX3_mostAlike 41 = .ok (.getfield 9, 3) := by decide +kernel
theorem dX3_mostAlike_44 : decode cX3_mostAlike 44 = .ok (.iload_n 3, 1) := by decide +kernel
theorem dX3_mostAlike_45 : decode cX3_mostAlike 45 = .ok (.iaload, 1) := by decide +kernel
theorem dX3_mostAlike_46 : decode cX3_mostAlike 46 = .ok (.aload_n 0, 1) := by decide +kernel
theorem dX3_mostAlike_47 : decode cX3_mostAlike 47 = .ok (.getfield 9, 3) := by decide +kernel
theorem dX3_mostAlike_50 : decode cX3_mostAlike 50 = .ok (.iload 5, 2) := by decide +kernel
theorem dX3_mostAlike_52 : decode cX3_mostAlike 52 = .ok (.iaload, 1) := by decide +kernel
theorem dX3_mostAlike_53 : decode cX3_mostAlike 53 = .ok (.if_icmp .ne 6, 3) := by decide +kernel
theorem dX3_mostAlike_56 : decode cX3_mostAlike 56 = .ok (.iinc 4 1, 3) := by decide +kernel
theorem dX3_mostAlike_59 : decode cX3_mostAlike 59 = .ok (.iinc 5 1, 3) := by decide +kernel
theorem dX3_mostAlike_62 : decode cX3_mostAlike 62 = .ok (.goto (-46), 3) := by decide +kernel
theorem dX3_mostAlike_65 : decode cX3_mostAlike 65 = .ok (.iload_n 2, 1) := by decide +kernel
theorem dX3_mostAlike_66 : decode cX3_mostAlike 66 = .ok (.iload 4, 2) := by decide +kernel
theorem dX3_mostAlike_68 : decode cX3_mostAlike 68 = .ok (.invokestatic 25, 3) := by decide +kernel
theorem dX3_mostAlike_71 : decode cX3_mostAlike 71 = .ok (.istore_n 2, 1) := by decide +kernel
theorem dX3_mostAlike_72 : decode cX3_mostAlike 72 = .ok (.iinc 3 1, 3) := by decide +kernel
theorem dX3_mostAlike_75 : decode cX3_mostAlike 75 = .ok (.goto (-71), 3) := by decide +kernel
theorem dX3_mostAlike_78 : decode cX3_mostAlike 78 = .ok (.iload_n 2, 1) := by decide +kernel
theorem dX3_mostAlike_79 : decode cX3_mostAlike 79 = .ok (.ireturn, 1) := by decide +kernel
theorem dX4_init_0 : decode cX4_init 0 = .ok (.aload_n 0, 1) := by decide +kernel
theorem dX4_init_1 : decode cX4_init 1 = .ok (.invokespecial 3, 3) := by decide +kernel
theorem dX4_init_4 : decode cX4_init 4 = .ok (.aload_n 0, 1) := by decide +kernel
theorem dX4_init_5 : decode cX4_init 5 = .ok (.new 9, 3) := by decide +kernel
theorem dX4_init_8 : decode cX4_init 8 = .ok (.dup, 1) := by decide +kernel
theorem dX4_init_9 : decode cX4_init 9 = .ok (.invokespecial 11, 3) := by decide +kernel
theorem dX4_init_12 : decode cX4_init 12 = .ok (.putfield 12, 3) := by decide +kernel
theorem dX4_init_15 : decode cX4_init 15 = .ok (.aload_n 0, 1) := by decide +kernel
theorem dX4_init_16 : decode cX4_init 16 = .ok (.iconst 0, 1) := by decide +kernel
theorem dX4_init_17 : decode cX4_init 17 = .ok (.newarray .byte, 2) := by decide +kernel
theorem dX4_init_19 : decode cX4_init 19 = .ok (.putfield 18, 3) := by decide +kernel
theorem dX4_init_22 : decode cX4_init 22 = .ok (.return_, 1) := by decide +kernel
theorem dX4_readAll_0 : decode cX4_readAll 0 = .ok (.aload_n 0, 1) := by decide +kernel
theorem dX4_readAll_1 : decode cX4_readAll 1 = .ok (.aload_n 1, 1) := by decide +kernel
theorem dX4_readAll_2 : decode cX4_readAll 2 = .ok (.putfield 18, 3) := by decide +kernel
theorem dX4_readAll_5 : decode cX4_readAll 5 = .ok (.aload_n 0, 1) := by decide +kernel
theorem dX4_readAll_6 : decode cX4_readAll 6 = .ok (.iload_n 2, 1) := by decide +kernel
theorem dX4_readAll_7 : decode cX4_readAll 7 = .ok (.aload_n 1, 1) := by decide +kernel
theorem dX4_readAll_8 : decode cX4_readAll 8 = .ok (.arraylength, 1) := by decide +kernel
theorem dX4_readAll_9 : decode cX4_readAll 9 = .ok (.invokestatic 22, 3) := by decide +kernel
theorem dX4_readAll_12 : decode cX4_readAll 12 = .ok (.putfield 28, 3) := by decide +kernel
theorem dX4_readAll_15 : decode cX4_readAll 15 = .ok (.aload_n 0, 1) := by decide +kernel
theorem dX4_readAll_16 : decode cX4_readAll 16 = .ok (.iconst 0, 1) := by decide +kernel
theorem dX4_readAll_17 : decode cX4_readAll 17 = .ok (.putfield 32, 3) := by decide +kernel
theorem dX4_readAll_20 : decode cX4_readAll 20 = .ok (.aload_n 0, 1) := by decide +kernel
theorem dX4_readAll_21 : decode cX4_readAll 21 = .ok (.getfield 12, 3) := by decide +kernel
theorem dX4_readAll_24 : decode cX4_readAll 24 = .ok (.invokevirtual 35, 3) := by decide +kernel
theorem dX4_readAll_27 : decode cX4_readAll 27 = .ok (.iconst 0, 1) := by decide +kernel
theorem dX4_readAll_28 : decode cX4_readAll 28 = .ok (.istore_n 3, 1) := by decide +kernel
theorem dX4_readAll_29 : decode cX4_readAll 29 = .ok (.aload_n 0, 1) := by decide +kernel
theorem dX4_readAll_30 : decode cX4_readAll 30 = .ok (.invokevirtual 38, 3) := by decide +kernel
theorem dX4_readAll_33 : decode cX4_readAll 33 = .ok (.aload_n 0, 1) := by decide +kernel
theorem dX4_readAll_34 : decode cX4_readAll 34 = .ok (.getfield 41, 3) := by decide +kernel
theorem dX4_readAll_37 : decode cX4_readAll 37 = .ok (.ifCond .eq 36, 3) := by decide +kernel
theorem dX4_readAll_40 : decode cX4_readAll 40 = .ok (.iload_n 3, 1) := by decide +kernel
theorem dX4_readAll_41 : decode cX4_readAll 41 = .ok (.sipush 150, 3) := by decide +kernel
theorem dX4_readAll_44 : decode cX4_readAll 44 = .ok (.if_icmp .gt 29, 3) := by decide +kernel
theorem dX4_readAll_47 : decode cX4_readAll 47 = .ok (.aload_n 0, 1) := by decide +kernel
theorem dX4_readAll_48 : decode cX4_readAll 48 = .ok (.iload_n 3, 1) := by decide +kernel
theorem dX4_readAll_49 : decode cX4_readAll 49 = .ok (.invokevirtual 44, 3) := by decide +kernel
theorem dX4_readAll_52 : decode cX4_readAll 52 = .ok (.ifCond .ne 11, 3) := by decide +kernel
theorem dX4_readAll_55 : decode cX4_readAll 55 = .ok (.bipush (-10), 2) := by decide +kernel
theorem dX4_readAll_57 : decode cX4_readAll 57 = .ok (.aload_n 0, 1) := by decide +kernel
theorem dX4_readAll_58 : decode cX4_readAll 58 = .ok (.getfield 48, 3) := by decide +kernel
theorem dX4_readAll_61 : decode cX4_readAll 61 = .ok (.isub, 1) := by decide +kernel
theorem dX4_readAll_62 : decode cX4_readAll 62 = .ok (.ireturn, 1) := by decide +kernel
theorem dX4_readAll_63 : decode cX4_readAll 63 = .ok (.iinc 3 1, 3) := by decide +kernel
theorem dX4_readAll_66 : decode cX4_readAll 66 = .ok (.aload_n 0, 1) := by decide +kernel
theorem dX4_readAll_67 : decode cX4_readAll 67 = .ok (.invokevirtual 38, 3) := by decide +kernel
theorem dX4_readAll_70 : decode cX4_readAll 70 = .ok (.goto (-37), 3) := by decide +kernel
theorem dX4_readAll_73 : decode cX4_readAll 73 = .ok (.iload_n 3, 1) := by decide +kernel
theorem dX4_readAll_74 : decode cX4_readAll 74 = .ok (.ifCond .ne 13, 3) := by decide +kernel
theorem dX4_readAll_77 : decode cX4_readAll 77 = .ok (.bipush (-10), 2) := by decide +kernel
theorem dX4_readAll_79 : decode cX4_readAll 79 = .ok (.aload_n 0, 1) := by decide +kernel
theorem dX4_readAll_80 : decode cX4_readAll 80 = .ok (.getfield 48, 3) := by decide +kernel
theorem dX4_readAll_83 : decode cX4_readAll 83 = .ok (.isub, 1) := by decide +kernel
theorem dX4_readAll_84 : decode cX4_readAll 84 = .ok (.goto 4, 3) := by decide +kernel
theorem dX4_readAll_87 : decode cX4_readAll 87 = .ok (.iload_n 3, 1) := by decide +kernel
theorem dX4_readAll_88 : decode cX4_readAll 88 = .ok (.ireturn, 1) := by decide +kernel
theorem dX4_takeItem_0 : decode cX4_takeItem 0 = .ok (.aload_n 0, 1) := by decide +kernel
theorem dX4_takeItem_1 : decode cX4_takeItem 1 = .ok (.getfield 41, 3) := by decide +kernel
theorem dX4_takeItem_4 : decode cX4_takeItem 4 = .ok (.iconst 1, 1) := by decide +kernel
theorem dX4_takeItem_5 : decode cX4_takeItem 5 = .ok (.if_icmp .eq 5, 3) := by decide +kernel
theorem dX4_takeItem_8 : decode cX4_takeItem 8 = .ok (.iconst 0, 1) := by decide +kernel
theorem dX4_takeItem_9 : decode cX4_takeItem 9 = .ok (.ireturn, 1) := by decide +kernel
theorem dX4_takeItem_10 : decode cX4_takeItem 10 = .ok (.iload_n 1, 1) := by decide +kernel
theorem dX4_takeItem_11 : decode cX4_takeItem 11 = .ok (.ifCond .ne 25, 3) := by decide +kernel
theorem dX4_takeItem_14 : decode cX4_takeItem 14 = .ok (.aload_n 0, 1) := by decide +kernel
theorem dX4_takeItem_15 : decode cX4_takeItem 15 = .ok (.ldc 51, 2) := by decide +kernel
theorem dX4_takeItem_17 : decode cX4_takeItem 17 = .ok (.invokevirtual 53, 3) := by decide +kernel
theorem dX4_takeItem_20 : decode cX4_takeItem 20 = .ok (.ifCond .eq 14, 3) := by decide +kernel
theorem dX4_takeItem_23 : decode cX4_takeItem 23 = .ok (.aload_n 0, 1) := by decide +kernel
theorem dX4_takeItem_24 : decode cX4_takeItem 24 = .ok (.invokevirtual 57, 3) := by decide +kernel
theorem dX4_takeItem_27 : decode cX4_takeItem 27 = .ok (.ifCond .eq 7, 3) := by decide +kernel
theorem dX4_takeItem_30 : decode cX4_takeItem 30 = .ok (.iconst 1, 1) := by decide +kernel
theorem dX4_takeItem_31 : decode cX4_takeItem 31 = .ok (.goto 4, 3) := by decide +kernel
theorem dX4_takeItem_34 : decode cX4_takeItem 34 = .ok (.iconst 0, 1) := by decide +kernel
theorem dX4_takeItem_35 : decode cX4_takeItem 35 = .ok (.ireturn, 1) := by decide +kernel
theorem dX4_takeItem_36 : decode cX4_takeItem 36 = .ok (.aload_n 0, 1) := by decide +kernel
theorem dX4_takeItem_37 : decode cX4_takeItem 37 = .ok (.ldc 61, 2) := by decide +kernel
theorem dX4_takeItem_39 : decode cX4_takeItem 39 = .ok (.invokevirtual 53, 3) := by decide +kernel
theorem dX4_takeItem_42 : decode cX4_takeItem 42 = .ok (.ifCond .eq 8, 3) := by decide +kernel
theorem dX4_takeItem_45 : decode cX4_takeItem 45 = .ok (.aload_n 0, 1) := by decide +kernel
theorem dX4_takeItem_46 : decode cX4_takeItem 46 = .ok (.invokevirtual 63, 3) := by decide +kernel
theorem dX4_takeItem_49 : decode cX4_takeItem 49 = .ok (.ireturn, 1) := by decide +kernel
theorem dX4_takeItem_50 : decode cX4_takeItem 50 = .ok (.aload_n 0, 1) := by decide +kernel
theorem dX4_takeItem_51 : decode cX4_takeItem 51 = .ok (.ldc 66, 2) := by decide +kernel
theorem dX4_takeItem_53 : decode cX4_takeItem 53 = .ok (.invokevirtual 53, 3) := by decide +kernel
theorem dX4_takeItem_56 : decode cX4_takeItem 56 = .ok (.ifCond .eq 8, 3) := by decide +kernel
theorem dX4_takeItem_59 : decode cX4_takeItem 59 = .ok (.aload_n 0, 1) := by decide +kernel
theorem dX4_takeItem_60 : decode cX4_takeItem 60 = .ok (.invokevirtual 68, 3) := by decide +kernel
theorem dX4_takeItem_63 : decode cX4_takeItem 63 = .ok (.ireturn, 1) := by decide +kernel
theorem dX4_takeItem_64 : decode cX4_takeItem 64 = .ok (.aload_n 0, 1) := by decide +kernel
theorem dX4_takeItem_65 : decode cX4_takeItem 65 = .ok (.ldc 71, 2) := by decide +kernel
theorem dX4_takeItem_67 : decode cX4_takeItem 67 = .ok (.invokevirtual 53, 3) := by decide +kernel
theorem dX4_takeItem_70 : decode cX4_takeItem 70 = .ok (.ifCond .eq 8, 3) := by decide +kernel
theorem dX4_takeItem_73 : decode cX4_takeItem 73 = .ok (.aload_n 0, 1) := by decide +kernel
theorem dX4_takeItem_74 : decode cX4_takeItem 74 = .ok (.invokevirtual 73, 3) := by decide +kernel
theorem dX4_takeItem_77 : decode cX4_takeItem 77 = .ok (.ireturn, 1) := by decide +kernel
theorem dX4_takeItem_78 : decode cX4_takeItem 78 = .ok (.aload_n 0, 1) := by decide +kernel
theorem dX4_takeItem_79 : decode cX4_takeItem 79 = .ok (.ldc 76, 2) := by decide +kernel
theorem dX4_takeItem_81 : decode cX4_takeItem 81 = .ok (.invokevirtual 53, 3) := by decide +kernel
theorem dX4_takeItem_84 : decode cX4_takeItem 84 = .ok (.ifCond .eq 8, 3) := by decide +kernel
theorem dX4_takeItem_87 : decode cX4_takeItem 87 = .ok (.aload_n 0, 1) := by decide +kernel
theorem dX4_takeItem_88 : decode cX4_takeItem 88 = .ok (.invokevirtual 78, 3) := by decide +kernel
theorem dX4_takeItem_91 : decode cX4_takeItem 91 = .ok (.ireturn, 1) := by decide +kernel
theorem dX4_takeItem_92 : decode cX4_takeItem 92 = .ok (.aload_n 0, 1) := by decide +kernel
theorem dX4_takeItem_93 : decode cX4_takeItem 93 = .ok (.ldc 81, 2) := by decide +kernel
theorem dX4_takeItem_95 : decode cX4_takeItem 95 = .ok (.invokevirtual 53, 3) := by decide +kernel
theorem dX4_takeItem_98 : decode cX4_takeItem 98 = .ok (.ifCond .eq 14, 3) := by decide +kernel
theorem dX4_takeItem_101 : decode cX4_takeItem 101 = .ok (.aload_n 0, 1) := by decide +kernel
theorem dX4_takeItem_102 : decode cX4_takeItem 102 = .ok (.invokevirtual 83, 3) := by decide +kernel
theorem dX4_takeItem_105 : decode cX4_takeItem 105 = .ok (.ifCond .eq 7, 3) := by decide +kernel
theorem dX4_takeItem_108 : decode cX4_takeItem 108 = .ok (.iconst 1, 1) := by decide +kernel
theorem dX4_takeItem_109 : decode cX4_takeItem 109 = .ok (.goto 4, 3) := by decide +kernel
theorem dX4_takeItem_112 : decode cX4_takeItem 112 = .ok (.iconst 0, 1) := by decide +kernel
theorem dX4_takeItem_113 : decode cX4_takeItem 113 = .ok (.ireturn, 1) := by decide +kernel
theorem dX4_takePlace_0 : decode cX4_takePlace 0 = .ok (.aload_n 0, 1) := by decide +kernel
theorem dX4_takePlace_1 : decode cX4_takePlace 1 = .ok (.getfield 12, 3) := by decide +kernel
theorem dX4_takePlace_4 : decode cX4_takePlace 4 = .ok (.getfield 86, 3) := by decide +kernel
theorem dX4_takePlace_7 : decode cX4_takePlace 7 = .ok (.bipush 7, 2) := by decide +kernel
theorem dX4_takePlace_9 : decode cX4_takePlace 9 = .ok (.if_icmp .ge 12, 3) := by decide +kernel
theorem dX4_takePlace_12 : decode cX4_takePlace 12 = .ok (.aload_n 0, 1) := by decide +kernel
theorem dX4_takePlace_13 : decode cX4_takePlace 13 = .ok (.iconst 0, 1) := by decide +kernel
theorem dX4_takePlace_14 : decode cX4_takePlace 14 = .ok (.iconst 5, 1) := by decide +kernel
theorem dX4_takePlace_15 : decode cX4_takePlace 15 = .ok (.invokevirtual 89, 3) := by decide +kernel
theorem dX4_takePlace_18 : decode cX4_takePlace 18 = .ok (.ifCond .ne 5, 3) := by decide +kernel
theorem dX4_takePlace_21 : decode cX4_takePlace 21 = .ok (.iconst 0, 1) := by decide +kernel
theorem dX4_takePlace_22 : decode cX4_takePlace 22 = .ok (.ireturn, 1) := by decide +kernel
theorem dX4_takePlace_23 : decode cX4_takePlace 23 = .ok (.aload_n 0, 1) := by decide +kernel
theorem dX4_takePlace_24 : decode cX4_takePlace 24 = .ok (.getfield 93, 3) := by decide +kernel
theorem dX4_takePlace_27 : decode cX4_takePlace 27 = .ok (.istore_n 1, 1) := by decide +kernel
theorem dX4_takePlace_28 : decode cX4_takePlace 28 = .ok (.aload_n 0, 1) := by decide +kernel
theorem dX4_takePlace_29 : decode cX4_takePlace 29 = .ok (.iconst 0, 1) := by decide +kernel
theorem dX4_takePlace_30 : decode cX4_takePlace 30 = .ok (.bipush 9, 2) := by decide +kernel
theorem dX4_takePlace_32 : decode cX4_takePlace 32 = .ok (.invokevirtual 89, 3) := by decide +kernel
theorem dX4_takePlace_35 : decode cX4_takePlace 35 = .ok (.ifCond .ne 5, 3) := by decide +kernel
theorem dX4_takePlace_38 : decode cX4_takePlace 38 = .ok (.iconst 0, 1) := by decide +kernel
theorem dX4_takePlace_39 : decode cX4_takePlace 39 = .ok (.ireturn, 1) := by decide +kernel
theorem dX4_takePlace_40 : decode cX4_takePlace 40 = .ok (.aload_n 0, 1) := by decide +kernel
theorem dX4_takePlace_41 : decode cX4_takePlace 41 = .ok (.getfield 93, 3) := by decide +kernel
theorem dX4_takePlace_44 : decode cX4_takePlace 44 = .ok (.istore_n 2, 1) := by decide +kernel
theorem dX4_takePlace_45 : decode cX4_takePlace 45 = .ok (.aload_n 0, 1) := by decide +kernel
theorem dX4_takePlace_46 : decode cX4_takePlace 46 = .ok (.iconst 0, 1) := by decide +kernel
theorem dX4_takePlace_47 : decode cX4_takePlace 47 = .ok (.bipush 9, 2) := by decide +kernel
theorem dX4_takePlace_49 : decode cX4_takePlace 49 = .ok (.invokevirtual 89, 3) := by decide +kernel
theorem dX4_takePlace_52 : decode cX4_takePlace 52 = .ok (.ifCond .ne 5, 3) := by decide +kernel
theorem dX4_takePlace_55 : decode cX4_takePlace 55 = .ok (.iconst 0, 1) := by decide +kernel
theorem dX4_takePlace_56 : decode cX4_takePlace 56 = .ok (.ireturn, 1) := by decide +kernel
theorem dX4_takePlace_57 : decode cX4_takePlace 57 = .ok (.aload_n 0, 1) := by decide +kernel
theorem dX4_takePlace_58 : decode cX4_takePlace 58 = .ok (.getfield 12, 3) := by decide +kernel
theorem dX4_takePlace_61 : decode cX4_takePlace 61 = .ok (.iload_n 1, 1) := by decide +kernel
theorem dX4_takePlace_62 : decode cX4_takePlace 62 = .ok (.iload_n 2, 1) := by decide +kernel
theorem dX4_takePlace_63 : decode cX4_takePlace 63 = .ok (.aload_n 0, 1) := by decide +kernel
theorem dX4_takePlace_64 : decode cX4_takePlace 64 = .ok (.getfield 93, 3) := by decide +kernel
theorem dX4_takePlace_67 : decode cX4_takePlace 67 = .ok (.invokevirtual 96, 3) := by decide +kernel
theorem dX4_takePlace_70 : decode cX4_takePlace 70 = .ok (.pop, 1) := by decide +kernel
theorem dX4_takePlace_71 : decode cX4_takePlace 71 = .ok (.aload_n 0, 1) := by decide +kernel
theorem dX4_takePlace_72 : decode cX4_takePlace 72 = .ok (.invokevirtual 57, 3) := by decide +kernel
theorem dX4_takePlace_75 : decode cX4_takePlace 75 = .ok (.ireturn, 1) := by decide +kernel
theorem dX4_takeCrow_0 : decode cX4_takeCrow 0 = .ok (.aload_n 0, 1) := by decide +kernel
theorem dX4_takeCrow_1 : decode cX4_takeCrow 1 = .ok (.getfield 12, 3) := by decide +kernel
theorem dX4_takeCrow_4 : decode cX4_takeCrow 4 = .ok (.getfield 100, 3) := by decide +kernel
theorem dX4_takeCrow_7 : decode cX4_takeCrow 7 = .ok (.iconst 3, 1) := by decide +kernel
theorem dX4_takeCrow_8 : decode cX4_takeCrow 8 = .ok (.if_icmp .ge 12, 3) := by decide +kernel
theorem dX4_takeCrow_11 : decode cX4_takeCrow 11 = .ok (.aload_n 0, 1) := by decide +kernel
theorem dX4_takeCrow_12 : decode cX4_takeCrow 12 = .ok (.iconst 0, 1) := by decide +kernel
theorem dX4_takeCrow_13 : decode cX4_takeCrow 13 = .ok (.iconst 5, 1) := by decide +kernel
theorem dX4_takeCrow_14 : decode cX4_takeCrow 14 = .ok (.invokevirtual 89, 3) := by decide +kernel
theorem dX4_takeCrow_17 : decode cX4_takeCrow 17 = .ok (.ifCond .ne 5, 3) := by decide +kernel
theorem dX4_takeCrow_20 : decode cX4_takeCrow 20 = .ok (.iconst 0, 1) := by decide +kernel
theorem dX4_takeCrow_21 : decode cX4_takeCrow 21 = .ok (.ireturn, 1) := by decide +kernel
theorem dX4_takeCrow_22 : decode cX4_takeCrow 22 = .ok (.aload_n 0, 1) := by decide +kernel
theorem dX4_takeCrow_23 : decode cX4_takeCrow 23 = .ok (.getfield 93, 3) := by decide +kernel
theorem dX4_takeCrow_26 : decode cX4_takeCrow 26 = .ok (.istore_n 1, 1) := by decide +kernel
theorem dX4_takeCrow_27 : decode cX4_takeCrow 27 = .ok (.aload_n 0, 1) := by decide +kernel
theorem dX4_takeCrow_28 : decode cX4_takeCrow 28 = .ok (.iconst 0, 1) := by decide +kernel
theorem dX4_takeCrow_29 : decode cX4_takeCrow 29 = .ok (.aload_n 0, 1) := by decide +kernel
theorem dX4_takeCrow_30 : decode cX4_takeCrow 30 = .ok (.getfield 12, 3) := by decide +kernel
theorem dX4_takeCrow_33 : decode cX4_takeCrow 33 = .ok (.getfield 86, 3) := by decide +kernel
theorem dX4_takeCrow_36 : decode cX4_takeCrow 36 = .ok (.iconst 1, 1) := by decide +kernel
theorem dX4_takeCrow_37 : decode cX4_takeCrow 37 = .ok (.isub, 1) := by decide +kernel
theorem dX4_takeCrow_38 : decode cX4_takeCrow 38 = .ok (.invokevirtual 89, 3) := by decide +kernel
theorem dX4_takeCrow_41 : decode cX4_takeCrow 41 = .ok (.ifCond .ne 5, 3) := by decide +kernel
theorem dX4_takeCrow_44 : decode cX4_takeCrow 44 = .ok (.iconst 0, 1) := by decide +kernel
theorem dX4_takeCrow_45 : decode cX4_takeCrow 45 = .ok (.ireturn, 1) := by decide +kernel
theorem dX4_takeCrow_46 : decode cX4_takeCrow 46 = .ok (.aload_n 0, 1) := by decide +kernel
theorem dX4_takeCrow_47 : decode cX4_takeCrow 47 = .ok (.getfield 12, 3) := by decide +kernel
theorem dX4_takeCrow_50 : decode cX4_takeCrow 50 = .ok (.iload_n 1, 1) := by decide +kernel
theorem dX4_takeCrow_51 : decode cX4_takeCrow 51 = .ok (.aload_n 0, 1) := by decide +kernel
theorem dX4_takeCrow_52 : decode cX4_takeCrow 52 = .ok (.getfield 93, 3) := by decide +kernel
theorem dX4_takeCrow_55 : decode cX4_takeCrow 55 = .ok (.invokevirtual 103, 3) := by decide +kernel
theorem dX4_takeCrow_58 : decode cX4_takeCrow 58 = .ok (.pop, 1) := by decide +kernel
theorem dX4_takeCrow_59 : decode cX4_takeCrow 59 = .ok (.aload_n 0, 1) := by decide +kernel
theorem dX4_takeCrow_60 : decode cX4_takeCrow 60 = .ok (.invokevirtual 57, 3) := by decide +kernel
theorem dX4_takeCrow_63 : decode cX4_takeCrow 63 = .ok (.ireturn, 1) := by decide +kernel
theorem dX4_takeFlight_0 : decode cX4_takeFlight 0 = .ok (.aload_n 0, 1) := by decide +kernel
theorem dX4_takeFlight_1 : decode cX4_takeFlight 1 = .ok (.iconst 0, 1) := by decide +kernel
theorem dX4_takeFlight_2 : decode cX4_takeFlight 2 = .ok (.aload_n 0, 1) := by decide +kernel
theorem dX4_takeFlight_3 : decode cX4_takeFlight 3 = .ok (.getfield 12, 3) := by decide +kernel
theorem dX4_takeFlight_6 : decode cX4_takeFlight 6 = .ok (.getfield 100, 3) := by decide +kernel
theorem dX4_takeFlight_9 : decode cX4_takeFlight 9 = .ok (.iconst 1, 1) := by decide +kernel
theorem dX4_takeFlight_10 : decode cX4_takeFlight 10 = .ok (.isub, 1) := by decide +kernel
theorem dX4_takeFlight_11 : decode cX4_takeFlight 11 = .ok (.invokevirtual 89, 3) := by decide +kernel
theorem dX4_takeFlight_14 : decode cX4_takeFlight 14 = .ok (.ifCond .ne 5, 3) := by decide +kernel
theorem dX4_takeFlight_17 : decode cX4_takeFlight 17 = .ok (.iconst 0, 1) := by decide +kernel
theorem dX4_takeFlight_18 : decode cX4_takeFlight 18 = .ok (.ireturn, 1) := by decide +kernel
theorem dX4_takeFlight_19 : decode cX4_takeFlight 19 = .ok (.aload_n 0, 1) := by decide +kernel
theorem dX4_takeFlight_20 : decode cX4_takeFlight 20 = .ok (.getfield 93, 3) := by decide +kernel
theorem dX4_takeFlight_23 : decode cX4_takeFlight 23 = .ok (.istore_n 1, 1) := by decide +kernel
theorem dX4_takeFlight_24 : decode cX4_takeFlight 24 = .ok (.aload_n 0, 1) := by decide +kernel
theorem dX4_takeFlight_25 : decode cX4_takeFlight 25 = .ok (.iconst 0, 1) := by decide +kernel
theorem dX4_takeFlight_26 : decode cX4_takeFlight 26 = .ok (.aload_n 0, 1) := by decide +kernel
theorem dX4_takeFlight_27 : decode cX4_takeFlight 27 = .ok (.getfield 12, 3) := by decide +kernel
theorem dX4_takeFlight_30 : decode cX4_takeFlight 30 = .ok (.getfield 86, 3) := by decide +kernel
theorem dX4_takeFlight_33 : decode cX4_takeFlight 33 = .ok (.iconst 1, 1) := by decide +kernel
theorem dX4_takeFlight_34 : decode cX4_takeFlight 34 = .ok (.isub, 1) := by decide +kernel
theorem dX4_takeFlight_35 : decode cX4_takeFlight 35 = .ok (.invokevirtual 89, 3) := by decide +kernel
theorem dX4_takeFlight_38 : decode cX4_takeFlight 38 = .ok (.ifCond .eq 22, 3) := by decide +kernel
theorem dX4_takeFlight_41 : decode cX4_takeFlight 41 = .ok (.aload_n 0, 1) := by decide +kernel
theorem dX4_takeFlight_42 : decode cX4_takeFlight 42 = .ok (.getfield 12, 3) := by decide +kernel
theorem dX4_takeFlight_45 : decode cX4_takeFlight 45 = .ok (.getfield 106, 3) := by decide +kernel
theorem dX4_takeFlight_48 : decode cX4_takeFlight 48 = .ok (.getfield 110, 3) := by decide +kernel
theorem dX4_takeFlight_51 : decode cX4_takeFlight 51 = .ok (.iload_n 1, 1) := by decide +kernel
theorem dX4_takeFlight_52 : decode cX4_takeFlight 52 = .ok (.iaload, 1) := by decide +kernel
theorem dX4_takeFlight_53 : decode cX4_takeFlight 53 = .ok (.aload_n 0, 1) := by decide +kernel
theorem dX4_takeFlight_54 : decode cX4_takeFlight 54 = .ok (.getfield 93, 3) := by decide +kernel
theorem dX4_takeFlight_57 : decode cX4_takeFlight 57 = .ok (.if_icmp .ne 5, 3) := by decide +kernel
theorem dX4_takeFlight_60 : decode cX4_takeFlight 60 = .ok (.iconst 0, 1) := by decide +kernel
theorem dX4_takeFlight_61 : decode cX4_takeFlight 61 = .ok (.ireturn, 1) := by decide +kernel
theorem dX4_takeFlight_62 : decode cX4_takeFlight 62 = .ok (.aload_n 0, 1) := by decide +kernel
theorem dX4_takeFlight_63 : decode cX4_takeFlight 63 = .ok (.getfield 12, 3) := by decide +kernel
theorem dX4_takeFlight_66 : decode cX4_takeFlight 66 = .ok (.aload_n 0, 1) := by decide +kernel
theorem dX4_takeFlight_67 : decode cX4_takeFlight 67 = .ok (.getfield 12, 3) := by decide +kernel
theorem dX4_takeFlight_70 : decode cX4_takeFlight 70 = .ok (.getfield 106, 3) := by decide +kernel
theorem dX4_takeFlight_73 : decode cX4_takeFlight 73 = .ok (.iload_n 1, 1) := by decide +kernel
theorem dX4_takeFlight_74 : decode cX4_takeFlight 74 = .ok (.aload_n 0, 1) := by decide +kernel
theorem dX4_takeFlight_75 : decode cX4_takeFlight 75 = .ok (.getfield 93, 3) := by decide +kernel
theorem dX4_takeFlight_78 : decode cX4_takeFlight 78 = .ok (.invokevirtual 116, 3) := by decide +kernel
theorem dX4_takeFlight_81 : decode cX4_takeFlight 81 = .ok (.pop, 1) := by decide +kernel
theorem dX4_takeFlight_82 : decode cX4_takeFlight 82 = .ok (.aload_n 0, 1) := by decide +kernel
theorem dX4_takeFlight_83 : decode cX4_takeFlight 83 = .ok (.invokevirtual 57, 3) := by decide +kernel
theorem dX4_takeFlight_86 : decode cX4_takeFlight 86 = .ok (.ireturn, 1) := by decide +kernel
theorem dX4_takeRest_0 : decode cX4_takeRest 0 = .ok (.aload_n 0, 1) := by decide +kernel
theorem dX4_takeRest_1 : decode cX4_takeRest 1 = .ok (.iconst 0, 1) := by decide +kernel
theorem dX4_takeRest_2 : decode cX4_takeRest 2 = .ok (.aload_n 0, 1) := by decide +kernel
theorem dX4_takeRest_3 : decode cX4_takeRest 3 = .ok (.getfield 12, 3) := by decide +kernel
theorem dX4_takeRest_6 : decode cX4_takeRest 6 = .ok (.getfield 100, 3) := by decide +kernel
theorem dX4_takeRest_9 : decode cX4_takeRest 9 = .ok (.iconst 1, 1) := by decide +kernel
theorem dX4_takeRest_10 : decode cX4_takeRest 10 = .ok (.isub, 1) := by decide +kernel
theorem dX4_takeRest_11 : decode cX4_takeRest 11 = .ok (.invokevirtual 89, 3) := by decide +kernel
theorem dX4_takeRest_14 : decode cX4_takeRest 14 = .ok (.ifCond .ne 5, 3) := by decide +kernel
theorem dX4_takeRest_17 : decode cX4_takeRest 17 = .ok (.iconst 0, 1) := by decide +kernel
theorem dX4_takeRest_18 : decode cX4_takeRest 18 = .ok (.ireturn, 1) := by decide +kernel
theorem dX4_takeRest_19 : decode cX4_takeRest 19 = .ok (.aload_n 0, 1) := by decide +kernel
theorem dX4_takeRest_20 : decode cX4_takeRest 20 = .ok (.getfield 12, 3) := by decide +kernel
theorem dX4_takeRest_23 : decode cX4_takeRest 23 = .ok (.getfield 106, 3) := by decide +kernel
theorem dX4_takeRest_26 : decode cX4_takeRest 26 = .ok (.aload_n 0, 1) := by decide +kernel
theorem dX4_takeRest_27 : decode cX4_takeRest 27 = .ok (.getfield 93, 3) := by decide +kernel
theorem dX4_takeRest_30 : decode cX4_takeRest 30 = .ok (.invokevirtual 119, 3) := by decide +kernel
theorem dX4_takeRest_33 : decode cX4_takeRest 33 = .ok (.aload_n 0, 1) := by decide +kernel
theorem dX4_takeRest_34 : decode cX4_takeRest 34 = .ok (.invokevirtual 57, 3) := by decide +kernel
theorem dX4_takeRest_37 : decode cX4_takeRest 37 = .ok (.ireturn, 1) := by decide +kernel
theorem dX4_takeHours_0 : decode cX4_takeHours 0 = .ok (.aload_n 0, 1) := by decide +kernel
theorem dX4_takeHours_1 : decode cX4_takeHours 1 = .ok (.iconst 1, 1) := by decide +kernel
theorem dX4_takeHours_2 : decode cX4_takeHours 2 = .ok (.bipush 99, 2) := by decide +kernel
theorem dX4_takeHours_4 : decode cX4_takeHours 4 = .ok (.invokevirtual 89, 3) := by decide +kernel
theorem dX4_takeHours_7 : decode cX4_takeHours 7 = .ok (.ifCond .ne 5, 3) := by decide +kernel
theorem dX4_takeHours_10 : decode cX4_takeHours 10 = .ok (.iconst 0, 1) := by decide +kernel
theorem dX4_takeHours_11 : decode cX4_takeHours 11 = .ok (.ireturn, 1) := by decide +kernel
theorem dX4_takeHours_12 : decode cX4_takeHours 12 = .ok (.aload_n 0, 1) := by decide +kernel
theorem dX4_takeHours_13 : decode cX4_takeHours 13 = .ok (.getfield 12, 3) := by decide +kernel
theorem dX4_takeHours_16 : decode cX4_takeHours 16 = .ok (.getfield 106, 3) := by decide +kernel
theorem dX4_takeHours_19 : decode cX4_takeHours 19 = .ok (.dup, 1) := by decide +kernel
theorem dX4_takeHours_20 : decode cX4_takeHours 20 = .ok (.getfield 123, 3) := by decide +kernel
theorem dX4_takeHours_23 : decode cX4_takeHours 23 = .ok (.aload_n 0, 1) := by decide +kernel
theorem dX4_takeHours_24 : decode cX4_takeHours 24 = .ok (.getfield 93, 3) := by decide +kernel
theorem dX4_takeHours_27 : decode cX4_takeHours 27 = .ok (.iadd, 1) := by decide +kernel
theorem dX4_takeHours_28 : decode cX4_takeHours 28 = .ok (.putfield 123, 3) := by decide +kernel
theorem dX4_takeHours_31 : decode cX4_takeHours 31 = .ok (.aload_n 0, 1) := by decide +kernel
theorem dX4_takeHours_32 : decode cX4_takeHours 32 = .ok (.invokevirtual 57, 3) := by decide +kernel
theorem dX4_takeHours_35 : decode cX4_takeHours 35 = .ok (.ireturn, 1) := by decide +kernel
theorem dX4_takeStop_0 : decode cX4_takeStop 0 = .ok (.aload_n 0, 1) := by decide +kernel
theorem dX4_takeStop_1 : decode cX4_takeStop 1 = .ok (.invokevirtual 38, 3) := by decide +kernel
theorem dX4_takeStop_4 : decode cX4_takeStop 4 = .ok (.aload_n 0, 1) := by decide +kernel
theorem dX4_takeStop_5 : decode cX4_takeStop 5 = .ok (.getfield 41, 3) := by decide +kernel
theorem dX4_takeStop_8 : decode cX4_takeStop 8 = .ok (.iconst 3, 1) := by decide +kernel
theorem dX4_takeStop_9 : decode cX4_takeStop 9 = .ok (.if_icmp .ne 7, 3) := by decide +kernel
theorem dX4_takeStop_12 : decode cX4_takeStop 12 = .ok (.iconst 1, 1) := by decide +kernel
theorem dX4_takeStop_13 : decode cX4_takeStop 13 = .ok (.goto 4, 3) := by decide +kernel
theorem dX4_takeStop_16 : decode cX4_takeStop 16 = .ok (.iconst 0, 1) := by decide +kernel
theorem dX4_takeStop_17 : decode cX4_takeStop 17 = .ok (.ireturn, 1) := by decide +kernel
theorem dX4_takeNumber_0 : decode cX4_takeNumber 0 = .ok (.aload_n 0, 1) := by decide +kernel
theorem dX4_takeNumber_1 : decode cX4_takeNumber 1 = .ok (.invokevirtual 38, 3) := by decide +kernel
theorem dX4_takeNumber_4 : decode cX4_takeNumber 4 = .ok (.aload_n 0, 1) := by decide +kernel
theorem dX4_takeNumber_5 : decode cX4_takeNumber 5 = .ok (.getfield 41, 3) := by decide +kernel
theorem dX4_takeNumber_8 : decode cX4_takeNumber 8 = .ok (.iconst 2, 1) := by decide +kernel
theorem dX4_takeNumber_9 : decode cX4_takeNumber 9 = .ok (.if_icmp .ne 23, 3) := by decide +kernel
theorem dX4_takeNumber_12 : decode cX4_takeNumber 12 = .ok (.aload_n 0, 1) := by decide +kernel
theorem dX4_takeNumber_13 : decode cX4_takeNumber 13 = .ok (.getfield 93, 3) := by decide +kernel
theorem dX4_takeNumber_16 : decode cX4_takeNumber 16 = .ok (.iload_n 1, 1) := by decide +kernel
theorem dX4_takeNumber_17 : decode cX4_takeNumber 17 = .ok (.if_icmp .lt 15, 3) := by decide +kernel
theorem dX4_takeNumber_20 : decode cX4_takeNumber 20 = .ok (.aload_n 0, 1) := by decide +kernel
theorem dX4_takeNumber_21 : decode cX4_takeNumber 21 = .ok (.getfield 93, 3) := by decide +kernel
theorem dX4_takeNumber_24 : decode cX4_takeNumber 24 = .ok (.iload_n 2, 1) := by decide +kernel
theorem dX4_takeNumber_25 : decode cX4_takeNumber 25 = .ok (.if_icmp .gt 7, 3) := by decide +kernel
theorem dX4_takeNumber_28 : decode cX4_takeNumber 28 = .ok (.iconst 1, 1) := by decide +kernel
theorem dX4_takeNumber_29 : decode cX4_takeNumber 29 = .ok (.goto 4, 3) := by decide +kernel
theorem dX4_takeNumber_32 : decode cX4_takeNumber 32 = .ok (.iconst 0, 1) := by decide +kernel
theorem dX4_takeNumber_33 : decode cX4_takeNumber 33 = .ok (.ireturn, 1) := by decide +kernel
theorem dX4_spells_0 : decode cX4_spells 0 = .ok (.aload_n 0, 1) := by decide +kernel
theorem dX4_spells_1 : decode cX4_spells 1 = .ok (.getfield 32, 3) := by decide +kernel
theorem dX4_spells_4 : decode cX4_spells 4 = .ok (.aload_n 0, 1) := by decide +kernel
theorem dX4_spells_5 : decode cX4_spells 5 = .ok (.getfield 48, 3) := by decide +kernel
theorem dX4_spells_8 : decode cX4_spells 8 = .ok (.isub, 1) := by decide +kernel
theorem dX4_spells_9 : decode cX4_spells 9 = .ok (.aload_n 1, 1) := by decide +kernel
theorem dX4_spells_10 : decode cX4_spells 10 = .ok (.invokevirtual 126, 3) := by decide +kernel
theorem dX4_spells_13 : decode cX4_spells 13 = .ok (.if_icmp .eq 5, 3) := by decide +kernel
theorem dX4_spells_16 : decode cX4_spells 16 = .ok (.iconst 0, 1) := by decide +kernel
theorem dX4_spells_17 : decode cX4_spells 17 = .ok (.ireturn, 1) := by decide +kernel
theorem dX4_spells_18 : decode cX4_spells 18 = .ok (.iconst 0, 1) := by decide +kernel
theorem dX4_spells_19 : decode cX4_spells 19 = .ok (.istore_n 2, 1) := by decide +kernel
theorem dX4_spells_20 : decode cX4_spells 20 = .ok (.iload_n 2, 1) := by decide +kernel
theorem dX4_spells_21 : decode cX4_spells 21 = .ok (.aload_n 1, 1) := by decide +kernel
theorem dX4_spells_22 : decode cX4_spells 22 = .ok (.invokevirtual 126, 3) := by decide +kernel
theorem dX4_spells_25 : decode cX4_spells 25 = .ok (.if_icmp .ge 30, 3) := by decide +kernel
theorem dX4_spells_28 : decode cX4_spells 28 = .ok (.aload_n 0, 1) := by decide +kernel
theorem dX4_spells_29 : decode cX4_spells 29 = .ok (.getfield 18, 3) := by decide +kernel
theorem dX4_spells_32 : decode cX4_spells 32 = .ok (.aload_n 0, 1) := by decide +kernel
theorem dX4_spells_33 : decode cX4_spells 33 = .ok (.getfield 48, 3) := by decide +kernel
theorem dX4_spells_36 : decode cX4_spells 36 = .ok (.iload_n 2, 1) := by decide +kernel
theorem dX4_spells_37 : decode cX4_spells 37 = .ok (.iadd, 1) := by decide +kernel
theorem dX4_spells_38 : decode cX4_spells 38 = .ok (.baload, 1) := by decide +kernel
theorem dX4_spells_39 : decode cX4_spells 39 = .ok (.aload_n 1, 1) := by decide +kernel
theorem dX4_spells_40 : decode cX4_spells 40 = .ok (.iload_n 2, 1) := by decide +kernel
theorem dX4_spells_41 : decode cX4_spells 41 = .ok (.invokevirtual 131, 3) := by decide +kernel
theorem dX4_spells_44 : decode cX4_spells 44 = .ok (.if_icmp .eq 5, 3) := by decide +kernel
theorem dX4_spells_47 : decode cX4_spells 47 = .ok (.iconst 0, 1) := by decide +kernel
theorem dX4_spells_48 : decode cX4_spells 48 = .ok (.ireturn, 1) := by decide +kernel
theorem dX4_spells_49 : decode cX4_spells 49 = .ok (.iinc 2 1, 3) := by decide +kernel
theorem dX4_spells_52 : decode cX4_spells 52 = .ok (.goto (-32), 3) := by decide +kernel
theorem dX4_spells_55 : decode cX4_spells 55 = .ok (.iconst 1, 1) := by decide +kernel
theorem dX4_spells_56 : decode cX4_spells 56 = .ok (.ireturn, 1) := by decide +kernel
theorem dX4_takeToken_0 : decode cX4_takeToken 0 = .ok (.aload_n 0, 1) := by decide +kernel
theorem dX4_takeToken_1 : decode cX4_takeToken 1 = .ok (.getfield 32, 3) := by decide +kernel
theorem dX4_takeToken_4 : decode cX4_takeToken 4 = .ok (.aload_n 0, 1) := by decide +kernel
theorem dX4_takeToken_5 : decode cX4_takeToken 5 = .ok (.getfield 28, 3) := by decide +kernel
theorem dX4_takeToken_8 : decode cX4_takeToken 8 = .ok (.if_icmp .ge 30, 3) := by decide +kernel
theorem dX4_takeToken_11 : decode cX4_takeToken 11 = .ok (.aload_n 0, 1) := by decide +kernel
theorem dX4_takeToken_12 : decode cX4_takeToken 12 = .ok (.getfield 18, 3) := by decide +kernel
theorem dX4_takeToken_15 : decode cX4_takeToken 15 = .ok (.aload_n 0, 1) := by decide +kernel
theorem dX4_takeToken_16 : decode cX4_takeToken 16 = .ok (.getfield 32, 3) := by decide +kernel
theorem dX4_takeToken_19 : decode cX4_takeToken 19 = .ok (.baload, 1) := by decide +kernel
theorem dX4_takeToken_20 : decode cX4_takeToken 20 = .ok (.bipush 32, 2) := by decide +kernel
theorem dX4_takeToken_22 : decode cX4_takeToken 22 = .ok (.if_icmp .ne 16, 3) := by decide +kernel
theorem dX4_takeToken_25 : decode cX4_takeToken 25 = .ok (.aload_n 0, 1) := by decide +kernel
theorem dX4_takeToken_26 : decode cX4_takeToken 26 = .ok (.dup, 1) := by decide +kernel
theorem dX4_takeToken_27 : decode cX4_takeToken 27 = .ok (.getfield 32, 3) := by decide +kernel
theorem dX4_takeToken_30 : decode cX4_takeToken 30 = .ok (.iconst 1, 1) := by decide +kernel
theorem dX4_takeToken_31 : decode cX4_takeToken 31 = .ok (.iadd, 1) := by decide +kernel
theorem dX4_takeToken_32 : decode cX4_takeToken 32 = .ok (.putfield 32, 3) := by decide +kernel
theorem dX4_takeToken_35 : decode cX4_takeToken 35 = .ok (.goto (-35), 3) := by decide +kernel
theorem dX4_takeToken_38 : decode cX4_takeToken 38 = .ok (.aload_n 0, 1) := by decide +kernel
theorem dX4_takeToken_39 : decode cX4_takeToken 39 = .ok (.aload_n 0, 1) := by decide +kernel
theorem dX4_takeToken_40 : decode cX4_takeToken 40 = .ok (.getfield 32, 3) := by decide +kernel
theorem dX4_takeToken_43 : decode cX4_takeToken 43 = .ok (.putfield 48, 3) := by decide +kernel
theorem dX4_takeToken_46 : decode cX4_takeToken 46 = .ok (.aload_n 0, 1) := by decide +kernel
theorem dX4_takeToken_47 : decode cX4_takeToken 47 = .ok (.getfield 32, 3) := by decide +kernel
theorem dX4_takeToken_50 : decode cX4_takeToken 50 = .ok (.aload_n 0, 1) := by decide +kernel
theorem dX4_takeToken_51 : decode cX4_takeToken 51 = .ok (.getfield 28, 3) := by decide +kernel
theorem dX4_takeToken_54 : decode cX4_takeToken 54 = .ok (.if_icmp .lt 11, 3) := by decide +kernel
theorem dX4_takeToken_57 : decode cX4_takeToken 57 = .ok (.aload_n 0, 1) := by decide +kernel
theorem dX4_takeToken_58 : decode cX4_takeToken 58 = .ok (.iconst 0, 1) := by decide +kernel
theorem dX4_takeToken_59 : decode cX4_takeToken 59 = .ok (.putfield 41, 3) := by decide +kernel
theorem dX4_takeToken_62 : decode cX4_takeToken 62 = .ok (.goto 80, 3) := by decide +kernel
theorem dX4_takeToken_65 : decode cX4_takeToken 65 = .ok (.aload_n 0, 1) := by decide +kernel
theorem dX4_takeToken_66 : decode cX4_takeToken 66 = .ok (.getfield 18, 3) := by decide +kernel
theorem dX4_takeToken_69 : decode cX4_takeToken 69 = .ok (.aload_n 0, 1) := by decide +kernel
theorem dX4_takeToken_70 : decode cX4_takeToken 70 = .ok (.getfield 32, 3) := by decide +kernel
theorem dX4_takeToken_73 : decode cX4_takeToken 73 = .ok (.baload, 1) := by decide +kernel
theorem dX4_takeToken_74 : decode cX4_takeToken 74 = .ok (.invokestatic 135, 3) := by decide +kernel
theorem dX4_takeToken_77 : decode cX4_takeToken 77 = .ok (.ifCond .eq 10, 3) := by decide +kernel
theorem dX4_takeToken_80 : decode cX4_takeToken 80 = .ok (.aload_n 0, 1) := by decide +kernel
theorem dX4_takeToken_81 : decode cX4_takeToken 81 = .ok (.invokevirtual 138, 3) := by decide +kernel
theorem dX4_takeToken_84 : decode cX4_takeToken 84 = .ok (.goto 58, 3) := by decide +kernel
theorem dX4_takeToken_87 : decode cX4_takeToken 87 = .ok (.aload_n 0, 1) := by decide +kernel
theorem dX4_takeToken_88 : decode cX4_takeToken 88 = .ok (.getfield 18, 3) := by decide +kernel
theorem dX4_takeToken_91 : decode cX4_takeToken 91 = .ok (.aload_n 0, 1) := by decide +kernel
theorem dX4_takeToken_92 : decode cX4_takeToken 92 = .ok (.getfield 32, 3) := by decide +kernel
theorem dX4_takeToken_95 : decode cX4_takeToken 95 = .ok (.baload, 1) := by decide +kernel
theorem dX4_takeToken_96 : decode cX4_takeToken 96 = .ok (.invokestatic 141, 3) := by decide +kernel
theorem dX4_takeToken_99 : decode cX4_takeToken 99 = .ok (.ifCond .eq 10, 3) := by decide +kernel
theorem dX4_takeToken_102 : decode cX4_takeToken 102 = .ok (.aload_n 0, 1) := by decide +kernel
theorem dX4_takeToken_103 : decode cX4_takeToken 103 = .ok (.invokevirtual 144, 3) := by decide +kernel
theorem dX4_takeToken_106 : decode cX4_takeToken 106 = .ok (.goto 36, 3) := by decide +kernel
theorem dX4_takeToken_109 : decode cX4_takeToken 109 = .ok (.aload_n 0, 1) := by decide +kernel
theorem dX4_takeToken_110 : decode cX4_takeToken 110 = .ok (.aload_n 0, 1) := by decide +kernel
theorem dX4_takeToken_111 : decode cX4_takeToken 111 = .ok (.getfield 18, 3) := by decide +kernel
theorem dX4_takeToken_114 : decode cX4_takeToken 114 = .ok (.aload_n 0, 1) := by decide +kernel
theorem dX4_takeToken_115 : decode cX4_takeToken 115 = .ok (.getfield 32, 3) := by decide +kernel
theorem dX4_takeToken_118 : decode cX4_takeToken 118 = .ok (.baload, 1) := by decide +kernel
theorem dX4_takeToken_119 : decode cX4_takeToken 119 = .ok (.bipush 59, 2) := by decide +kernel
theorem dX4_takeToken_121 : decode cX4_takeToken 121 = .ok (.if_icmp .ne 7, 3) := by decide +kernel
theorem dX4_takeToken_124 : decode cX4_takeToken 124 = .ok (.iconst 3, 1) := by decide +kernel
theorem dX4_takeToken_125 : decode cX4_takeToken 125 = .ok (.goto 4, 3) := by decide +kernel
theorem dX4_takeToken_128 : decode cX4_takeToken 128 = .ok (.iconst 4, 1) := by decide +kernel
theorem dX4_takeToken_129 : decode cX4_takeToken 129 = .ok (.putfield 41, 3) := by decide +kernel
theorem dX4_takeToken_132 : decode cX4_takeToken 132 = .ok (.aload_n 0, 1) := by decide +kernel
theorem dX4_takeToken_133 : decode cX4_takeToken 133 = .ok (.dup, 1) := by decide +kernel
theorem dX4_takeToken_134 : decode cX4_takeToken 134 = .ok (.getfield 32, 3) := by decide +kernel
theorem dX4_takeToken_137 : decode cX4_takeToken 137 = .ok (.iconst 1, 1) := by decide +kernel
theorem dX4_takeToken_138 : decode cX4_takeToken 138 = .ok (.iadd, 1) := by decide +kernel
theorem dX4_takeToken_139 : decode cX4_takeToken 139 = .ok (.putfield 32, 3) := by decide +kernel
theorem dX4_takeToken_142 : decode cX4_takeToken 142 = .ok (.return_, 1) := by decide +kernel
theorem dX4_takeLetters_0 : decode cX4_takeLetters 0 = .ok (.aload_n 0, 1) := by decide +kernel
theorem dX4_takeLetters_1 : decode cX4_takeLetters 1 = .ok (.getfield 32, 3) := by decide +kernel
theorem dX4_takeLetters_4 : decode cX4_takeLetters 4 = .ok (.aload_n 0, 1) := by decide +kernel
theorem dX4_takeLetters_5 : decode cX4_takeLetters 5 = .ok (.getfield 28, 3) := by decide +kernel
theorem dX4_takeLetters_8 : decode cX4_takeLetters 8 = .ok (.if_icmp .ge 31, 3) := by decide +kernel
theorem dX4_takeLetters_11 : decode cX4_takeLetters 11 = .ok (.aload_n 0, 1) := by decide +kernel
theorem dX4_takeLetters_12 : decode cX4_takeLetters 12 = .ok (.getfield 18, 3) := by decide +kernel
theorem dX4_takeLetters_15 : decode cX4_takeLetters 15 = .ok (.aload_n 0, 1) := by decide +kernel
theorem dX4_takeLetters_16 : decode cX4_takeLetters 16 = .ok (.getfield 32, 3) := by decide +kernel
theorem dX4_takeLetters_19 : decode cX4_takeLetters 19 = .ok (.baload, 1) := by decide +kernel
theorem dX4_takeLetters_20 : decode cX4_takeLetters 20 = .ok (.invokestatic 135, 3) := by decide +kernel
theorem dX4_takeLetters_23 : decode cX4_takeLetters 23 = .ok (.ifCond .eq 16, 3) := by decide +kernel
theorem dX4_takeLetters_26 : decode cX4_takeLetters 26 = .ok (.aload_n 0, 1) := by decide +kernel
theorem dX4_takeLetters_27 : decode cX4_takeLetters 27 = .ok (.dup, 1) := by decide +kernel
theorem dX4_takeLetters_28 : decode cX4_takeLetters 28 = .ok (.getfield 32, 3) := by decide +kernel
theorem dX4_takeLetters_31 : decode cX4_takeLetters 31 = .ok (.iconst 1, 1) := by decide +kernel
theorem dX4_takeLetters_32 : decode cX4_takeLetters 32 = .ok (.iadd, 1) := by decide +kernel
theorem dX4_takeLetters_33 : decode cX4_takeLetters 33 = .ok (.putfield 32, 3) := by decide +kernel
theorem dX4_takeLetters_36 : decode cX4_takeLetters 36 = .ok (.goto (-36), 3) := by decide +kernel
theorem dX4_takeLetters_39 : decode cX4_takeLetters 39 = .ok (.aload_n 0, 1) := by decide +kernel
theorem dX4_takeLetters_40 : decode cX4_takeLetters 40 = .ok (.iconst 1, 1) := by decide +kernel
theorem dX4_takeLetters_41 : decode cX4_takeLetters 41 = .ok (.putfield 41, 3) := by decide +kernel
theorem dX4_takeLetters_44 : decode cX4_takeLetters 44 = .ok (.return_, 1) := by decide +kernel
theorem dX4_takeFigures_0 : decode cX4_takeFigures 0 = .ok (.aload_n 0, 1) := by decide +kernel
theorem dX4_takeFigures_1 : decode cX4_takeFigures 1 = .ok (.iconst 0, 1) := by decide +kernel
theorem dX4_takeFigures_2 : decode cX4_takeFigures 2 = .ok (.putfield 93, 3) := by decide +kernel
theorem dX4_takeFigures_5 : decode cX4_takeFigures 5 = .ok (.aload_n 0, 1) := by decide +kernel
theorem dX4_takeFigures_6 : decode cX4_takeFigures 6 = .ok (.getfield 32, 3) := by decide +kernel
theorem dX4_takeFigures_9 : decode cX4_takeFigures 9 = .ok (.aload_n 0, 1) := by decide +kernel
theorem dX4_takeFigures_10 : decode cX4_takeFigures 10 = .ok (.getfield 28, 3) := by decide +kernel
theorem dX4_takeFigures_13 : decode cX4_takeFigures 13 = .ok (.if_icmp .ge 68, 3) := by decide +kernel
theorem dX4_takeFigures_16 : decode cX4_takeFigures 16 = .ok (.aload_n 0, 1) := by decide +kernel
theorem dX4_takeFigures_17 : decode cX4_takeFigures 17 = .ok (.getfield 18, 3) := by decide +kernel
theorem dX4_takeFigures_20 : decode cX4_takeFigures 20 = .ok (.aload_n 0, 1) := by decide +kernel
theorem dX4_takeFigures_21 : decode cX4_takeFigures 21 = .ok (.getfield 32, 3) := by decide +kernel
theorem dX4_takeFigures_24 : decode cX4_takeFigures 24 = .ok (.baload, 1) := by decide +kernel
theorem dX4_takeFigures_25 : decode cX4_takeFigures 25 = .ok (.invokestatic 141, 3) := by decide +kernel
theorem dX4_takeFigures_28 : decode cX4_takeFigures 28 = .ok (.ifCond .eq 53, 3) := by decide +kernel
theorem dX4_takeFigures_31 : decode cX4_takeFigures 31 = .ok (.aload_n 0, 1) := by decide +kernel
theorem dX4_takeFigures_32 : decode cX4_takeFigures 32 = .ok (.getfield 32, 3) := by decide +kernel
theorem dX4_takeFigures_35 : decode cX4_takeFigures 35 = .ok (.aload_n 0, 1) := by decide +kernel
theorem dX4_takeFigures_36 : decode cX4_takeFigures 36 = .ok (.getfield 48, 3) := by decide +kernel
theorem dX4_takeFigures_39 : decode cX4_takeFigures 39 = .ok (.isub, 1) := by decide +kernel
theorem dX4_takeFigures_40 : decode cX4_takeFigures 40 = .ok (.iconst 2, 1) := by decide +kernel
theorem dX4_takeFigures_41 : decode cX4_takeFigures 41 = .ok (.if_icmp .ge 27, 3) := by decide +kernel
theorem dX4_takeFigures_44 : decode cX4_takeFigures 44 = .ok (.aload_n 0, 1) := by decide +kernel
theorem dX4_takeFigures_45 : decode cX4_takeFigures 45 = .ok (.bipush 10, 2) := by decide +kernel
theorem dX4_takeFigures_47 : decode cX4_takeFigures 47 = .ok (.aload_n 0, 1) := by decide +kernel
theorem dX4_takeFigures_48 : decode cX4_takeFigures 48 = .ok (.getfield 93, 3) := by decide +kernel
theorem dX4_takeFigures_51 : decode cX4_takeFigures 51 = .ok (.imul, 1) := by decide +kernel
theorem dX4_takeFigures_52 : decode cX4_takeFigures 52 = .ok (.aload_n 0, 1) := by decide +kernel
theorem dX4_takeFigures_53 : decode cX4_takeFigures 53 = .ok (.getfield 18, 3) := by decide +kernel
theorem dX4_takeFigures_56 : decode cX4_takeFigures 56 = .ok (.aload_n 0, 1) := by decide +kernel
theorem dX4_takeFigures_57 : decode cX4_takeFigures 57 = .ok (.getfield 32, 3) := by decide +kernel
theorem dX4_takeFigures_60 : decode cX4_takeFigures 60 = .ok (.baload, 1) := by decide +kernel
theorem dX4_takeFigures_61 : decode cX4_takeFigures 61 = .ok (.iadd, 1) := by decide +kernel
theorem dX4_takeFigures_62 : decode cX4_takeFigures 62 = .ok (.bipush 48, 2) := by decide +kernel
theorem dX4_takeFigures_64 : decode cX4_takeFigures 64 = .ok (.isub, 1) := by decide +kernel
theorem dX4_takeFigures_65 : decode cX4_takeFigures 65 = .ok (.putfield 93, 3) := by decide +kernel
theorem dX4_takeFigures_68 : decode cX4_takeFigures 68 = .ok (.aload_n 0, 1) := by decide +kernel
theorem dX4_takeFigures_69 : decode cX4_takeFigures 69 = .ok (.dup, 1) := by decide +kernel
theorem dX4_takeFigures_70 : decode cX4_takeFigures 70 = .ok (.getfield 32, 3) := by decide +kernel
theorem dX4_takeFigures_73 : decode cX4_takeFigures 73 = .ok (.iconst 1, 1) := by decide +kernel
theorem dX4_takeFigures_74 : decode cX4_takeFigures 74 = .ok (.iadd, 1) := by decide +kernel
theorem dX4_takeFigures_75 : decode cX4_takeFigures 75 = .ok (.putfield 32, 3) := by decide +kernel
theorem dX4_takeFigures_78 : decode cX4_takeFigures 78 = .ok (.goto (-73), 3) := by decide +kernel
theorem dX4_takeFigures_81 : decode cX4_takeFigures 81 = .ok (.aload_n 0, 1) := by decide +kernel
theorem dX4_takeFigures_82 : decode cX4_takeFigures 82 = .ok (.aload_n 0, 1) := by decide +kernel
theorem dX4_takeFigures_83 : decode cX4_takeFigures 83 = .ok (.getfield 32, 3) := by decide +kernel
theorem dX4_takeFigures_86 : decode cX4_takeFigures 86 = .ok (.aload_n 0, 1) := by decide +kernel
theorem dX4_takeFigures_87 : decode cX4_takeFigures 87 = .ok (.getfield 48, 3) := by decide +kernel
theorem dX4_takeFigures_90 : decode cX4_takeFigures 90 = .ok (.isub, 1) := by decide +kernel
theorem dX4_takeFigures_91 : decode cX4_takeFigures 91 = .ok (.iconst 2, 1) := by decide +kernel
theorem dX4_takeFigures_92 : decode cX4_takeFigures 92 = .ok (.if_icmp .gt 7, 3) := by decide +kernel
theorem dX4_takeFigures_95 : decode cX4_takeFigures 95 = .ok (.iconst 2, 1) := by decide +kernel
theorem dX4_takeFigures_96 : decode cX4_takeFigures 96 = .ok (.goto 4, 3) := by decide +kernel
theorem dX4_takeFigures_99 : decode cX4_takeFigures 99 = .ok (.iconst 4, 1) := by decide +kernel
theorem dX4_takeFigures_100 : decode cX4_takeFigures 100 = .ok (.putfield 41, 3) := by decide +kernel
theorem dX4_takeFigures_103 : decode cX4_takeFigures 103 = .ok (.return_, 1) := by decide +kernel
theorem dX4_isLetter_0 : decode cX4_isLetter 0 = .ok (.iload_n 0, 1) := by decide +kernel
theorem dX4_isLetter_1 : decode cX4_isLetter 1 = .ok (.bipush 97, 2) := by decide +kernel
theorem dX4_isLetter_3 : decode cX4_isLetter 3 = .ok (.if_icmp .lt 13, 3) := by decide +kernel
theorem dX4_isLetter_6 : decode cX4_isLetter 6 = .ok (.iload_n 0, 1) := by decide +kernel
theorem dX4_isLetter_7 : decode cX4_isLetter 7 = .ok (.bipush 122, 2) := by decide +kernel
theorem dX4_isLetter_9 : decode cX4_isLetter 9 = .ok (.if_icmp .gt 7, 3) := by decide +kernel
theorem dX4_isLetter_12 : decode cX4_isLetter 12 = .ok (.iconst 1, 1) := by decide +kernel
theorem dX4_isLetter_13 : decode cX4_isLetter 13 = .ok (.goto 4, 3) := by decide +kernel
theorem dX4_isLetter_16 : decode cX4_isLetter 16 = .ok (.iconst 0, 1) := by decide +kernel
theorem dX4_isLetter_17 : decode cX4_isLetter 17 = .ok (.ireturn, 1) := by decide +kernel
theorem dX4_isFigure_0 : decode cX4_isFigure 0 = .ok (.iload_n 0, 1) := by decide +kernel
theorem dX4_isFigure_1 : decode cX4_isFigure 1 = .ok (.bipush 48, 2) := by decide +kernel
theorem dX4_isFigure_3 : decode cX4_isFigure 3 = .ok (.if_icmp .lt 13, 3) := by decide +kernel
theorem dX4_isFigure_6 : decode cX4_isFigure 6 = .ok (.iload_n 0, 1) := by decide +kernel
theorem dX4_isFigure_7 : decode cX4_isFigure 7 = .ok (.bipush 57, 2) := by decide +kernel
theorem dX4_isFigure_9 : decode cX4_isFigure 9 = .ok (.if_icmp .gt 7, 3) := by decide +kernel
theorem dX4_isFigure_12 : decode cX4_isFigure 12 = .ok (.iconst 1, 1) := by decide +kernel
theorem dX4_isFigure_13 : decode cX4_isFigure 13 = .ok (.goto 4, 3) := by decide +kernel
theorem dX4_isFigure_16 : decode cX4_isFigure 16 = .ok (.iconst 0, 1) := by decide +kernel
theorem dX4_isFigure_17 : decode cX4_isFigure 17 = .ok (.ireturn, 1) := by decide +kernel
theorem dX5_init_0 : decode cX5_init 0 = .ok (.aload_n 0, 1) := by decide +kernel
theorem dX5_init_1 : decode cX5_init 1 = .ok (.invokespecial 3, 3) := by decide +kernel
theorem dX5_init_4 : decode cX5_init 4 = .ok (.aload_n 0, 1) := by decide +kernel
theorem dX5_init_5 : decode cX5_init 5 = .ok (.bipush 49, 2) := by decide +kernel
theorem dX5_init_7 : decode cX5_init 7 = .ok (.newarray .int, 2) := by decide +kernel
theorem dX5_init_9 : decode cX5_init 9 = .ok (.putfield 9, 3) := by decide +kernel
theorem dX5_init_12 : decode cX5_init 12 = .ok (.aload_n 0, 1) := by decide +kernel
theorem dX5_init_13 : decode cX5_init 13 = .ok (.bipush 7, 2) := by decide +kernel
theorem dX5_init_15 : decode cX5_init 15 = .ok (.newarray .int, 2) := by decide +kernel
theorem dX5_init_17 : decode cX5_init 17 = .ok (.putfield 15, 3) := by decide +kernel
theorem dX5_init_20 : decode cX5_init 20 = .ok (.aload_n 0, 1) := by decide +kernel
theorem dX5_init_21 : decode cX5_init 21 = .ok (.sipush 448, 3) := by decide +kernel
theorem dX5_init_24 : decode cX5_init 24 = .ok (.newarray .int, 2) := by decide +kernel
theorem dX5_init_26 : decode cX5_init 26 = .ok (.putfield 18, 3) := by decide +kernel
theorem dX5_init_29 : decode cX5_init 29 = .ok (.aload_n 0, 1) := by decide +kernel
theorem dX5_init_30 : decode cX5_init 30 = .ok (.bipush 49, 2) := by decide +kernel
theorem dX5_init_32 : decode cX5_init 32 = .ok (.newarray .int, 2) := by decide +kernel
theorem dX5_init_34 : decode cX5_init 34 = .ok (.putfield 21, 3) := by decide +kernel
theorem dX5_init_37 : decode cX5_init 37 = .ok (.return_, 1) := by decide +kernel
theorem dX5_measure_0 : decode cX5_measure 0 = .ok (.aload_n 0, 1) := by decide +kernel
theorem dX5_measure_1 : decode cX5_measure 1 = .ok (.aload_n 1, 1) := by decide +kernel
theorem dX5_measure_2 : decode cX5_measure 2 = .ok (.getfield 24, 3) := by decide +kernel
theorem dX5_measure_5 : decode cX5_measure 5 = .ok (.putfield 30, 3) := by decide +kernel
theorem dX5_measure_8 : decode cX5_measure 8 = .ok (.aload_n 0, 1) := by decide +kernel
theorem dX5_measure_9 : decode cX5_measure 9 = .ok (.iconst 0, 1) := by decide +kernel
theorem dX5_measure_10 : decode cX5_measure 10 = .ok (.putfield 31, 3) := by decide +kernel
theorem dX5_measure_13 : decode cX5_measure 13 = .ok (.iconst 0, 1) := by decide +kernel
theorem dX5_measure_14 : decode cX5_measure 14 = .ok (.istore_n 3, 1) := by decide +kernel
theorem dX5_measure_15 : decode cX5_measure 15 = .ok (.iload_n 3, 1) := by decide +kernel
theorem dX5_measure_16 : decode cX5_measure 16 = .ok (.aload_n 0, 1) := by decide +kernel
theorem dX5_measure_17 : decode cX5_measure 17 = .ok (.getfield 30, 3) := by decide +kernel
theorem dX5_measure_20 : decode cX5_measure 20 = .ok (.if_icmp .ge 47, 3) := by decide +kernel
theorem dX5_measure_23 : decode cX5_measure 23 = .ok (.iconst 0, 1) := by decide +kernel
theorem dX5_measure_24 : decode cX5_measure 24 = .ok (.istore 4, 2) := by decide +kernel
theorem dX5_measure_26 : decode cX5_measure 26 = .ok (.iload 4, 2) := by decide +kernel
theorem dX5_measure_28 : decode cX5_measure 28 = .ok (.aload_n 0, 1) := by decide +kernel
theorem dX5_measure_29 : decode cX5_measure 29 = .ok (.getfield 30, 3) := by decide +kernel
theorem dX5_measure_32 : decode cX5_measure 32 = .ok (.if_icmp .ge 29, 3) := by decide +kernel
theorem dX5_measure_35 : decode cX5_measure 35 = .ok (.aload_n 0, 1) := by decide +kernel
theorem dX5_measure_36 : decode cX5_measure 36 = .ok (.getfield 9, 3) := by decide +kernel
theorem dX5_measure_39 : decode cX5_measure 39 = .ok (.iload_n 3, 1) := by decide +kernel
theorem dX5_measure_40 : decode cX5_measure 40 = .ok (.bipush 7, 2) := by decide +kernel
theorem dX5_measure_42 : decode cX5_measure 42 = .ok (.imul, 1) := by decide +kernel
theorem dX5_measure_43 : decode cX5_measure 43 = .ok (.iload 4, 2) := by decide +kernel
theorem dX5_measure_45 : decode cX5_measure 45 = .ok (.iadd, 1) := by decide +kernel
theorem dX5_measure_46 : decode cX5_measure 46 = .ok (.aload_n 1, 1) := by decide +kernel
theorem dX5_measure_47 : decode cX5_measure 47 = .ok (.iload_n 2, 1) := by decide +kernel
theorem dX5_measure_48 : decode cX5_measure 48 = .ok (.iload_n 3, 1) := by decide +kernel
theorem dX5_measure_49 : decode cX5_measure 49 = .ok (.iload 4, 2) := by decide +kernel
theorem dX5_measure_51 : decode cX5_measure 51 = .ok (.invokevirtual 34, 3) := by decide +kernel
theorem dX5_measure_54 : decode cX5_measure 54 = .ok (.iastore, 1) := by decide +kernel
theorem dX5_measure_55 : decode cX5_measure 55 = .ok (.iinc 4 1, 3) := by decide +kernel
theorem dX5_measure_58 : decode cX5_measure 58 = .ok (.goto (-32), 3) := by decide +kernel
theorem dX5_measure_61 : decode cX5_measure 61 = .ok (.iinc 3 1, 3) := by decide +kernel
theorem dX5_measure_64 : decode cX5_measure 64 = .ok (.goto (-49), 3) := by decide +kernel
theorem dX5_measure_67 : decode cX5_measure 67 = .ok (.return_, 1) := by decide +kernel
theorem dX5_answer_0 : decode cX5_answer 0 = .ok (.iload_n 1, 1) := by decide +kernel
theorem dX5_answer_1 : decode cX5_answer 1 = .ok (.iconst (-1), 1) := by decide +kernel
theorem dX5_answer_2 : decode cX5_answer 2 = .ok (.if_icmp .ne 5, 3) := by decide +kernel
theorem dX5_answer_5 : decode cX5_answer 5 = .ok (.iload_n 2, 1) := by decide +kernel
theorem dX5_answer_6 : decode cX5_answer 6 = .ok (.ireturn, 1) := by decide +kernel
theorem dX5_answer_7 : decode cX5_answer 7 = .ok (.iload_n 1, 1) := by decide +kernel
theorem dX5_answer_8 : decode cX5_answer 8 = .ok (.ifCond .lt 20, 3) := by decide +kernel
theorem dX5_answer_11 : decode cX5_answer 11 = .ok (.iload_n 1, 1) := by decide +kernel
theorem dX5_answer_12 : decode cX5_answer 12 = .ok (.aload_n 0, 1) := by decide +kernel
theorem dX5_answer_13 : decode cX5_answer 13 = .ok (.getfield 31, 3) := by decide +kernel
theorem dX5_answer_16 : decode cX5_answer 16 = .ok (.if_icmp .ge 12, 3) := by decide +kernel
theorem dX5_answer_19 : decode cX5_answer 19 = .ok (.aload_n 0, 1) := by decide +kernel
theorem dX5_answer_20 : decode cX5_answer 20 = .ok (.getfield 21, 3) := by decide +kernel
theorem dX5_answer_23 : decode cX5_answer 23 = .ok (.iload_n 1, 1) := by decide +kernel
theorem dX5_answer_24 : decode cX5_answer 24 = .ok (.iaload, 1) := by decide +kernel
theorem dX5_answer_25 : decode cX5_answer 25 = .ok (.goto 5, 3) := by decide +kernel
theorem dX5_answer_28 : decode cX5_answer 28 = .ok (.bipush (-5), 2) := by decide +kernel
theorem dX5_answer_30 : decode cX5_answer 30 = .ok (.ireturn, 1) := by decide +kernel
theorem dX5_addFound_0 : decode cX5_addFound 0 = .ok (.aload_n 0, 1) := by decide +kernel
theorem dX5_addFound_1 : decode cX5_addFound 1 = .ok (.getfield 31, 3) := by decide +kernel
theorem dX5_addFound_4 : decode cX5_addFound 4 = .ok (.bipush 49, 2) := by decide +kernel
theorem dX5_addFound_6 : decode cX5_addFound 6 = .ok (.if_icmp .ge 23, 3) := by decide +kernel
theorem dX5_addFound_9 : decode cX5_addFound 9 = .ok (.aload_n 0, 1) := by decide +kernel
theorem dX5_addFound_10 : decode cX5_addFound 10 = .ok (.getfield 21, 3) := by decide +kernel
theorem dX5_addFound_13 : decode cX5_addFound 13 = .ok (.aload_n 0, 1) := by decide +kernel
theorem dX5_addFound_14 : decode cX5_addFound 14 = .ok (.getfield 31, 3) := by decide +kernel
theorem dX5_addFound_17 : decode cX5_addFound 17 = .ok (.iload_n 1, 1) := by decide +kernel
theorem dX5_addFound_18 : decode cX5_addFound 18 = .ok (.iastore, 1) := by decide +kernel
theorem dX5_addFound_19 : decode cX5_addFound 19 = .ok (.aload_n 0, 1) := by decide +kernel
theorem dX5_addFound_20 : decode cX5_addFound 20 = .ok (.dup, 1) := by decide +kernel
theorem dX5_addFound_21 : decode cX5_addFound 21 = .ok (.getfield 31, 3) := by decide +kernel
theorem dX5_addFound_24 : decode cX5_addFound 24 = .ok (.iconst 1, 1) := by decide +kernel
theorem dX5_addFound_25 : decode cX5_addFound 25 = .ok (.iadd, 1) := by decide +kernel
theorem dX5_addFound_26 : decode cX5_addFound 26 = .ok (.putfield 31, 3) := by decide +kernel
theorem dX5_addFound_29 : decode cX5_addFound 29 = .ok (.return_, 1) := by decide +kernel
theorem dX5_findWay_0 : decode cX5_findWay 0 = .ok (.iconst 0, 1) := by decide +kernel
theorem dX5_findWay_1 : decode cX5_findWay 1 = .ok (.istore_n 3, 1) := by decide +kernel
theorem dX5_findWay_2 : decode cX5_findWay 2 = .ok (.iload_n 3, 1) := by decide +kernel
theorem dX5_findWay_3 : decode cX5_findWay 3 = .ok (.aload_n 0, 1) := by decide +kernel
theorem dX5_findWay_4 : decode cX5_findWay 4 = .ok (.getfield 30, 3) := by decide +kernel
theorem dX5_findWay_7 : decode cX5_findWay 7 = .ok (.if_icmp .ge 26, 3) := by decide +kernel
theorem dX5_findWay_10 : decode cX5_findWay 10 = .ok (.aload_n 0, 1) := by decide +kernel
theorem dX5_findWay_11 : decode cX5_findWay 11 = .ok (.getfield 15, 3) := by decide +kernel
theorem dX5_findWay_14 : decode cX5_findWay 14 = .ok (.iload_n 3, 1) := by decide +kernel
theorem dX5_findWay_15 : decode cX5_findWay 15 = .ok (.iload_n 3, 1) := by decide +kernel
theorem dX5_findWay_16 : decode cX5_findWay 16 = .ok (.iload_n 2, 1) := by decide +kernel
theorem dX5_findWay_17 : decode cX5_findWay 17 = .ok (.if_icmp .ne 7, 3) := by decide +kernel
theorem dX5_findWay_20 : decode cX5_findWay 20 = .ok (.iconst 0, 1) := by decide +kernel
theorem dX5_findWay_21 : decode cX5_findWay 21 = .ok (.goto 5, 3) := by decide +kernel
theorem dX5_findWay_24 : decode cX5_findWay 24 = .ok (.ldc 38, 2) := by decide +kernel
theorem dX5_findWay_26 : decode cX5_findWay 26 = .ok (.iastore, 1) := by decide +kernel
theorem dX5_findWay_27 : decode cX5_findWay 27 = .ok (.iinc 3 1, 3) := by decide +kernel
theorem dX5_findWay_30 : decode cX5_findWay 30 = .ok (.goto (-28), 3) := by decide +kernel
theorem dX5_findWay_33 : decode cX5_findWay 33 = .ok (.iconst 1, 1) := by decide +kernel
theorem dX5_findWay_34 : decode cX5_findWay 34 = .ok (.istore_n 3, 1) := by decide +kernel
theorem dX5_findWay_35 : decode cX5_findWay 35 = .ok (.iload_n 3, 1) := by decide +kernel
theorem dX5_findWay_36 : decode cX5_findWay 36 = .ok (.aload_n 0, 1) := by decide +kernel
theorem dX5_findWay_37 : decode cX5_findWay 37 = .ok (.getfield 30, 3) := by decide +kernel
theorem dX5_findWay_40 : decode cX5_findWay 40 = .ok (.if_icmp .ge 33, 3) := by decide +kernel
theorem dX5_findWay_43 : decode cX5_findWay 43 = .ok (.iconst 0, 1) := by decide +kernel
theorem dX5_findWay_44 : decode cX5_findWay 44 = .ok (.istore 4, 2) := by decide +kernel
theorem dX5_findWay_46 : decode cX5_findWay 46 = .ok (.iload 4, 2) := by decide +kernel
theorem dX5_findWay_48 : decode cX5_findWay 48 = .ok (.aload_n 0, 1) := by decide +kernel
theorem dX5_findWay_49 : decode cX5_findWay 49 = .ok (.getfield 30, 3) := by decide +kernel
theorem dX5_findWay_52 : decode cX5_findWay 52 = .ok (.if_icmp .ge 15, 3) := by decide +kernel
theorem dX5_findWay_55 : decode cX5_findWay 55 = .ok (.aload_n 0, 1) := by decide +kernel
theorem dX5_findWay_56 : decode cX5_findWay 56 = .ok (.iload 4, 2) := by decide +kernel
theorem dX5_findWay_58 : decode cX5_findWay 58 = .ok (.invokevirtual 39, 3) := by decide +kernel
theorem dX5_findWay_61 : decode cX5_findWay 61 = .ok (.iinc 4 1, 3) := by decide +kernel
theorem dX5_findWay_64 : decode cX5_findWay 64 = .ok (.goto (-18), 3) := by decide +kernel
theorem dX5_findWay_67 : decode cX5_findWay 67 = .ok (.iinc 3 1, 3) := by decide +kernel
theorem dX5_findWay_70 : decode cX5_findWay 70 = .ok (.goto (-35), 3) := by decide +kernel
theorem dX5_findWay_73 : decode cX5_findWay 73 = .ok (.iload_n 1, 1) := by decide +kernel
theorem dX5_findWay_74 : decode cX5_findWay 74 = .ok (.istore_n 3, 1) := by decide +kernel
theorem dX5_findWay_75 : decode cX5_findWay 75 = .ok (.iconst 0, 1) := by decide +kernel
theorem dX5_findWay_76 : decode cX5_findWay 76 = .ok (.istore 4, 2) := by decide +kernel
theorem dX5_findWay_78 : decode cX5_findWay 78 = .ok (.iload 4, 2) := by decide +kernel
theorem dX5_findWay_80 : decode cX5_findWay 80 = .ok (.aload_n 0, 1) := by decide +kernel
theorem dX5_findWay_81 : decode cX5_findWay 81 = .ok (.getfield 30, 3) := by decide +kernel
theorem dX5_findWay_84 : decode cX5_findWay 84 = .ok (.if_icmp .ge 25, 3) := by decide +kernel
theorem dX5_findWay_87 : decode cX5_findWay 87 = .ok (.iload_n 3, 1) := by decide +kernel
theorem dX5_findWay_88 : decode cX5_findWay 88 = .ok (.iload_n 2, 1) := by decide +kernel
theorem dX5_findWay_89 : decode cX5_findWay 89 = .ok (.if_icmp .eq 20, 3) := by decide +kernel
theorem dX5_findWay_92 : decode cX5_findWay 92 = .ok (.aload_n 0, 1) := by decide +kernel
theorem dX5_findWay_93 : decode cX5_findWay 93 = .ok (.iload_n 3, 1) := by decide +kernel
theorem dX5_findWay_94 : decode cX5_findWay 94 = .ok (.invokevirtual 43, 3) := by decide +kernel
theorem dX5_findWay_97 : decode cX5_findWay 97 = .ok (.istore_n 3, 1) := by decide +kernel
theorem dX5_findWay_98 : decode cX5_findWay 98 = .ok (.aload_n 0, 1) := by decide +kernel
theorem dX5_findWay_99 : decode cX5_findWay 99 = .ok (.iload_n 3, 1) := by decide +kernel
theorem dX5_findWay_100 : decode cX5_findWay 100 = .ok (.invokevirtual 47, 3) := by decide +kernel
theorem dX5_findWay_103 : decode cX5_findWay 103 = .ok (.iinc 4 1, 3) := by decide +kernel
theorem dX5_findWay_106 : decode cX5_findWay 106 = .ok (.goto (-28), 3) := by decide +kernel
theorem dX5_findWay_109 : decode cX5_findWay 109 = .ok (.aload_n 0, 1) := by decide +kernel
theorem dX5_findWay_110 : decode cX5_findWay 110 = .ok (.getfield 15, 3) := by decide +kernel
theorem dX5_findWay_113 : decode cX5_findWay 113 = .ok (.iload_n 1, 1) := by decide +kernel
theorem dX5_findWay_114 : decode cX5_findWay 114 = .ok (.iaload, 1) := by decide +kernel
theorem dX5_findWay_115 : decode cX5_findWay 115 = .ok (.bipush 8, 2) := by decide +kernel
theorem dX5_findWay_117 : decode cX5_findWay 117 = .ok (.idiv, 1) := by decide +kernel
theorem dX5_findWay_118 : decode cX5_findWay 118 = .ok (.ireturn, 1) := by decide +kernel
theorem dX5_partCost_0 : decode cX5_partCost 0 = .ok (.aload_n 0, 1) := by decide +kernel
theorem dX5_partCost_1 : decode cX5_partCost 1 = .ok (.getfield 9, 3) := by decide +kernel
theorem dX5_partCost_4 : decode cX5_partCost 4 = .ok (.iload_n 1, 1) := by decide +kernel
theorem dX5_partCost_5 : decode cX5_partCost 5 = .ok (.bipush 7, 2) := by decide +kernel
theorem dX5_partCost_7 : decode cX5_partCost 7 = .ok (.imul, 1) := by decide +kernel
theorem dX5_partCost_8 : decode cX5_partCost 8 = .ok (.iload_n 2, 1) := by decide +kernel
theorem dX5_partCost_9 : decode cX5_partCost 9 = .ok (.iadd, 1) := by decide +kernel
theorem dX5_partCost_10 : decode cX5_partCost 10 = .ok (.iaload, 1) := by decide +kernel
theorem dX5_partCost_11 : decode cX5_partCost 11 = .ok (.bipush 8, 2) := by decide +kernel
theorem dX5_partCost_13 : decode cX5_partCost 13 = .ok (.imul, 1) := by decide +kernel
theorem dX5_partCost_14 : decode cX5_partCost 14 = .ok (.iconst 1, 1) := by decide +kernel
theorem dX5_partCost_15 : decode cX5_partCost 15 = .ok (.iadd, 1) := by decide +kernel
theorem dX5_partCost_16 : decode cX5_partCost 16 = .ok (.ireturn, 1) := by decide +kernel
theorem dX5_shortenFrom_0 : decode cX5_shortenFrom 0 = .ok (.iconst 0, 1) := by decide +kernel
theorem dX5_shortenFrom_1 : decode cX5_shortenFrom 1 = .ok (.istore_n 2, 1) := by decide +kernel
theorem dX5_shortenFrom_2 : decode cX5_shortenFrom 2 = .ok (.iload_n 2, 1) := by decide +kernel
theorem dX5_shortenFrom_3 : decode cX5_shortenFrom 3 = .ok (.aload_n 0, 1) := by decide +kernel
theorem dX5_shortenFrom_4 : decode cX5_shortenFrom 4 = .ok (.getfield 30, 3) := by decide +kernel
theorem dX5_shortenFrom_7 : decode cX5_shortenFrom 7 = .ok (.if_icmp .ge 42, 3) := by decide +kernel
theorem dX5_shortenFrom_10 : decode cX5_shortenFrom 10 = .ok (.iload_n 2, 1) := by decide +kernel
theorem dX5_shortenFrom_11 : decode cX5_shortenFrom 11 = .ok (.iload_n 1, 1) := by decide +kernel
theorem dX5_shortenFrom_12 : decode cX5_shortenFrom 12 = .ok (.if_icmp .eq 31, 3) := by decide +kernel
theorem dX5_shortenFrom_15 : decode cX5_shortenFrom 15 = .ok (.aload_n 0, 1) := by decide +kernel
theorem dX5_shortenFrom_16 : decode cX5_shortenFrom 16 = .ok (.getfield 15, 3) := by decide +kernel
theorem dX5_shortenFrom_19 : decode cX5_shortenFrom 19 = .ok (.iload_n 1, 1) := by decide +kernel
theorem dX5_shortenFrom_20 : decode cX5_shortenFrom 20 = .ok (.aload_n 0, 1) := by decide +kernel
theorem dX5_shortenFrom_21 : decode cX5_shortenFrom 21 = .ok (.getfield 15, 3) := by decide +kernel
theorem dX5_shortenFrom_24 : decode cX5_shortenFrom 24 = .ok (.iload_n 1, 1) := by decide +kernel
theorem dX5_shortenFrom_25 : decode cX5_shortenFrom 25 = .ok (.iaload, 1) := by decide +kernel
theorem dX5_shortenFrom_26 : decode cX5_shortenFrom 26 = .ok (.aload_n 0, 1) := by decide +kernel
theorem dX5_shortenFrom_27 : decode cX5_shortenFrom 27 = .ok (.iload_n 1, 1) := by decide +kernel
theorem dX5_shortenFrom_28 : decode cX5_shortenFrom 28 = .ok (.iload_n 2, 1) := by decide +kernel
theorem dX5_shortenFrom_29 : decode cX5_shortenFrom 29 = .ok (.invokevirtual 50, 3) := by decide +kernel
theorem dX5_shortenFrom_32 : decode cX5_shortenFrom 32 = .ok (.aload_n 0, 1) := by decide +kernel
theorem dX5_shortenFrom_33 : decode cX5_shortenFrom 33 = .ok (.getfield 15, 3) := by decide +kernel
theorem dX5_shortenFrom_36 : decode cX5_shortenFrom 36 = .ok (.iload_n 2, 1) := by decide +kernel
theorem dX5_shortenFrom_37 : decode cX5_shortenFrom 37 = .ok (.iaload, 1) := by decide +kernel
theorem dX5_shortenFrom_38 : decode cX5_shortenFrom 38 = .ok (.iadd, 1) := by decide +kernel
theorem dX5_shortenFrom_39 : decode cX5_shortenFrom 39 = .ok (.invokestatic 54, 3) := by decide +kernel
theorem dX5_shortenFrom_42 : decode cX5_shortenFrom 42 = .ok (.iastore, 1) := by decide +kernel
theorem dX5_shortenFrom_43 : decode cX5_shortenFrom 43 = .ok (.iinc 2 1, 3) := by decide +kernel
theorem dX5_shortenFrom_46 : decode cX5_shortenFrom 46 = .ok (.goto (-44), 3) := by decide +kernel
theorem dX5_shortenFrom_49 : decode cX5_shortenFrom 49 = .ok (.return_, 1) := by decide +kernel
theorem dX5_firstStepFrom_0 : decode cX5_firstStepFrom 0 = .ok (.iconst 0, 1) := by decide +kernel
theorem dX5_firstStepFrom_1 : decode cX5_firstStepFrom 1 = .ok (.istore_n 2, 1) := by decide +kernel
theorem dX5_firstStepFrom_2 : decode cX5_firstStepFrom 2 = .ok (.iload_n 2, 1) := by decide +kernel
theorem dX5_firstStepFrom_3 : decode cX5_firstStepFrom 3 = .ok (.aload_n 0, 1) := by decide +kernel
theorem dX5_firstStepFrom_4 : decode cX5_firstStepFrom 4 = .ok (.getfield 30, 3) := by decide +kernel
theorem dX5_firstStepFrom_7 : decode cX5_firstStepFrom 7 = .ok (.if_icmp .ge 38, 3) := by decide +kernel
theorem dX5_firstStepFrom_10 : decode cX5_firstStepFrom 10 = .ok (.iload_n 2, 1) := by decide +kernel
theorem dX5_firstStepFrom_11 : decode cX5_firstStepFrom 11 = .ok (.iload_n 1, 1) := by decide +kernel
theorem dX5_firstStepFrom_12 : decode cX5_firstStepFrom 12 = .ok (.if_icmp .eq 27, 3) := by decide +kernel
theorem dX5_firstStepFrom_15 : decode cX5_firstStepFrom 15 = .ok (.aload_n 0, 1) := by decide +kernel
theorem dX5_firstStepFrom_16 : decode cX5_firstStepFrom 16 = .ok (.iload_n 1, 1) := by decide +kernel
theorem dX5_firstStepFrom_17 : decode cX5_firstStepFrom 17 = .ok (.iload_n 2, 1) := by decide +kernel
theorem dX5_firstStepFrom_18 : decode cX5_firstStepFrom 18 = .ok (.invokevirtual 50, 3) := by decide +kernel
theorem dX5_firstStepFrom_21 : decode cX5_firstStepFrom 21 = .ok (.aload_n 0, 1) := by decide +kernel
theorem dX5_firstStepFrom_22 : decode cX5_firstStepFrom 22 = .ok (.getfield 15, 3) := by decide +kernel
theorem dX5_firstStepFrom_25 : decode cX5_firstStepFrom 25 = .ok (.iload_n 2, 1) := by decide +kernel
theorem dX5_firstStepFrom_26 : decode cX5_firstStepFrom 26 = .ok (.iaload, 1) := by decide +kernel
theorem dX5_firstStepFrom_27 : decode cX5_firstStepFrom 27 = .ok (.iadd, 1) := by decide +kernel
theorem dX5_firstStepFrom_28 : decode cX5_firstStepFrom 28 = .ok (.aload_n 0, 1) := by decide +kernel
theorem dX5_firstStepFrom_29 : decode cX5_firstStepFrom 29 = .ok (.getfield 15, 3) := by decide +kernel
theorem dX5_firstStepFrom_32 : decode cX5_firstStepFrom 32 = .ok (.iload_n 1, 1) := by decide +kernel
theorem dX5_firstStepFrom_33 : decode cX5_firstStepFrom 33 = .ok (.iaload, 1) := by decide +kernel
theorem dX5_firstStepFrom_34 : decode cX5_firstStepFrom 34 = .ok (.if_icmp .ne 5, 3) := by decide +kernel
theorem dX5_firstStepFrom_37 : decode cX5_firstStepFrom 37 = .ok (.iload_n 2, 1) := by decide +kernel
theorem dX5_firstStepFrom_38 : decode cX5_firstStepFrom 38 = .ok (.ireturn, 1) := by decide +kernel
theorem dX5_firstStepFrom_39 : decode cX5_firstStepFrom 39 = .ok (.iinc 2 1, 3) := by decide +kernel
theorem dX5_firstStepFrom_42 : decode cX5_firstStepFrom 42 = .ok (.goto (-40), 3) := by decide +kernel
theorem dX5_firstStepFrom_45 : decode cX5_firstStepFrom 45 = .ok (.iload_n 1, 1) := by decide +kernel
theorem dX5_firstStepFrom_46 : decode cX5_firstStepFrom 46 = .ok (.ireturn, 1) := by decide +kernel
theorem dX5_findRound_0 : decode cX5_findRound 0 = .ok (.iconst 1, 1) := by decide +kernel
theorem dX5_findRound_1 : decode cX5_findRound 1 = .ok (.aload_n 0, 1) := by decide +kernel
theorem dX5_findRound_2 : decode cX5_findRound 2 = .ok (.getfield 30, 3) := by decide +kernel
theorem dX5_findRound_5 : decode cX5_findRound 5 = .ok (.ishl, 1) := by decide +kernel
theorem dX5_findRound_6 : decode cX5_findRound 6 = .ok (.iconst 1, 1) := by decide +kernel
theorem dX5_findRound_7 : decode cX5_findRound 7 = .ok (.isub, 1) := by decide +kernel
theorem dX5_findRound_8 : decode cX5_findRound 8 = .ok (.istore_n 1, 1) := by decide +kernel
theorem dX5_findRound_9 : decode cX5_findRound 9 = .ok (.iload_n 1, 1) := by decide +kernel
theorem dX5_findRound_10 : decode cX5_findRound 10 = .ok (.istore_n 2, 1) := by decide +kernel
theorem dX5_findRound_11 : decode cX5_findRound 11 = .ok (.iload_n 2, 1) := by decide +kernel
theorem dX5_findRound_12 : decode cX5_findRound 12 = .ok (.iconst 1, 1) := by decide +kernel
theorem dX5_findRound_13 : decode cX5_findRound 13 = .ok (.if_icmp .le 52, 3) := by decide +kernel
theorem dX5_findRound_16 : decode cX5_findRound 16 = .ok (.iconst 1, 1) := by decide +kernel
theorem dX5_findRound_17 : decode cX5_findRound 17 = .ok (.istore_n 3, 1) := by decide +kernel
theorem dX5_findRound_18 : decode cX5_findRound 18 = .ok (.iload_n 3, 1) := by decide +kernel
theorem dX5_findRound_19 : decode cX5_findRound 19 = .ok (.aload_n 0, 1) := by decide +kernel
theorem dX5_findRound_20 : decode cX5_findRound 20 = .ok (.getfield 30, 3) := by decide +kernel
theorem dX5_findRound_23 : decode cX5_findRound 23 = .ok (.if_icmp .ge 36, 3) := by decide +kernel
theorem dX5_findRound_26 : decode cX5_findRound 26 = .ok (.iload_n 2, 1) := by decide +kernel
theorem dX5_findRound_27 : decode cX5_findRound 27 = .ok (.iconst 1, 1) := by decide +kernel
theorem dX5_findRound_28 : decode cX5_findRound 28 = .ok (.iload_n 3, 1) := by decide +kernel
theorem dX5_findRound_29 : decode cX5_findRound 29 = .ok (.ishl, 1) := by decide +kernel
theorem dX5_findRound_30 : decode cX5_findRound 30 = .ok (.iand, 1) := by decide +kernel
theorem dX5_findRound_31 : decode cX5_findRound 31 = .ok (.ifCond .eq 22, 3) := by decide +kernel
theorem dX5_findRound_34 : decode cX5_findRound 34 = .ok (.aload_n 0, 1) := by decide +kernel
theorem dX5_findRound_35 : decode cX5_findRound 35 = .ok (.getfield 18, 3) := by decide +kernel
theorem dX5_findRound_38 : decode cX5_findRound 38 = .ok (.iload_n 2, 1) := by decide +kernel
theorem dX5_findRound_39 : decode cX5_findRound 39 = .ok (.iconst 1, 1) := by decide +kernel
theorem dX5_findRound_40 : decode cX5_findRound 40 = .ok (.ishr, 1) := by decide +kernel
theorem dX5_findRound_41 : decode cX5_findRound 41 = .ok (.bipush 7, 2) := by decide +kernel
theorem dX5_findRound_43 : decode cX5_findRound 43 = .ok (.imul, 1) := by decide +kernel
theorem dX5_findRound_44 : decode cX5_findRound 44 = .ok (.iload_n 3, 1) := by decide +kernel
theorem dX5_findRound_45 : decode cX5_findRound 45 = .ok (.iadd, 1) := by decide +kernel
theorem dX5_findRound_46 : decode cX5_findRound 46 = .ok (.aload_n 0, 1) := by decide +kernel
theorem dX5_findRound_47 : decode cX5_findRound 47 = .ok (.iload_n 2, 1) := by decide +kernel
theorem dX5_findRound_48 : decode cX5_findRound 48 = .ok (.iload_n 3, 1) := by decide +kernel
theorem dX5_findRound_49 : decode cX5_findRound 49 = .ok (.invokevirtual 59, 3) := by decide +kernel
theorem dX5_findRound_52 : decode cX5_findRound 52 = .ok (.iastore, 1) := by decide +kernel
theorem dX5_findRound_53 : decode cX5_findRound 53 = .ok (.iinc 3 1, 3) := by decide +kernel
theorem dX5_findRound_56 : decode cX5_findRound 56 = .ok (.goto (-38), 3) := by decide +kernel
theorem dX5_findRound_59 : decode cX5_findRound 59 = .ok (.iinc 2 (-2), 3) := by decide +kernel
theorem dX5_findRound_62 : decode cX5_findRound 62 = .ok (.goto (-51), 3) := by decide +kernel
theorem dX5_findRound_65 : decode cX5_findRound 65 = .ok (.aload_n 0, 1) := by decide +kernel
theorem dX5_findRound_66 : decode cX5_findRound 66 = .ok (.iconst 1, 1) := by decide +kernel
theorem dX5_findRound_67 : decode cX5_findRound 67 = .ok (.iconst 0, 1) := by decide +kernel
theorem dX5_findRound_68 : decode cX5_findRound 68 = .ok (.invokevirtual 59, 3) := by decide +kernel
theorem dX5_findRound_71 : decode cX5_findRound 71 = .ok (.istore_n 2, 1) := by decide +kernel
theorem dX5_findRound_72 : decode cX5_findRound 72 = .ok (.iconst 0, 1) := by decide +kernel
theorem dX5_findRound_73 : decode cX5_findRound 73 = .ok (.istore_n 3, 1) := by decide +kernel
theorem dX5_findRound_74 : decode cX5_findRound 74 = .ok (.iconst 1, 1) := by decide +kernel
theorem dX5_findRound_75 : decode cX5_findRound 75 = .ok (.istore 4, 2) := by decide +kernel
theorem dX5_findRound_77 : decode cX5_findRound 77 = .ok (.iconst 1, 1) := by decide +kernel
theorem dX5_findRound_78 : decode cX5_findRound 78 = .ok (.istore 5, 2) := by decide +kernel
theorem dX5_findRound_80 : decode cX5_findRound 80 = .ok (.iload 5, 2) := by decide +kernel
theorem dX5_findRound_82 : decode cX5_findRound 82 = .ok (.aload_n 0, 1) := by decide +kernel
theorem dX5_findRound_83 : decode cX5_findRound 83 = .ok (.getfield 30, 3) := by decide +kernel
theorem dX5_findRound_86 : decode cX5_findRound 86 = .ok (.if_icmp .ge 30, 3) := by decide +kernel
theorem dX5_findRound_89 : decode cX5_findRound 89 = .ok (.aload_n 0, 1) := by decide +kernel
theorem dX5_findRound_90 : decode cX5_findRound 90 = .ok (.iload 4, 2) := by decide +kernel
theorem dX5_findRound_92 : decode cX5_findRound 92 = .ok (.iload_n 3, 1) := by decide +kernel
theorem dX5_findRound_93 : decode cX5_findRound 93 = .ok (.invokevirtual 62, 3) := by decide +kernel
theorem dX5_findRound_96 : decode cX5_findRound 96 = .ok (.istore_n 3, 1) := by decide +kernel
theorem dX5_findRound_97 : decode cX5_findRound 97 = .ok (.iload 4, 2) := by decide +kernel
theorem dX5_findRound_99 : decode cX5_findRound 99 = .ok (.iconst 1, 1) := by decide +kernel
theorem dX5_findRound_100 : decode cX5_findRound 100 = .ok (.iload_n 3, 1) := by decide +kernel
theorem dX5_findRound_101 : decode cX5_findRound 101 = .ok (.ishl, 1) := by decide +kernel
theorem dX5_findRound_102 : decode cX5_findRound 102 = .ok (.ior, 1) := by decide +kernel
theorem dX5_findRound_103 : decode cX5_findRound 103 = .ok (.istore 4, 2) := by decide +kernel
theorem dX5_findRound_105 : decode cX5_findRound 105 = .ok (.aload_n 0, 1) := by decide +kernel
theorem dX5_findRound_106 : decode cX5_findRound 106 = .ok (.iload_n 3, 1) := by decide +kernel
theorem dX5_findRound_107 : decode cX5_findRound 107 = .ok (.invokevirtual 47, 3) := by decide +kernel
theorem dX5_findRound_110 : decode cX5_findRound 110 = .ok (.iinc 5 1, 3) := by decide +kernel
theorem dX5_findRound_113 : decode cX5_findRound 113 = .ok (.goto (-33), 3) := by decide +kernel
theorem dX5_findRound_116 : decode cX5_findRound 116 = .ok (.iload_n 2, 1) := by decide +kernel
theorem dX5_findRound_117 : decode cX5_findRound 117 = .ok (.ireturn, 1) := by decide +kernel
theorem dX5_leastHome_0 : decode cX5_leastHome 0 = .ok (.aload_n 0, 1) := by decide +kernel
theorem dX5_leastHome_1 : decode cX5_leastHome 1 = .ok (.iload_n 1, 1) := by decide +kernel
theorem dX5_leastHome_2 : decode cX5_leastHome 2 = .ok (.iload_n 2, 1) := by decide +kernel
theorem dX5_leastHome_3 : decode cX5_leastHome 3 = .ok (.invokevirtual 62, 3) := by decide +kernel
theorem dX5_leastHome_6 : decode cX5_leastHome 6 = .ok (.istore_n 3, 1) := by decide +kernel
theorem dX5_leastHome_7 : decode cX5_leastHome 7 = .ok (.iload_n 3, 1) := by decide +kernel
theorem dX5_leastHome_8 : decode cX5_leastHome 8 = .ok (.ifCond .ne 15, 3) := by decide +kernel
theorem dX5_leastHome_11 : decode cX5_leastHome 11 = .ok (.aload_n 0, 1) := by decide +kernel
theorem dX5_leastHome_12 : decode cX5_leastHome 12 = .ok (.getfield 9, 3) := by decide +kernel
theorem dX5_leastHome_15 : decode cX5_leastHome 15 = .ok (.iload_n 2, 1) := by decide +kernel
theorem dX5_leastHome_16 : decode cX5_leastHome 16 = .ok (.bipush 7, 2) := by decide +kernel
theorem dX5_leastHome_18 : decode cX5_leastHome 18 = .ok (.imul, 1) := by decide +kernel
theorem dX5_leastHome_19 : decode cX5_leastHome 19 = .ok (.iaload, 1) := by decide +kernel
theorem dX5_leastHome_20 : decode cX5_leastHome 20 = .ok (.goto 10, 3) := by decide +kernel
theorem dX5_leastHome_23 : decode cX5_leastHome 23 = .ok (.aload_n 0, 1) := by decide +kernel
theorem dX5_leastHome_24 : decode cX5_leastHome 24 = .ok (.iload_n 1, 1) := by decide +kernel
theorem dX5_leastHome_25 : decode cX5_leastHome 25 = .ok (.iload_n 2, 1) := by decide +kernel
theorem dX5_leastHome_26 : decode cX5_leastHome 26 = .ok (.iload_n 3, 1) := by decide +kernel
theorem dX5_leastHome_27 : decode cX5_leastHome 27 = .ok (.invokevirtual 65, 3) := by decide +kernel
theorem dX5_leastHome_30 : decode cX5_leastHome 30 = .ok (.ireturn, 1) := by decide +kernel
theorem dX5_homeOver_0 : decode cX5_homeOver 0 = .ok (.aload_n 0, 1) := by decide +kernel
theorem dX5_homeOver_1 : decode cX5_homeOver 1 = .ok (.getfield 9, 3) := by decide +kernel
theorem dX5_homeOver_4 : decode cX5_homeOver 4 = .ok (.iload_n 2, 1) := by decide +kernel
theorem dX5_homeOver_5 : decode cX5_homeOver 5 = .ok (.bipush 7, 2) := by decide +kernel
theorem dX5_homeOver_7 : decode cX5_homeOver 7 = .ok (.imul, 1) := by decide +kernel
theorem dX5_homeOver_8 : decode cX5_homeOver 8 = .ok (.iload_n 3, 1) := by decide +kernel
theorem dX5_homeOver_9 : decode cX5_homeOver 9 = .ok (.iadd, 1) := by decide +kernel
theorem dX5_homeOver_10 : decode cX5_homeOver 10 = .ok (.iaload, 1) := by decide +kernel
theorem dX5_homeOver_11 : decode cX5_homeOver 11 = .ok (.aload_n 0, 1) := by decide +kernel
theorem dX5_homeOver_12 : decode cX5_homeOver 12 = .ok (.getfield 18, 3) := by decide +kernel
theorem dX5_homeOver_15 : decode cX5_homeOver 15 = .ok (.iload_n 1, 1) := by decide +kernel
theorem dX5_homeOver_16 : decode cX5_homeOver 16 = .ok (.iconst 1, 1) := by decide +kernel
theorem dX5_homeOver_17 : decode cX5_homeOver 17 = .ok (.iload_n 3, 1) := by decide +kernel
theorem dX5_homeOver_18 : decode cX5_homeOver 18 = .ok (.ishl, 1) := by decide +kernel
theorem dX5_homeOver_19 : decode cX5_homeOver 19 = .ok (.ior, 1) := by decide +kernel
theorem dX5_homeOver_20 : decode cX5_homeOver 20 = .ok (.iconst 1, 1) := by decide +kernel
theorem dX5_homeOver_21 : decode cX5_homeOver 21 = .ok (.ishr, 1) := by decide +kernel
theorem dX5_homeOver_22 : decode cX5_homeOver 22 = .ok (.bipush 7, 2) := by decide +kernel
theorem dX5_homeOver_24 : decode cX5_homeOver 24 = .ok (.imul, 1) := by decide +kernel
theorem dX5_homeOver_25 : decode cX5_homeOver 25 = .ok (.iload_n 3, 1) := by decide +kernel
theorem dX5_homeOver_26 : decode cX5_homeOver 26 = .ok (.iadd, 1) := by decide +kernel
theorem dX5_homeOver_27 : decode cX5_homeOver 27 = .ok (.iaload, 1) := by decide +kernel
theorem dX5_homeOver_28 : decode cX5_homeOver 28 = .ok (.iadd, 1) := by decide +kernel
theorem dX5_homeOver_29 : decode cX5_homeOver 29 = .ok (.ireturn, 1) := by decide +kernel
theorem dX5_nextOfRound_0 : decode cX5_nextOfRound 0 = .ok (.iconst 0, 1) := by decide +kernel
theorem dX5_nextOfRound_1 : decode cX5_nextOfRound 1 = .ok (.istore_n 3, 1) := by decide +kernel
theorem dX5_nextOfRound_2 : decode cX5_nextOfRound 2 = .ok (.iconst 1, 1) := by decide +kernel
theorem dX5_nextOfRound_3 : decode cX5_nextOfRound 3 = .ok (.istore 4, 2) := by decide +kernel
theorem dX5_nextOfRound_5 : decode cX5_nextOfRound 5 = .ok (.iload 4, 2) := by decide +kernel
theorem dX5_nextOfRound_7 : decode cX5_nextOfRound 7 = .ok (.aload_n 0, 1) := by decide +kernel
theorem dX5_nextOfRound_8 : decode cX5_nextOfRound 8 = .ok (.getfield 30, 3) := by decide +kernel
theorem dX5_nextOfRound_11 : decode cX5_nextOfRound 11 = .ok (.if_icmp .ge 43, 3) := by decide +kernel
theorem dX5_nextOfRound_14 : decode cX5_nextOfRound 14 = .ok (.iload_n 1, 1) := by decide +kernel
theorem dX5_nextOfRound_15 : decode cX5_nextOfRound 15 = .ok (.iconst 1, 1) := by decide +kernel
theorem dX5_nextOfRound_16 : decode cX5_nextOfRound 16 = .ok (.iload 4, 2) := by decide +kernel
theorem dX5_nextOfRound_18 : decode cX5_nextOfRound 18 = .ok (.ishl, 1) := by decide +kernel
theorem dX5_nextOfRound_19 : decode cX5_nextOfRound 19 = .ok (.iand, 1) := by decide +kernel
theorem dX5_nextOfRound_20 : decode cX5_nextOfRound 20 = .ok (.ifCond .ne 28, 3) := by decide +kernel
theorem dX5_nextOfRound_23 : decode cX5_nextOfRound 23 = .ok (.iload_n 3, 1) := by decide +kernel
theorem dX5_nextOfRound_24 : decode cX5_nextOfRound 24 = .ok (.ifCond .eq 21, 3) := by decide +kernel
theorem dX5_nextOfRound_27 : decode cX5_nextOfRound 27 = .ok (.aload_n 0, 1) := by decide +kernel
theorem dX5_nextOfRound_28 : decode cX5_nextOfRound 28 = .ok (.iload_n 1, 1) := by decide +kernel
theorem dX5_nextOfRound_29 : decode cX5_nextOfRound 29 = .ok (.iload_n 2, 1) := by decide +kernel
theorem dX5_nextOfRound_30 : decode cX5_nextOfRound 30 = .ok (.iload 4, 2) := by decide +kernel
theorem dX5_nextOfRound_32 : decode cX5_nextOfRound 32 = .ok (.invokevirtual 65, 3) := by decide +kernel
theorem dX5_nextOfRound_35 : decode cX5_nextOfRound 35 = .ok (.aload_n 0, 1) := by decide +kernel
theorem dX5_nextOfRound_36 : decode cX5_nextOfRound 36 = .ok (.iload_n 1, 1) := by decide +kernel
theorem dX5_nextOfRound_37 : decode cX5_nextOfRound 37 = .ok (.iload_n 2, 1) := by decide +kernel
theorem dX5_nextOfRound_38 : decode cX5_nextOfRound 38 = .ok (.iload_n 3, 1) := by decide +kernel
theorem dX5_nextOfRound_39 : decode cX5_nextOfRound 39 = .ok (.invokevirtual 65, 3) := by decide +kernel
theorem dX5_nextOfRound_42 : decode cX5_nextOfRound 42 = .ok (.if_icmp .ge 6, 3) := by decide +kernel
theorem dX5_nextOfRound_45 : decode cX5_nextOfRound 45 = .ok (.iload 4, 2) := by decide +kernel
theorem dX5_nextOfRound_47 : decode cX5_nextOfRound 47 = .ok (.istore_n 3, 1) := by decide +kernel
theorem dX5_nextOfRound_48 : decode cX5_nextOfRound 48 = .ok (.iinc 4 1, 3) := by decide +kernel
theorem dX5_nextOfRound_51 : decode cX5_nextOfRound 51 = .ok (.goto (-46), 3) := by decide +kernel
theorem dX5_nextOfRound_54 : decode cX5_nextOfRound 54 = .ok (.iload_n 3, 1) := by decide +kernel
theorem dX5_nextOfRound_55 : decode cX5_nextOfRound 55 = .ok (.ireturn, 1) := by decide +kernel
theorem dX5_findClashes_0 : decode cX5_findClashes 0 = .ok (.iconst 0, 1) := by decide +kernel
theorem dX5_findClashes_1 : decode cX5_findClashes 1 = .ok (.istore_n 1, 1) := by decide +kernel
theorem dX5_findClashes_2 : decode cX5_findClashes 2 = .ok (.iload_n 1, 1) := by decide +kernel
theorem dX5_findClashes_3 : decode cX5_findClashes 3 = .ok (.aload_n 0, 1) := by decide +kernel
theorem dX5_findClashes_4 : decode cX5_findClashes 4 = .ok (.getfield 30, 3) := by decide +kernel
theorem dX5_findClashes_7 : decode cX5_findClashes 7 = .ok (.if_icmp .ge 49, 3) := by decide +kernel
theorem dX5_findClashes_10 : decode cX5_findClashes 10 = .ok (.iconst 0, 1) := by decide +kernel
theorem dX5_findClashes_11 : decode cX5_findClashes 11 = .ok (.istore_n 2, 1) := by decide +kernel
theorem dX5_findClashes_12 : decode cX5_findClashes 12 = .ok (.iload_n 2, 1) := by decide +kernel
theorem dX5_findClashes_13 : decode cX5_findClashes 13 = .ok (.aload_n 0, 1) := by decide +kernel
theorem dX5_findClashes_14 : decode cX5_findClashes 14 = .ok (.getfield 30, 3) := by decide +kernel
theorem dX5_findClashes_17 : decode cX5_findClashes 17 = .ok (.if_icmp .ge 33, 3) := by decide +kernel
theorem dX5_findClashes_20 : decode cX5_findClashes 20 = .ok (.iload_n 1, 1) := by decide +kernel
theorem dX5_findClashes_21 : decode cX5_findClashes 21 = .ok (.iload_n 2, 1) := by decide +kernel
theorem dX5_findClashes_22 : decode cX5_findClashes 22 = .ok (.if_icmp .eq 22, 3) := by decide +kernel
theorem dX5_findClashes_25 : decode cX5_findClashes 25 = .ok (.aload_n 0, 1) := by decide +kernel
theorem dX5_findClashes_26 : decode cX5_findClashes 26 = .ok (.iload_n 1, 1) := by decide +kernel
theorem dX5_findClashes_27 : decode cX5_findClashes 27 = .ok (.iload_n 2, 1) := by decide +kernel
theorem dX5_findClashes_28 : decode cX5_findClashes 28 = .ok (.invokevirtual 68, 3) := by decide +kernel
theorem dX5_findClashes_31 : decode cX5_findClashes 31 = .ok (.ifCond .eq 13, 3) := by decide +kernel
theorem dX5_findClashes_34 : decode cX5_findClashes 34 = .ok (.aload_n 0, 1) := by decide +kernel
theorem dX5_findClashes_35 : decode cX5_findClashes 35 = .ok (.bipush 10, 2) := by decide +kernel
theorem dX5_findClashes_37 : decode cX5_findClashes 37 = .ok (.iload_n 1, 1) := by decide +kernel
theorem dX5_findClashes_38 : decode cX5_findClashes 38 = .ok (.imul, 1) := by decide +kernel
theorem dX5_findClashes_39 : decode cX5_findClashes 39 = .ok (.iload_n 2, 1) := by decide +kernel
theorem dX5_findClashes_40 : decode cX5_findClashes 40 = .ok (.iadd, 1) := by decide +kernel
theorem dX5_findClashes_41 : decode cX5_findClashes 41 = .ok (.invokevirtual 47, 3) := by decide +kernel
theorem dX5_findClashes_44 : decode cX5_findClashes 44 = .ok (.iinc 2 1, 3) := by decide +kernel
theorem dX5_findClashes_47 : decode cX5_findClashes 47 = .ok (.goto (-35), 3) := by decide +kernel
theorem dX5_findClashes_50 : decode cX5_findClashes 50 = .ok (.iinc 1 1, 3) := by decide +kernel
theorem dX5_findClashes_53 : decode cX5_findClashes 53 = .ok (.goto (-51), 3) := by decide +kernel
theorem dX5_findClashes_56 : decode cX5_findClashes 56 = .ok (.aload_n 0, 1) := by decide +kernel
theorem dX5_findClashes_57 : decode cX5_findClashes 57 = .ok (.getfield 31, 3) := by decide +kernel
theorem dX5_findClashes_60 : decode cX5_findClashes 60 = .ok (.ireturn, 1) := by decide +kernel
theorem dX5_hasShortcut_0 : decode cX5_hasShortcut 0 = .ok (.iconst 0, 1) := by decide +kernel
theorem dX5_hasShortcut_1 : decode cX5_hasShortcut 1 = .ok (.istore_n 3, 1) := by decide +kernel
theorem dX5_hasShortcut_2 : decode cX5_hasShortcut 2 = .ok (.iload_n 3, 1) := by decide +kernel
theorem dX5_hasShortcut_3 : decode cX5_hasShortcut 3 = .ok (.aload_n 0, 1) := by decide +kernel
theorem dX5_hasShortcut_4 : decode cX5_hasShortcut 4 = .ok (.getfield 30, 3) := by decide +kernel
theorem dX5_hasShortcut_7 : decode cX5_hasShortcut 7 = .ok (.if_icmp .ge 58, 3) := by decide +kernel
theorem dX5_hasShortcut_10 : decode cX5_hasShortcut 10 = .ok (.iload_n 3, 1) := by decide +kernel
theorem dX5_hasShortcut_11 : decode cX5_hasShortcut 11 = .ok (.iload_n 1, 1) := by decide +kernel
theorem dX5_hasShortcut_12 : decode cX5_hasShortcut 12 = .ok (.if_icmp .eq 47, 3) := by decide +kernel
theorem dX5_hasShortcut_15 : decode cX5_hasShortcut 15 = .ok (.iload_n 3, 1) := by decide +kernel
theorem dX5_hasShortcut_16 : decode cX5_hasShortcut 16 = .ok (.iload_n 2, 1) := by decide +kernel
theorem dX5_hasShortcut_17 : decode cX5_hasShortcut 17 = .ok (.if_icmp .eq 42, 3) := by decide +kernel
theorem dX5_hasShortcut_20 : decode cX5_hasShortcut 20 = .ok (.aload_n 0, 1) := by decide +kernel
theorem dX5_hasShortcut_21 : decode cX5_hasShortcut 21 = .ok (.getfield 9, 3) := by decide +kernel
theorem dX5_hasShortcut_24 : decode cX5_hasShortcut 24 = .ok (.iload_n 1, 1) := by decide +kernel
theorem dX5_hasShortcut_25 : decode cX5_hasShortcut 25 = .ok (.bipush 7, 2) := by decide +kernel
theorem dX5_hasShortcut_27 : decode cX5_hasShortcut 27 = .ok (.imul, 1) := by decide +kernel
theorem dX5_hasShortcut_28 : decode cX5_hasShortcut 28 = .ok (.iload_n 3, 1) := by decide +kernel
theorem dX5_hasShortcut_29 : decode cX5_hasShortcut 29 = .ok (.iadd, 1) := by decide +kernel
theorem dX5_hasShortcut_30 : decode cX5_hasShortcut 30 = .ok (.iaload, 1) := by decide +kernel
theorem dX5_hasShortcut_31 : decode cX5_hasShortcut 31 = .ok (.aload_n 0, 1) := by decide +kernel
theorem dX5_hasShortcut_32 : decode cX5_hasShortcut 32 = .ok (.getfield 9, 3) := by decide +kernel
theorem dX5_hasShortcut_35 : decode cX5_hasShortcut 35 = .ok (.iload_n 3, 1) := by decide +kernel
theorem dX5_hasShortcut_36 : decode cX5_hasShortcut 36 = .ok (.bipush 7, 2) := by decide +kernel
theorem dX5_hasShortcut_38 : decode cX5_hasShortcut 38 = .ok (.imul, 1) := by decide +kernel
theorem dX5_hasShortcut_39 : decode cX5_hasShortcut 39 = .ok (.iload_n 2, 1) := by decide +kernel
theorem dX5_hasShortcut_40 : decode cX5_hasShortcut 40 = .ok (.iadd, 1) := by decide +kernel
theorem dX5_hasShortcut_41 : decode cX5_hasShortcut 41 = .ok (.iaload, 1) := by decide +kernel
theorem dX5_hasShortcut_42 : decode cX5_hasShortcut 42 = .ok (.iadd, 1) := by decide +kernel
theorem dX5_hasShortcut_43 : decode cX5_hasShortcut 43 = .ok (.aload_n 0, 1) := by decide +kernel
theorem dX5_hasShortcut_44 : decode cX5_hasShortcut 44 = .ok (.getfield 9, 3) := by decide +kernel
theorem dX5_hasShortcut_47 : decode cX5_hasShortcut 47 = .ok (.iload_n 1, 1) := by decide +kernel
theorem dX5_hasShortcut_48 : decode cX5_hasShortcut 48 = .ok (.bipush 7, 2) := by decide +kernel
theorem dX5_hasShortcut_50 : decode cX5_hasShortcut 50 = .ok (.imul, 1) := by decide +kernel
theorem dX5_hasShortcut_51 : decode cX5_hasShortcut 51 = .ok (.iload_n 2, 1) := by decide +kernel
theorem dX5_hasShortcut_52 : decode cX5_hasShortcut 52 = .ok (.iadd, 1) := by decide +kernel
theorem dX5_hasShortcut_53 : decode cX5_hasShortcut 53 = .ok (.iaload, 1) := by decide +kernel
theorem dX5_hasShortcut_54 : decode cX5_hasShortcut 54 = .ok (.if_icmp .ge 5, 3) := by decide +kernel
theorem dX5_hasShortcut_57 : decode cX5_hasShortcut 57 = .ok (.iconst 1, 1) := by decide +kernel
theorem dX5_hasShortcut_58 : decode cX5_hasShortcut 58 = .ok (.ireturn, 1) := by decide +kernel
theorem dX5_hasShortcut_59 : decode cX5_hasShortcut 59 = .ok (.iinc 3 1, 3) := by decide +kernel
theorem dX5_hasShortcut_62 : decode cX5_hasShortcut 62 = .ok (.goto (-60), 3) := by decide +kernel
theorem dX5_hasShortcut_65 : decode cX5_hasShortcut 65 = .ok (.iconst 0, 1) := by decide +kernel
theorem dX5_hasShortcut_66 : decode cX5_hasShortcut 66 = .ok (.ireturn, 1) := by decide +kernel
theorem dX5_findRestingPairs_0 : decode cX5_findRestingPairs 0 = .ok (.iconst 0, 1) := by decide +kernel
theorem dX5_findRestingPairs_1 : decode cX5_findRestingPairs 1 = .ok (.istore_n 2, 1) := by decide +kernel
theorem dX5_findRestingPairs_2 : decode cX5_findRestingPairs 2 = .ok (.iload_n 2, 1) := by decide +kernel
theorem dX5_findRestingPairs_3 : decode cX5_findRestingPairs 3 = .ok (.aload_n 0, 1) := by decide +kernel
theorem dX5_findRestingPairs_4 : decode cX5_findRestingPairs 4 = .ok (.getfield 30, 3) := by decide +kernel
theorem dX5_findRestingPairs_7 : decode cX5_findRestingPairs 7 = .ok (.if_icmp .ge 55, 3) := by decide +kernel
theorem dX5_findRestingPairs_10 : decode cX5_findRestingPairs 10 = .ok (.iconst 0, 1) := by decide +kernel
theorem dX5_findRestingPairs_11 : decode cX5_findRestingPairs 11 = .ok (.istore_n 3, 1) := by decide +kernel
theorem dX5_findRestingPairs_12 : decode cX5_findRestingPairs 12 = .ok (.iload_n 3, 1) := by decide +kernel
theorem dX5_findRestingPairs_13 : decode cX5_findRestingPairs 13 = .ok (.aload_n 0, 1) := by decide +kernel
theorem dX5_findRestingPairs_14 : decode cX5_findRestingPairs 14 = .ok (.getfield 30, 3) := by decide +kernel
theorem dX5_findRestingPairs_17 : decode cX5_findRestingPairs 17 = .ok (.if_icmp .ge 39, 3) := by decide +kernel
theorem dX5_findRestingPairs_20 : decode cX5_findRestingPairs 20 = .ok (.iload_n 2, 1) := by decide +kernel
theorem dX5_findRestingPairs_21 : decode cX5_findRestingPairs 21 = .ok (.iload_n 1, 1) := by decide +kernel
theorem dX5_findRestingPairs_22 : decode cX5_findRestingPairs 22 = .ok (.if_icmp .eq 28, 3) := by decide +kernel
theorem dX5_findRestingPairs_25 : decode cX5_findRestingPairs 25 = .ok (.iload_n 3, 1) := by decide +kernel
theorem dX5_findRestingPairs_26 : decode cX5_findRestingPairs 26 = .ok (.iload_n 1, 1) := by decide +kernel
theorem dX5_findRestingPairs_27 : decode cX5_findRestingPairs 27 = .ok (.if_icmp .eq 23, 3) := by decide +kernel
theorem dX5_findRestingPairs_30 : decode cX5_findRestingPairs 30 = .ok (.aload_n 0, 1) := by decide +kernel
theorem dX5_findRestingPairs_31 : decode cX5_findRestingPairs 31 = .ok (.iload_n 1, 1) := by decide +kernel
theorem dX5_findRestingPairs_32 : decode cX5_findRestingPairs 32 = .ok (.iload_n 2, 1) := by decide +kernel
theorem dX5_findRestingPairs_33 : decode cX5_findRestingPairs 33 = .ok (.iload_n 3, 1) := by decide +kernel
theorem dX5_findRestingPairs_34 : decode cX5_findRestingPairs 34 = .ok (.invokevirtual 72, 3) := by decide +kernel
theorem dX5_findRestingPairs_37 : decode cX5_findRestingPairs 37 = .ok (.ifCond .eq 13, 3) := by decide +kernel
theorem dX5_findRestingPairs_40 : decode cX5_findRestingPairs 40 = .ok (.aload_n 0, 1) := by decide +kernel
theorem dX5_findRestingPairs_41 : decode cX5_findRestingPairs 41 = .ok (.bipush 10, 2) := by decide +kernel
theorem dX5_findRestingPairs_43 : decode cX5_findRestingPairs 43 = .ok (.iload_n 2, 1) := by decide +kernel
theorem dX5_findRestingPairs_44 : decode cX5_findRestingPairs 44 = .ok (.imul, 1) := by decide +kernel
theorem dX5_findRestingPairs_45 : decode cX5_findRestingPairs 45 = .ok (.iload_n 3, 1) := by decide +kernel
theorem dX5_findRestingPairs_46 : decode cX5_findRestingPairs 46 = .ok (.iadd, 1) := by decide +kernel
theorem dX5_findRestingPairs_47 : decode cX5_findRestingPairs 47 = .ok (.invokevirtual 47, 3) := by decide +kernel
theorem dX5_findRestingPairs_50 : decode cX5_findRestingPairs 50 = .ok (.iinc 3 1, 3) := by decide +kernel
theorem dX5_findRestingPairs_53 : decode cX5_findRestingPairs 53 = .ok (.goto (-41), 3) := by decide +kernel
theorem dX5_findRestingPairs_56 : decode cX5_findRestingPairs 56 = .ok (.iinc 2 1, 3) := by decide +kernel
theorem dX5_findRestingPairs_59 : decode cX5_findRestingPairs 59 = .ok (.goto (-57), 3) := by decide +kernel
theorem dX5_findRestingPairs_62 : decode cX5_findRestingPairs 62 = .ok (.aload_n 0, 1) := by decide +kernel
theorem dX5_findRestingPairs_63 : decode cX5_findRestingPairs 63 = .ok (.getfield 31, 3) := by decide +kernel
theorem dX5_findRestingPairs_66 : decode cX5_findRestingPairs 66 = .ok (.ireturn, 1) := by decide +kernel
theorem dX5_isResting_0 : decode cX5_isResting 0 = .ok (.iconst 0, 1) := by decide +kernel
theorem dX5_isResting_1 : decode cX5_isResting 1 = .ok (.istore 4, 2) := by decide +kernel
theorem dX5_isResting_3 : decode cX5_isResting 3 = .ok (.iload 4, 2) := by decide +kernel
theorem dX5_isResting_5 : decode cX5_isResting 5 = .ok (.aload_n 0, 1) := by decide +kernel
theorem dX5_isResting_6 : decode cX5_isResting 6 = .ok (.getfield 30, 3) := by decide +kernel
theorem dX5_isResting_9 : decode cX5_isResting 9 = .ok (.if_icmp .ge 53, 3) := by decide +kernel
theorem dX5_isResting_12 : decode cX5_isResting 12 = .ok (.iload 4, 2) := by decide +kernel
theorem dX5_isResting_14 : decode cX5_isResting 14 = .ok (.iload_n 1, 1) := by decide +kernel
theorem dX5_isResting_15 : decode cX5_isResting 15 = .ok (.if_icmp .eq 41, 3) := by decide +kernel
theorem dX5_isResting_18 : decode cX5_isResting 18 = .ok (.aload_n 0, 1) := by decide +kernel
theorem dX5_isResting_19 : decode cX5_isResting 19 = .ok (.iload_n 1, 1) := by decide +kernel
theorem dX5_isResting_20 : decode cX5_isResting 20 = .ok (.iload 4, 2) := by decide +kernel
theorem dX5_isResting_22 : decode cX5_isResting 22 = .ok (.iload_n 3, 1) := by decide +kernel
theorem dX5_isResting_23 : decode cX5_isResting 23 = .ok (.invokevirtual 76, 3) := by decide +kernel
theorem dX5_isResting_26 : decode cX5_isResting 26 = .ok (.aload_n 0, 1) := by decide +kernel
theorem dX5_isResting_27 : decode cX5_isResting 27 = .ok (.iload_n 1, 1) := by decide +kernel
theorem dX5_isResting_28 : decode cX5_isResting 28 = .ok (.iload_n 2, 1) := by decide +kernel
theorem dX5_isResting_29 : decode cX5_isResting 29 = .ok (.iload_n 3, 1) := by decide +kernel
theorem dX5_isResting_30 : decode cX5_isResting 30 = .ok (.invokevirtual 76, 3) := by decide +kernel
theorem dX5_isResting_33 : decode cX5_isResting 33 = .ok (.if_icmp .gt 21, 3) := by decide +kernel
theorem dX5_isResting_36 : decode cX5_isResting 36 = .ok (.aload_n 0, 1) := by decide +kernel
theorem dX5_isResting_37 : decode cX5_isResting 37 = .ok (.iload_n 1, 1) := by decide +kernel
theorem dX5_isResting_38 : decode cX5_isResting 38 = .ok (.iload_n 2, 1) := by decide +kernel
theorem dX5_isResting_39 : decode cX5_isResting 39 = .ok (.iload 4, 2) := by decide +kernel
theorem dX5_isResting_41 : decode cX5_isResting 41 = .ok (.invokevirtual 79, 3) := by decide +kernel
theorem dX5_isResting_44 : decode cX5_isResting 44 = .ok (.aload_n 0, 1) := by decide +kernel
theorem dX5_isResting_45 : decode cX5_isResting 45 = .ok (.iload_n 1, 1) := by decide +kernel
theorem dX5_isResting_46 : decode cX5_isResting 46 = .ok (.iload_n 2, 1) := by decide +kernel
theorem dX5_isResting_47 : decode cX5_isResting 47 = .ok (.iload_n 3, 1) := by decide +kernel
theorem dX5_isResting_48 : decode cX5_isResting 48 = .ok (.invokevirtual 79, 3) := by decide +kernel
theorem dX5_isResting_51 : decode cX5_isResting 51 = .ok (.if_icmp .le 5, 3) := by decide +kernel
theorem dX5_isResting_54 : decode cX5_isResting 54 = .ok (.iconst 0, 1) := by decide +kernel
theorem dX5_isResting_55 : decode cX5_isResting 55 = .ok (.ireturn, 1) := by decide +kernel
theorem dX5_isResting_56 : decode cX5_isResting 56 = .ok (.iinc 4 1, 3) := by decide +kernel
theorem dX5_isResting_59 : decode cX5_isResting 59 = .ok (.goto (-56), 3) := by decide +kernel
theorem dX5_isResting_62 : decode cX5_isResting 62 = .ok (.iconst 1, 1) := by decide +kernel
theorem dX5_isResting_63 : decode cX5_isResting 63 = .ok (.ireturn, 1) := by decide +kernel
theorem dX5_surveyorGets_0 : decode cX5_surveyorGets 0 = .ok (.aload_n 0, 1) := by decide +kernel
theorem dX5_surveyorGets_1 : decode cX5_surveyorGets 1 = .ok (.getfield 9, 3) := by decide +kernel
theorem dX5_surveyorGets_4 : decode cX5_surveyorGets 4 = .ok (.iload_n 1, 1) := by decide +kernel
theorem dX5_surveyorGets_5 : decode cX5_surveyorGets 5 = .ok (.bipush 7, 2) := by decide +kernel
theorem dX5_surveyorGets_7 : decode cX5_surveyorGets 7 = .ok (.imul, 1) := by decide +kernel
theorem dX5_surveyorGets_8 : decode cX5_surveyorGets 8 = .ok (.iload_n 2, 1) := by decide +kernel
theorem dX5_surveyorGets_9 : decode cX5_surveyorGets 9 = .ok (.iadd, 1) := by decide +kernel
theorem dX5_surveyorGets_10 : decode cX5_surveyorGets 10 = .ok (.iaload, 1) := by decide +kernel
theorem dX5_surveyorGets_11 : decode cX5_surveyorGets 11 = .ok (.bipush 10, 2) := by decide +kernel
theorem dX5_surveyorGets_13 : decode cX5_surveyorGets 13 = .ok (.idiv, 1) := by decide +kernel
theorem dX5_surveyorGets_14 : decode cX5_surveyorGets 14 = .ok (.iload_n 2, 1) := by decide +kernel
theorem dX5_surveyorGets_15 : decode cX5_surveyorGets 15 = .ok (.iload_n 3, 1) := by decide +kernel
theorem dX5_surveyorGets_16 : decode cX5_surveyorGets 16 = .ok (.if_icmp .ne 8, 3) := by decide +kernel
theorem dX5_surveyorGets_19 : decode cX5_surveyorGets 19 = .ok (.bipush 6, 2) := by decide +kernel
theorem dX5_surveyorGets_21 : decode cX5_surveyorGets 21 = .ok (.goto 4, 3) := by decide +kernel
theorem dX5_surveyorGets_24 : decode cX5_surveyorGets 24 = .ok (.iconst 0, 1) := by decide +kernel
theorem dX5_surveyorGets_25 : decode cX5_surveyorGets 25 = .ok (.isub, 1) := by decide +kernel
theorem dX5_surveyorGets_26 : decode cX5_surveyorGets 26 = .ok (.ireturn, 1) := by decide +kernel
theorem dX5_ownerGets_0 : decode cX5_ownerGets 0 = .ok (.iload_n 2, 1) := by decide +kernel
theorem dX5_ownerGets_1 : decode cX5_ownerGets 1 = .ok (.iload_n 3, 1) := by decide +kernel
theorem dX5_ownerGets_2 : decode cX5_ownerGets 2 = .ok (.if_icmp .ne 7, 3) := by decide +kernel
theorem dX5_ownerGets_5 : decode cX5_ownerGets 5 = .ok (.iconst 5, 1) := by decide +kernel
theorem dX5_ownerGets_6 : decode cX5_ownerGets 6 = .ok (.goto 4, 3) := by decide +kernel
theorem dX5_ownerGets_9 : decode cX5_ownerGets 9 = .ok (.iconst 0, 1) := by decide +kernel
theorem dX5_ownerGets_10 : decode cX5_ownerGets 10 = .ok (.aload_n 0, 1) := by decide +kernel
theorem dX5_ownerGets_11 : decode cX5_ownerGets 11 = .ok (.getfield 9, 3) := by decide +kernel
theorem dX5_ownerGets_14 : decode cX5_ownerGets 14 = .ok (.iload_n 1, 1) := by decide +kernel
theorem dX5_ownerGets_15 : decode cX5_ownerGets 15 = .ok (.bipush 7, 2) := by decide +kernel
theorem dX5_ownerGets_17 : decode cX5_ownerGets 17 = .ok (.imul, 1) := by decide +kernel
theorem dX5_ownerGets_18 : decode cX5_ownerGets 18 = .ok (.iload_n 3, 1) := by decide +kernel
theorem dX5_ownerGets_19 : decode cX5_ownerGets 19 = .ok (.iadd, 1) := by decide +kernel
theorem dX5_ownerGets_20 : decode cX5_ownerGets 20 = .ok (.iaload, 1) := by decide +kernel
theorem dX5_ownerGets_21 : decode cX5_ownerGets 21 = .ok (.bipush 10, 2) := by decide +kernel
theorem dX5_ownerGets_23 : decode cX5_ownerGets 23 = .ok (.idiv, 1) := by decide +kernel
theorem dX5_ownerGets_24 : decode cX5_ownerGets 24 = .ok (.isub, 1) := by decide +kernel
theorem dX5_ownerGets_25 : decode cX5_ownerGets 25 = .ok (.ireturn, 1) := by decide +kernel
theorem dX6_init_0 : decode cX6_init 0 = .ok (.aload_n 0, 1) := by decide +kernel
theorem dX6_init_1 : decode cX6_init 1 = .ok (.invokespecial 3, 3) := by decide +kernel
theorem dX6_init_4 : decode cX6_init 4 = .ok (.aload_n 0, 1) := by decide +kernel
theorem dX6_init_5 : decode cX6_init 5 = .ok (.bipush 30, 2) := by decide +kernel
theorem dX6_init_7 : decode cX6_init 7 = .ok (.newarray .int, 2) := by decide +kernel
theorem dX6_init_9 : decode cX6_init 9 = .ok (.putfield 11, 3) := by decide +kernel
theorem dX6_init_12 : decode cX6_init 12 = .ok (.aload_n 0, 1) := by decide +kernel
theorem dX6_init_13 : decode cX6_init 13 = .ok (.iload_n 1, 1) := by decide +kernel
theorem dX6_init_14 : decode cX6_init 14 = .ok (.putfield 15, 3) := by decide +kernel
theorem dX6_init_17 : decode cX6_init 17 = .ok (.return_, 1) := by decide +kernel
theorem dX6_become_0 : decode cX6_become 0 = .ok (.aload_n 1, 1) := by decide +kernel
theorem dX6_become_1 : decode cX6_become 1 = .ok (.getfield 11, 3) := by decide +kernel
theorem dX6_become_4 : decode cX6_become 4 = .ok (.iconst 0, 1) := by decide +kernel
theorem dX6_become_5 : decode cX6_become 5 = .ok (.aload_n 0, 1) := by decide +kernel
theorem dX6_become_6 : decode cX6_become 6 = .ok (.getfield 11, 3) := by decide +kernel
theorem dX6_become_9 : decode cX6_become 9 = .ok (.iconst 0, 1) := by decide +kernel
theorem dX6_become_10 : decode cX6_become 10 = .ok (.bipush 30, 2) := by decide +kernel
theorem dX6_become_12 : decode cX6_become 12 = .ok (.invokestatic 19, 3) := by decide +kernel
theorem dX6_become_15 : decode cX6_become 15 = .ok (.aload_n 0, 1) := by decide +kernel
theorem dX6_become_16 : decode cX6_become 16 = .ok (.aload_n 1, 1) := by decide +kernel
theorem dX6_become_17 : decode cX6_become 17 = .ok (.getfield 25, 3) := by decide +kernel
theorem dX6_become_20 : decode cX6_become 20 = .ok (.putfield 25, 3) := by decide +kernel
theorem dX6_become_23 : decode cX6_become 23 = .ok (.return_, 1) := by decide +kernel
theorem dX6_isFull_0 : decode cX6_isFull 0 = .ok (.aload_n 0, 1) := by decide +kernel
theorem dX6_isFull_1 : decode cX6_isFull 1 = .ok (.getfield 25, 3) := by decide +kernel
theorem dX6_isFull_4 : decode cX6_isFull 4 = .ok (.bipush 6, 2) := by decide +kernel
theorem dX6_isFull_6 : decode cX6_isFull 6 = .ok (.if_icmp .lt 7, 3) := by decide +kernel
theorem dX6_isFull_9 : decode cX6_isFull 9 = .ok (.iconst 1, 1) := by decide +kernel
theorem dX6_isFull_10 : decode cX6_isFull 10 = .ok (.goto 4, 3) := by decide +kernel
theorem dX6_isFull_13 : decode cX6_isFull 13 = .ok (.iconst 0, 1) := by decide +kernel
theorem dX6_isFull_14 : decode cX6_isFull 14 = .ok (.ireturn, 1) := by decide +kernel
theorem dX6_add_0 : decode cX6_add 0 = .ok (.aload_n 0, 1) := by decide +kernel
theorem dX6_add_1 : decode cX6_add 1 = .ok (.invokevirtual 29, 3) := by decide +kernel
theorem dX6_add_4 : decode cX6_add 4 = .ok (.ifCond .ne 71, 3) := by decide +kernel
theorem dX6_add_7 : decode cX6_add 7 = .ok (.aload_n 0, 1) := by decide +kernel
theorem dX6_add_8 : decode cX6_add 8 = .ok (.getfield 25, 3) := by decide +kernel
theorem dX6_add_11 : decode cX6_add 11 = .ok (.iconst 5, 1) := by decide +kernel
theorem dX6_add_12 : decode cX6_add 12 = .ok (.imul, 1) := by decide +kernel
theorem dX6_add_13 : decode cX6_add 13 = .ok (.istore 6, 2) := by decide +kernel
theorem dX6_add_15 : decode cX6_add 15 = .ok (.aload_n 0, 1) := by decide +kernel
theorem dX6_add_16 : decode cX6_add 16 = .ok (.getfield 11, 3) := by decide +kernel
theorem dX6_add_19 : decode cX6_add 19 = .ok (.iload 6, 2) := by decide +kernel
theorem dX6_add_21 : decode cX6_add 21 = .ok (.iload_n 1, 1) := by decide +kernel
theorem dX6_add_22 : decode cX6_add 22 = .ok (.iastore, 1) := by decide +kernel
theorem dX6_add_23 : decode cX6_add 23 = .ok (.aload_n 0, 1) := by decide +kernel
theorem dX6_add_24 : decode cX6_add 24 = .ok (.getfield 11, 3) := by decide +kernel
theorem dX6_add_27 : decode cX6_add 27 = .ok (.iload 6, 2) := by decide +kernel
theorem dX6_add_29 : decode cX6_add 29 = .ok (.iconst 1, 1) := by decide +kernel
theorem dX6_add_30 : decode cX6_add 30 = .ok (.iadd, 1) := by decide +kernel
theorem dX6_add_31 : decode cX6_add 31 = .ok (.iload_n 2, 1) := by decide +kernel
theorem dX6_add_32 : decode cX6_add 32 = .ok (.iastore, 1) := by decide +kernel
theorem dX6_add_33 : decode cX6_add 33 = .ok (.aload_n 0, 1) := by decide +kernel
theorem dX6_add_34 : decode cX6_add 34 = .ok (.getfield 11, 3) := by decide +kernel
theorem dX6_add_37 : decode cX6_add 37 = .ok (.iload 6, 2) := by decide +kernel
theorem dX6_add_39 : decode cX6_add 39 = .ok (.iconst 2, 1) := by decide +kernel
theorem dX6_add_40 : decode cX6_add 40 = .ok (.iadd, 1) := by decide +kernel
theorem dX6_add_41 : decode cX6_add 41 = .ok (.iload_n 3, 1) := by decide +kernel
theorem dX6_add_42 : decode cX6_add 42 = .ok (.iastore, 1) := by decide +kernel
theorem dX6_add_43 : decode cX6_add 43 = .ok (.aload_n 0, 1) := by decide +kernel
theorem dX6_add_44 : decode cX6_add 44 = .ok (.getfield 11, 3) := by decide +kernel
theorem dX6_add_47 : decode cX6_add 47 = .ok (.iload 6, 2) := by decide +kernel
theorem dX6_add_49 : decode cX6_add 49 = .ok (.iconst 3, 1) := by decide +kernel
theorem dX6_add_50 : decode cX6_add 50 = .ok (.iadd, 1) := by decide +kernel
theorem dX6_add_51 : decode cX6_add 51 = .ok (.iload 4, 2) := by decide +kernel
theorem dX6_add_53 : decode cX6_add 53 = .ok (.iastore, 1) := by decide +kernel
theorem dX6_add_54 : decode cX6_add 54 = .ok (.aload_n 0, 1) := by decide +kernel
theorem dX6_add_55 : decode cX6_add 55 = .ok (.getfield 11, 3) := by decide +kernel
theorem dX6_add_58 : decode cX6_add 58 = .ok (.iload 6, 2) := by decide +kernel
theorem dX6_add_60 : decode cX6_add 60 = .ok (.iconst 4, 1) := by decide +kernel
theorem dX6_add_61 : decode cX6_add 61 = .ok (.iadd, 1) := by decide +kernel
theorem dX6_add_62 : decode cX6_add 62 = .ok (.iload 5, 2) := by decide +kernel
theorem dX6_add_64 : decode cX6_add 64 = .ok (.iastore, 1) := by decide +kernel
theorem dX6_add_65 : decode cX6_add 65 = .ok (.aload_n 0, 1) := by decide +kernel
theorem dX6_add_66 : decode cX6_add 66 = .ok (.dup, 1) := by decide +kernel
theorem dX6_add_67 : decode cX6_add 67 = .ok (.getfield 25, 3) := by decide +kernel
theorem dX6_add_70 : decode cX6_add 70 = .ok (.iconst 1, 1) := by decide +kernel
theorem dX6_add_71 : decode cX6_add 71 = .ok (.iadd, 1) := by decide +kernel
theorem dX6_add_72 : decode cX6_add 72 = .ok (.putfield 25, 3) := by decide +kernel
theorem dX6_add_75 : decode cX6_add 75 = .ok (.aload_n 0, 1) := by decide +kernel
theorem dX6_add_76 : decode cX6_add 76 = .ok (.getfield 25, 3) := by decide +kernel
theorem dX6_add_79 : decode cX6_add 79 = .ok (.ireturn, 1) := by decide +kernel
theorem dX6_drop_0 : decode cX6_drop 0 = .ok (.aload_n 0, 1) := by decide +kernel
theorem dX6_drop_1 : decode cX6_drop 1 = .ok (.getfield 25, 3) := by decide +kernel
theorem dX6_drop_4 : decode cX6_drop 4 = .ok (.istore_n 1, 1) := by decide +kernel
theorem dX6_drop_5 : decode cX6_drop 5 = .ok (.aload_n 0, 1) := by decide +kernel
theorem dX6_drop_6 : decode cX6_drop 6 = .ok (.iconst 0, 1) := by decide +kernel
theorem dX6_drop_7 : decode cX6_drop 7 = .ok (.putfield 25, 3) := by decide +kernel
theorem dX6_drop_10 : decode cX6_drop 10 = .ok (.iload_n 1, 1) := by decide +kernel
theorem dX6_drop_11 : decode cX6_drop 11 = .ok (.ireturn, 1) := by decide +kernel
theorem dX6_kindsLeft_0 : decode cX6_kindsLeft 0 = .ok (.iconst 0, 1) := by decide +kernel
theorem dX6_kindsLeft_1 : decode cX6_kindsLeft 1 = .ok (.istore_n 2, 1) := by decide +kernel
theorem dX6_kindsLeft_2 : decode cX6_kindsLeft 2 = .ok (.iconst 0, 1) := by decide +kernel
theorem dX6_kindsLeft_3 : decode cX6_kindsLeft 3 = .ok (.istore_n 3, 1) := by decide +kernel
theorem dX6_kindsLeft_4 : decode cX6_kindsLeft 4 = .ok (.iload_n 3, 1) := by decide +kernel
theorem dX6_kindsLeft_5 : decode cX6_kindsLeft 5 = .ok (.bipush 6, 2) := by decide +kernel
theorem dX6_kindsLeft_7 : decode cX6_kindsLeft 7 = .ok (.if_icmp .ge 24, 3) := by decide +kernel
theorem dX6_kindsLeft_10 : decode cX6_kindsLeft 10 = .ok (.aload_n 0, 1) := by decide +kernel
theorem dX6_kindsLeft_11 : decode cX6_kindsLeft 11 = .ok (.iload_n 1, 1) := by decide +kernel
theorem dX6_kindsLeft_12 : decode cX6_kindsLeft 12 = .ok (.iload_n 3, 1) := by decide +kernel
theorem dX6_kindsLeft_13 : decode cX6_kindsLeft 13 = .ok (.invokevirtual 33, 3) := by decide +kernel
theorem dX6_kindsLeft_16 : decode cX6_kindsLeft 16 = .ok (.ifCond .eq 9, 3) := by decide +kernel
theorem dX6_kindsLeft_19 : decode cX6_kindsLeft 19 = .ok (.iload_n 2, 1) := by decide +kernel
theorem dX6_kindsLeft_20 : decode cX6_kindsLeft 20 = .ok (.iconst 1, 1) := by decide +kernel
theorem dX6_kindsLeft_21 : decode cX6_kindsLeft 21 = .ok (.iload_n 3, 1) := by decide +kernel
theorem dX6_kindsLeft_22 : decode cX6_kindsLeft 22 = .ok (.ishl, 1) := by decide +kernel
theorem dX6_kindsLeft_23 : decode cX6_kindsLeft 23 = .ok (.ior, 1) := by decide +kernel
theorem dX6_kindsLeft_24 : decode cX6_kindsLeft 24 = .ok (.istore_n 2, 1) := by decide +kernel
theorem dX6_kindsLeft_25 : decode cX6_kindsLeft 25 = .ok (.iinc 3 1, 3) := by decide +kernel
theorem dX6_kindsLeft_28 : decode cX6_kindsLeft 28 = .ok (.goto (-24), 3) := by decide +kernel
theorem dX6_kindsLeft_31 : decode cX6_kindsLeft 31 = .ok (.iload_n 2, 1) := by decide +kernel
theorem dX6_kindsLeft_32 : decode cX6_kindsLeft 32 = .ok (.ireturn, 1) := by decide +kernel
theorem dX6_allow_0 : decode cX6_allow 0 = .ok (.iconst 0, 1) := by decide +kernel
theorem dX6_allow_1 : decode cX6_allow 1 = .ok (.istore_n 3, 1) := by decide +kernel
theorem dX6_allow_2 : decode cX6_allow 2 = .ok (.iload_n 3, 1) := by decide +kernel
theorem dX6_allow_3 : decode cX6_allow 3 = .ok (.aload_n 0, 1) := by decide +kernel
theorem dX6_allow_4 : decode cX6_allow 4 = .ok (.getfield 25, 3) := by decide +kernel
theorem dX6_allow_7 : decode cX6_allow 7 = .ok (.iconst 5, 1) := by decide +kernel
theorem dX6_allow_8 : decode cX6_allow 8 = .ok (.imul, 1) := by decide +kernel
theorem dX6_allow_9 : decode cX6_allow 9 = .ok (.if_icmp .ge 64, 3) := by decide +kernel
theorem dX6_allow_12 : decode cX6_allow 12 = .ok (.aload_n 0, 1) := by decide +kernel
theorem dX6_allow_13 : decode cX6_allow 13 = .ok (.getfield 11, 3) := by decide +kernel
theorem dX6_allow_16 : decode cX6_allow 16 = .ok (.iload_n 3, 1) := by decide +kernel
theorem dX6_allow_17 : decode cX6_allow 17 = .ok (.iaload, 1) := by decide +kernel
theorem dX6_allow_18 : decode cX6_allow 18 = .ok (.iload_n 1, 1) := by decide +kernel
theorem dX6_allow_19 : decode cX6_allow 19 = .ok (.if_icmp .ne 48, 3) := by decide +kernel
theorem dX6_allow_22 : decode cX6_allow 22 = .ok (.aload_n 0, 1) := by decide +kernel
theorem dX6_allow_23 : decode cX6_allow 23 = .ok (.getfield 15, 3) := by decide +kernel
theorem dX6_allow_26 : decode cX6_allow 26 = .ok (.iload_n 2, 1) := by decide +kernel
theorem dX6_allow_27 : decode cX6_allow 27 = .ok (.aload_n 0, 1) := by decide +kernel
theorem dX6_allow_28 : decode cX6_allow 28 = .ok (.getfield 11, 3) := by decide +kernel
theorem dX6_allow_31 : decode cX6_allow 31 = .ok (.iload_n 3, 1) := by decide +kernel
theorem dX6_allow_32 : decode cX6_allow 32 = .ok (.iconst 1, 1) := by decide +kernel
theorem dX6_allow_33 : decode cX6_allow 33 = .ok (.iadd, 1) := by decide +kernel
theorem dX6_allow_34 : decode cX6_allow 34 = .ok (.iaload, 1) := by decide +kernel
theorem dX6_allow_35 : decode cX6_allow 35 = .ok (.aload_n 0, 1) := by decide +kernel
theorem dX6_allow_36 : decode cX6_allow 36 = .ok (.getfield 11, 3) := by decide +kernel
theorem dX6_allow_39 : decode cX6_allow 39 = .ok (.iload_n 3, 1) := by decide +kernel
theorem dX6_allow_40 : decode cX6_allow 40 = .ok (.iconst 2, 1) := by decide +kernel
theorem dX6_allow_41 : decode cX6_allow 41 = .ok (.iadd, 1) := by decide +kernel
theorem dX6_allow_42 : decode cX6_allow 42 = .ok (.iaload, 1) := by decide +kernel
theorem dX6_allow_43 : decode cX6_allow 43 = .ok (.aload_n 0, 1) := by decide +kernel
theorem dX6_allow_44 : decode cX6_allow 44 = .ok (.getfield 11, 3) := by decide +kernel
theorem dX6_allow_47 : decode cX6_allow 47 = .ok (.iload_n 3, 1) := by decide +kernel
theorem dX6_allow_48 : decode cX6_allow 48 = .ok (.iconst 3, 1) := by decide +kernel
theorem dX6_allow_49 : decode cX6_allow 49 = .ok (.iadd, 1) := by decide +kernel
theorem dX6_allow_50 : decode cX6_allow 50 = .ok (.iaload, 1) := by decide +kernel
theorem dX6_allow_51 : decode cX6_allow 51 = .ok (.invokestatic 37, 3) := by decide +kernel
theorem dX6_allow_54 : decode cX6_allow 54 = .ok (.aload_n 0, 1) := by decide +kernel
theorem dX6_allow_55 : decode cX6_allow 55 = .ok (.getfield 11, 3) := by decide +kernel
theorem dX6_allow_58 : decode cX6_allow 58 = .ok (.iload_n 3, 1) := by decide +kernel
theorem dX6_allow_59 : decode cX6_allow 59 = .ok (.iconst 4, 1) := by decide +kernel
theorem dX6_allow_60 : decode cX6_allow 60 = .ok (.iadd, 1) := by decide +kernel
theorem dX6_allow_61 : decode cX6_allow 61 = .ok (.iaload, 1) := by decide +kernel
theorem dX6_allow_62 : decode cX6_allow 62 = .ok (.if_icmp .eq 5, 3) := by decide +kernel
theorem dX6_allow_65 : decode cX6_allow 65 = .ok (.iconst 0, 1) := by decide +kernel
theorem dX6_allow_66 : decode cX6_allow 66 = .ok (.ireturn, 1) := by decide +kernel
theorem dX6_allow_67 : decode cX6_allow 67 = .ok (.iinc 3 5, 3) := by decide +kernel
theorem dX6_allow_70 : decode cX6_allow 70 = .ok (.goto (-68), 3) := by decide +kernel
theorem dX6_allow_73 : decode cX6_allow 73 = .ok (.iconst 1, 1) := by decide +kernel
theorem dX6_allow_74 : decode cX6_allow 74 = .ok (.ireturn, 1) := by decide +kernel
theorem dX6_mixInto_0 : decode cX6_mixInto 0 = .ok (.lload_n 1, 1) := by decide +kernel
theorem dX6_mixInto_1 : decode cX6_mixInto 1 = .ok (.lstore_n 3, 1) := by decide +kernel
theorem dX6_mixInto_2 : decode cX6_mixInto 2 = .ok (.iconst 0, 1) := by decide +kernel
theorem dX6_mixInto_3 : decode cX6_mixInto 3 = .ok (.istore 5, 2) := by decide +kernel
theorem dX6_mixInto_5 : decode cX6_mixInto 5 = .ok (.iload 5, 2) := by decide +kernel
theorem dX6_mixInto_7 : decode cX6_mixInto 7 = .ok (.aload_n 0, 1) := by decide +kernel
theorem dX6_mixInto_8 : decode cX6_mixInto 8 = .ok (.getfield 25, 3) := by decide +kernel
theorem dX6_mixInto_11 : decode cX6_mixInto 11 = .ok (.iconst 5, 1) := by decide +kernel
theorem dX6_mixInto_12 : decode cX6_mixInto 12 = .ok (.imul, 1) := by decide +kernel
theorem dX6_mixInto_13 : decode cX6_mixInto 13 = .ok (.if_icmp .ge 39, 3) := by decide +kernel
theorem dX6_mixInto_16 : decode cX6_mixInto 16 = .ok (.aload_n 0, 1) := by decide +kernel
theorem dX6_mixInto_17 : decode cX6_mixInto 17 = .ok (.getfield 15, 3) := by decide +kernel
theorem dX6_mixInto_20 : decode cX6_mixInto 20 = .ok (.ifCond .ne 11, 3) := by decide +kernel
theorem dX6_mixInto_23 : decode cX6_mixInto 23 = .ok (.iload 5, 2) := by decide +kernel
theorem dX6_mixInto_25 : decode cX6_mixInto 25 = .ok (.iconst 5, 1) := by decide +kernel
theorem dX6_mixInto_26 : decode cX6_mixInto 26 = .ok (.irem, 1) := by decide +kernel
theorem dX6_mixInto_27 : decode cX6_mixInto 27 = .ok (.iconst 3, 1) := by decide +kernel
theorem dX6_mixInto_28 : decode cX6_mixInto 28 = .ok (.if_icmp .eq 18, 3) := by decide +kernel
theorem dX6_mixInto_31 : decode cX6_mixInto 31 = .ok (.ldc2_w 43, 3) := by decide +kernel
theorem dX6_mixInto_34 : decode cX6_mixInto 34 = .ok (.lload_n 3, 1) := by decide +kernel
theorem dX6_mixInto_35 : decode cX6_mixInto 35 = .ok (.lmul, 1) := by decide +kernel
theorem dX6_mixInto_36 : decode cX6_mixInto 36 = .ok (.aload_n 0, 1) := by decide +kernel
theorem dX6_mixInto_37 : decode cX6_mixInto 37 = .ok (.getfield 11, 3) := by decide +kernel
theorem dX6_mixInto_40 : decode cX6_mixInto 40 = .ok (.iload 5, 2) := by decide +kernel
theorem dX6_mixInto_42 : decode cX6_mixInto 42 = .ok (.iaload, 1) := by decide +kernel
theorem dX6_mixInto_43 : decode cX6_mixInto 43 = .ok (.i2l, 1) := by decide +kernel
theorem dX6_mixInto_44 : decode cX6_mixInto 44 = .ok (.ladd, 1) := by decide +kernel
theorem dX6_mixInto_45 : decode cX6_mixInto 45 = .ok (.lstore_n 3, 1) := by decide +kernel
theorem dX6_mixInto_46 : decode cX6_mixInto 46 = .ok (.iinc 5 1, 3) := by decide +kernel
theorem dX6_mixInto_49 : decode cX6_mixInto 49 = .ok (.goto (-44), 3) := by decide +kernel
theorem dX6_mixInto_52 : decode cX6_mixInto 52 = .ok (.lload_n 3, 1) := by decide +kernel
theorem dX6_mixInto_53 : decode cX6_mixInto 53 = .ok (.lreturn, 1) := by decide +kernel
theorem dX7_init_0 : decode cX7_init 0 = .ok (.aload_n 0, 1) := by decide +kernel
theorem dX7_init_1 : decode cX7_init 1 = .ok (.invokespecial 1, 3) := by decide +kernel
theorem dX7_init_4 : decode cX7_init 4 = .ok (.aload_n 0, 1) := by decide +kernel
theorem dX7_init_5 : decode cX7_init 5 = .ok (.new 7, 3) := by decide +kernel
theorem dX7_init_8 : decode cX7_init 8 = .ok (.dup, 1) := by decide +kernel
theorem dX7_init_9 : decode cX7_init 9 = .ok (.invokespecial 9, 3) := by decide +kernel
theorem dX7_init_12 : decode cX7_init 12 = .ok (.putfield 10, 3) := by decide +kernel
theorem dX7_init_15 : decode cX7_init 15 = .ok (.aload_n 0, 1) := by decide +kernel
theorem dX7_init_16 : decode cX7_init 16 = .ok (.iconst 2, 1) := by decide +kernel
theorem dX7_init_17 : decode cX7_init 17 = .ok (.anewarray 7, 3) := by decide +kernel
theorem dX7_init_20 : decode cX7_init 20 = .ok (.putfield 16, 3) := by decide +kernel
theorem dX7_init_23 : decode cX7_init 23 = .ok (.aload_n 0, 1) := by decide +kernel
theorem dX7_init_24 : decode cX7_init 24 = .ok (.iconst 2, 1) := by decide +kernel
theorem dX7_init_25 : decode cX7_init 25 = .ok (.newarray .boolean, 2) := by decide +kernel
theorem dX7_init_27 : decode cX7_init 27 = .ok (.putfield 20, 3) := by decide +kernel
theorem dX7_init_30 : decode cX7_init 30 = .ok (.aload_n 0, 1) := by decide +kernel
theorem dX7_init_31 : decode cX7_init 31 = .ok (.sipush 150, 3) := by decide +kernel
theorem dX7_init_34 : decode cX7_init 34 = .ok (.newarray .byte, 2) := by decide +kernel
theorem dX7_init_36 : decode cX7_init 36 = .ok (.putfield 24, 3) := by decide +kernel
theorem dX7_init_39 : decode cX7_init 39 = .ok (.aload_n 0, 1) := by decide +kernel
theorem dX7_init_40 : decode cX7_init 40 = .ok (.iconst 1, 1) := by decide +kernel
theorem dX7_init_41 : decode cX7_init 41 = .ok (.putfield 28, 3) := by decide +kernel
theorem dX7_init_44 : decode cX7_init 44 = .ok (.aload_n 0, 1) := by decide +kernel
theorem dX7_init_45 : decode cX7_init 45 = .ok (.new 32, 3) := by decide +kernel
theorem dX7_init_48 : decode cX7_init 48 = .ok (.dup, 1) := by decide +kernel
theorem dX7_init_49 : decode cX7_init 49 = .ok (.invokespecial 34, 3) := by decide +kernel
theorem dX7_init_52 : decode cX7_init 52 = .ok (.putfield 35, 3) := by decide +kernel
theorem dX7_init_55 : decode cX7_init 55 = .ok (.aload_n 0, 1) := by decide +kernel
theorem dX7_init_56 : decode cX7_init 56 = .ok (.new 39, 3) := by decide +kernel
theorem dX7_init_59 : decode cX7_init 59 = .ok (.dup, 1) := by decide +kernel
theorem dX7_init_60 : decode cX7_init 60 = .ok (.invokespecial 41, 3) := by decide +kernel
theorem dX7_init_63 : decode cX7_init 63 = .ok (.putfield 42, 3) := by decide +kernel
theorem dX7_init_66 : decode cX7_init 66 = .ok (.aload_n 0, 1) := by decide +kernel
theorem dX7_init_67 : decode cX7_init 67 = .ok (.new 46, 3) := by decide +kernel
theorem dX7_init_70 : decode cX7_init 70 = .ok (.dup, 1) := by decide +kernel
theorem dX7_init_71 : decode cX7_init 71 = .ok (.invokespecial 48, 3) := by decide +kernel
theorem dX7_init_74 : decode cX7_init 74 = .ok (.putfield 49, 3) := by decide +kernel
theorem dX7_init_77 : decode cX7_init 77 = .ok (.aload_n 0, 1) := by decide +kernel
theorem dX7_init_78 : decode cX7_init 78 = .ok (.new 53, 3) := by decide +kernel
theorem dX7_init_81 : decode cX7_init 81 = .ok (.dup, 1) := by decide +kernel
theorem dX7_init_82 : decode cX7_init 82 = .ok (.invokespecial 55, 3) := by decide +kernel
theorem dX7_init_85 : decode cX7_init 85 = .ok (.putfield 56, 3) := by decide +kernel
theorem dX7_init_88 : decode cX7_init 88 = .ok (.iconst 0, 1) := by decide +kernel
theorem dX7_init_89 : decode cX7_init 89 = .ok (.istore_n 1, 1) := by decide +kernel
theorem dX7_init_90 : decode cX7_init 90 = .ok (.iload_n 1, 1) := by decide +kernel
theorem dX7_init_91 : decode cX7_init 91 = .ok (.iconst 2, 1) := by decide +kernel
theorem dX7_init_92 : decode cX7_init 92 = .ok (.if_icmp .ge 22, 3) := by decide +kernel
theorem dX7_init_95 : decode cX7_init 95 = .ok (.aload_n 0, 1) := by decide +kernel
theorem dX7_init_96 : decode cX7_init 96 = .ok (.getfield 16, 3) := by decide +kernel
theorem dX7_init_99 : decode cX7_init 99 = .ok (.iload_n 1, 1) := by decide +kernel
theorem dX7_init_100 : decode cX7_init 100 = .ok (.new 7, 3) := by decide +kernel
theorem dX7_init_103 : decode cX7_init 103 = .ok (.dup, 1) := by decide +kernel
theorem dX7_init_104 : decode cX7_init 104 = .ok (.invokespecial 9, 3) := by decide +kernel
theorem dX7_init_107 : decode cX7_init 107 = .ok (.aastore, 1) := by decide +kernel
theorem dX7_init_108 : decode cX7_init 108 = .ok (.iinc 1 1, 3) := by decide +kernel
theorem dX7_init_111 : decode cX7_init 111 = .ok (.goto (-21), 3) := by decide +kernel
theorem dX7_init_114 : decode cX7_init 114 = .ok (.return_, 1) := by decide +kernel
theorem dX7_country_0 : decode cX7_country 0 = .ok (.aload_n 0, 1) := by decide +kernel
theorem dX7_country_1 : decode cX7_country 1 = .ok (.getfield 10, 3) := by decide +kernel
theorem dX7_country_4 : decode cX7_country 4 = .ok (.getfield 60, 3) := by decide +kernel
theorem dX7_country_7 : decode cX7_country 7 = .ok (.istore_n 1, 1) := by decide +kernel
theorem dX7_country_8 : decode cX7_country 8 = .ok (.aload_n 0, 1) := by decide +kernel
theorem dX7_country_9 : decode cX7_country 9 = .ok (.getfield 10, 3) := by decide +kernel
theorem dX7_country_12 : decode cX7_country 12 = .ok (.invokevirtual 63, 3) := by decide +kernel
theorem dX7_country_15 : decode cX7_country 15 = .ok (.iload_n 1, 1) := by decide +kernel
theorem dX7_country_16 : decode cX7_country 16 = .ok (.ireturn, 1) := by decide +kernel
theorem dX7_place_0 : decode cX7_place 0 = .ok (.iload_n 1, 1) := by decide +kernel
theorem dX7_place_1 : decode cX7_place 1 = .ok (.invokestatic 66, 3) := by decide +kernel
theorem dX7_place_4 : decode cX7_place 4 = .ok (.ifCond .eq 23, 3) := by decide +kernel
theorem dX7_place_7 : decode cX7_place 7 = .ok (.iload_n 2, 1) := by decide +kernel
theorem dX7_place_8 : decode cX7_place 8 = .ok (.iconst 0, 1) := by decide +kernel
theorem dX7_place_9 : decode cX7_place 9 = .ok (.bipush 9, 2) := by decide +kernel
theorem dX7_place_11 : decode cX7_place 11 = .ok (.invokestatic 70, 3) := by decide +kernel
theorem dX7_place_14 : decode cX7_place 14 = .ok (.ifCond .eq 13, 3) := by decide +kernel
theorem dX7_place_17 : decode cX7_place 17 = .ok (.iload_n 3, 1) := by decide +kernel
theorem dX7_place_18 : decode cX7_place 18 = .ok (.iconst 0, 1) := by decide +kernel
theorem dX7_place_19 : decode cX7_place 19 = .ok (.bipush 9, 2) := by decide +kernel
theorem dX7_place_21 : decode cX7_place 21 = .ok (.invokestatic 70, 3) := by decide +kernel
theorem dX7_place_24 : decode cX7_place 24 = .ok (.ifCond .ne 8, 3) := by decide +kernel
theorem dX7_place_27 : decode cX7_place 27 = .ok (.aload_n 0, 1) := by decide +kernel
theorem dX7_place_28 : decode cX7_place 28 = .ok (.invokevirtual 74, 3) := by decide +kernel
theorem dX7_place_31 : decode cX7_place 31 = .ok (.ireturn, 1) := by decide +kernel
theorem dX7_place_32 : decode cX7_place 32 = .ok (.aload_n 0, 1) := by decide +kernel
theorem dX7_place_33 : decode cX7_place 33 = .ok (.getfield 10, 3) := by decide +kernel
theorem dX7_place_36 : decode cX7_place 36 = .ok (.getfield 60, 3) := by decide +kernel
theorem dX7_place_39 : decode cX7_place 39 = .ok (.bipush 7, 2) := by decide +kernel
theorem dX7_place_41 : decode cX7_place 41 = .ok (.if_icmp .lt 8, 3) := by decide +kernel
theorem dX7_place_44 : decode cX7_place 44 = .ok (.aload_n 0, 1) := by decide +kernel
theorem dX7_place_45 : decode cX7_place 45 = .ok (.invokevirtual 78, 3) := by decide +kernel
theorem dX7_place_48 : decode cX7_place 48 = .ok (.ireturn, 1) := by decide +kernel
theorem dX7_place_49 : decode cX7_place 49 = .ok (.aload_n 0, 1) := by decide +kernel
theorem dX7_place_50 : decode cX7_place 50 = .ok (.getfield 10, 3) := by decide +kernel
theorem dX7_place_53 : decode cX7_place 53 = .ok (.iload_n 1, 1) := by decide +kernel
theorem dX7_place_54 : decode cX7_place 54 = .ok (.iload_n 2, 1) := by decide +kernel
theorem dX7_place_55 : decode cX7_place 55 = .ok (.iload_n 3, 1) := by decide +kernel
theorem dX7_place_56 : decode cX7_place 56 = .ok (.invokevirtual 81, 3) := by decide +kernel
theorem dX7_place_59 : decode cX7_place 59 = .ok (.ireturn, 1) := by decide +kernel
theorem dX7_crow_0 : decode cX7_crow 0 = .ok (.iload_n 1, 1) := by decide +kernel
theorem dX7_crow_1 : decode cX7_crow 1 = .ok (.invokestatic 66, 3) := by decide +kernel
theorem dX7_crow_4 : decode cX7_crow 4 = .ok (.ifCond .eq 14, 3) := by decide +kernel
theorem dX7_crow_7 : decode cX7_crow 7 = .ok (.aload_n 0, 1) := by decide +kernel
theorem dX7_crow_8 : decode cX7_crow 8 = .ok (.getfield 10, 3) := by decide +kernel
theorem dX7_crow_11 : decode cX7_crow 11 = .ok (.iload_n 2, 1) := by decide +kernel
theorem dX7_crow_12 : decode cX7_crow 12 = .ok (.invokevirtual 85, 3) := by decide +kernel
theorem dX7_crow_15 : decode cX7_crow 15 = .ok (.ifCond .ne 8, 3) := by decide +kernel
theorem dX7_crow_18 : decode cX7_crow 18 = .ok (.aload_n 0, 1) := by decide +kernel
theorem dX7_crow_19 : decode cX7_crow 19 = .ok (.invokevirtual 74, 3) := by decide +kernel
theorem dX7_crow_22 : decode cX7_crow 22 = .ok (.ireturn, 1) := by decide +kernel
theorem dX7_crow_23 : decode cX7_crow 23 = .ok (.aload_n 0, 1) := by decide +kernel
theorem dX7_crow_24 : decode cX7_crow 24 = .ok (.getfield 10, 3) := by decide +kernel
theorem dX7_crow_27 : decode cX7_crow 27 = .ok (.getfield 88, 3) := by decide +kernel
theorem dX7_crow_30 : decode cX7_crow 30 = .ok (.iconst 3, 1) := by decide +kernel
theorem dX7_crow_31 : decode cX7_crow 31 = .ok (.if_icmp .lt 8, 3) := by decide +kernel
theorem dX7_crow_34 : decode cX7_crow 34 = .ok (.aload_n 0, 1) := by decide +kernel
theorem dX7_crow_35 : decode cX7_crow 35 = .ok (.invokevirtual 78, 3) := by decide +kernel
theorem dX7_crow_38 : decode cX7_crow 38 = .ok (.ireturn, 1) := by decide +kernel
theorem dX7_crow_39 : decode cX7_crow 39 = .ok (.aload_n 0, 1) := by decide +kernel
theorem dX7_crow_40 : decode cX7_crow 40 = .ok (.getfield 10, 3) := by decide +kernel
theorem dX7_crow_43 : decode cX7_crow 43 = .ok (.iload_n 1, 1) := by decide +kernel
theorem dX7_crow_44 : decode cX7_crow 44 = .ok (.iload_n 2, 1) := by decide +kernel
theorem dX7_crow_45 : decode cX7_crow 45 = .ok (.invokevirtual 91, 3) := by decide +kernel
theorem dX7_crow_48 : decode cX7_crow 48 = .ok (.ireturn, 1) := by decide +kernel
theorem dX7_type_0 : decode cX7_type 0 = .ok (.iload_n 1, 1) := by decide +kernel
theorem dX7_type_1 : decode cX7_type 1 = .ok (.iconst 0, 1) := by decide +kernel
theorem dX7_type_2 : decode cX7_type 2 = .ok (.bipush 127, 2) := by decide +kernel
theorem dX7_type_4 : decode cX7_type 4 = .ok (.invokestatic 70, 3) := by decide +kernel
theorem dX7_type_7 : decode cX7_type 7 = .ok (.ifCond .ne 8, 3) := by decide +kernel
theorem dX7_type_10 : decode cX7_type 10 = .ok (.aload_n 0, 1) := by decide +kernel
theorem dX7_type_11 : decode cX7_type 11 = .ok (.invokevirtual 74, 3) := by decide +kernel
theorem dX7_type_14 : decode cX7_type 14 = .ok (.ireturn, 1) := by decide +kernel
theorem dX7_type_15 : decode cX7_type 15 = .ok (.aload_n 0, 1) := by decide +kernel
theorem dX7_type_16 : decode cX7_type 16 = .ok (.getfield 95, 3) := by decide +kernel
theorem dX7_type_19 : decode cX7_type 19 = .ok (.sipush 150, 3) := by decide +kernel
theorem dX7_type_22 : decode cX7_type 22 = .ok (.if_icmp .lt 8, 3) := by decide +kernel
theorem dX7_type_25 : decode cX7_type 25 = .ok (.aload_n 0, 1) := by decide +kernel
theorem dX7_type_26 : decode cX7_type 26 = .ok (.invokevirtual 78, 3) := by decide +kernel
theorem dX7_type_29 : decode cX7_type 29 = .ok (.ireturn, 1) := by decide +kernel
theorem dX7_type_30 : decode cX7_type 30 = .ok (.aload_n 0, 1) := by decide +kernel
theorem dX7_type_31 : decode cX7_type 31 = .ok (.getfield 24, 3) := by decide +kernel
theorem dX7_type_34 : decode cX7_type 34 = .ok (.aload_n 0, 1) := by decide +kernel
theorem dX7_type_35 : decode cX7_type 35 = .ok (.getfield 95, 3) := by decide +kernel
