theorem dX0_init_0 : decode cX0_init 0 = .ok (.aload_n 0, 1) := by decide +kernel
theorem dX0_init_1 : decode cX0_init 1 = .ok (.invokespecial 3, 3) := by decide +kernel
theorem dX0_init_4 : decode cX0_init 4 = .ok (.aload_n 0, 1) := by decide +kernel
theorem dX0_init_5 : decode cX0_init 5 = .ok (.bipush 60, 2) := by decide +kernel
theorem dX0_init_7 : decode cX0_init 7 = .ok (.newarray .int, 2) := by decide +kernel
theorem dX0_init_9 : decode cX0_init 9 = .ok (.putfield 9, 3) := by decide +kernel
theorem dX0_init_12 : decode cX0_init 12 = .ok (.aload_n 0, 1) := by decide +kernel
theorem dX0_init_13 : decode cX0_init 13 = .ok (.bipush 60, 2) := by decide +kernel
theorem dX0_init_15 : decode cX0_init 15 = .ok (.newarray .boolean, 2) := by decide +kernel
theorem dX0_init_17 : decode cX0_init 17 = .ok (.putfield 15, 3) := by decide +kernel
theorem dX0_init_20 : decode cX0_init 20 = .ok (.aload_n 0, 1) := by decide +kernel
theorem dX0_init_21 : decode cX0_init 21 = .ok (.bipush 73, 2) := by decide +kernel
theorem dX0_init_23 : decode cX0_init 23 = .ok (.newarray .int, 2) := by decide +kernel
theorem dX0_init_25 : decode cX0_init 25 = .ok (.putfield 19, 3) := by decide +kernel
theorem dX0_init_28 : decode cX0_init 28 = .ok (.return_, 1) := by decide +kernel
theorem dX0_choose_0 : decode cX0_choose 0 = .ok (.aload_n 0, 1) := by decide +kernel
theorem dX0_choose_1 : decode cX0_choose 1 = .ok (.iload_n 1, 1) := by decide +kernel
theorem dX0_choose_2 : decode cX0_choose 2 = .ok (.putfield 22, 3) := by decide +kernel
theorem dX0_choose_5 : decode cX0_choose 5 = .ok (.aload_n 0, 1) := by decide +kernel
theorem dX0_choose_6 : decode cX0_choose 6 = .ok (.iload_n 2, 1) := by decide +kernel
theorem dX0_choose_7 : decode cX0_choose 7 = .ok (.putfield 26, 3) := by decide +kernel
theorem dX0_choose_10 : decode cX0_choose 10 = .ok (.aload_n 0, 1) := by decide +kernel
theorem dX0_choose_11 : decode cX0_choose 11 = .ok (.iload_n 3, 1) := by decide +kernel
theorem dX0_choose_12 : decode cX0_choose 12 = .ok (.putfield 29, 3) := by decide +kernel
theorem dX0_choose_15 : decode cX0_choose 15 = .ok (.aload_n 0, 1) := by decide +kernel
theorem dX0_choose_16 : decode cX0_choose 16 = .ok (.iload 4, 2) := by decide +kernel
theorem dX0_choose_18 : decode cX0_choose 18 = .ok (.putfield 32, 3) := by decide +kernel
theorem dX0_choose_21 : decode cX0_choose 21 = .ok (.return_, 1) := by decide +kernel
theorem dX0_chooseLargest_0 : decode cX0_chooseLargest 0 = .ok (.aload_n 0, 1) := by decide +kernel
theorem dX0_chooseLargest_1 : decode cX0_chooseLargest 1 = .ok (.iconst 0, 1) := by decide +kernel
theorem dX0_chooseLargest_2 : decode cX0_chooseLargest 2 = .ok (.iconst 0, 1) := by decide +kernel
theorem dX0_chooseLargest_3 : decode cX0_chooseLargest 3 = .ok (.iconst 0, 1) := by decide +kernel
theorem dX0_chooseLargest_4 : decode cX0_chooseLargest 4 = .ok (.iconst 0, 1) := by decide +kernel
theorem dX0_chooseLargest_5 : decode cX0_chooseLargest 5 = .ok (.invokevirtual 35, 3) := by decide +kernel
theorem dX0_chooseLargest_8 : decode cX0_chooseLargest 8 = .ok (.iconst 1, 1) := by decide +kernel
theorem dX0_chooseLargest_9 : decode cX0_chooseLargest 9 = .ok (.aload_n 1, 1) := by decide +kernel
theorem dX0_chooseLargest_10 : decode cX0_chooseLargest 10 = .ok (.getfield 39, 3) := by decide +kernel
theorem dX0_chooseLargest_13 : decode cX0_chooseLargest 13 = .ok (.ishl, 1) := by decide +kernel
theorem dX0_chooseLargest_14 : decode cX0_chooseLargest 14 = .ok (.istore_n 3, 1) := by decide +kernel
theorem dX0_chooseLargest_15 : decode cX0_chooseLargest 15 = .ok (.iconst 1, 1) := by decide +kernel
theorem dX0_chooseLargest_16 : decode cX0_chooseLargest 16 = .ok (.istore 4, 2) := by decide +kernel
theorem dX0_chooseLargest_18 : decode cX0_chooseLargest 18 = .ok (.iload 4, 2) := by decide +kernel
theorem dX0_chooseLargest_20 : decode cX0_chooseLargest 20 = .ok (.iload_n 3, 1) := by decide +kernel
theorem dX0_chooseLargest_21 : decode cX0_chooseLargest 21 = .ok (.if_icmp .ge 87, 3) := by decide +kernel
theorem dX0_chooseLargest_24 : decode cX0_chooseLargest 24 = .ok (.aload_n 1, 1) := by decide +kernel
theorem dX0_chooseLargest_25 : decode cX0_chooseLargest 25 = .ok (.getfield 44, 3) := by decide +kernel
theorem dX0_chooseLargest_28 : decode cX0_chooseLargest 28 = .ok (.iload 4, 2) := by decide +kernel
theorem dX0_chooseLargest_30 : decode cX0_chooseLargest 30 = .ok (.invokestatic 47, 3) := by decide +kernel
theorem dX0_chooseLargest_33 : decode cX0_chooseLargest 33 = .ok (.istore 5, 2) := by decide +kernel
theorem dX0_chooseLargest_35 : decode cX0_chooseLargest 35 = .ok (.aload_n 1, 1) := by decide +kernel
theorem dX0_chooseLargest_36 : decode cX0_chooseLargest 36 = .ok (.getfield 51, 3) := by decide +kernel
theorem dX0_chooseLargest_39 : decode cX0_chooseLargest 39 = .ok (.iload 4, 2) := by decide +kernel
theorem dX0_chooseLargest_41 : decode cX0_chooseLargest 41 = .ok (.invokestatic 47, 3) := by decide +kernel
theorem dX0_chooseLargest_44 : decode cX0_chooseLargest 44 = .ok (.istore 6, 2) := by decide +kernel
theorem dX0_chooseLargest_46 : decode cX0_chooseLargest 46 = .ok (.iload 6, 2) := by decide +kernel
theorem dX0_chooseLargest_48 : decode cX0_chooseLargest 48 = .ok (.aload_n 0, 1) := by decide +kernel
theorem dX0_chooseLargest_49 : decode cX0_chooseLargest 49 = .ok (.getfield 26, 3) := by decide +kernel
theorem dX0_chooseLargest_52 : decode cX0_chooseLargest 52 = .ok (.if_icmp .gt 21, 3) := by decide +kernel
theorem dX0_chooseLargest_55 : decode cX0_chooseLargest 55 = .ok (.iload 6, 2) := by decide +kernel
theorem dX0_chooseLargest_57 : decode cX0_chooseLargest 57 = .ok (.aload_n 0, 1) := by decide +kernel
theorem dX0_chooseLargest_58 : decode cX0_chooseLargest 58 = .ok (.getfield 26, 3) := by decide +kernel
theorem dX0_chooseLargest_61 : decode cX0_chooseLargest 61 = .ok (.if_icmp .ne 16, 3) := by decide +kernel
theorem dX0_chooseLargest_64 : decode cX0_chooseLargest 64 = .ok (.iload 5, 2) := by decide +kernel
theorem dX0_chooseLargest_66 : decode cX0_chooseLargest 66 = .ok (.aload_n 0, 1) := by decide +kernel
theorem dX0_chooseLargest_67 : decode cX0_chooseLargest 67 = .ok (.getfield 29, 3) := by decide +kernel
theorem dX0_chooseLargest_70 : decode cX0_chooseLargest 70 = .ok (.if_icmp .ge 7, 3) := by decide +kernel
theorem dX0_chooseLargest_73 : decode cX0_chooseLargest 73 = .ok (.iconst 1, 1) := by decide +kernel
theorem dX0_chooseLargest_74 : decode cX0_chooseLargest 74 = .ok (.goto 4, 3) := by decide +kernel
theorem dX0_chooseLargest_77 : decode cX0_chooseLargest 77 = .ok (.iconst 0, 1) := by decide +kernel
theorem dX0_chooseLargest_78 : decode cX0_chooseLargest 78 = .ok (.istore 7, 2) := by decide +kernel
theorem dX0_chooseLargest_80 : decode cX0_chooseLargest 80 = .ok (.iload 5, 2) := by decide +kernel
theorem dX0_chooseLargest_82 : decode cX0_chooseLargest 82 = .ok (.iload_n 2, 1) := by decide +kernel
theorem dX0_chooseLargest_83 : decode cX0_chooseLargest 83 = .ok (.if_icmp .gt 19, 3) := by decide +kernel
theorem dX0_chooseLargest_86 : decode cX0_chooseLargest 86 = .ok (.iload 7, 2) := by decide +kernel
theorem dX0_chooseLargest_88 : decode cX0_chooseLargest 88 = .ok (.ifCond .eq 14, 3) := by decide +kernel
theorem dX0_chooseLargest_91 : decode cX0_chooseLargest 91 = .ok (.aload_n 0, 1) := by decide +kernel
theorem dX0_chooseLargest_92 : decode cX0_chooseLargest 92 = .ok (.iload 4, 2) := by decide +kernel
theorem dX0_chooseLargest_94 : decode cX0_chooseLargest 94 = .ok (.iload 6, 2) := by decide +kernel
theorem dX0_chooseLargest_96 : decode cX0_chooseLargest 96 = .ok (.iload 5, 2) := by decide +kernel
theorem dX0_chooseLargest_98 : decode cX0_chooseLargest 98 = .ok (.iconst 0, 1) := by decide +kernel
theorem dX0_chooseLargest_99 : decode cX0_chooseLargest 99 = .ok (.invokevirtual 35, 3) := by decide +kernel
theorem dX0_chooseLargest_102 : decode cX0_chooseLargest 102 = .ok (.iinc 4 1, 3) := by decide +kernel
theorem dX0_chooseLargest_105 : decode cX0_chooseLargest 105 = .ok (.goto (-87), 3) := by decide +kernel
theorem dX0_chooseLargest_108 : decode cX0_chooseLargest 108 = .ok (.return_, 1) := by decide +kernel
theorem dX0_choosesSoonest_0 : decode cX0_choosesSoonest 0 = .ok (.aload_n 0, 1) := by decide +kernel
theorem dX0_choosesSoonest_1 : decode cX0_choosesSoonest 1 = .ok (.aload_n 1, 1) := by decide +kernel
theorem dX0_choosesSoonest_2 : decode cX0_choosesSoonest 2 = .ok (.invokevirtual 54, 3) := by decide +kernel
theorem dX0_choosesSoonest_5 : decode cX0_choosesSoonest 5 = .ok (.aload_n 0, 1) := by decide +kernel
theorem dX0_choosesSoonest_6 : decode cX0_choosesSoonest 6 = .ok (.iconst 0, 1) := by decide +kernel
theorem dX0_choosesSoonest_7 : decode cX0_choosesSoonest 7 = .ok (.iconst 0, 1) := by decide +kernel
theorem dX0_choosesSoonest_8 : decode cX0_choosesSoonest 8 = .ok (.iconst 0, 1) := by decide +kernel
theorem dX0_choosesSoonest_9 : decode cX0_choosesSoonest 9 = .ok (.bipush 61, 2) := by decide +kernel
theorem dX0_choosesSoonest_11 : decode cX0_choosesSoonest 11 = .ok (.invokevirtual 35, 3) := by decide +kernel
theorem dX0_choosesSoonest_14 : decode cX0_choosesSoonest 14 = .ok (.iconst 1, 1) := by decide +kernel
theorem dX0_choosesSoonest_15 : decode cX0_choosesSoonest 15 = .ok (.aload_n 1, 1) := by decide +kernel
theorem dX0_choosesSoonest_16 : decode cX0_choosesSoonest 16 = .ok (.getfield 58, 3) := by decide +kernel
theorem dX0_choosesSoonest_19 : decode cX0_choosesSoonest 19 = .ok (.getfield 39, 3) := by decide +kernel
theorem dX0_choosesSoonest_22 : decode cX0_choosesSoonest 22 = .ok (.ishl, 1) := by decide +kernel
theorem dX0_choosesSoonest_23 : decode cX0_choosesSoonest 23 = .ok (.istore 4, 2) := by decide +kernel
theorem dX0_choosesSoonest_25 : decode cX0_choosesSoonest 25 = .ok (.iconst 0, 1) := by decide +kernel
theorem dX0_choosesSoonest_26 : decode cX0_choosesSoonest 26 = .ok (.istore 5, 2) := by decide +kernel
theorem dX0_choosesSoonest_28 : decode cX0_choosesSoonest 28 = .ok (.iload 5, 2) := by decide +kernel
theorem dX0_choosesSoonest_30 : decode cX0_choosesSoonest 30 = .ok (.iload 4, 2) := by decide +kernel
theorem dX0_choosesSoonest_32 : decode cX0_choosesSoonest 32 = .ok (.if_icmp .ge 92, 3) := by decide +kernel
theorem dX0_choosesSoonest_35 : decode cX0_choosesSoonest 35 = .ok (.aload_n 1, 1) := by decide +kernel
theorem dX0_choosesSoonest_36 : decode cX0_choosesSoonest 36 = .ok (.getfield 58, 3) := by decide +kernel
theorem dX0_choosesSoonest_39 : decode cX0_choosesSoonest 39 = .ok (.getfield 44, 3) := by decide +kernel
theorem dX0_choosesSoonest_42 : decode cX0_choosesSoonest 42 = .ok (.iload 5, 2) := by decide +kernel
theorem dX0_choosesSoonest_44 : decode cX0_choosesSoonest 44 = .ok (.invokestatic 47, 3) := by decide +kernel
theorem dX0_choosesSoonest_47 : decode cX0_choosesSoonest 47 = .ok (.istore 6, 2) := by decide +kernel
theorem dX0_choosesSoonest_49 : decode cX0_choosesSoonest 49 = .ok (.iload 6, 2) := by decide +kernel
theorem dX0_choosesSoonest_51 : decode cX0_choosesSoonest 51 = .ok (.iload_n 2, 1) := by decide +kernel
theorem dX0_choosesSoonest_52 : decode cX0_choosesSoonest 52 = .ok (.if_icmp .gt 66, 3) := by decide +kernel
theorem dX0_choosesSoonest_55 : decode cX0_choosesSoonest 55 = .ok (.aload_n 1, 1) := by decide +kernel
theorem dX0_choosesSoonest_56 : decode cX0_choosesSoonest 56 = .ok (.getfield 58, 3) := by decide +kernel
theorem dX0_choosesSoonest_59 : decode cX0_choosesSoonest 59 = .ok (.getfield 51, 3) := by decide +kernel
theorem dX0_choosesSoonest_62 : decode cX0_choosesSoonest 62 = .ok (.iload 5, 2) := by decide +kernel
theorem dX0_choosesSoonest_64 : decode cX0_choosesSoonest 64 = .ok (.invokestatic 47, 3) := by decide +kernel
theorem dX0_choosesSoonest_67 : decode cX0_choosesSoonest 67 = .ok (.istore 7, 2) := by decide +kernel
theorem dX0_choosesSoonest_69 : decode cX0_choosesSoonest 69 = .ok (.aload_n 0, 1) := by decide +kernel
theorem dX0_choosesSoonest_70 : decode cX0_choosesSoonest 70 = .ok (.iload 7, 2) := by decide +kernel
theorem dX0_choosesSoonest_72 : decode cX0_choosesSoonest 72 = .ok (.aload_n 1, 1) := by decide +kernel
theorem dX0_choosesSoonest_73 : decode cX0_choosesSoonest 73 = .ok (.iload_n 3, 1) := by decide +kernel
theorem dX0_choosesSoonest_74 : decode cX0_choosesSoonest 74 = .ok (.invokevirtual 64, 3) := by decide +kernel
theorem dX0_choosesSoonest_77 : decode cX0_choosesSoonest 77 = .ok (.istore 8, 2) := by decide +kernel
theorem dX0_choosesSoonest_79 : decode cX0_choosesSoonest 79 = .ok (.iload 8, 2) := by decide +kernel
theorem dX0_choosesSoonest_81 : decode cX0_choosesSoonest 81 = .ok (.aload_n 0, 1) := by decide +kernel
theorem dX0_choosesSoonest_82 : decode cX0_choosesSoonest 82 = .ok (.getfield 32, 3) := by decide +kernel
theorem dX0_choosesSoonest_85 : decode cX0_choosesSoonest 85 = .ok (.if_icmp .lt 21, 3) := by decide +kernel
theorem dX0_choosesSoonest_88 : decode cX0_choosesSoonest 88 = .ok (.iload 8, 2) := by decide +kernel
theorem dX0_choosesSoonest_90 : decode cX0_choosesSoonest 90 = .ok (.aload_n 0, 1) := by decide +kernel
theorem dX0_choosesSoonest_91 : decode cX0_choosesSoonest 91 = .ok (.getfield 32, 3) := by decide +kernel
theorem dX0_choosesSoonest_94 : decode cX0_choosesSoonest 94 = .ok (.if_icmp .ne 24, 3) := by decide +kernel
theorem dX0_choosesSoonest_97 : decode cX0_choosesSoonest 97 = .ok (.iload 6, 2) := by decide +kernel
theorem dX0_choosesSoonest_99 : decode cX0_choosesSoonest 99 = .ok (.aload_n 0, 1) := by decide +kernel
theorem dX0_choosesSoonest_100 : decode cX0_choosesSoonest 100 = .ok (.getfield 29, 3) := by decide +kernel
theorem dX0_choosesSoonest_103 : decode cX0_choosesSoonest 103 = .ok (.if_icmp .ge 15, 3) := by decide +kernel
theorem dX0_choosesSoonest_106 : decode cX0_choosesSoonest 106 = .ok (.aload_n 0, 1) := by decide +kernel
theorem dX0_choosesSoonest_107 : decode cX0_choosesSoonest 107 = .ok (.iload 5, 2) := by decide +kernel
theorem dX0_choosesSoonest_109 : decode cX0_choosesSoonest 109 = .ok (.iload 7, 2) := by decide +kernel
theorem dX0_choosesSoonest_111 : decode cX0_choosesSoonest 111 = .ok (.iload 6, 2) := by decide +kernel
theorem dX0_choosesSoonest_113 : decode cX0_choosesSoonest 113 = .ok (.iload 8, 2) := by decide +kernel
theorem dX0_choosesSoonest_115 : decode cX0_choosesSoonest 115 = .ok (.invokevirtual 35, 3) := by decide +kernel
theorem dX0_choosesSoonest_118 : decode cX0_choosesSoonest 118 = .ok (.iinc 5 1, 3) := by decide +kernel
theorem dX0_choosesSoonest_121 : decode cX0_choosesSoonest 121 = .ok (.goto (-93), 3) := by decide +kernel
theorem dX0_choosesSoonest_124 : decode cX0_choosesSoonest 124 = .ok (.aload_n 0, 1) := by decide +kernel
theorem dX0_choosesSoonest_125 : decode cX0_choosesSoonest 125 = .ok (.getfield 32, 3) := by decide +kernel
theorem dX0_choosesSoonest_128 : decode cX0_choosesSoonest 128 = .ok (.bipush 60, 2) := by decide +kernel
theorem dX0_choosesSoonest_130 : decode cX0_choosesSoonest 130 = .ok (.if_icmp .gt 7, 3) := by decide +kernel
theorem dX0_choosesSoonest_133 : decode cX0_choosesSoonest 133 = .ok (.iconst 1, 1) := by decide +kernel
theorem dX0_choosesSoonest_134 : decode cX0_choosesSoonest 134 = .ok (.goto 4, 3) := by decide +kernel
theorem dX0_choosesSoonest_137 : decode cX0_choosesSoonest 137 = .ok (.iconst 0, 1) := by decide +kernel
theorem dX0_choosesSoonest_138 : decode cX0_choosesSoonest 138 = .ok (.ireturn, 1) := by decide +kernel
theorem dX0_lookAhead_0 : decode cX0_lookAhead 0 = .ok (.aload_n 0, 1) := by decide +kernel
theorem dX0_lookAhead_1 : decode cX0_lookAhead 1 = .ok (.getfield 19, 3) := by decide +kernel
theorem dX0_lookAhead_4 : decode cX0_lookAhead 4 = .ok (.iconst 0, 1) := by decide +kernel
theorem dX0_lookAhead_5 : decode cX0_lookAhead 5 = .ok (.invokestatic 68, 3) := by decide +kernel
theorem dX0_lookAhead_8 : decode cX0_lookAhead 8 = .ok (.iconst 0, 1) := by decide +kernel
theorem dX0_lookAhead_9 : decode cX0_lookAhead 9 = .ok (.istore_n 2, 1) := by decide +kernel
theorem dX0_lookAhead_10 : decode cX0_lookAhead 10 = .ok (.iload_n 2, 1) := by decide +kernel
theorem dX0_lookAhead_11 : decode cX0_lookAhead 11 = .ok (.bipush 60, 2) := by decide +kernel
theorem dX0_lookAhead_13 : decode cX0_lookAhead 13 = .ok (.if_icmp .ge 41, 3) := by decide +kernel
theorem dX0_lookAhead_16 : decode cX0_lookAhead 16 = .ok (.aload_n 0, 1) := by decide +kernel
theorem dX0_lookAhead_17 : decode cX0_lookAhead 17 = .ok (.getfield 9, 3) := by decide +kernel
theorem dX0_lookAhead_20 : decode cX0_lookAhead 20 = .ok (.iload_n 2, 1) := by decide +kernel
theorem dX0_lookAhead_21 : decode cX0_lookAhead 21 = .ok (.aload_n 1, 1) := by decide +kernel
theorem dX0_lookAhead_22 : decode cX0_lookAhead 22 = .ok (.aload_n 1, 1) := by decide +kernel
theorem dX0_lookAhead_23 : decode cX0_lookAhead 23 = .ok (.getfield 74, 3) := by decide +kernel
theorem dX0_lookAhead_26 : decode cX0_lookAhead 26 = .ok (.iload_n 2, 1) := by decide +kernel
theorem dX0_lookAhead_27 : decode cX0_lookAhead 27 = .ok (.iadd, 1) := by decide +kernel
theorem dX0_lookAhead_28 : decode cX0_lookAhead 28 = .ok (.invokevirtual 77, 3) := by decide +kernel
theorem dX0_lookAhead_31 : decode cX0_lookAhead 31 = .ok (.iastore, 1) := by decide +kernel
theorem dX0_lookAhead_32 : decode cX0_lookAhead 32 = .ok (.aload_n 0, 1) := by decide +kernel
theorem dX0_lookAhead_33 : decode cX0_lookAhead 33 = .ok (.getfield 15, 3) := by decide +kernel
theorem dX0_lookAhead_36 : decode cX0_lookAhead 36 = .ok (.iload_n 2, 1) := by decide +kernel
theorem dX0_lookAhead_37 : decode cX0_lookAhead 37 = .ok (.aload_n 1, 1) := by decide +kernel
theorem dX0_lookAhead_38 : decode cX0_lookAhead 38 = .ok (.aload_n 1, 1) := by decide +kernel
theorem dX0_lookAhead_39 : decode cX0_lookAhead 39 = .ok (.getfield 74, 3) := by decide +kernel
theorem dX0_lookAhead_42 : decode cX0_lookAhead 42 = .ok (.iload_n 2, 1) := by decide +kernel
theorem dX0_lookAhead_43 : decode cX0_lookAhead 43 = .ok (.iadd, 1) := by decide +kernel
theorem dX0_lookAhead_44 : decode cX0_lookAhead 44 = .ok (.invokevirtual 81, 3) := by decide +kernel
theorem dX0_lookAhead_47 : decode cX0_lookAhead 47 = .ok (.bastore, 1) := by decide +kernel
theorem dX0_lookAhead_48 : decode cX0_lookAhead 48 = .ok (.iinc 2 1, 3) := by decide +kernel
theorem dX0_lookAhead_51 : decode cX0_lookAhead 51 = .ok (.goto (-41), 3) := by decide +kernel
theorem dX0_lookAhead_54 : decode cX0_lookAhead 54 = .ok (.return_, 1) := by decide +kernel
theorem dX0_daysOf_0 : decode cX0_daysOf 0 = .ok (.iload_n 1, 1) := by decide +kernel
theorem dX0_daysOf_1 : decode cX0_daysOf 1 = .ok (.ifCond .lt 12, 3) := by decide +kernel
theorem dX0_daysOf_4 : decode cX0_daysOf 4 = .ok (.iload_n 1, 1) := by decide +kernel
theorem dX0_daysOf_5 : decode cX0_daysOf 5 = .ok (.aload_n 0, 1) := by decide +kernel
theorem dX0_daysOf_6 : decode cX0_daysOf 6 = .ok (.getfield 19, 3) := by decide +kernel
theorem dX0_daysOf_9 : decode cX0_daysOf 9 = .ok (.arraylength, 1) := by decide +kernel
theorem dX0_daysOf_10 : decode cX0_daysOf 10 = .ok (.if_icmp .lt 6, 3) := by decide +kernel
theorem dX0_daysOf_13 : decode cX0_daysOf 13 = .ok (.bipush 61, 2) := by decide +kernel
theorem dX0_daysOf_15 : decode cX0_daysOf 15 = .ok (.ireturn, 1) := by decide +kernel
theorem dX0_daysOf_16 : decode cX0_daysOf 16 = .ok (.aload_n 0, 1) := by decide +kernel
theorem dX0_daysOf_17 : decode cX0_daysOf 17 = .ok (.getfield 19, 3) := by decide +kernel
theorem dX0_daysOf_20 : decode cX0_daysOf 20 = .ok (.iload_n 1, 1) := by decide +kernel
theorem dX0_daysOf_21 : decode cX0_daysOf 21 = .ok (.iaload, 1) := by decide +kernel
theorem dX0_daysOf_22 : decode cX0_daysOf 22 = .ok (.ifCond .ne 25, 3) := by decide +kernel
theorem dX0_daysOf_25 : decode cX0_daysOf 25 = .ok (.aload_n 0, 1) := by decide +kernel
theorem dX0_daysOf_26 : decode cX0_daysOf 26 = .ok (.getfield 19, 3) := by decide +kernel
theorem dX0_daysOf_29 : decode cX0_daysOf 29 = .ok (.iload_n 1, 1) := by decide +kernel
theorem dX0_daysOf_30 : decode cX0_daysOf 30 = .ok (.aload_n 0, 1) := by decide +kernel
theorem dX0_daysOf_31 : decode cX0_daysOf 31 = .ok (.iload_n 3, 1) := by decide +kernel
theorem dX0_daysOf_32 : decode cX0_daysOf 32 = .ok (.iload_n 1, 1) := by decide +kernel
theorem dX0_daysOf_33 : decode cX0_daysOf 33 = .ok (.aload_n 2, 1) := by decide +kernel
theorem dX0_daysOf_34 : decode cX0_daysOf 34 = .ok (.aload_n 0, 1) := by decide +kernel
theorem dX0_daysOf_35 : decode cX0_daysOf 35 = .ok (.getfield 32, 3) := by decide +kernel
theorem dX0_daysOf_38 : decode cX0_daysOf 38 = .ok (.bipush 60, 2) := by decide +kernel
theorem dX0_daysOf_40 : decode cX0_daysOf 40 = .ok (.invokestatic 85, 3) := by decide +kernel
theorem dX0_daysOf_43 : decode cX0_daysOf 43 = .ok (.invokevirtual 91, 3) := by decide +kernel
theorem dX0_daysOf_46 : decode cX0_daysOf 46 = .ok (.iastore, 1) := by decide +kernel
theorem dX0_daysOf_47 : decode cX0_daysOf 47 = .ok (.aload_n 0, 1) := by decide +kernel
theorem dX0_daysOf_48 : decode cX0_daysOf 48 = .ok (.getfield 19, 3) := by decide +kernel
theorem dX0_daysOf_51 : decode cX0_daysOf 51 = .ok (.iload_n 1, 1) := by decide +kernel
theorem dX0_daysOf_52 : decode cX0_daysOf 52 = .ok (.iaload, 1) := by decide +kernel
theorem dX0_daysOf_53 : decode cX0_daysOf 53 = .ok (.ireturn, 1) := by decide +kernel
theorem dX0_daysUntilBelow_0 : decode cX0_daysUntilBelow 0 = .ok (.aload_n 3, 1) := by decide +kernel
theorem dX0_daysUntilBelow_1 : decode cX0_daysUntilBelow 1 = .ok (.getfield 95, 3) := by decide +kernel
theorem dX0_daysUntilBelow_4 : decode cX0_daysUntilBelow 4 = .ok (.istore 5, 2) := by decide +kernel
theorem dX0_daysUntilBelow_6 : decode cX0_daysUntilBelow 6 = .ok (.iconst 0, 1) := by decide +kernel
theorem dX0_daysUntilBelow_7 : decode cX0_daysUntilBelow 7 = .ok (.istore 6, 2) := by decide +kernel
theorem dX0_daysUntilBelow_9 : decode cX0_daysUntilBelow 9 = .ok (.iload 6, 2) := by decide +kernel
theorem dX0_daysUntilBelow_11 : decode cX0_daysUntilBelow 11 = .ok (.iload 4, 2) := by decide +kernel
theorem dX0_daysUntilBelow_13 : decode cX0_daysUntilBelow 13 = .ok (.if_icmp .ge 77, 3) := by decide +kernel
theorem dX0_daysUntilBelow_16 : decode cX0_daysUntilBelow 16 = .ok (.iload 6, 2) := by decide +kernel
theorem dX0_daysUntilBelow_18 : decode cX0_daysUntilBelow 18 = .ok (.bipush 60, 2) := by decide +kernel
theorem dX0_daysUntilBelow_20 : decode cX0_daysUntilBelow 20 = .ok (.if_icmp .ge 70, 3) := by decide +kernel
theorem dX0_daysUntilBelow_23 : decode cX0_daysUntilBelow 23 = .ok (.aload_n 3, 1) := by decide +kernel
theorem dX0_daysUntilBelow_24 : decode cX0_daysUntilBelow 24 = .ok (.getfield 74, 3) := by decide +kernel
theorem dX0_daysUntilBelow_27 : decode cX0_daysUntilBelow 27 = .ok (.iload 6, 2) := by decide +kernel
theorem dX0_daysUntilBelow_29 : decode cX0_daysUntilBelow 29 = .ok (.iadd, 1) := by decide +kernel
theorem dX0_daysUntilBelow_30 : decode cX0_daysUntilBelow 30 = .ok (.istore 7, 2) := by decide +kernel
theorem dX0_daysUntilBelow_32 : decode cX0_daysUntilBelow 32 = .ok (.aload_n 0, 1) := by decide +kernel
theorem dX0_daysUntilBelow_33 : decode cX0_daysUntilBelow 33 = .ok (.getfield 9, 3) := by decide +kernel
theorem dX0_daysUntilBelow_36 : decode cX0_daysUntilBelow 36 = .ok (.iload 6, 2) := by decide +kernel
theorem dX0_daysUntilBelow_38 : decode cX0_daysUntilBelow 38 = .ok (.iaload, 1) := by decide +kernel
theorem dX0_daysUntilBelow_39 : decode cX0_daysUntilBelow 39 = .ok (.iload_n 2, 1) := by decide +kernel
theorem dX0_daysUntilBelow_40 : decode cX0_daysUntilBelow 40 = .ok (.iadd, 1) := by decide +kernel
theorem dX0_daysUntilBelow_41 : decode cX0_daysUntilBelow 41 = .ok (.istore 8, 2) := by decide +kernel
theorem dX0_daysUntilBelow_43 : decode cX0_daysUntilBelow 43 = .ok (.iload 5, 2) := by decide +kernel
theorem dX0_daysUntilBelow_45 : decode cX0_daysUntilBelow 45 = .ok (.aload_n 3, 1) := by decide +kernel
theorem dX0_daysUntilBelow_46 : decode cX0_daysUntilBelow 46 = .ok (.iload 7, 2) := by decide +kernel
theorem dX0_daysUntilBelow_48 : decode cX0_daysUntilBelow 48 = .ok (.iload 8, 2) := by decide +kernel
theorem dX0_daysUntilBelow_50 : decode cX0_daysUntilBelow 50 = .ok (.invokevirtual 98, 3) := by decide +kernel
theorem dX0_daysUntilBelow_53 : decode cX0_daysUntilBelow 53 = .ok (.aload_n 3, 1) := by decide +kernel
theorem dX0_daysUntilBelow_54 : decode cX0_daysUntilBelow 54 = .ok (.iload 7, 2) := by decide +kernel
theorem dX0_daysUntilBelow_56 : decode cX0_daysUntilBelow 56 = .ok (.iload 8, 2) := by decide +kernel
theorem dX0_daysUntilBelow_58 : decode cX0_daysUntilBelow 58 = .ok (.invokevirtual 101, 3) := by decide +kernel
theorem dX0_daysUntilBelow_61 : decode cX0_daysUntilBelow 61 = .ok (.aload_n 0, 1) := by decide +kernel
theorem dX0_daysUntilBelow_62 : decode cX0_daysUntilBelow 62 = .ok (.getfield 15, 3) := by decide +kernel
theorem dX0_daysUntilBelow_65 : decode cX0_daysUntilBelow 65 = .ok (.iload 6, 2) := by decide +kernel
theorem dX0_daysUntilBelow_67 : decode cX0_daysUntilBelow 67 = .ok (.baload, 1) := by decide +kernel
theorem dX0_daysUntilBelow_68 : decode cX0_daysUntilBelow 68 = .ok (.invokestatic 104, 3) := by decide +kernel
theorem dX0_daysUntilBelow_71 : decode cX0_daysUntilBelow 71 = .ok (.istore 5, 2) := by decide +kernel
theorem dX0_daysUntilBelow_73 : decode cX0_daysUntilBelow 73 = .ok (.iload 5, 2) := by decide +kernel
theorem dX0_daysUntilBelow_75 : decode cX0_daysUntilBelow 75 = .ok (.iload_n 1, 1) := by decide +kernel
theorem dX0_daysUntilBelow_76 : decode cX0_daysUntilBelow 76 = .ok (.if_icmp .ge 8, 3) := by decide +kernel
theorem dX0_daysUntilBelow_79 : decode cX0_daysUntilBelow 79 = .ok (.iload 6, 2) := by decide +kernel
theorem dX0_daysUntilBelow_81 : decode cX0_daysUntilBelow 81 = .ok (.iconst 1, 1) := by decide +kernel
theorem dX0_daysUntilBelow_82 : decode cX0_daysUntilBelow 82 = .ok (.iadd, 1) := by decide +kernel
theorem dX0_daysUntilBelow_83 : decode cX0_daysUntilBelow 83 = .ok (.ireturn, 1) := by decide +kernel
theorem dX0_daysUntilBelow_84 : decode cX0_daysUntilBelow 84 = .ok (.iinc 6 1, 3) := by decide +kernel
theorem dX0_daysUntilBelow_87 : decode cX0_daysUntilBelow 87 = .ok (.goto (-78), 3) := by decide +kernel
theorem dX0_daysUntilBelow_90 : decode cX0_daysUntilBelow 90 = .ok (.bipush 61, 2) := by decide +kernel
theorem dX0_daysUntilBelow_92 : decode cX0_daysUntilBelow 92 = .ok (.ireturn, 1) := by decide +kernel
theorem dX1_init_0 : decode cX1_init 0 = .ok (.aload_n 0, 1) := by decide +kernel
theorem dX1_init_1 : decode cX1_init 1 = .ok (.invokespecial 3, 3) := by decide +kernel
theorem dX1_init_4 : decode cX1_init 4 = .ok (.aload_n 0, 1) := by decide +kernel
theorem dX1_init_5 : decode cX1_init 5 = .ok (.bipush 6, 2) := by decide +kernel
theorem dX1_init_7 : decode cX1_init 7 = .ok (.newarray .int, 2) := by decide +kernel
theorem dX1_init_9 : decode cX1_init 9 = .ok (.putfield 9, 3) := by decide +kernel
theorem dX1_init_12 : decode cX1_init 12 = .ok (.aload_n 0, 1) := by decide +kernel
theorem dX1_init_13 : decode cX1_init 13 = .ok (.bipush 6, 2) := by decide +kernel
theorem dX1_init_15 : decode cX1_init 15 = .ok (.newarray .int, 2) := by decide +kernel
theorem dX1_init_17 : decode cX1_init 17 = .ok (.putfield 15, 3) := by decide +kernel
theorem dX1_init_20 : decode cX1_init 20 = .ok (.aload_n 0, 1) := by decide +kernel
theorem dX1_init_21 : decode cX1_init 21 = .ok (.bipush 6, 2) := by decide +kernel
theorem dX1_init_23 : decode cX1_init 23 = .ok (.newarray .int, 2) := by decide +kernel
theorem dX1_init_25 : decode cX1_init 25 = .ok (.putfield 18, 3) := by decide +kernel
theorem dX1_init_28 : decode cX1_init 28 = .ok (.return_, 1) := by decide +kernel
theorem dX1_has_0 : decode cX1_has 0 = .ok (.iload_n 1, 1) := by decide +kernel
theorem dX1_has_1 : decode cX1_has 1 = .ok (.ifCond .lt 15, 3) := by decide +kernel
theorem dX1_has_4 : decode cX1_has 4 = .ok (.iload_n 1, 1) := by decide +kernel
theorem dX1_has_5 : decode cX1_has 5 = .ok (.aload_n 0, 1) := by decide +kernel
theorem dX1_has_6 : decode cX1_has 6 = .ok (.getfield 21, 3) := by decide +kernel
theorem dX1_has_9 : decode cX1_has 9 = .ok (.if_icmp .ge 7, 3) := by decide +kernel
theorem dX1_has_12 : decode cX1_has 12 = .ok (.iconst 1, 1) := by decide +kernel
theorem dX1_has_13 : decode cX1_has 13 = .ok (.goto 4, 3) := by decide +kernel
theorem dX1_has_16 : decode cX1_has 16 = .ok (.iconst 0, 1) := by decide +kernel
theorem dX1_has_17 : decode cX1_has 17 = .ok (.ireturn, 1) := by decide +kernel
theorem dX1_add_0 : decode cX1_add 0 = .ok (.aload_n 0, 1) := by decide +kernel
theorem dX1_add_1 : decode cX1_add 1 = .ok (.getfield 21, 3) := by decide +kernel
theorem dX1_add_4 : decode cX1_add 4 = .ok (.bipush 6, 2) := by decide +kernel
theorem dX1_add_6 : decode cX1_add 6 = .ok (.if_icmp .lt 6, 3) := by decide +kernel
theorem dX1_add_9 : decode cX1_add 9 = .ok (.ldc 25, 2) := by decide +kernel
theorem dX1_add_11 : decode cX1_add 11 = .ok (.ireturn, 1) := by decide +kernel
theorem dX1_add_12 : decode cX1_add 12 = .ok (.aload_n 0, 1) := by decide +kernel
theorem dX1_add_13 : decode cX1_add 13 = .ok (.getfield 9, 3) := by decide +kernel
theorem dX1_add_16 : decode cX1_add 16 = .ok (.aload_n 0, 1) := by decide +kernel
theorem dX1_add_17 : decode cX1_add 17 = .ok (.getfield 21, 3) := by decide +kernel
theorem dX1_add_20 : decode cX1_add 20 = .ok (.iload_n 1, 1) := by decide +kernel
theorem dX1_add_21 : decode cX1_add 21 = .ok (.iastore, 1) := by decide +kernel
theorem dX1_add_22 : decode cX1_add 22 = .ok (.aload_n 0, 1) := by decide +kernel
theorem dX1_add_23 : decode cX1_add 23 = .ok (.getfield 15, 3) := by decide +kernel
theorem dX1_add_26 : decode cX1_add 26 = .ok (.aload_n 0, 1) := by decide +kernel
theorem dX1_add_27 : decode cX1_add 27 = .ok (.getfield 21, 3) := by decide +kernel
theorem dX1_add_30 : decode cX1_add 30 = .ok (.iconst 0, 1) := by decide +kernel
theorem dX1_add_31 : decode cX1_add 31 = .ok (.iastore, 1) := by decide +kernel
theorem dX1_add_32 : decode cX1_add 32 = .ok (.aload_n 0, 1) := by decide +kernel
theorem dX1_add_33 : decode cX1_add 33 = .ok (.getfield 18, 3) := by decide +kernel
theorem dX1_add_36 : decode cX1_add 36 = .ok (.aload_n 0, 1) := by decide +kernel
theorem dX1_add_37 : decode cX1_add 37 = .ok (.getfield 21, 3) := by decide +kernel
theorem dX1_add_40 : decode cX1_add 40 = .ok (.ldc 26, 2) := by decide +kernel
theorem dX1_add_42 : decode cX1_add 42 = .ok (.iastore, 1) := by decide +kernel
theorem dX1_add_43 : decode cX1_add 43 = .ok (.aload_n 0, 1) := by decide +kernel
theorem dX1_add_44 : decode cX1_add 44 = .ok (.dup, 1) := by decide +kernel
theorem dX1_add_45 : decode cX1_add 45 = .ok (.getfield 21, 3) := by decide +kernel
theorem dX1_add_48 : decode cX1_add 48 = .ok (.iconst 1, 1) := by decide +kernel
theorem dX1_add_49 : decode cX1_add 49 = .ok (.iadd, 1) := by decide +kernel
theorem dX1_add_50 : decode cX1_add 50 = .ok (.putfield 21, 3) := by decide +kernel
theorem dX1_add_53 : decode cX1_add 53 = .ok (.aload_n 0, 1) := by decide +kernel
theorem dX1_add_54 : decode cX1_add 54 = .ok (.getfield 21, 3) := by decide +kernel
theorem dX1_add_57 : decode cX1_add 57 = .ok (.iconst 1, 1) := by decide +kernel
theorem dX1_add_58 : decode cX1_add 58 = .ok (.isub, 1) := by decide +kernel
theorem dX1_add_59 : decode cX1_add 59 = .ok (.ireturn, 1) := by decide +kernel
theorem dX1_pairs_0 : decode cX1_pairs 0 = .ok (.iconst 0, 1) := by decide +kernel
theorem dX1_pairs_1 : decode cX1_pairs 1 = .ok (.istore_n 1, 1) := by decide +kernel
theorem dX1_pairs_2 : decode cX1_pairs 2 = .ok (.iconst 0, 1) := by decide +kernel
theorem dX1_pairs_3 : decode cX1_pairs 3 = .ok (.istore_n 2, 1) := by decide +kernel
theorem dX1_pairs_4 : decode cX1_pairs 4 = .ok (.iload_n 2, 1) := by decide +kernel
theorem dX1_pairs_5 : decode cX1_pairs 5 = .ok (.aload_n 0, 1) := by decide +kernel
theorem dX1_pairs_6 : decode cX1_pairs 6 = .ok (.getfield 21, 3) := by decide +kernel
theorem dX1_pairs_9 : decode cX1_pairs 9 = .ok (.if_icmp .ge 23, 3) := by decide +kernel
theorem dX1_pairs_12 : decode cX1_pairs 12 = .ok (.aload_n 0, 1) := by decide +kernel
theorem dX1_pairs_13 : decode cX1_pairs 13 = .ok (.getfield 18, 3) := by decide +kernel
theorem dX1_pairs_16 : decode cX1_pairs 16 = .ok (.iload_n 2, 1) := by decide +kernel
theorem dX1_pairs_17 : decode cX1_pairs 17 = .ok (.iaload, 1) := by decide +kernel
theorem dX1_pairs_18 : decode cX1_pairs 18 = .ok (.ldc 26, 2) := by decide +kernel
theorem dX1_pairs_20 : decode cX1_pairs 20 = .ok (.if_icmp .eq 6, 3) := by decide +kernel
theorem dX1_pairs_23 : decode cX1_pairs 23 = .ok (.iinc 1 1, 3) := by decide +kernel
theorem dX1_pairs_26 : decode cX1_pairs 26 = .ok (.iinc 2 1, 3) := by decide +kernel
theorem dX1_pairs_29 : decode cX1_pairs 29 = .ok (.goto (-25), 3) := by decide +kernel
theorem dX1_pairs_32 : decode cX1_pairs 32 = .ok (.iload_n 1, 1) := by decide +kernel
theorem dX1_pairs_33 : decode cX1_pairs 33 = .ok (.iconst 2, 1) := by decide +kernel
theorem dX1_pairs_34 : decode cX1_pairs 34 = .ok (.idiv, 1) := by decide +kernel
theorem dX1_pairs_35 : decode cX1_pairs 35 = .ok (.ireturn, 1) := by decide +kernel
theorem dX1_takeOver_0 : decode cX1_takeOver 0 = .ok (.aload_n 1, 1) := by decide +kernel
theorem dX1_takeOver_1 : decode cX1_takeOver 1 = .ok (.getfield 9, 3) := by decide +kernel
theorem dX1_takeOver_4 : decode cX1_takeOver 4 = .ok (.iconst 0, 1) := by decide +kernel
theorem dX1_takeOver_5 : decode cX1_takeOver 5 = .ok (.aload_n 0, 1) := by decide +kernel
theorem dX1_takeOver_6 : decode cX1_takeOver 6 = .ok (.getfield 9, 3) := by decide +kernel
theorem dX1_takeOver_9 : decode cX1_takeOver 9 = .ok (.iconst 0, 1) := by decide +kernel
theorem dX1_takeOver_10 : decode cX1_takeOver 10 = .ok (.bipush 6, 2) := by decide +kernel
theorem dX1_takeOver_12 : decode cX1_takeOver 12 = .ok (.invokestatic 27, 3) := by decide +kernel
theorem dX1_takeOver_15 : decode cX1_takeOver 15 = .ok (.aload_n 1, 1) := by decide +kernel
theorem dX1_takeOver_16 : decode cX1_takeOver 16 = .ok (.getfield 15, 3) := by decide +kernel
theorem dX1_takeOver_19 : decode cX1_takeOver 19 = .ok (.iconst 0, 1) := by decide +kernel
theorem dX1_takeOver_20 : decode cX1_takeOver 20 = .ok (.aload_n 0, 1) := by decide +kernel
theorem dX1_takeOver_21 : decode cX1_takeOver 21 = .ok (.getfield 15, 3) := by decide +kernel
theorem dX1_takeOver_24 : decode cX1_takeOver 24 = .ok (.iconst 0, 1) := by decide +kernel
theorem dX1_takeOver_25 : decode cX1_takeOver 25 = .ok (.bipush 6, 2) := by decide +kernel
theorem dX1_takeOver_27 : decode cX1_takeOver 27 = .ok (.invokestatic 27, 3) := by decide +kernel
theorem dX1_takeOver_30 : decode cX1_takeOver 30 = .ok (.aload_n 1, 1) := by decide +kernel
theorem dX1_takeOver_31 : decode cX1_takeOver 31 = .ok (.getfield 18, 3) := by decide +kernel
theorem dX1_takeOver_34 : decode cX1_takeOver 34 = .ok (.iconst 0, 1) := by decide +kernel
theorem dX1_takeOver_35 : decode cX1_takeOver 35 = .ok (.aload_n 0, 1) := by decide +kernel
theorem dX1_takeOver_36 : decode cX1_takeOver 36 = .ok (.getfield 18, 3) := by decide +kernel
theorem dX1_takeOver_39 : decode cX1_takeOver 39 = .ok (.iconst 0, 1) := by decide +kernel
theorem dX1_takeOver_40 : decode cX1_takeOver 40 = .ok (.bipush 6, 2) := by decide +kernel
theorem dX1_takeOver_42 : decode cX1_takeOver 42 = .ok (.invokestatic 27, 3) := by decide +kernel
theorem dX1_takeOver_45 : decode cX1_takeOver 45 = .ok (.aload_n 0, 1) := by decide +kernel
theorem dX1_takeOver_46 : decode cX1_takeOver 46 = .ok (.aload_n 1, 1) := by decide +kernel
theorem dX1_takeOver_47 : decode cX1_takeOver 47 = .ok (.getfield 21, 3) := by decide +kernel
theorem dX1_takeOver_50 : decode cX1_takeOver 50 = .ok (.putfield 21, 3) := by decide +kernel
theorem dX1_takeOver_53 : decode cX1_takeOver 53 = .ok (.return_, 1) := by decide +kernel
theorem dX2_init_0 : decode cX2_init 0 = .ok (.aload_n 0, 1) := by decide +kernel
theorem dX2_init_1 : decode cX2_init 1 = .ok (.invokespecial 1, 3) := by decide +kernel
theorem dX2_init_4 : decode cX2_init 4 = .ok (.aload_n 0, 1) := by decide +kernel
theorem dX2_init_5 : decode cX2_init 5 = .ok (.iload_n 1, 1) := by decide +kernel
theorem dX2_init_6 : decode cX2_init 6 = .ok (.putfield 7, 3) := by decide +kernel
theorem dX2_init_9 : decode cX2_init 9 = .ok (.aload_n 0, 1) := by decide +kernel
theorem dX2_init_10 : decode cX2_init 10 = .ok (.iload_n 2, 1) := by decide +kernel
theorem dX2_init_11 : decode cX2_init 11 = .ok (.putfield 13, 3) := by decide +kernel
theorem dX2_init_14 : decode cX2_init 14 = .ok (.aload_n 0, 1) := by decide +kernel
theorem dX2_init_15 : decode cX2_init 15 = .ok (.aload_n 3, 1) := by decide +kernel
theorem dX2_init_16 : decode cX2_init 16 = .ok (.putfield 16, 3) := by decide +kernel
theorem dX2_init_19 : decode cX2_init 19 = .ok (.aload_n 0, 1) := by decide +kernel
theorem dX2_init_20 : decode cX2_init 20 = .ok (.iconst 1, 1) := by decide +kernel
theorem dX2_init_21 : decode cX2_init 21 = .ok (.iload_n 2, 1) := by decide +kernel
theorem dX2_init_22 : decode cX2_init 22 = .ok (.invokestatic 20, 3) := by decide +kernel
theorem dX2_init_25 : decode cX2_init 25 = .ok (.newarray .int, 2) := by decide +kernel
theorem dX2_init_27 : decode cX2_init 27 = .ok (.putfield 26, 3) := by decide +kernel
theorem dX2_init_30 : decode cX2_init 30 = .ok (.return_, 1) := by decide +kernel
theorem dX2_valueOn_0 : decode cX2_valueOn 0 = .ok (.iconst 0, 1) := by decide +kernel
theorem dX2_valueOn_1 : decode cX2_valueOn 1 = .ok (.istore 4, 2) := by decide +kernel
theorem dX2_valueOn_3 : decode cX2_valueOn 3 = .ok (.iconst 0, 1) := by decide +kernel
theorem dX2_valueOn_4 : decode cX2_valueOn 4 = .ok (.istore 5, 2) := by decide +kernel
theorem dX2_valueOn_6 : decode cX2_valueOn 6 = .ok (.iload 5, 2) := by decide +kernel
theorem dX2_valueOn_8 : decode cX2_valueOn 8 = .ok (.aload_n 0, 1) := by decide +kernel
theorem dX2_valueOn_9 : decode cX2_valueOn 9 = .ok (.getfield 16, 3) := by decide +kernel
theorem dX2_valueOn_12 : decode cX2_valueOn 12 = .ok (.arraylength, 1) := by decide +kernel
theorem dX2_valueOn_13 : decode cX2_valueOn 13 = .ok (.if_icmp .ge 171, 3) := by decide +kernel
theorem dX2_valueOn_16 : decode cX2_valueOn 16 = .ok (.aload_n 0, 1) := by decide +kernel
theorem dX2_valueOn_17 : decode cX2_valueOn 17 = .ok (.getfield 16, 3) := by decide +kernel
theorem dX2_valueOn_20 : decode cX2_valueOn 20 = .ok (.iload 5, 2) := by decide +kernel
theorem dX2_valueOn_22 : decode cX2_valueOn 22 = .ok (.iaload, 1) := by decide +kernel
theorem dX2_valueOn_23 : decode cX2_valueOn 23 = .ok (.istore 6, 2) := by decide +kernel
theorem dX2_valueOn_25 : decode cX2_valueOn 25 = .ok (.iload 6, 2) := by decide +kernel
theorem dX2_valueOn_27 : decode cX2_valueOn 27 = .ok (.sipush 10033, 3) := by decide +kernel
theorem dX2_valueOn_30 : decode cX2_valueOn 30 = .ok (.if_icmp .ne 37, 3) := by decide +kernel
theorem dX2_valueOn_33 : decode cX2_valueOn 33 = .ok (.iload 4, 2) := by decide +kernel
theorem dX2_valueOn_35 : decode cX2_valueOn 35 = .ok (.ifCond .le 143, 3) := by decide +kernel
theorem dX2_valueOn_38 : decode cX2_valueOn 38 = .ok (.aload_n 0, 1) := by decide +kernel
theorem dX2_valueOn_39 : decode cX2_valueOn 39 = .ok (.getfield 26, 3) := by decide +kernel
theorem dX2_valueOn_42 : decode cX2_valueOn 42 = .ok (.iload 4, 2) := by decide +kernel
theorem dX2_valueOn_44 : decode cX2_valueOn 44 = .ok (.iconst 1, 1) := by decide +kernel
theorem dX2_valueOn_45 : decode cX2_valueOn 45 = .ok (.isub, 1) := by decide +kernel
theorem dX2_valueOn_46 : decode cX2_valueOn 46 = .ok (.aload_n 0, 1) := by decide +kernel
theorem dX2_valueOn_47 : decode cX2_valueOn 47 = .ok (.getfield 26, 3) := by decide +kernel
theorem dX2_valueOn_50 : decode cX2_valueOn 50 = .ok (.iload 4, 2) := by decide +kernel
theorem dX2_valueOn_52 : decode cX2_valueOn 52 = .ok (.iconst 1, 1) := by decide +kernel
theorem dX2_valueOn_53 : decode cX2_valueOn 53 = .ok (.isub, 1) := by decide +kernel
theorem dX2_valueOn_54 : decode cX2_valueOn 54 = .ok (.iaload, 1) := by decide +kernel
theorem dX2_valueOn_55 : decode cX2_valueOn 55 = .ok (.ifCond .ne 7, 3) := by decide +kernel
theorem dX2_valueOn_58 : decode cX2_valueOn 58 = .ok (.iconst 1, 1) := by decide +kernel
theorem dX2_valueOn_59 : decode cX2_valueOn 59 = .ok (.goto 4, 3) := by decide +kernel
theorem dX2_valueOn_62 : decode cX2_valueOn 62 = .ok (.iconst 0, 1) := by decide +kernel
theorem dX2_valueOn_63 : decode cX2_valueOn 63 = .ok (.iastore, 1) := by decide +kernel
theorem dX2_valueOn_64 : decode cX2_valueOn 64 = .ok (.goto 114, 3) := by decide +kernel
theorem dX2_valueOn_67 : decode cX2_valueOn 67 = .ok (.iload 6, 2) := by decide +kernel
theorem dX2_valueOn_69 : decode cX2_valueOn 69 = .ok (.sipush 10000, 3) := by decide +kernel
theorem dX2_valueOn_72 : decode cX2_valueOn 72 = .ok (.if_icmp .lt 15, 3) := by decide +kernel
theorem dX2_valueOn_75 : decode cX2_valueOn 75 = .ok (.iload 6, 2) := by decide +kernel
theorem dX2_valueOn_77 : decode cX2_valueOn 77 = .ok (.sipush 10000, 3) := by decide +kernel
theorem dX2_valueOn_80 : decode cX2_valueOn 80 = .ok (.isub, 1) := by decide +kernel
theorem dX2_valueOn_81 : decode cX2_valueOn 81 = .ok (.invokestatic 29, 3) := by decide +kernel
theorem dX2_valueOn_84 : decode cX2_valueOn 84 = .ok (.ifCond .eq 51, 3) := by decide +kernel
theorem dX2_valueOn_87 : decode cX2_valueOn 87 = .ok (.iload 4, 2) := by decide +kernel
theorem dX2_valueOn_89 : decode cX2_valueOn 89 = .ok (.aload_n 0, 1) := by decide +kernel
theorem dX2_valueOn_90 : decode cX2_valueOn 90 = .ok (.getfield 26, 3) := by decide +kernel
theorem dX2_valueOn_93 : decode cX2_valueOn 93 = .ok (.arraylength, 1) := by decide +kernel
theorem dX2_valueOn_94 : decode cX2_valueOn 94 = .ok (.if_icmp .ge 84, 3) := by decide +kernel
theorem dX2_valueOn_97 : decode cX2_valueOn 97 = .ok (.aload_n 0, 1) := by decide +kernel
theorem dX2_valueOn_98 : decode cX2_valueOn 98 = .ok (.getfield 26, 3) := by decide +kernel
theorem dX2_valueOn_101 : decode cX2_valueOn 101 = .ok (.iload 4, 2) := by decide +kernel
theorem dX2_valueOn_103 : decode cX2_valueOn 103 = .ok (.iload 6, 2) := by decide +kernel
theorem dX2_valueOn_105 : decode cX2_valueOn 105 = .ok (.sipush 10000, 3) := by decide +kernel
theorem dX2_valueOn_108 : decode cX2_valueOn 108 = .ok (.if_icmp .ge 8, 3) := by decide +kernel
theorem dX2_valueOn_111 : decode cX2_valueOn 111 = .ok (.iload 6, 2) := by decide +kernel
theorem dX2_valueOn_113 : decode cX2_valueOn 113 = .ok (.goto 15, 3) := by decide +kernel
theorem dX2_valueOn_116 : decode cX2_valueOn 116 = .ok (.iload 6, 2) := by decide +kernel
theorem dX2_valueOn_118 : decode cX2_valueOn 118 = .ok (.sipush 10000, 3) := by decide +kernel
theorem dX2_valueOn_121 : decode cX2_valueOn 121 = .ok (.isub, 1) := by decide +kernel
theorem dX2_valueOn_122 : decode cX2_valueOn 122 = .ok (.iload_n 1, 1) := by decide +kernel
theorem dX2_valueOn_123 : decode cX2_valueOn 123 = .ok (.iload_n 2, 1) := by decide +kernel
theorem dX2_valueOn_124 : decode cX2_valueOn 124 = .ok (.aload_n 3, 1) := by decide +kernel
theorem dX2_valueOn_125 : decode cX2_valueOn 125 = .ok (.invokestatic 33, 3) := by decide +kernel
theorem dX2_valueOn_128 : decode cX2_valueOn 128 = .ok (.iastore, 1) := by decide +kernel
theorem dX2_valueOn_129 : decode cX2_valueOn 129 = .ok (.iinc 4 1, 3) := by decide +kernel
theorem dX2_valueOn_132 : decode cX2_valueOn 132 = .ok (.goto 46, 3) := by decide +kernel
theorem dX2_valueOn_135 : decode cX2_valueOn 135 = .ok (.iload 4, 2) := by decide +kernel
theorem dX2_valueOn_137 : decode cX2_valueOn 137 = .ok (.iconst 1, 1) := by decide +kernel
theorem dX2_valueOn_138 : decode cX2_valueOn 138 = .ok (.if_icmp .le 40, 3) := by decide +kernel
theorem dX2_valueOn_141 : decode cX2_valueOn 141 = .ok (.iinc 4 (-1), 3) := by decide +kernel
theorem dX2_valueOn_144 : decode cX2_valueOn 144 = .ok (.aload_n 0, 1) := by decide +kernel
theorem dX2_valueOn_145 : decode cX2_valueOn 145 = .ok (.getfield 26, 3) := by decide +kernel
theorem dX2_valueOn_148 : decode cX2_valueOn 148 = .ok (.iload 4, 2) := by decide +kernel
theorem dX2_valueOn_150 : decode cX2_valueOn 150 = .ok (.iconst 1, 1) := by decide +kernel
theorem dX2_valueOn_151 : decode cX2_valueOn 151 = .ok (.isub, 1) := by decide +kernel
theorem dX2_valueOn_152 : decode cX2_valueOn 152 = .ok (.iload 6, 2) := by decide +kernel
theorem dX2_valueOn_154 : decode cX2_valueOn 154 = .ok (.sipush 10000, 3) := by decide +kernel
theorem dX2_valueOn_157 : decode cX2_valueOn 157 = .ok (.isub, 1) := by decide +kernel
theorem dX2_valueOn_158 : decode cX2_valueOn 158 = .ok (.aload_n 0, 1) := by decide +kernel
theorem dX2_valueOn_159 : decode cX2_valueOn 159 = .ok (.getfield 26, 3) := by decide +kernel
theorem dX2_valueOn_162 : decode cX2_valueOn 162 = .ok (.iload 4, 2) := by decide +kernel
theorem dX2_valueOn_164 : decode cX2_valueOn 164 = .ok (.iconst 1, 1) := by decide +kernel
theorem dX2_valueOn_165 : decode cX2_valueOn 165 = .ok (.isub, 1) := by decide +kernel
theorem dX2_valueOn_166 : decode cX2_valueOn 166 = .ok (.iaload, 1) := by decide +kernel
theorem dX2_valueOn_167 : decode cX2_valueOn 167 = .ok (.aload_n 0, 1) := by decide +kernel
theorem dX2_valueOn_168 : decode cX2_valueOn 168 = .ok (.getfield 26, 3) := by decide +kernel
theorem dX2_valueOn_171 : decode cX2_valueOn 171 = .ok (.iload 4, 2) := by decide +kernel
theorem dX2_valueOn_173 : decode cX2_valueOn 173 = .ok (.iaload, 1) := by decide +kernel
theorem dX2_valueOn_174 : decode cX2_valueOn 174 = .ok (.invokestatic 37, 3) := by decide +kernel
theorem dX2_valueOn_177 : decode cX2_valueOn 177 = .ok (.iastore, 1) := by decide +kernel
theorem dX2_valueOn_178 : decode cX2_valueOn 178 = .ok (.iinc 5 1, 3) := by decide +kernel
theorem dX2_valueOn_181 : decode cX2_valueOn 181 = .ok (.goto (-175), 3) := by decide +kernel
theorem dX2_valueOn_184 : decode cX2_valueOn 184 = .ok (.aload_n 0, 1) := by decide +kernel
theorem dX2_valueOn_185 : decode cX2_valueOn 185 = .ok (.getfield 26, 3) := by decide +kernel
theorem dX2_valueOn_188 : decode cX2_valueOn 188 = .ok (.iconst 0, 1) := by decide +kernel
theorem dX2_valueOn_189 : decode cX2_valueOn 189 = .ok (.iaload, 1) := by decide +kernel
theorem dX2_valueOn_190 : decode cX2_valueOn 190 = .ok (.ireturn, 1) := by decide +kernel
theorem dX2_isName_0 : decode cX2_isName 0 = .ok (.iload_n 0, 1) := by decide +kernel
theorem dX2_isName_1 : decode cX2_isName 1 = .ok (.bipush 97, 2) := by decide +kernel
theorem dX2_isName_3 : decode cX2_isName 3 = .ok (.if_icmp .lt 13, 3) := by decide +kernel
theorem dX2_isName_6 : decode cX2_isName 6 = .ok (.iload_n 0, 1) := by decide +kernel
theorem dX2_isName_7 : decode cX2_isName 7 = .ok (.bipush 122, 2) := by decide +kernel
theorem dX2_isName_9 : decode cX2_isName 9 = .ok (.if_icmp .gt 7, 3) := by decide +kernel
theorem dX2_isName_12 : decode cX2_isName 12 = .ok (.iconst 1, 1) := by decide +kernel
theorem dX2_isName_13 : decode cX2_isName 13 = .ok (.goto 4, 3) := by decide +kernel
theorem dX2_isName_16 : decode cX2_isName 16 = .ok (.iconst 0, 1) := by decide +kernel
theorem dX2_isName_17 : decode cX2_isName 17 = .ok (.ireturn, 1) := by decide +kernel
theorem dX2_named_0 : decode cX2_named 0 = .ok (.iload_n 0, 1) := by decide +kernel
theorem dX2_named_1 : decode cX2_named 1 = .ok (.lookupswitch 44 #[(100, 37), (115, 35), (119, 39)], 35) := by decide +kernel
theorem dX2_named_36 : decode cX2_named 36 = .ok (.iload_n 2, 1) := by decide +kernel
theorem dX2_named_37 : decode cX2_named 37 = .ok (.ireturn, 1) := by decide +kernel
theorem dX2_named_38 : decode cX2_named 38 = .ok (.iload_n 1, 1) := by decide +kernel
theorem dX2_named_39 : decode cX2_named 39 = .ok (.ireturn, 1) := by decide +kernel
theorem dX2_named_40 : decode cX2_named 40 = .ok (.aload_n 3, 1) := by decide +kernel
theorem dX2_named_41 : decode cX2_named 41 = .ok (.getfield 41, 3) := by decide +kernel
theorem dX2_named_44 : decode cX2_named 44 = .ok (.ireturn, 1) := by decide +kernel
theorem dX2_named_45 : decode cX2_named 45 = .ok (.aload_n 3, 1) := by decide +kernel
theorem dX2_named_46 : decode cX2_named 46 = .ok (.getfield 46, 3) := by decide +kernel
theorem dX2_named_49 : decode cX2_named 49 = .ok (.ireturn, 1) := by decide +kernel
theorem dX2_joined_0 : decode cX2_joined 0 = .ok (.iload_n 0, 1) := by decide +kernel
theorem dX2_joined_1 : decode cX2_joined 1 = .ok (.lookupswitch 148 #[(38, 89), (42, 144), (43, 136), (45, 140), (60, 103), (61, 114), (62, 125), (124, 75)], 75) := by decide +kernel
theorem dX2_joined_76 : decode cX2_joined 76 = .ok (.iload_n 1, 1) := by decide +kernel
theorem dX2_joined_77 : decode cX2_joined 77 = .ok (.ifCond .ne 7, 3) := by decide +kernel
theorem dX2_joined_80 : decode cX2_joined 80 = .ok (.iload_n 2, 1) := by decide +kernel
theorem dX2_joined_81 : decode cX2_joined 81 = .ok (.ifCond .eq 7, 3) := by decide +kernel
theorem dX2_joined_84 : decode cX2_joined 84 = .ok (.iconst 1, 1) := by decide +kernel
theorem dX2_joined_85 : decode cX2_joined 85 = .ok (.goto 4, 3) := by decide +kernel
theorem dX2_joined_88 : decode cX2_joined 88 = .ok (.iconst 0, 1) := by decide +kernel
theorem dX2_joined_89 : decode cX2_joined 89 = .ok (.ireturn, 1) := by decide +kernel
theorem dX2_joined_90 : decode cX2_joined 90 = .ok (.iload_n 1, 1) := by decide +kernel
theorem dX2_joined_91 : decode cX2_joined 91 = .ok (.ifCond .eq 11, 3) := by decide +kernel
theorem dX2_joined_94 : decode cX2_joined 94 = .ok (.iload_n 2, 1) := by decide +kernel
theorem dX2_joined_95 : decode cX2_joined 95 = .ok (.ifCond .eq 7, 3) := by decide +kernel
theorem dX2_joined_98 : decode cX2_joined 98 = .ok (.iconst 1, 1) := by decide +kernel
theorem dX2_joined_99 : decode cX2_joined 99 = .ok (.goto 4, 3) := by decide +kernel
theorem dX2_joined_102 : decode cX2_joined 102 = .ok (.iconst 0, 1) := by decide +kernel
theorem dX2_joined_103 : decode cX2_joined 103 = .ok (.ireturn, 1) := by decide +kernel
theorem dX2_joined_104 : decode cX2_joined 104 = .ok (.iload_n 1, 1) := by decide +kernel
theorem dX2_joined_105 : decode cX2_joined 105 = .ok (.iload_n 2, 1) := by decide +kernel
theorem dX2_joined_106 : decode cX2_joined 106 = .ok (.if_icmp .ge 7, 3) := by decide +kernel
theorem dX2_joined_109 : decode cX2_joined 109 = .ok (.iconst 1, 1) := by decide +kernel
theorem dX2_joined_110 : decode cX2_joined 110 = .ok (.goto 4, 3) := by decide +kernel
theorem dX2_joined_113 : decode cX2_joined 113 = .ok (.iconst 0, 1) := by decide +kernel
theorem dX2_joined_114 : decode cX2_joined 114 = .ok (.ireturn, 1) := by decide +kernel
theorem dX2_joined_115 : decode cX2_joined 115 = .ok (.iload_n 1, 1) := by decide +kernel
theorem dX2_joined_116 : decode cX2_joined 116 = .ok (.iload_n 2, 1) := by decide +kernel
theorem dX2_joined_117 : decode cX2_joined 117 = .ok (.if_icmp .ne 7, 3) := by decide +kernel
theorem dX2_joined_120 : decode cX2_joined 120 = .ok (.iconst 1, 1) := by decide +kernel
theorem dX2_joined_121 : decode cX2_joined 121 = .ok (.goto 4, 3) := by decide +kernel
theorem dX2_joined_124 : decode cX2_joined 124 = .ok (.iconst 0, 1) := by decide +kernel
theorem dX2_joined_125 : decode cX2_joined 125 = .ok (.ireturn, 1) := by decide +kernel
theorem dX2_joined_126 : decode cX2_joined 126 = .ok (.iload_n 1, 1) := by decide +kernel
theorem dX2_joined_127 : decode cX2_joined 127 = .ok (.iload_n 2, 1) := by decide +kernel
theorem dX2_joined_128 : decode cX2_joined 128 = .ok (.if_icmp .le 7, 3) := by decide +kernel
theorem dX2_joined_131 : decode cX2_joined 131 = .ok (.iconst 1, 1) := by decide +kernel
theorem dX2_joined_132 : decode cX2_joined 132 = .ok (.goto 4, 3) := by decide +kernel
theorem dX2_joined_135 : decode cX2_joined 135 = .ok (.iconst 0, 1) := by decide +kernel
theorem dX2_joined_136 : decode cX2_joined 136 = .ok (.ireturn, 1) := by decide +kernel
theorem dX2_joined_137 : decode cX2_joined 137 = .ok (.iload_n 1, 1) := by decide +kernel
theorem dX2_joined_138 : decode cX2_joined 138 = .ok (.iload_n 2, 1) := by decide +kernel
theorem dX2_joined_139 : decode cX2_joined 139 = .ok (.iadd, 1) := by decide +kernel
theorem dX2_joined_140 : decode cX2_joined 140 = .ok (.ireturn, 1) := by decide +kernel
theorem dX2_joined_141 : decode cX2_joined 141 = .ok (.iload_n 1, 1) := by decide +kernel
theorem dX2_joined_142 : decode cX2_joined 142 = .ok (.iload_n 2, 1) := by decide +kernel
theorem dX2_joined_143 : decode cX2_joined 143 = .ok (.isub, 1) := by decide +kernel
theorem dX2_joined_144 : decode cX2_joined 144 = .ok (.ireturn, 1) := by decide +kernel
theorem dX2_joined_145 : decode cX2_joined 145 = .ok (.iload_n 1, 1) := by decide +kernel
theorem dX2_joined_146 : decode cX2_joined 146 = .ok (.iload_n 2, 1) := by decide +kernel
theorem dX2_joined_147 : decode cX2_joined 147 = .ok (.imul, 1) := by decide +kernel
theorem dX2_joined_148 : decode cX2_joined 148 = .ok (.ireturn, 1) := by decide +kernel
theorem dX2_joined_149 : decode cX2_joined 149 = .ok (.iload_n 2, 1) := by decide +kernel
theorem dX2_joined_150 : decode cX2_joined 150 = .ok (.ifCond .ne 7, 3) := by decide +kernel
theorem dX2_joined_153 : decode cX2_joined 153 = .ok (.iconst 0, 1) := by decide +kernel
theorem dX2_joined_154 : decode cX2_joined 154 = .ok (.goto 6, 3) := by decide +kernel
theorem dX2_joined_157 : decode cX2_joined 157 = .ok (.iload_n 1, 1) := by decide +kernel
theorem dX2_joined_158 : decode cX2_joined 158 = .ok (.iload_n 2, 1) := by decide +kernel
theorem dX2_joined_159 : decode cX2_joined 159 = .ok (.idiv, 1) := by decide +kernel
theorem dX2_joined_160 : decode cX2_joined 160 = .ok (.ireturn, 1) := by decide +kernel
theorem dX3_init_0 : decode cX3_init 0 = .ok (.aload_n 0, 1) := by decide +kernel
theorem dX3_init_1 : decode cX3_init 1 = .ok (.invokespecial 3, 3) := by decide +kernel
theorem dX3_init_4 : decode cX3_init 4 = .ok (.aload_n 0, 1) := by decide +kernel
theorem dX3_init_5 : decode cX3_init 5 = .ok (.new 9, 3) := by decide +kernel
theorem dX3_init_8 : decode cX3_init 8 = .ok (.dup, 1) := by decide +kernel
theorem dX3_init_9 : decode cX3_init 9 = .ok (.invokespecial 11, 3) := by decide +kernel
theorem dX3_init_12 : decode cX3_init 12 = .ok (.putfield 12, 3) := by decide +kernel
theorem dX3_init_15 : decode cX3_init 15 = .ok (.aload_n 0, 1) := by decide +kernel
theorem dX3_init_16 : decode cX3_init 16 = .ok (.bipush 96, 2) := by decide +kernel
theorem dX3_init_18 : decode cX3_init 18 = .ok (.newarray .int, 2) := by decide +kernel
theorem dX3_init_20 : decode cX3_init 20 = .ok (.putfield 18, 3) := by decide +kernel
theorem dX3_init_23 : decode cX3_init 23 = .ok (.return_, 1) := by decide +kernel
theorem dX3_lawRead_0 : decode cX3_lawRead 0 = .ok (.new 22, 3) := by decide +kernel
theorem dX3_lawRead_3 : decode cX3_lawRead 3 = .ok (.dup, 1) := by decide +kernel
theorem dX3_lawRead_4 : decode cX3_lawRead 4 = .ok (.aload_n 0, 1) := by decide +kernel
theorem dX3_lawRead_5 : decode cX3_lawRead 5 = .ok (.getfield 24, 3) := by decide +kernel
theorem dX3_lawRead_8 : decode cX3_lawRead 8 = .ok (.aload_n 0, 1) := by decide +kernel
theorem dX3_lawRead_9 : decode cX3_lawRead 9 = .ok (.getfield 28, 3) := by decide +kernel
theorem dX3_lawRead_12 : decode cX3_lawRead 12 = .ok (.aload_n 0, 1) := by decide +kernel
theorem dX3_lawRead_13 : decode cX3_lawRead 13 = .ok (.getfield 18, 3) := by decide +kernel
theorem dX3_lawRead_16 : decode cX3_lawRead 16 = .ok (.aload_n 0, 1) := by decide +kernel
theorem dX3_lawRead_17 : decode cX3_lawRead 17 = .ok (.getfield 31, 3) := by decide +kernel
theorem dX3_lawRead_20 : decode cX3_lawRead 20 = .ok (.invokestatic 34, 3) := by decide +kernel
theorem dX3_lawRead_23 : decode cX3_lawRead 23 = .ok (.invokespecial 40, 3) := by decide +kernel
theorem dX3_lawRead_26 : decode cX3_lawRead 26 = .ok (.areturn, 1) := by decide +kernel
theorem dX3_readLaw_0 : decode cX3_readLaw 0 = .ok (.aload_n 0, 1) := by decide +kernel
theorem dX3_readLaw_1 : decode cX3_readLaw 1 = .ok (.iconst 0, 1) := by decide +kernel
theorem dX3_readLaw_2 : decode cX3_readLaw 2 = .ok (.putfield 31, 3) := by decide +kernel
theorem dX3_readLaw_5 : decode cX3_readLaw 5 = .ok (.aload_n 0, 1) := by decide +kernel
theorem dX3_readLaw_6 : decode cX3_readLaw 6 = .ok (.iconst 0, 1) := by decide +kernel
theorem dX3_readLaw_7 : decode cX3_readLaw 7 = .ok (.putfield 28, 3) := by decide +kernel
theorem dX3_readLaw_10 : decode cX3_readLaw 10 = .ok (.aload_n 0, 1) := by decide +kernel
theorem dX3_readLaw_11 : decode cX3_readLaw 11 = .ok (.getfield 12, 3) := by decide +kernel
theorem dX3_readLaw_14 : decode cX3_readLaw 14 = .ok (.invokevirtual 43, 3) := by decide +kernel
theorem dX3_readLaw_17 : decode cX3_readLaw 17 = .ok (.aload_n 0, 1) := by decide +kernel
theorem dX3_readLaw_18 : decode cX3_readLaw 18 = .ok (.aload_n 0, 1) := by decide +kernel
theorem dX3_readLaw_19 : decode cX3_readLaw 19 = .ok (.invokevirtual 46, 3) := by decide +kernel
theorem dX3_readLaw_22 : decode cX3_readLaw 22 = .ok (.putfield 24, 3) := by decide +kernel
theorem dX3_readLaw_25 : decode cX3_readLaw 25 = .ok (.aload_n 0, 1) := by decide +kernel
theorem dX3_readLaw_26 : decode cX3_readLaw 26 = .ok (.getfield 24, 3) := by decide +kernel
theorem dX3_readLaw_29 : decode cX3_readLaw 29 = .ok (.ifCond .ge 5, 3) := by decide +kernel
theorem dX3_readLaw_32 : decode cX3_readLaw 32 = .ok (.iconst 0, 1) := by decide +kernel
theorem dX3_readLaw_33 : decode cX3_readLaw 33 = .ok (.ireturn, 1) := by decide +kernel
theorem dX3_readLaw_34 : decode cX3_readLaw 34 = .ok (.aload_n 0, 1) := by decide +kernel
theorem dX3_readLaw_35 : decode cX3_readLaw 35 = .ok (.getfield 12, 3) := by decide +kernel
theorem dX3_readLaw_38 : decode cX3_readLaw 38 = .ok (.invokevirtual 50, 3) := by decide +kernel
theorem dX3_readLaw_41 : decode cX3_readLaw 41 = .ok (.aload_n 0, 1) := by decide +kernel
theorem dX3_readLaw_42 : decode cX3_readLaw 42 = .ok (.iconst 0, 1) := by decide +kernel
theorem dX3_readLaw_43 : decode cX3_readLaw 43 = .ok (.iconst 0, 1) := by decide +kernel
theorem dX3_readLaw_44 : decode cX3_readLaw 44 = .ok (.iconst 0, 1) := by decide +kernel
theorem dX3_readLaw_45 : decode cX3_readLaw 45 = .ok (.invokevirtual 53, 3) := by decide +kernel
theorem dX3_readLaw_48 : decode cX3_readLaw 48 = .ok (.ifCond .eq 18, 3) := by decide +kernel
theorem dX3_readLaw_51 : decode cX3_readLaw 51 = .ok (.aload_n 0, 1) := by decide +kernel
theorem dX3_readLaw_52 : decode cX3_readLaw 52 = .ok (.getfield 12, 3) := by decide +kernel
theorem dX3_readLaw_55 : decode cX3_readLaw 55 = .ok (.getfield 57, 3) := by decide +kernel
theorem dX3_readLaw_58 : decode cX3_readLaw 58 = .ok (.iconst (-1), 1) := by decide +kernel
theorem dX3_readLaw_59 : decode cX3_readLaw 59 = .ok (.if_icmp .ne 7, 3) := by decide +kernel
theorem dX3_readLaw_62 : decode cX3_readLaw 62 = .ok (.iconst 1, 1) := by decide +kernel
theorem dX3_readLaw_63 : decode cX3_readLaw 63 = .ok (.goto 4, 3) := by decide +kernel
theorem dX3_readLaw_66 : decode cX3_readLaw 66 = .ok (.iconst 0, 1) := by decide +kernel
theorem dX3_readLaw_67 : decode cX3_readLaw 67 = .ok (.ireturn, 1) := by decide +kernel
theorem dX3_openKey_0 : decode cX3_openKey 0 = .ok (.aload_n 0, 1) := by decide +kernel
theorem dX3_openKey_1 : decode cX3_openKey 1 = .ok (.getfield 12, 3) := by decide +kernel
theorem dX3_openKey_4 : decode cX3_openKey 4 = .ok (.ldc 60, 2) := by decide +kernel
theorem dX3_openKey_6 : decode cX3_openKey 6 = .ok (.invokevirtual 62, 3) := by decide +kernel
theorem dX3_openKey_9 : decode cX3_openKey 9 = .ok (.ifCond .eq 5, 3) := by decide +kernel
theorem dX3_openKey_12 : decode cX3_openKey 12 = .ok (.iconst 0, 1) := by decide +kernel
theorem dX3_openKey_13 : decode cX3_openKey 13 = .ok (.ireturn, 1) := by decide +kernel
theorem dX3_openKey_14 : decode cX3_openKey 14 = .ok (.aload_n 0, 1) := by decide +kernel
theorem dX3_openKey_15 : decode cX3_openKey 15 = .ok (.getfield 12, 3) := by decide +kernel
theorem dX3_openKey_18 : decode cX3_openKey 18 = .ok (.ldc 66, 2) := by decide +kernel
theorem dX3_openKey_20 : decode cX3_openKey 20 = .ok (.invokevirtual 62, 3) := by decide +kernel
theorem dX3_openKey_23 : decode cX3_openKey 23 = .ok (.ifCond .eq 5, 3) := by decide +kernel
theorem dX3_openKey_26 : decode cX3_openKey 26 = .ok (.iconst 1, 1) := by decide +kernel
theorem dX3_openKey_27 : decode cX3_openKey 27 = .ok (.ireturn, 1) := by decide +kernel
theorem dX3_openKey_28 : decode cX3_openKey 28 = .ok (.aload_n 0, 1) := by decide +kernel
theorem dX3_openKey_29 : decode cX3_openKey 29 = .ok (.getfield 12, 3) := by decide +kernel
theorem dX3_openKey_32 : decode cX3_openKey 32 = .ok (.ldc 68, 2) := by decide +kernel
theorem dX3_openKey_34 : decode cX3_openKey 34 = .ok (.invokevirtual 62, 3) := by decide +kernel
theorem dX3_openKey_37 : decode cX3_openKey 37 = .ok (.ifCond .eq 7, 3) := by decide +kernel
theorem dX3_openKey_40 : decode cX3_openKey 40 = .ok (.iconst 2, 1) := by decide +kernel
theorem dX3_openKey_41 : decode cX3_openKey 41 = .ok (.goto 4, 3) := by decide +kernel
theorem dX3_openKey_44 : decode cX3_openKey 44 = .ok (.iconst (-1), 1) := by decide +kernel
theorem dX3_openKey_45 : decode cX3_openKey 45 = .ok (.ireturn, 1) := by decide +kernel
theorem dX3_readLevel_0 : decode cX3_readLevel 0 = .ok (.iload_n 1, 1) := by decide +kernel
theorem dX3_readLevel_1 : decode cX3_readLevel 1 = .ok (.iconst 4, 1) := by decide +kernel
theorem dX3_readLevel_2 : decode cX3_readLevel 2 = .ok (.if_icmp .le 10, 3) := by decide +kernel
theorem dX3_readLevel_5 : decode cX3_readLevel 5 = .ok (.aload_n 0, 1) := by decide +kernel
theorem dX3_readLevel_6 : decode cX3_readLevel 6 = .ok (.iload_n 2, 1) := by decide +kernel
theorem dX3_readLevel_7 : decode cX3_readLevel 7 = .ok (.iload_n 3, 1) := by decide +kernel
theorem dX3_readLevel_8 : decode cX3_readLevel 8 = .ok (.invokevirtual 70, 3) := by decide +kernel
theorem dX3_readLevel_11 : decode cX3_readLevel 11 = .ok (.ireturn, 1) := by decide +kernel
theorem dX3_readLevel_12 : decode cX3_readLevel 12 = .ok (.aload_n 0, 1) := by decide +kernel
theorem dX3_readLevel_13 : decode cX3_readLevel 13 = .ok (.iload_n 1, 1) := by decide +kernel
theorem dX3_readLevel_14 : decode cX3_readLevel 14 = .ok (.iconst 1, 1) := by decide +kernel
theorem dX3_readLevel_15 : decode cX3_readLevel 15 = .ok (.iadd, 1) := by decide +kernel
theorem dX3_readLevel_16 : decode cX3_readLevel 16 = .ok (.iload_n 2, 1) := by decide +kernel
theorem dX3_readLevel_17 : decode cX3_readLevel 17 = .ok (.iload_n 3, 1) := by decide +kernel
theorem dX3_readLevel_18 : decode cX3_readLevel 18 = .ok (.invokevirtual 53, 3) := by decide +kernel
theorem dX3_readLevel_21 : decode cX3_readLevel 21 = .ok (.ifCond .ne 5, 3) := by decide +kernel
theorem dX3_readLevel_24 : decode cX3_readLevel 24 = .ok (.iconst 0, 1) := by decide +kernel
theorem dX3_readLevel_25 : decode cX3_readLevel 25 = .ok (.ireturn, 1) := by decide +kernel
theorem dX3_readLevel_26 : decode cX3_readLevel 26 = .ok (.iload_n 1, 1) := by decide +kernel
theorem dX3_readLevel_27 : decode cX3_readLevel 27 = .ok (.iconst 2, 1) := by decide +kernel
theorem dX3_readLevel_28 : decode cX3_readLevel 28 = .ok (.if_icmp .ne 7, 3) := by decide +kernel
theorem dX3_readLevel_31 : decode cX3_readLevel 31 = .ok (.iconst 1, 1) := by decide +kernel
theorem dX3_readLevel_32 : decode cX3_readLevel 32 = .ok (.goto 5, 3) := by decide +kernel
theorem dX3_readLevel_35 : decode cX3_readLevel 35 = .ok (.bipush 96, 2) := by decide +kernel
theorem dX3_readLevel_37 : decode cX3_readLevel 37 = .ok (.istore 4, 2) := by decide +kernel
theorem dX3_readLevel_39 : decode cX3_readLevel 39 = .ok (.iconst 0, 1) := by decide +kernel
theorem dX3_readLevel_40 : decode cX3_readLevel 40 = .ok (.istore 5, 2) := by decide +kernel
theorem dX3_readLevel_42 : decode cX3_readLevel 42 = .ok (.iload 5, 2) := by decide +kernel
theorem dX3_readLevel_44 : decode cX3_readLevel 44 = .ok (.iload 4, 2) := by decide +kernel
theorem dX3_readLevel_46 : decode cX3_readLevel 46 = .ok (.if_icmp .ge 63, 3) := by decide +kernel
theorem dX3_readLevel_49 : decode cX3_readLevel 49 = .ok (.aload_n 0, 1) := by decide +kernel
theorem dX3_readLevel_50 : decode cX3_readLevel 50 = .ok (.getfield 12, 3) := by decide +kernel
theorem dX3_readLevel_53 : decode cX3_readLevel 53 = .ok (.getfield 57, 3) := by decide +kernel
theorem dX3_readLevel_56 : decode cX3_readLevel 56 = .ok (.invokestatic 74, 3) := by decide +kernel
theorem dX3_readLevel_59 : decode cX3_readLevel 59 = .ok (.iload_n 1, 1) := by decide +kernel
theorem dX3_readLevel_60 : decode cX3_readLevel 60 = .ok (.if_icmp .ne 49, 3) := by decide +kernel
theorem dX3_readLevel_63 : decode cX3_readLevel 63 = .ok (.aload_n 0, 1) := by decide +kernel
theorem dX3_readLevel_64 : decode cX3_readLevel 64 = .ok (.getfield 12, 3) := by decide +kernel
theorem dX3_readLevel_67 : decode cX3_readLevel 67 = .ok (.getfield 57, 3) := by decide +kernel
theorem dX3_readLevel_70 : decode cX3_readLevel 70 = .ok (.istore 6, 2) := by decide +kernel
theorem dX3_readLevel_72 : decode cX3_readLevel 72 = .ok (.aload_n 0, 1) := by decide +kernel
theorem dX3_readLevel_73 : decode cX3_readLevel 73 = .ok (.getfield 12, 3) := by decide +kernel
theorem dX3_readLevel_76 : decode cX3_readLevel 76 = .ok (.invokevirtual 50, 3) := by decide +kernel
theorem dX3_readLevel_79 : decode cX3_readLevel 79 = .ok (.aload_n 0, 1) := by decide +kernel
theorem dX3_readLevel_80 : decode cX3_readLevel 80 = .ok (.iload_n 1, 1) := by decide +kernel
theorem dX3_readLevel_81 : decode cX3_readLevel 81 = .ok (.iconst 1, 1) := by decide +kernel
theorem dX3_readLevel_82 : decode cX3_readLevel 82 = .ok (.iadd, 1) := by decide +kernel
theorem dX3_readLevel_83 : decode cX3_readLevel 83 = .ok (.iload_n 2, 1) := by decide +kernel
theorem dX3_readLevel_84 : decode cX3_readLevel 84 = .ok (.iload_n 3, 1) := by decide +kernel
theorem dX3_readLevel_85 : decode cX3_readLevel 85 = .ok (.invokevirtual 53, 3) := by decide +kernel
theorem dX3_readLevel_88 : decode cX3_readLevel 88 = .ok (.ifCond .ne 5, 3) := by decide +kernel
theorem dX3_readLevel_91 : decode cX3_readLevel 91 = .ok (.iconst 0, 1) := by decide +kernel
theorem dX3_readLevel_92 : decode cX3_readLevel 92 = .ok (.ireturn, 1) := by decide +kernel
theorem dX3_readLevel_93 : decode cX3_readLevel 93 = .ok (.aload_n 0, 1) := by decide +kernel
theorem dX3_readLevel_94 : decode cX3_readLevel 94 = .ok (.sipush 10000, 3) := by decide +kernel
theorem dX3_readLevel_97 : decode cX3_readLevel 97 = .ok (.iload 6, 2) := by decide +kernel
theorem dX3_readLevel_99 : decode cX3_readLevel 99 = .ok (.iadd, 1) := by decide +kernel
theorem dX3_readLevel_100 : decode cX3_readLevel 100 = .ok (.invokevirtual 78, 3) := by decide +kernel
theorem dX3_readLevel_103 : decode cX3_readLevel 103 = .ok (.iinc 5 1, 3) := by decide +kernel
theorem dX3_readLevel_106 : decode cX3_readLevel 106 = .ok (.goto (-64), 3) := by decide +kernel
theorem dX3_readLevel_109 : decode cX3_readLevel 109 = .ok (.iconst 1, 1) := by decide +kernel
theorem dX3_readLevel_110 : decode cX3_readLevel 110 = .ok (.ireturn, 1) := by decide +kernel
theorem dX3_readPiece_0 : decode cX3_readPiece 0 = .ok (.aload_n 0, 1) := by decide +kernel
theorem dX3_readPiece_1 : decode cX3_readPiece 1 = .ok (.getfield 12, 3) := by decide +kernel
theorem dX3_readPiece_4 : decode cX3_readPiece 4 = .ok (.getfield 57, 3) := by decide +kernel
theorem dX3_readPiece_7 : decode cX3_readPiece 7 = .ok (.bipush (-3), 2) := by decide +kernel
theorem dX3_readPiece_9 : decode cX3_readPiece 9 = .ok (.if_icmp .eq 10, 3) := by decide +kernel
theorem dX3_readPiece_12 : decode cX3_readPiece 12 = .ok (.aload_n 0, 1) := by decide +kernel
theorem dX3_readPiece_13 : decode cX3_readPiece 13 = .ok (.invokevirtual 82, 3) := by decide +kernel
theorem dX3_readPiece_16 : decode cX3_readPiece 16 = .ok (.ifCond .eq 59, 3) := by decide +kernel
theorem dX3_readPiece_19 : decode cX3_readPiece 19 = .ok (.aload_n 0, 1) := by decide +kernel
theorem dX3_readPiece_20 : decode cX3_readPiece 20 = .ok (.aload_n 0, 1) := by decide +kernel
theorem dX3_readPiece_21 : decode cX3_readPiece 21 = .ok (.getfield 12, 3) := by decide +kernel
theorem dX3_readPiece_24 : decode cX3_readPiece 24 = .ok (.getfield 57, 3) := by decide +kernel
theorem dX3_readPiece_27 : decode cX3_readPiece 27 = .ok (.bipush (-3), 2) := by decide +kernel
theorem dX3_readPiece_29 : decode cX3_readPiece 29 = .ok (.if_icmp .ne 13, 3) := by decide +kernel
theorem dX3_readPiece_32 : decode cX3_readPiece 32 = .ok (.aload_n 0, 1) := by decide +kernel
theorem dX3_readPiece_33 : decode cX3_readPiece 33 = .ok (.getfield 12, 3) := by decide +kernel
theorem dX3_readPiece_36 : decode cX3_readPiece 36 = .ok (.getfield 86, 3) := by decide +kernel
theorem dX3_readPiece_39 : decode cX3_readPiece 39 = .ok (.goto 14, 3) := by decide +kernel
theorem dX3_readPiece_42 : decode cX3_readPiece 42 = .ok (.sipush 10000, 3) := by decide +kernel
theorem dX3_readPiece_45 : decode cX3_readPiece 45 = .ok (.aload_n 0, 1) := by decide +kernel
theorem dX3_readPiece_46 : decode cX3_readPiece 46 = .ok (.getfield 12, 3) := by decide +kernel
theorem dX3_readPiece_49 : decode cX3_readPiece 49 = .ok (.getfield 86, 3) := by decide +kernel
theorem dX3_readPiece_52 : decode cX3_readPiece 52 = .ok (.iadd, 1) := by decide +kernel
theorem dX3_readPiece_53 : decode cX3_readPiece 53 = .ok (.invokevirtual 78, 3) := by decide +kernel
theorem dX3_readPiece_56 : decode cX3_readPiece 56 = .ok (.aload_n 0, 1) := by decide +kernel
theorem dX3_readPiece_57 : decode cX3_readPiece 57 = .ok (.dup, 1) := by decide +kernel
theorem dX3_readPiece_58 : decode cX3_readPiece 58 = .ok (.getfield 28, 3) := by decide +kernel
theorem dX3_readPiece_61 : decode cX3_readPiece 61 = .ok (.iconst 1, 1) := by decide +kernel
theorem dX3_readPiece_62 : decode cX3_readPiece 62 = .ok (.iadd, 1) := by decide +kernel
theorem dX3_readPiece_63 : decode cX3_readPiece 63 = .ok (.putfield 28, 3) := by decide +kernel
theorem dX3_readPiece_66 : decode cX3_readPiece 66 = .ok (.aload_n 0, 1) := by decide +kernel
theorem dX3_readPiece_67 : decode cX3_readPiece 67 = .ok (.getfield 12, 3) := by decide +kernel
theorem dX3_readPiece_70 : decode cX3_readPiece 70 = .ok (.invokevirtual 50, 3) := by decide +kernel
theorem dX3_readPiece_73 : decode cX3_readPiece 73 = .ok (.iconst 1, 1) := by decide +kernel
theorem dX3_readPiece_74 : decode cX3_readPiece 74 = .ok (.ireturn, 1) := by decide +kernel
theorem dX3_readPiece_75 : decode cX3_readPiece 75 = .ok (.aload_n 0, 1) := by decide +kernel
theorem dX3_readPiece_76 : decode cX3_readPiece 76 = .ok (.getfield 12, 3) := by decide +kernel
theorem dX3_readPiece_79 : decode cX3_readPiece 79 = .ok (.getfield 57, 3) := by decide +kernel
theorem dX3_readPiece_82 : decode cX3_readPiece 82 = .ok (.bipush 33, 2) := by decide +kernel
theorem dX3_readPiece_84 : decode cX3_readPiece 84 = .ok (.if_icmp .ne 18, 3) := by decide +kernel
theorem dX3_readPiece_87 : decode cX3_readPiece 87 = .ok (.iload_n 2, 1) := by decide +kernel
theorem dX3_readPiece_88 : decode cX3_readPiece 88 = .ok (.bipush 8, 2) := by decide +kernel
theorem dX3_readPiece_90 : decode cX3_readPiece 90 = .ok (.if_icmp .ge 12, 3) := by decide +kernel
theorem dX3_readPiece_93 : decode cX3_readPiece 93 = .ok (.aload_n 0, 1) := by decide +kernel
theorem dX3_readPiece_94 : decode cX3_readPiece 94 = .ok (.iload_n 1, 1) := by decide +kernel
theorem dX3_readPiece_95 : decode cX3_readPiece 95 = .ok (.iload_n 2, 1) := by decide +kernel
theorem dX3_readPiece_96 : decode cX3_readPiece 96 = .ok (.iconst 1, 1) := by decide +kernel
theorem dX3_readPiece_97 : decode cX3_readPiece 97 = .ok (.iadd, 1) := by decide +kernel
theorem dX3_readPiece_98 : decode cX3_readPiece 98 = .ok (.invokevirtual 89, 3) := by decide +kernel
theorem dX3_readPiece_101 : decode cX3_readPiece 101 = .ok (.ireturn, 1) := by decide +kernel
theorem dX3_readPiece_102 : decode cX3_readPiece 102 = .ok (.aload_n 0, 1) := by decide +kernel
theorem dX3_readPiece_103 : decode cX3_readPiece 103 = .ok (.getfield 12, 3) := by decide +kernel
theorem dX3_readPiece_106 : decode cX3_readPiece 106 = .ok (.getfield 57, 3) := by decide +kernel
theorem dX3_readPiece_109 : decode cX3_readPiece 109 = .ok (.bipush 40, 2) := by decide +kernel
theorem dX3_readPiece_111 : decode cX3_readPiece 111 = .ok (.if_icmp .ne 24, 3) := by decide +kernel
theorem dX3_readPiece_114 : decode cX3_readPiece 114 = .ok (.iload_n 1, 1) := by decide +kernel
theorem dX3_readPiece_115 : decode cX3_readPiece 115 = .ok (.bipush 8, 2) := by decide +kernel
theorem dX3_readPiece_117 : decode cX3_readPiece 117 = .ok (.if_icmp .ge 18, 3) := by decide +kernel
theorem dX3_readPiece_120 : decode cX3_readPiece 120 = .ok (.aload_n 0, 1) := by decide +kernel
theorem dX3_readPiece_121 : decode cX3_readPiece 121 = .ok (.iload_n 1, 1) := by decide +kernel
theorem dX3_readPiece_122 : decode cX3_readPiece 122 = .ok (.iconst 1, 1) := by decide +kernel
theorem dX3_readPiece_123 : decode cX3_readPiece 123 = .ok (.iadd, 1) := by decide +kernel
theorem dX3_readPiece_124 : decode cX3_readPiece 124 = .ok (.iload_n 2, 1) := by decide +kernel
theorem dX3_readPiece_125 : decode cX3_readPiece 125 = .ok (.invokevirtual 92, 3) := by decide +kernel
theorem dX3_readPiece_128 : decode cX3_readPiece 128 = .ok (.ifCond .eq 7, 3) := by decide +kernel
theorem dX3_readPiece_131 : decode cX3_readPiece 131 = .ok (.iconst 1, 1) := by decide +kernel
theorem dX3_readPiece_132 : decode cX3_readPiece 132 = .ok (.goto 4, 3) := by decide +kernel
theorem dX3_readPiece_135 : decode cX3_readPiece 135 = .ok (.iconst 0, 1) := by decide +kernel
theorem dX3_readPiece_136 : decode cX3_readPiece 136 = .ok (.ireturn, 1) := by decide +kernel
theorem dX3_readNot_0 : decode cX3_readNot 0 = .ok (.aload_n 0, 1) := by decide +kernel
theorem dX3_readNot_1 : decode cX3_readNot 1 = .ok (.getfield 12, 3) := by decide +kernel
theorem dX3_readNot_4 : decode cX3_readNot 4 = .ok (.invokevirtual 50, 3) := by decide +kernel
theorem dX3_readNot_7 : decode cX3_readNot 7 = .ok (.aload_n 0, 1) := by decide +kernel
theorem dX3_readNot_8 : decode cX3_readNot 8 = .ok (.iload_n 1, 1) := by decide +kernel
theorem dX3_readNot_9 : decode cX3_readNot 9 = .ok (.iload_n 2, 1) := by decide +kernel
theorem dX3_readNot_10 : decode cX3_readNot 10 = .ok (.invokevirtual 70, 3) := by decide +kernel
theorem dX3_readNot_13 : decode cX3_readNot 13 = .ok (.ifCond .ne 5, 3) := by decide +kernel
theorem dX3_readNot_16 : decode cX3_readNot 16 = .ok (.iconst 0, 1) := by decide +kernel
theorem dX3_readNot_17 : decode cX3_readNot 17 = .ok (.ireturn, 1) := by decide +kernel
theorem dX3_readNot_18 : decode cX3_readNot 18 = .ok (.aload_n 0, 1) := by decide +kernel
theorem dX3_readNot_19 : decode cX3_readNot 19 = .ok (.sipush 10033, 3) := by decide +kernel
theorem dX3_readNot_22 : decode cX3_readNot 22 = .ok (.invokevirtual 78, 3) := by decide +kernel
theorem dX3_readNot_25 : decode cX3_readNot 25 = .ok (.iconst 1, 1) := by decide +kernel
theorem dX3_readNot_26 : decode cX3_readNot 26 = .ok (.ireturn, 1) := by decide +kernel
theorem dX3_readBracket_0 : decode cX3_readBracket 0 = .ok (.aload_n 0, 1) := by decide +kernel
theorem dX3_readBracket_1 : decode cX3_readBracket 1 = .ok (.getfield 12, 3) := by decide +kernel
theorem dX3_readBracket_4 : decode cX3_readBracket 4 = .ok (.invokevirtual 50, 3) := by decide +kernel
theorem dX3_readBracket_7 : decode cX3_readBracket 7 = .ok (.aload_n 0, 1) := by decide +kernel
theorem dX3_readBracket_8 : decode cX3_readBracket 8 = .ok (.iconst 0, 1) := by decide +kernel
theorem dX3_readBracket_9 : decode cX3_readBracket 9 = .ok (.iload_n 1, 1) := by decide +kernel
theorem dX3_readBracket_10 : decode cX3_readBracket 10 = .ok (.iload_n 2, 1) := by decide +kernel
theorem dX3_readBracket_11 : decode cX3_readBracket 11 = .ok (.invokevirtual 53, 3) := by decide +kernel
theorem dX3_readBracket_14 : decode cX3_readBracket 14 = .ok (.ifCond .eq 15, 3) := by decide +kernel
theorem dX3_readBracket_17 : decode cX3_readBracket 17 = .ok (.aload_n 0, 1) := by decide +kernel
theorem dX3_readBracket_18 : decode cX3_readBracket 18 = .ok (.getfield 12, 3) := by decide +kernel
theorem dX3_readBracket_21 : decode cX3_readBracket 21 = .ok (.getfield 57, 3) := by decide +kernel
theorem dX3_readBracket_24 : decode cX3_readBracket 24 = .ok (.bipush 41, 2) := by decide +kernel
theorem dX3_readBracket_26 : decode cX3_readBracket 26 = .ok (.if_icmp .eq 5, 3) := by decide +kernel
theorem dX3_readBracket_29 : decode cX3_readBracket 29 = .ok (.iconst 0, 1) := by decide +kernel
theorem dX3_readBracket_30 : decode cX3_readBracket 30 = .ok (.ireturn, 1) := by decide +kernel
theorem dX3_readBracket_31 : decode cX3_readBracket 31 = .ok (.aload_n 0, 1) := by decide +kernel
theorem dX3_readBracket_32 : decode cX3_readBracket 32 = .ok (.getfield 12, 3) := by decide +kernel
theorem dX3_readBracket_35 : decode cX3_readBracket 35 = .ok (.invokevirtual 50, 3) := by decide +kernel
theorem dX3_readBracket_38 : decode cX3_readBracket 38 = .ok (.iconst 1, 1) := by decide +kernel
theorem dX3_readBracket_39 : decode cX3_readBracket 39 = .ok (.ireturn, 1) := by decide +kernel
theorem dX3_isNameOpen_0 : decode cX3_isNameOpen 0 = .ok (.aload_n 0, 1) := by decide +kernel
theorem dX3_isNameOpen_1 : decode cX3_isNameOpen 1 = .ok (.getfield 12, 3) := by decide +kernel
theorem dX3_isNameOpen_4 : decode cX3_isNameOpen 4 = .ok (.getfield 57, 3) := by decide +kernel
theorem dX3_isNameOpen_7 : decode cX3_isNameOpen 7 = .ok (.bipush (-2), 2) := by decide +kernel
theorem dX3_isNameOpen_9 : decode cX3_isNameOpen 9 = .ok (.if_icmp .eq 5, 3) := by decide +kernel
theorem dX3_isNameOpen_12 : decode cX3_isNameOpen 12 = .ok (.iconst 0, 1) := by decide +kernel
theorem dX3_isNameOpen_13 : decode cX3_isNameOpen 13 = .ok (.ireturn, 1) := by decide +kernel
theorem dX3_isNameOpen_14 : decode cX3_isNameOpen 14 = .ok (.aload_n 0, 1) := by decide +kernel
theorem dX3_isNameOpen_15 : decode cX3_isNameOpen 15 = .ok (.getfield 12, 3) := by decide +kernel
theorem dX3_isNameOpen_18 : decode cX3_isNameOpen 18 = .ok (.getfield 86, 3) := by decide +kernel
theorem dX3_isNameOpen_21 : decode cX3_isNameOpen 21 = .ok (.lookupswitch 72 #[(100, 43), (112, 58), (115, 43), (119, 45)], 43) := by decide +kernel
theorem dX3_isNameOpen_64 : decode cX3_isNameOpen 64 = .ok (.iconst 1, 1) := by decide +kernel
theorem dX3_isNameOpen_65 : decode cX3_isNameOpen 65 = .ok (.ireturn, 1) := by decide +kernel
theorem dX3_isNameOpen_66 : decode cX3_isNameOpen 66 = .ok (.aload_n 0, 1) := by decide +kernel
theorem dX3_isNameOpen_67 : decode cX3_isNameOpen 67 = .ok (.getfield 24, 3) := by decide +kernel
theorem dX3_isNameOpen_70 : decode cX3_isNameOpen 70 = .ok (.ifCond .ne 7, 3) := by decide +kernel
theorem dX3_isNameOpen_73 : decode cX3_isNameOpen 73 = .ok (.iconst 1, 1) := by decide +kernel
theorem dX3_isNameOpen_74 : decode cX3_isNameOpen 74 = .ok (.goto 4, 3) := by decide +kernel
theorem dX3_isNameOpen_77 : decode cX3_isNameOpen 77 = .ok (.iconst 0, 1) := by decide +kernel
theorem dX3_isNameOpen_78 : decode cX3_isNameOpen 78 = .ok (.ireturn, 1) := by decide +kernel
theorem dX3_isNameOpen_79 : decode cX3_isNameOpen 79 = .ok (.aload_n 0, 1) := by decide +kernel
theorem dX3_isNameOpen_80 : decode cX3_isNameOpen 80 = .ok (.getfield 24, 3) := by decide +kernel
theorem dX3_isNameOpen_83 : decode cX3_isNameOpen 83 = .ok (.iconst 1, 1) := by decide +kernel
theorem dX3_isNameOpen_84 : decode cX3_isNameOpen 84 = .ok (.if_icmp .ne 7, 3) := by decide +kernel
theorem dX3_isNameOpen_87 : decode cX3_isNameOpen 87 = .ok (.iconst 1, 1) := by decide +kernel
theorem dX3_isNameOpen_88 : decode cX3_isNameOpen 88 = .ok (.goto 4, 3) := by decide +kernel
theorem dX3_isNameOpen_91 : decode cX3_isNameOpen 91 = .ok (.iconst 0, 1) := by decide +kernel
theorem dX3_isNameOpen_92 : decode cX3_isNameOpen 92 = .ok (.ireturn, 1) := by decide +kernel
theorem dX3_isNameOpen_93 : decode cX3_isNameOpen 93 = .ok (.iconst 0, 1) := by decide +kernel
theorem dX3_isNameOpen_94 : decode cX3_isNameOpen 94 = .ok (.ireturn, 1) := by decide +kernel
theorem dX3_addPiece_0 : decode cX3_addPiece 0 = .ok (.aload_n 0, 1) := by decide +kernel
theorem dX3_addPiece_1 : decode cX3_addPiece 1 = .ok (.getfield 31, 3) := by decide +kernel
theorem dX3_addPiece_4 : decode cX3_addPiece 4 = .ok (.aload_n 0, 1) := by decide +kernel
theorem dX3_addPiece_5 : decode cX3_addPiece 5 = .ok (.getfield 18, 3) := by decide +kernel
theorem dX3_addPiece_8 : decode cX3_addPiece 8 = .ok (.arraylength, 1) := by decide +kernel
theorem dX3_addPiece_9 : decode cX3_addPiece 9 = .ok (.if_icmp .ge 23, 3) := by decide +kernel
theorem dX3_addPiece_12 : decode cX3_addPiece 12 = .ok (.aload_n 0, 1) := by decide +kernel
theorem dX3_addPiece_13 : decode cX3_addPiece 13 = .ok (.getfield 18, 3) := by decide +kernel
theorem dX3_addPiece_16 : decode cX3_addPiece 16 = .ok (.aload_n 0, 1) := by decide +kernel
theorem dX3_addPiece_17 : decode cX3_addPiece 17 = .ok (.getfield 31, 3) := by decide +kernel
theorem dX3_addPiece_20 : decode cX3_addPiece 20 = .ok (.iload_n 1, 1) := by decide +kernel
theorem dX3_addPiece_21 : decode cX3_addPiece 21 = .ok (.iastore, 1) := by decide +kernel
theorem dX3_addPiece_22 : decode cX3_addPiece 22 = .ok (.aload_n 0, 1) := by decide +kernel
theorem dX3_addPiece_23 : decode cX3_addPiece 23 = .ok (.dup, 1) := by decide +kernel
theorem dX3_addPiece_24 : decode cX3_addPiece 24 = .ok (.getfield 31, 3) := by decide +kernel
theorem dX3_addPiece_27 : decode cX3_addPiece 27 = .ok (.iconst 1, 1) := by decide +kernel
theorem dX3_addPiece_28 : decode cX3_addPiece 28 = .ok (.iadd, 1) := by decide +kernel
theorem dX3_addPiece_29 : decode cX3_addPiece 29 = .ok (.putfield 31, 3) := by decide +kernel
theorem dX3_addPiece_32 : decode cX3_addPiece 32 = .ok (.return_, 1) := by decide +kernel
theorem dX3_levelOf_0 : decode cX3_levelOf 0 = .ok (.iload_n 0, 1) := by decide +kernel
theorem dX3_levelOf_1 : decode cX3_levelOf 1 = .ok (.lookupswitch 93 #[(38, 85), (42, 91), (43, 89), (45, 89), (47, 91), (60, 87), (61, 87), (62, 87), (124, 83)], 83) := by decide +kernel
theorem dX3_levelOf_84 : decode cX3_levelOf 84 = .ok (.iconst 0, 1) := by decide +kernel
theorem dX3_levelOf_85 : decode cX3_levelOf 85 = .ok (.ireturn, 1) := by decide +kernel
theorem dX3_levelOf_86 : decode cX3_levelOf 86 = .ok (.iconst 1, 1) := by decide +kernel
theorem dX3_levelOf_87 : decode cX3_levelOf 87 = .ok (.ireturn, 1) := by decide +kernel
theorem dX3_levelOf_88 : decode cX3_levelOf 88 = .ok (.iconst 2, 1) := by decide +kernel
theorem dX3_levelOf_89 : decode cX3_levelOf 89 = .ok (.ireturn, 1) := by decide +kernel
theorem dX3_levelOf_90 : decode cX3_levelOf 90 = .ok (.iconst 3, 1) := by decide +kernel
theorem dX3_levelOf_91 : decode cX3_levelOf 91 = .ok (.ireturn, 1) := by decide +kernel
theorem dX3_levelOf_92 : decode cX3_levelOf 92 = .ok (.iconst 4, 1) := by decide +kernel
theorem dX3_levelOf_93 : decode cX3_levelOf 93 = .ok (.ireturn, 1) := by decide +kernel
theorem dX3_levelOf_94 : decode cX3_levelOf 94 = .ok (.iconst (-1), 1) := by decide +kernel
theorem dX3_levelOf_95 : decode cX3_levelOf 95 = .ok (.ireturn, 1) := by decide +kernel
theorem dX4_init_0 : decode cX4_init 0 = .ok (.aload_n 0, 1) := by decide +kernel
theorem dX4_init_1 : decode cX4_init 1 = .ok (.invokespecial 3, 3) := by decide +kernel
theorem dX4_init_4 : decode cX4_init 4 = .ok (.aload_n 0, 1) := by decide +kernel
theorem dX4_init_5 : decode cX4_init 5 = .ok (.bipush 8, 2) := by decide +kernel
theorem dX4_init_7 : decode cX4_init 7 = .ok (.newarray .int, 2) := by decide +kernel
theorem dX4_init_9 : decode cX4_init 9 = .ok (.putfield 9, 3) := by decide +kernel
theorem dX4_init_12 : decode cX4_init 12 = .ok (.aload_n 0, 1) := by decide +kernel
theorem dX4_init_13 : decode cX4_init 13 = .ok (.bipush 8, 2) := by decide +kernel
theorem dX4_init_15 : decode cX4_init 15 = .ok (.newarray .int, 2) := by decide +kernel
theorem dX4_init_17 : decode cX4_init 17 = .ok (.putfield 15, 3) := by decide +kernel
theorem dX4_init_20 : decode cX4_init 20 = .ok (.return_, 1) := by decide +kernel
theorem dX4_add_0 : decode cX4_add 0 = .ok (.aload_n 0, 1) := by decide +kernel
theorem dX4_add_1 : decode cX4_add 1 = .ok (.getfield 18, 3) := by decide +kernel
theorem dX4_add_4 : decode cX4_add 4 = .ok (.bipush 8, 2) := by decide +kernel
theorem dX4_add_6 : decode cX4_add 6 = .ok (.if_icmp .lt 6, 3) := by decide +kernel
theorem dX4_add_9 : decode cX4_add 9 = .ok (.ldc 22, 2) := by decide +kernel
theorem dX4_add_11 : decode cX4_add 11 = .ok (.ireturn, 1) := by decide +kernel
theorem dX4_add_12 : decode cX4_add 12 = .ok (.aload_n 0, 1) := by decide +kernel
theorem dX4_add_13 : decode cX4_add 13 = .ok (.getfield 9, 3) := by decide +kernel
theorem dX4_add_16 : decode cX4_add 16 = .ok (.aload_n 0, 1) := by decide +kernel
theorem dX4_add_17 : decode cX4_add 17 = .ok (.getfield 18, 3) := by decide +kernel
theorem dX4_add_20 : decode cX4_add 20 = .ok (.iload_n 1, 1) := by decide +kernel
theorem dX4_add_21 : decode cX4_add 21 = .ok (.iastore, 1) := by decide +kernel
theorem dX4_add_22 : decode cX4_add 22 = .ok (.aload_n 0, 1) := by decide +kernel
theorem dX4_add_23 : decode cX4_add 23 = .ok (.getfield 15, 3) := by decide +kernel
theorem dX4_add_26 : decode cX4_add 26 = .ok (.aload_n 0, 1) := by decide +kernel
theorem dX4_add_27 : decode cX4_add 27 = .ok (.getfield 18, 3) := by decide +kernel
theorem dX4_add_30 : decode cX4_add 30 = .ok (.iload_n 2, 1) := by decide +kernel
theorem dX4_add_31 : decode cX4_add 31 = .ok (.iastore, 1) := by decide +kernel
theorem dX4_add_32 : decode cX4_add 32 = .ok (.aload_n 0, 1) := by decide +kernel
theorem dX4_add_33 : decode cX4_add 33 = .ok (.dup, 1) := by decide +kernel
theorem dX4_add_34 : decode cX4_add 34 = .ok (.getfield 18, 3) := by decide +kernel
theorem dX4_add_37 : decode cX4_add 37 = .ok (.iconst 1, 1) := by decide +kernel
theorem dX4_add_38 : decode cX4_add 38 = .ok (.iadd, 1) := by decide +kernel
theorem dX4_add_39 : decode cX4_add 39 = .ok (.putfield 18, 3) := by decide +kernel
theorem dX4_add_42 : decode cX4_add 42 = .ok (.aload_n 0, 1) := by decide +kernel
theorem dX4_add_43 : decode cX4_add 43 = .ok (.getfield 18, 3) := by decide +kernel
theorem dX4_add_46 : decode cX4_add 46 = .ok (.iconst 1, 1) := by decide +kernel
theorem dX4_add_47 : decode cX4_add 47 = .ok (.isub, 1) := by decide +kernel
theorem dX4_add_48 : decode cX4_add 48 = .ok (.ireturn, 1) := by decide +kernel
theorem dX4_takeOver_0 : decode cX4_takeOver 0 = .ok (.aload_n 1, 1) := by decide +kernel
theorem dX4_takeOver_1 : decode cX4_takeOver 1 = .ok (.getfield 9, 3) := by decide +kernel
theorem dX4_takeOver_4 : decode cX4_takeOver 4 = .ok (.iconst 0, 1) := by decide +kernel
theorem dX4_takeOver_5 : decode cX4_takeOver 5 = .ok (.aload_n 0, 1) := by decide +kernel
theorem dX4_takeOver_6 : decode cX4_takeOver 6 = .ok (.getfield 9, 3) := by decide +kernel
theorem dX4_takeOver_9 : decode cX4_takeOver 9 = .ok (.iconst 0, 1) := by decide +kernel
theorem dX4_takeOver_10 : decode cX4_takeOver 10 = .ok (.bipush 8, 2) := by decide +kernel
theorem dX4_takeOver_12 : decode cX4_takeOver 12 = .ok (.invokestatic 23, 3) := by decide +kernel
theorem dX4_takeOver_15 : decode cX4_takeOver 15 = .ok (.aload_n 1, 1) := by decide +kernel
theorem dX4_takeOver_16 : decode cX4_takeOver 16 = .ok (.getfield 15, 3) := by decide +kernel
theorem dX4_takeOver_19 : decode cX4_takeOver 19 = .ok (.iconst 0, 1) := by decide +kernel
theorem dX4_takeOver_20 : decode cX4_takeOver 20 = .ok (.aload_n 0, 1) := by decide +kernel
theorem dX4_takeOver_21 : decode cX4_takeOver 21 = .ok (.getfield 15, 3) := by decide +kernel
theorem dX4_takeOver_24 : decode cX4_takeOver 24 = .ok (.iconst 0, 1) := by decide +kernel
theorem dX4_takeOver_25 : decode cX4_takeOver 25 = .ok (.bipush 8, 2) := by decide +kernel
theorem dX4_takeOver_27 : decode cX4_takeOver 27 = .ok (.invokestatic 23, 3) := by decide +kernel
theorem dX4_takeOver_30 : decode cX4_takeOver 30 = .ok (.aload_n 0, 1) := by decide +kernel
theorem dX4_takeOver_31 : decode cX4_takeOver 31 = .ok (.aload_n 1, 1) := by decide +kernel
theorem dX4_takeOver_32 : decode cX4_takeOver 32 = .ok (.getfield 18, 3) := by decide +kernel
theorem dX4_takeOver_35 : decode cX4_takeOver 35 = .ok (.putfield 18, 3) := by decide +kernel
theorem dX4_takeOver_38 : decode cX4_takeOver 38 = .ok (.return_, 1) := by decide +kernel
theorem dX5_init_0 : decode cX5_init 0 = .ok (.aload_n 0, 1) := by decide +kernel
theorem dX5_init_1 : decode cX5_init 1 = .ok (.invokespecial 3, 3) := by decide +kernel
theorem dX5_init_4 : decode cX5_init 4 = .ok (.aload_n 0, 1) := by decide +kernel
theorem dX5_init_5 : decode cX5_init 5 = .ok (.iconst (-1), 1) := by decide +kernel
theorem dX5_init_6 : decode cX5_init 6 = .ok (.putfield 9, 3) := by decide +kernel
theorem dX5_init_9 : decode cX5_init 9 = .ok (.aload_n 0, 1) := by decide +kernel
theorem dX5_init_10 : decode cX5_init 10 = .ok (.bipush 24, 2) := by decide +kernel
theorem dX5_init_12 : decode cX5_init 12 = .ok (.newarray .int, 2) := by decide +kernel
theorem dX5_init_14 : decode cX5_init 14 = .ok (.putfield 15, 3) := by decide +kernel
theorem dX5_init_17 : decode cX5_init 17 = .ok (.return_, 1) := by decide +kernel
theorem dX5_isMissing_0 : decode cX5_isMissing 0 = .ok (.aload_n 0, 1) := by decide +kernel
theorem dX5_isMissing_1 : decode cX5_isMissing 1 = .ok (.getfield 9, 3) := by decide +kernel
theorem dX5_isMissing_4 : decode cX5_isMissing 4 = .ok (.iconst (-1), 1) := by decide +kernel
theorem dX5_isMissing_5 : decode cX5_isMissing 5 = .ok (.if_icmp .ne 7, 3) := by decide +kernel
theorem dX5_isMissing_8 : decode cX5_isMissing 8 = .ok (.iconst 1, 1) := by decide +kernel
theorem dX5_isMissing_9 : decode cX5_isMissing 9 = .ok (.goto 4, 3) := by decide +kernel
theorem dX5_isMissing_12 : decode cX5_isMissing 12 = .ok (.iconst 0, 1) := by decide +kernel
theorem dX5_isMissing_13 : decode cX5_isMissing 13 = .ok (.ireturn, 1) := by decide +kernel
theorem dX5_has_0 : decode cX5_has 0 = .ok (.iload_n 1, 1) := by decide +kernel
theorem dX5_has_1 : decode cX5_has 1 = .ok (.ifCond .lt 15, 3) := by decide +kernel
theorem dX5_has_4 : decode cX5_has 4 = .ok (.iload_n 1, 1) := by decide +kernel
theorem dX5_has_5 : decode cX5_has 5 = .ok (.aload_n 0, 1) := by decide +kernel
theorem dX5_has_6 : decode cX5_has 6 = .ok (.getfield 19, 3) := by decide +kernel
theorem dX5_has_9 : decode cX5_has 9 = .ok (.if_icmp .ge 7, 3) := by decide +kernel
theorem dX5_has_12 : decode cX5_has 12 = .ok (.iconst 1, 1) := by decide +kernel
theorem dX5_has_13 : decode cX5_has 13 = .ok (.goto 4, 3) := by decide +kernel
theorem dX5_has_16 : decode cX5_has 16 = .ok (.iconst 0, 1) := by decide +kernel
theorem dX5_has_17 : decode cX5_has 17 = .ok (.ireturn, 1) := by decide +kernel
theorem dX5_hasRow_0 : decode cX5_hasRow 0 = .ok (.iload_n 1, 1) := by decide +kernel
theorem dX5_hasRow_1 : decode cX5_hasRow 1 = .ok (.ifCond .lt 29, 3) := by decide +kernel
theorem dX5_hasRow_4 : decode cX5_hasRow 4 = .ok (.iload_n 1, 1) := by decide +kernel
theorem dX5_hasRow_5 : decode cX5_hasRow 5 = .ok (.aload_n 0, 1) := by decide +kernel
theorem dX5_hasRow_6 : decode cX5_hasRow 6 = .ok (.getfield 19, 3) := by decide +kernel
theorem dX5_hasRow_9 : decode cX5_hasRow 9 = .ok (.if_icmp .gt 21, 3) := by decide +kernel
theorem dX5_hasRow_12 : decode cX5_hasRow 12 = .ok (.iload_n 2, 1) := by decide +kernel
theorem dX5_hasRow_13 : decode cX5_hasRow 13 = .ok (.ifCond .lt 17, 3) := by decide +kernel
theorem dX5_hasRow_16 : decode cX5_hasRow 16 = .ok (.iload_n 2, 1) := by decide +kernel
theorem dX5_hasRow_17 : decode cX5_hasRow 17 = .ok (.aload_n 0, 1) := by decide +kernel
theorem dX5_hasRow_18 : decode cX5_hasRow 18 = .ok (.getfield 19, 3) := by decide +kernel
theorem dX5_hasRow_21 : decode cX5_hasRow 21 = .ok (.iload_n 1, 1) := by decide +kernel
theorem dX5_hasRow_22 : decode cX5_hasRow 22 = .ok (.isub, 1) := by decide +kernel
theorem dX5_hasRow_23 : decode cX5_hasRow 23 = .ok (.if_icmp .gt 7, 3) := by decide +kernel
theorem dX5_hasRow_26 : decode cX5_hasRow 26 = .ok (.iconst 1, 1) := by decide +kernel
theorem dX5_hasRow_27 : decode cX5_hasRow 27 = .ok (.goto 4, 3) := by decide +kernel
theorem dX5_hasRow_30 : decode cX5_hasRow 30 = .ok (.iconst 0, 1) := by decide +kernel
theorem dX5_hasRow_31 : decode cX5_hasRow 31 = .ok (.ireturn, 1) := by decide +kernel
theorem dX5_become_0 : decode cX5_become 0 = .ok (.aload_n 0, 1) := by decide +kernel
theorem dX5_become_1 : decode cX5_become 1 = .ok (.iload_n 1, 1) := by decide +kernel
theorem dX5_become_2 : decode cX5_become 2 = .ok (.putfield 9, 3) := by decide +kernel
theorem dX5_become_5 : decode cX5_become 5 = .ok (.aload_n 0, 1) := by decide +kernel
theorem dX5_become_6 : decode cX5_become 6 = .ok (.iload_n 2, 1) := by decide +kernel
theorem dX5_become_7 : decode cX5_become 7 = .ok (.putfield 19, 3) := by decide +kernel
theorem dX5_become_10 : decode cX5_become 10 = .ok (.aload_n 0, 1) := by decide +kernel
theorem dX5_become_11 : decode cX5_become 11 = .ok (.getfield 15, 3) := by decide +kernel
theorem dX5_become_14 : decode cX5_become 14 = .ok (.iconst 0, 1) := by decide +kernel
theorem dX5_become_15 : decode cX5_become 15 = .ok (.invokestatic 22, 3) := by decide +kernel
theorem dX5_become_18 : decode cX5_become 18 = .ok (.return_, 1) := by decide +kernel
theorem dX5_takeOver_0 : decode cX5_takeOver 0 = .ok (.aload_n 0, 1) := by decide +kernel
theorem dX5_takeOver_1 : decode cX5_takeOver 1 = .ok (.aload_n 1, 1) := by decide +kernel
theorem dX5_takeOver_2 : decode cX5_takeOver 2 = .ok (.getfield 9, 3) := by decide +kernel
theorem dX5_takeOver_5 : decode cX5_takeOver 5 = .ok (.putfield 9, 3) := by decide +kernel
theorem dX5_takeOver_8 : decode cX5_takeOver 8 = .ok (.aload_n 0, 1) := by decide +kernel
theorem dX5_takeOver_9 : decode cX5_takeOver 9 = .ok (.aload_n 1, 1) := by decide +kernel
theorem dX5_takeOver_10 : decode cX5_takeOver 10 = .ok (.getfield 19, 3) := by decide +kernel
theorem dX5_takeOver_13 : decode cX5_takeOver 13 = .ok (.putfield 19, 3) := by decide +kernel
theorem dX5_takeOver_16 : decode cX5_takeOver 16 = .ok (.aload_n 1, 1) := by decide +kernel
theorem dX5_takeOver_17 : decode cX5_takeOver 17 = .ok (.getfield 15, 3) := by decide +kernel
theorem dX5_takeOver_20 : decode cX5_takeOver 20 = .ok (.iconst 0, 1) := by decide +kernel
theorem dX5_takeOver_21 : decode cX5_takeOver 21 = .ok (.aload_n 0, 1) := by decide +kernel
theorem dX5_takeOver_22 : decode cX5_takeOver 22 = .ok (.getfield 15, 3) := by decide +kernel
theorem dX5_takeOver_25 : decode cX5_takeOver 25 = .ok (.iconst 0, 1) := by decide +kernel
theorem dX5_takeOver_26 : decode cX5_takeOver 26 = .ok (.bipush 24, 2) := by decide +kernel
theorem dX5_takeOver_28 : decode cX5_takeOver 28 = .ok (.invokestatic 28, 3) := by decide +kernel
theorem dX5_takeOver_31 : decode cX5_takeOver 31 = .ok (.return_, 1) := by decide +kernel
theorem dX6_init_0 : decode cX6_init 0 = .ok (.aload_n 0, 1) := by decide +kernel
theorem dX6_init_1 : decode cX6_init 1 = .ok (.invokespecial 3, 3) := by decide +kernel
theorem dX6_init_4 : decode cX6_init 4 = .ok (.aload_n 0, 1) := by decide +kernel
theorem dX6_init_5 : decode cX6_init 5 = .ok (.iconst 0, 1) := by decide +kernel
theorem dX6_init_6 : decode cX6_init 6 = .ok (.putfield 9, 3) := by decide +kernel
theorem dX6_init_9 : decode cX6_init 9 = .ok (.aload_n 0, 1) := by decide +kernel
theorem dX6_init_10 : decode cX6_init 10 = .ok (.new 15, 3) := by decide +kernel
theorem dX6_init_13 : decode cX6_init 13 = .ok (.dup, 1) := by decide +kernel
theorem dX6_init_14 : decode cX6_init 14 = .ok (.invokespecial 17, 3) := by decide +kernel
theorem dX6_init_17 : decode cX6_init 17 = .ok (.putfield 18, 3) := by decide +kernel
theorem dX6_init_20 : decode cX6_init 20 = .ok (.return_, 1) := by decide +kernel
theorem dX7_init_0 : decode cX7_init 0 = .ok (.aload_n 0, 1) := by decide +kernel
theorem dX7_init_1 : decode cX7_init 1 = .ok (.invokespecial 3, 3) := by decide +kernel
theorem dX7_init_4 : decode cX7_init 4 = .ok (.aload_n 0, 1) := by decide +kernel
theorem dX7_init_5 : decode cX7_init 5 = .ok (.bipush 20, 2) := by decide +kernel
theorem dX7_init_7 : decode cX7_init 7 = .ok (.newarray .int, 2) := by decide +kernel
theorem dX7_init_9 : decode cX7_init 9 = .ok (.putfield 9, 3) := by decide +kernel
theorem dX7_init_12 : decode cX7_init 12 = .ok (.aload_n 0, 1) := by decide +kernel
theorem dX7_init_13 : decode cX7_init 13 = .ok (.bipush 20, 2) := by decide +kernel
theorem dX7_init_15 : decode cX7_init 15 = .ok (.newarray .int, 2) := by decide +kernel
theorem dX7_init_17 : decode cX7_init 17 = .ok (.putfield 15, 3) := by decide +kernel
theorem dX7_init_20 : decode cX7_init 20 = .ok (.aload_n 0, 1) := by decide +kernel
theorem dX7_init_21 : decode cX7_init 21 = .ok (.bipush 20, 2) := by decide +kernel
theorem dX7_init_23 : decode cX7_init 23 = .ok (.newarray .int, 2) := by decide +kernel
theorem dX7_init_25 : decode cX7_init 25 = .ok (.putfield 18, 3) := by decide +kernel
theorem dX7_init_28 : decode cX7_init 28 = .ok (.aload_n 0, 1) := by decide +kernel
theorem dX7_init_29 : decode cX7_init 29 = .ok (.iload_n 1, 1) := by decide +kernel
theorem dX7_init_30 : decode cX7_init 30 = .ok (.bipush 20, 2) := by decide +kernel
theorem dX7_init_32 : decode cX7_init 32 = .ok (.invokestatic 21, 3) := by decide +kernel
theorem dX7_init_35 : decode cX7_init 35 = .ok (.putfield 27, 3) := by decide +kernel
theorem dX7_init_38 : decode cX7_init 38 = .ok (.return_, 1) := by decide +kernel
theorem dX7_add_0 : decode cX7_add 0 = .ok (.aload_n 0, 1) := by decide +kernel
theorem dX7_add_1 : decode cX7_add 1 = .ok (.getfield 31, 3) := by decide +kernel
theorem dX7_add_4 : decode cX7_add 4 = .ok (.aload_n 0, 1) := by decide +kernel
theorem dX7_add_5 : decode cX7_add 5 = .ok (.getfield 27, 3) := by decide +kernel
theorem dX7_add_8 : decode cX7_add 8 = .ok (.if_icmp .lt 6, 3) := by decide +kernel
theorem dX7_add_11 : decode cX7_add 11 = .ok (.ldc 34, 2) := by decide +kernel
theorem dX7_add_13 : decode cX7_add 13 = .ok (.ireturn, 1) := by decide +kernel
theorem dX7_add_14 : decode cX7_add 14 = .ok (.aload_n 0, 1) := by decide +kernel
theorem dX7_add_15 : decode cX7_add 15 = .ok (.getfield 9, 3) := by decide +kernel
theorem dX7_add_18 : decode cX7_add 18 = .ok (.aload_n 0, 1) := by decide +kernel
theorem dX7_add_19 : decode cX7_add 19 = .ok (.getfield 31, 3) := by decide +kernel
theorem dX7_add_22 : decode cX7_add 22 = .ok (.iload_n 1, 1) := by decide +kernel
theorem dX7_add_23 : decode cX7_add 23 = .ok (.iastore, 1) := by decide +kernel
theorem dX7_add_24 : decode cX7_add 24 = .ok (.aload_n 0, 1) := by decide +kernel
theorem dX7_add_25 : decode cX7_add 25 = .ok (.getfield 15, 3) := by decide +kernel
theorem dX7_add_28 : decode cX7_add 28 = .ok (.aload_n 0, 1) := by decide +kernel
theorem dX7_add_29 : decode cX7_add 29 = .ok (.getfield 31, 3) := by decide +kernel
theorem dX7_add_32 : decode cX7_add 32 = .ok (.iload_n 2, 1) := by decide +kernel
theorem dX7_add_33 : decode cX7_add 33 = .ok (.iastore, 1) := by decide +kernel
theorem dX7_add_34 : decode cX7_add 34 = .ok (.aload_n 0, 1) := by decide +kernel
theorem dX7_add_35 : decode cX7_add 35 = .ok (.getfield 18, 3) := by decide +kernel
theorem dX7_add_38 : decode cX7_add 38 = .ok (.aload_n 0, 1) := by decide +kernel
theorem dX7_add_39 : decode cX7_add 39 = .ok (.getfield 31, 3) := by decide +kernel
theorem dX7_add_42 : decode cX7_add 42 = .ok (.iload_n 3, 1) := by decide +kernel
theorem dX7_add_43 : decode cX7_add 43 = .ok (.iastore, 1) := by decide +kernel
theorem dX7_add_44 : decode cX7_add 44 = .ok (.aload_n 0, 1) := by decide +kernel
theorem dX7_add_45 : decode cX7_add 45 = .ok (.dup, 1) := by decide +kernel
theorem dX7_add_46 : decode cX7_add 46 = .ok (.getfield 31, 3) := by decide +kernel
theorem dX7_add_49 : decode cX7_add 49 = .ok (.iconst 1, 1) := by decide +kernel
theorem dX7_add_50 : decode cX7_add 50 = .ok (.iadd, 1) := by decide +kernel
theorem dX7_add_51 : decode cX7_add 51 = .ok (.putfield 31, 3) := by decide +kernel
theorem dX7_add_54 : decode cX7_add 54 = .ok (.aload_n 0, 1) := by decide +kernel
theorem dX7_add_55 : decode cX7_add 55 = .ok (.getfield 31, 3) := by decide +kernel
theorem dX7_add_58 : decode cX7_add 58 = .ok (.iconst 1, 1) := by decide +kernel
theorem dX7_add_59 : decode cX7_add 59 = .ok (.isub, 1) := by decide +kernel
theorem dX7_add_60 : decode cX7_add 60 = .ok (.ireturn, 1) := by decide +kernel
theorem dX7_coilsOn_0 : decode cX7_coilsOn 0 = .ok (.iconst 0, 1) := by decide +kernel
theorem dX7_coilsOn_1 : decode cX7_coilsOn 1 = .ok (.istore_n 2, 1) := by decide +kernel
theorem dX7_coilsOn_2 : decode cX7_coilsOn 2 = .ok (.iconst 0, 1) := by decide +kernel
theorem dX7_coilsOn_3 : decode cX7_coilsOn 3 = .ok (.istore_n 3, 1) := by decide +kernel
theorem dX7_coilsOn_4 : decode cX7_coilsOn 4 = .ok (.iload_n 3, 1) := by decide +kernel
theorem dX7_coilsOn_5 : decode cX7_coilsOn 5 = .ok (.aload_n 0, 1) := by decide +kernel
theorem dX7_coilsOn_6 : decode cX7_coilsOn 6 = .ok (.getfield 31, 3) := by decide +kernel
theorem dX7_coilsOn_9 : decode cX7_coilsOn 9 = .ok (.if_icmp .ge 40, 3) := by decide +kernel
theorem dX7_coilsOn_12 : decode cX7_coilsOn 12 = .ok (.iload_n 1, 1) := by decide +kernel
theorem dX7_coilsOn_13 : decode cX7_coilsOn 13 = .ok (.aload_n 0, 1) := by decide +kernel
theorem dX7_coilsOn_14 : decode cX7_coilsOn 14 = .ok (.getfield 15, 3) := by decide +kernel
theorem dX7_coilsOn_17 : decode cX7_coilsOn 17 = .ok (.iload_n 3, 1) := by decide +kernel
theorem dX7_coilsOn_18 : decode cX7_coilsOn 18 = .ok (.iaload, 1) := by decide +kernel
theorem dX7_coilsOn_19 : decode cX7_coilsOn 19 = .ok (.if_icmp .lt 24, 3) := by decide +kernel
theorem dX7_coilsOn_22 : decode cX7_coilsOn 22 = .ok (.iload_n 1, 1) := by decide +kernel
theorem dX7_coilsOn_23 : decode cX7_coilsOn 23 = .ok (.aload_n 0, 1) := by decide +kernel
theorem dX7_coilsOn_24 : decode cX7_coilsOn 24 = .ok (.getfield 18, 3) := by decide +kernel
theorem dX7_coilsOn_27 : decode cX7_coilsOn 27 = .ok (.iload_n 3, 1) := by decide +kernel
theorem dX7_coilsOn_28 : decode cX7_coilsOn 28 = .ok (.iaload, 1) := by decide +kernel
theorem dX7_coilsOn_29 : decode cX7_coilsOn 29 = .ok (.if_icmp .gt 14, 3) := by decide +kernel
theorem dX7_coilsOn_32 : decode cX7_coilsOn 32 = .ok (.iload_n 2, 1) := by decide +kernel
theorem dX7_coilsOn_33 : decode cX7_coilsOn 33 = .ok (.iconst 1, 1) := by decide +kernel
theorem dX7_coilsOn_34 : decode cX7_coilsOn 34 = .ok (.aload_n 0, 1) := by decide +kernel
theorem dX7_coilsOn_35 : decode cX7_coilsOn 35 = .ok (.getfield 9, 3) := by decide +kernel
theorem dX7_coilsOn_38 : decode cX7_coilsOn 38 = .ok (.iload_n 3, 1) := by decide +kernel
theorem dX7_coilsOn_39 : decode cX7_coilsOn 39 = .ok (.iaload, 1) := by decide +kernel
theorem dX7_coilsOn_40 : decode cX7_coilsOn 40 = .ok (.ishl, 1) := by decide +kernel
theorem dX7_coilsOn_41 : decode cX7_coilsOn 41 = .ok (.ior, 1) := by decide +kernel
theorem dX7_coilsOn_42 : decode cX7_coilsOn 42 = .ok (.istore_n 2, 1) := by decide +kernel
theorem dX7_coilsOn_43 : decode cX7_coilsOn 43 = .ok (.iinc 3 1, 3) := by decide +kernel
theorem dX7_coilsOn_46 : decode cX7_coilsOn 46 = .ok (.goto (-42), 3) := by decide +kernel
theorem dX7_coilsOn_49 : decode cX7_coilsOn 49 = .ok (.iload_n 2, 1) := by decide +kernel
theorem dX7_coilsOn_50 : decode cX7_coilsOn 50 = .ok (.ireturn, 1) := by decide +kernel
theorem dX7_manyOn_0 : decode cX7_manyOn 0 = .ok (.iconst 0, 1) := by decide +kernel
theorem dX7_manyOn_1 : decode cX7_manyOn 1 = .ok (.istore_n 2, 1) := by decide +kernel
theorem dX7_manyOn_2 : decode cX7_manyOn 2 = .ok (.iconst 0, 1) := by decide +kernel
theorem dX7_manyOn_3 : decode cX7_manyOn 3 = .ok (.istore_n 3, 1) := by decide +kernel
theorem dX7_manyOn_4 : decode cX7_manyOn 4 = .ok (.iload_n 3, 1) := by decide +kernel
theorem dX7_manyOn_5 : decode cX7_manyOn 5 = .ok (.aload_n 0, 1) := by decide +kernel
theorem dX7_manyOn_6 : decode cX7_manyOn 6 = .ok (.getfield 31, 3) := by decide +kernel
theorem dX7_manyOn_9 : decode cX7_manyOn 9 = .ok (.if_icmp .ge 32, 3) := by decide +kernel
theorem dX7_manyOn_12 : decode cX7_manyOn 12 = .ok (.iload_n 1, 1) := by decide +kernel
theorem dX7_manyOn_13 : decode cX7_manyOn 13 = .ok (.aload_n 0, 1) := by decide +kernel
theorem dX7_manyOn_14 : decode cX7_manyOn 14 = .ok (.getfield 15, 3) := by decide +kernel
theorem dX7_manyOn_17 : decode cX7_manyOn 17 = .ok (.iload_n 3, 1) := by decide +kernel
theorem dX7_manyOn_18 : decode cX7_manyOn 18 = .ok (.iaload, 1) := by decide +kernel
theorem dX7_manyOn_19 : decode cX7_manyOn 19 = .ok (.if_icmp .lt 16, 3) := by decide +kernel
theorem dX7_manyOn_22 : decode cX7_manyOn 22 = .ok (.iload_n 1, 1) := by decide +kernel
theorem dX7_manyOn_23 : decode cX7_manyOn 23 = .ok (.aload_n 0, 1) := by decide +kernel
theorem dX7_manyOn_24 : decode cX7_manyOn 24 = .ok (.getfield 18, 3) := by decide +kernel
theorem dX7_manyOn_27 : decode cX7_manyOn 27 = .ok (.iload_n 3, 1) := by decide +kernel
theorem dX7_manyOn_28 : decode cX7_manyOn 28 = .ok (.iaload, 1) := by decide +kernel
theorem dX7_manyOn_29 : decode cX7_manyOn 29 = .ok (.if_icmp .gt 6, 3) := by decide +kernel
theorem dX7_manyOn_32 : decode cX7_manyOn 32 = .ok (.iinc 2 1, 3) := by decide +kernel
theorem dX7_manyOn_35 : decode cX7_manyOn 35 = .ok (.iinc 3 1, 3) := by decide +kernel
theorem dX7_manyOn_38 : decode cX7_manyOn 38 = .ok (.goto (-34), 3) := by decide +kernel
theorem dX7_manyOn_41 : decode cX7_manyOn 41 = .ok (.iload_n 2, 1) := by decide +kernel
theorem dX7_manyOn_42 : decode cX7_manyOn 42 = .ok (.ireturn, 1) := by decide +kernel
theorem dX7_takeOver_0 : decode cX7_takeOver 0 = .ok (.aload_n 1, 1) := by decide +kernel
theorem dX7_takeOver_1 : decode cX7_takeOver 1 = .ok (.getfield 9, 3) := by decide +kernel
theorem dX7_takeOver_4 : decode cX7_takeOver 4 = .ok (.iconst 0, 1) := by decide +kernel
theorem dX7_takeOver_5 : decode cX7_takeOver 5 = .ok (.aload_n 0, 1) := by decide +kernel
theorem dX7_takeOver_6 : decode cX7_takeOver 6 = .ok (.getfield 9, 3) := by decide +kernel
theorem dX7_takeOver_9 : decode cX7_takeOver 9 = .ok (.iconst 0, 1) := by decide +kernel
theorem dX7_takeOver_10 : decode cX7_takeOver 10 = .ok (.bipush 20, 2) := by decide +kernel
theorem dX7_takeOver_12 : decode cX7_takeOver 12 = .ok (.invokestatic 35, 3) := by decide +kernel
theorem dX7_takeOver_15 : decode cX7_takeOver 15 = .ok (.aload_n 1, 1) := by decide +kernel
theorem dX7_takeOver_16 : decode cX7_takeOver 16 = .ok (.getfield 15, 3) := by decide +kernel
theorem dX7_takeOver_19 : decode cX7_takeOver 19 = .ok (.iconst 0, 1) := by decide +kernel
theorem dX7_takeOver_20 : decode cX7_takeOver 20 = .ok (.aload_n 0, 1) := by decide +kernel
theorem dX7_takeOver_21 : decode cX7_takeOver 21 = .ok (.getfield 15, 3) := by decide +kernel
theorem dX7_takeOver_24 : decode cX7_takeOver 24 = .ok (.iconst 0, 1) := by decide +kernel
theorem dX7_takeOver_25 : decode cX7_takeOver 25 = .ok (.bipush 20, 2) := by decide +kernel
theorem dX7_takeOver_27 : decode cX7_takeOver 27 = .ok (.invokestatic 35, 3) := by decide +kernel
theorem dX7_takeOver_30 : decode cX7_takeOver 30 = .ok (.aload_n 1, 1) := by decide +kernel
theorem dX7_takeOver_31 : decode cX7_takeOver 31 = .ok (.getfield 18, 3) := by decide +kernel
theorem dX7_takeOver_34 : decode cX7_takeOver 34 = .ok (.iconst 0, 1) := by decide +kernel
theorem dX7_takeOver_35 : decode cX7_takeOver 35 = .ok (.aload_n 0, 1) := by decide +kernel
theorem dX7_takeOver_36 : decode cX7_takeOver 36 = .ok (.getfield 18, 3) := by decide +kernel
theorem dX7_takeOver_39 : decode cX7_takeOver 39 = .ok (.iconst 0, 1) := by decide +kernel
theorem dX7_takeOver_40 : decode cX7_takeOver 40 = .ok (.bipush 20, 2) := by decide +kernel
theorem dX7_takeOver_42 : decode cX7_takeOver 42 = .ok (.invokestatic 35, 3) := by decide +kernel
theorem dX7_takeOver_45 : decode cX7_takeOver 45 = .ok (.aload_n 0, 1) := by decide +kernel
theorem dX7_takeOver_46 : decode cX7_takeOver 46 = .ok (.aload_n 1, 1) := by decide +kernel
theorem dX7_takeOver_47 : decode cX7_takeOver 47 = .ok (.getfield 31, 3) := by decide +kernel
theorem dX7_takeOver_50 : decode cX7_takeOver 50 = .ok (.putfield 31, 3) := by decide +kernel
theorem dX7_takeOver_53 : decode cX7_takeOver 53 = .ok (.return_, 1) := by decide +kernel
theorem dX8_init_0 : decode cX8_init 0 = .ok (.aload_n 0, 1) := by decide +kernel
theorem dX8_init_1 : decode cX8_init 1 = .ok (.invokespecial 3, 3) := by decide +kernel
theorem dX8_init_4 : decode cX8_init 4 = .ok (.aload_n 0, 1) := by decide +kernel
theorem dX8_init_5 : decode cX8_init 5 = .ok (.bipush 40, 2) := by decide +kernel
theorem dX8_init_7 : decode cX8_init 7 = .ok (.newarray .int, 2) := by decide +kernel
theorem dX8_init_9 : decode cX8_init 9 = .ok (.putfield 9, 3) := by decide +kernel
theorem dX8_init_12 : decode cX8_init 12 = .ok (.aload_n 0, 1) := by decide +kernel
theorem dX8_init_13 : decode cX8_init 13 = .ok (.bipush 40, 2) := by decide +kernel
theorem dX8_init_15 : decode cX8_init 15 = .ok (.newarray .int, 2) := by decide +kernel
theorem dX8_init_17 : decode cX8_init 17 = .ok (.putfield 15, 3) := by decide +kernel
theorem dX8_init_20 : decode cX8_init 20 = .ok (.aload_n 0, 1) := by decide +kernel
theorem dX8_init_21 : decode cX8_init 21 = .ok (.bipush 40, 2) := by decide +kernel
theorem dX8_init_23 : decode cX8_init 23 = .ok (.newarray .int, 2) := by decide +kernel
theorem dX8_init_25 : decode cX8_init 25 = .ok (.putfield 18, 3) := by decide +kernel
theorem dX8_init_28 : decode cX8_init 28 = .ok (.aload_n 0, 1) := by decide +kernel
theorem dX8_init_29 : decode cX8_init 29 = .ok (.bipush 40, 2) := by decide +kernel
theorem dX8_init_31 : decode cX8_init 31 = .ok (.newarray .int, 2) := by decide +kernel
theorem dX8_init_33 : decode cX8_init 33 = .ok (.putfield 21, 3) := by decide +kernel
theorem dX8_init_36 : decode cX8_init 36 = .ok (.return_, 1) := by decide +kernel
theorem dX8_has_0 : decode cX8_has 0 = .ok (.iload_n 1, 1) := by decide +kernel
theorem dX8_has_1 : decode cX8_has 1 = .ok (.ifCond .lt 15, 3) := by decide +kernel
theorem dX8_has_4 : decode cX8_has 4 = .ok (.iload_n 1, 1) := by decide +kernel
theorem dX8_has_5 : decode cX8_has 5 = .ok (.aload_n 0, 1) := by decide +kernel
theorem dX8_has_6 : decode cX8_has 6 = .ok (.getfield 24, 3) := by decide +kernel
theorem dX8_has_9 : decode cX8_has 9 = .ok (.if_icmp .ge 7, 3) := by decide +kernel
theorem dX8_has_12 : decode cX8_has 12 = .ok (.iconst 1, 1) := by decide +kernel
theorem dX8_has_13 : decode cX8_has 13 = .ok (.goto 4, 3) := by decide +kernel
theorem dX8_has_16 : decode cX8_has 16 = .ok (.iconst 0, 1) := by decide +kernel
theorem dX8_has_17 : decode cX8_has 17 = .ok (.ireturn, 1) := by decide +kernel
theorem dX8_isFull_0 : decode cX8_isFull 0 = .ok (.aload_n 0, 1) := by decide +kernel
theorem dX8_isFull_1 : decode cX8_isFull 1 = .ok (.getfield 24, 3) := by decide +kernel
theorem dX8_isFull_4 : decode cX8_isFull 4 = .ok (.bipush 40, 2) := by decide +kernel
theorem dX8_isFull_6 : decode cX8_isFull 6 = .ok (.if_icmp .lt 7, 3) := by decide +kernel
theorem dX8_isFull_9 : decode cX8_isFull 9 = .ok (.iconst 1, 1) := by decide +kernel
theorem dX8_isFull_10 : decode cX8_isFull 10 = .ok (.goto 4, 3) := by decide +kernel
theorem dX8_isFull_13 : decode cX8_isFull 13 = .ok (.iconst 0, 1) := by decide +kernel
theorem dX8_isFull_14 : decode cX8_isFull 14 = .ok (.ireturn, 1) := by decide +kernel
theorem dX8_add_0 : decode cX8_add 0 = .ok (.aload_n 0, 1) := by decide +kernel
theorem dX8_add_1 : decode cX8_add 1 = .ok (.invokevirtual 28, 3) := by decide +kernel
theorem dX8_add_4 : decode cX8_add 4 = .ok (.ifCond .eq 6, 3) := by decide +kernel
theorem dX8_add_7 : decode cX8_add 7 = .ok (.ldc 32, 2) := by decide +kernel
theorem dX8_add_9 : decode cX8_add 9 = .ok (.ireturn, 1) := by decide +kernel
theorem dX8_add_10 : decode cX8_add 10 = .ok (.aload_n 0, 1) := by decide +kernel
theorem dX8_add_11 : decode cX8_add 11 = .ok (.getfield 9, 3) := by decide +kernel
theorem dX8_add_14 : decode cX8_add 14 = .ok (.aload_n 0, 1) := by decide +kernel
theorem dX8_add_15 : decode cX8_add 15 = .ok (.getfield 24, 3) := by decide +kernel
theorem dX8_add_18 : decode cX8_add 18 = .ok (.iload_n 1, 1) := by decide +kernel
theorem dX8_add_19 : decode cX8_add 19 = .ok (.iastore, 1) := by decide +kernel
theorem dX8_add_20 : decode cX8_add 20 = .ok (.aload_n 0, 1) := by decide +kernel
theorem dX8_add_21 : decode cX8_add 21 = .ok (.getfield 15, 3) := by decide +kernel
theorem dX8_add_24 : decode cX8_add 24 = .ok (.aload_n 0, 1) := by decide +kernel
theorem dX8_add_25 : decode cX8_add 25 = .ok (.getfield 24, 3) := by decide +kernel
theorem dX8_add_28 : decode cX8_add 28 = .ok (.iload_n 2, 1) := by decide +kernel
theorem dX8_add_29 : decode cX8_add 29 = .ok (.iastore, 1) := by decide +kernel
theorem dX8_add_30 : decode cX8_add 30 = .ok (.aload_n 0, 1) := by decide +kernel
theorem dX8_add_31 : decode cX8_add 31 = .ok (.getfield 18, 3) := by decide +kernel
theorem dX8_add_34 : decode cX8_add 34 = .ok (.aload_n 0, 1) := by decide +kernel
theorem dX8_add_35 : decode cX8_add 35 = .ok (.getfield 24, 3) := by decide +kernel
theorem dX8_add_38 : decode cX8_add 38 = .ok (.iload_n 3, 1) := by decide +kernel
theorem dX8_add_39 : decode cX8_add 39 = .ok (.iastore, 1) := by decide +kernel
theorem dX8_add_40 : decode cX8_add 40 = .ok (.aload_n 0, 1) := by decide +kernel
theorem dX8_add_41 : decode cX8_add 41 = .ok (.getfield 21, 3) := by decide +kernel
theorem dX8_add_44 : decode cX8_add 44 = .ok (.aload_n 0, 1) := by decide +kernel
theorem dX8_add_45 : decode cX8_add 45 = .ok (.getfield 24, 3) := by decide +kernel
theorem dX8_add_48 : decode cX8_add 48 = .ok (.iload 4, 2) := by decide +kernel
theorem dX8_add_50 : decode cX8_add 50 = .ok (.iastore, 1) := by decide +kernel
theorem dX8_add_51 : decode cX8_add 51 = .ok (.aload_n 0, 1) := by decide +kernel
theorem dX8_add_52 : decode cX8_add 52 = .ok (.dup, 1) := by decide +kernel
theorem dX8_add_53 : decode cX8_add 53 = .ok (.getfield 24, 3) := by decide +kernel
theorem dX8_add_56 : decode cX8_add 56 = .ok (.iconst 1, 1) := by decide +kernel
theorem dX8_add_57 : decode cX8_add 57 = .ok (.iadd, 1) := by decide +kernel
theorem dX8_add_58 : decode cX8_add 58 = .ok (.putfield 24, 3) := by decide +kernel
theorem dX8_add_61 : decode cX8_add 61 = .ok (.aload_n 0, 1) := by decide +kernel
theorem dX8_add_62 : decode cX8_add 62 = .ok (.getfield 24, 3) := by decide +kernel
theorem dX8_add_65 : decode cX8_add 65 = .ok (.iconst 1, 1) := by decide +kernel
theorem dX8_add_66 : decode cX8_add 66 = .ok (.isub, 1) := by decide +kernel
theorem dX8_add_67 : decode cX8_add 67 = .ok (.ireturn, 1) := by decide +kernel
theorem dX8_removeAt_0 : decode cX8_removeAt 0 = .ok (.aload_n 0, 1) := by decide +kernel
theorem dX8_removeAt_1 : decode cX8_removeAt 1 = .ok (.dup, 1) := by decide +kernel
theorem dX8_removeAt_2 : decode cX8_removeAt 2 = .ok (.getfield 24, 3) := by decide +kernel
theorem dX8_removeAt_5 : decode cX8_removeAt 5 = .ok (.iconst 1, 1) := by decide +kernel
theorem dX8_removeAt_6 : decode cX8_removeAt 6 = .ok (.isub, 1) := by decide +kernel
theorem dX8_removeAt_7 : decode cX8_removeAt 7 = .ok (.putfield 24, 3) := by decide +kernel
theorem dX8_removeAt_10 : decode cX8_removeAt 10 = .ok (.aload_n 0, 1) := by decide +kernel
theorem dX8_removeAt_11 : decode cX8_removeAt 11 = .ok (.getfield 24, 3) := by decide +kernel
theorem dX8_removeAt_14 : decode cX8_removeAt 14 = .ok (.iload_n 1, 1) := by decide +kernel
theorem dX8_removeAt_15 : decode cX8_removeAt 15 = .ok (.isub, 1) := by decide +kernel
theorem dX8_removeAt_16 : decode cX8_removeAt 16 = .ok (.istore_n 2, 1) := by decide +kernel
theorem dX8_removeAt_17 : decode cX8_removeAt 17 = .ok (.aload_n 0, 1) := by decide +kernel
theorem dX8_removeAt_18 : decode cX8_removeAt 18 = .ok (.getfield 9, 3) := by decide +kernel
theorem dX8_removeAt_21 : decode cX8_removeAt 21 = .ok (.iload_n 1, 1) := by decide +kernel
theorem dX8_removeAt_22 : decode cX8_removeAt 22 = .ok (.iconst 1, 1) := by decide +kernel
theorem dX8_removeAt_23 : decode cX8_removeAt 23 = .ok (.iadd, 1) := by decide +kernel
theorem dX8_removeAt_24 : decode cX8_removeAt 24 = .ok (.aload_n 0, 1) := by decide +kernel
theorem dX8_removeAt_25 : decode cX8_removeAt 25 = .ok (.getfield 9, 3) := by decide +kernel
theorem dX8_removeAt_28 : decode cX8_removeAt 28 = .ok (.iload_n 1, 1) := by decide +kernel
theorem dX8_removeAt_29 : decode cX8_removeAt 29 = .ok (.iload_n 2, 1) := by decide +kernel
theorem dX8_removeAt_30 : decode cX8_removeAt 30 = .ok (.invokestatic 33, 3) := by decide +kernel
theorem dX8_removeAt_33 : decode cX8_removeAt 33 = .ok (.aload_n 0, 1) := by decide +kernel
theorem dX8_removeAt_34 : decode cX8_removeAt 34 = .ok (.getfield 15, 3) := by decide +kernel
theorem dX8_removeAt_37 : decode cX8_removeAt 37 = .ok (.iload_n 1, 1) := by decide +kernel
theorem dX8_removeAt_38 : decode cX8_removeAt 38 = .ok (.iconst 1, 1) := by decide +kernel
theorem dX8_removeAt_39 : decode cX8_removeAt 39 = .ok (.iadd, 1) := by decide +kernel
theorem dX8_removeAt_40 : decode cX8_removeAt 40 = .ok (.aload_n 0, 1) := by decide +kernel
theorem dX8_removeAt_41 : decode cX8_removeAt 41 = .ok (.getfield 15, 3) := by decide +kernel
theorem dX8_removeAt_44 : decode cX8_removeAt 44 = .ok (.iload_n 1, 1) := by decide +kernel
theorem dX8_removeAt_45 : decode cX8_removeAt 45 = .ok (.iload_n 2, 1) := by decide +kernel
theorem dX8_removeAt_46 : decode cX8_removeAt 46 = .ok (.invokestatic 33, 3) := by decide +kernel
theorem dX8_removeAt_49 : decode cX8_removeAt 49 = .ok (.aload_n 0, 1) := by decide +kernel
theorem dX8_removeAt_50 : decode cX8_removeAt 50 = .ok (.getfield 18, 3) := by decide +kernel
theorem dX8_removeAt_53 : decode cX8_removeAt 53 = .ok (.iload_n 1, 1) := by decide +kernel
theorem dX8_removeAt_54 : decode cX8_removeAt 54 = .ok (.iconst 1, 1) := by decide +kernel
theorem dX8_removeAt_55 : decode cX8_removeAt 55 = .ok (.iadd, 1) := by decide +kernel
theorem dX8_removeAt_56 : decode cX8_removeAt 56 = .ok (.aload_n 0, 1) := by decide +kernel
theorem dX8_removeAt_57 : decode cX8_removeAt 57 = .ok (.getfield 18, 3) := by decide +kernel
theorem dX8_removeAt_60 : decode cX8_removeAt 60 = .ok (.iload_n 1, 1) := by decide +kernel
theorem dX8_removeAt_61 : decode cX8_removeAt 61 = .ok (.iload_n 2, 1) := by decide +kernel
theorem dX8_removeAt_62 : decode cX8_removeAt 62 = .ok (.invokestatic 33, 3) := by decide +kernel
theorem dX8_removeAt_65 : decode cX8_removeAt 65 = .ok (.aload_n 0, 1) := by decide +kernel
theorem dX8_removeAt_66 : decode cX8_removeAt 66 = .ok (.getfield 21, 3) := by decide +kernel
theorem dX8_removeAt_69 : decode cX8_removeAt 69 = .ok (.iload_n 1, 1) := by decide +kernel
theorem dX8_removeAt_70 : decode cX8_removeAt 70 = .ok (.iconst 1, 1) := by decide +kernel
theorem dX8_removeAt_71 : decode cX8_removeAt 71 = .ok (.iadd, 1) := by decide +kernel
theorem dX8_removeAt_72 : decode cX8_removeAt 72 = .ok (.aload_n 0, 1) := by decide +kernel
theorem dX8_removeAt_73 : decode cX8_removeAt 73 = .ok (.getfield 21, 3) := by decide +kernel
theorem dX8_removeAt_76 : decode cX8_removeAt 76 = .ok (.iload_n 1, 1) := by decide +kernel
theorem dX8_removeAt_77 : decode cX8_removeAt 77 = .ok (.iload_n 2, 1) := by decide +kernel
theorem dX8_removeAt_78 : decode cX8_removeAt 78 = .ok (.invokestatic 33, 3) := by decide +kernel
theorem dX8_removeAt_81 : decode cX8_removeAt 81 = .ok (.return_, 1) := by decide +kernel
theorem dX8_manyOf_0 : decode cX8_manyOf 0 = .ok (.iconst 0, 1) := by decide +kernel
theorem dX8_manyOf_1 : decode cX8_manyOf 1 = .ok (.istore_n 2, 1) := by decide +kernel
theorem dX8_manyOf_2 : decode cX8_manyOf 2 = .ok (.iconst 0, 1) := by decide +kernel
theorem dX8_manyOf_3 : decode cX8_manyOf 3 = .ok (.istore_n 3, 1) := by decide +kernel
theorem dX8_manyOf_4 : decode cX8_manyOf 4 = .ok (.iload_n 3, 1) := by decide +kernel
theorem dX8_manyOf_5 : decode cX8_manyOf 5 = .ok (.aload_n 0, 1) := by decide +kernel
theorem dX8_manyOf_6 : decode cX8_manyOf 6 = .ok (.getfield 24, 3) := by decide +kernel
theorem dX8_manyOf_9 : decode cX8_manyOf 9 = .ok (.if_icmp .ge 22, 3) := by decide +kernel
theorem dX8_manyOf_12 : decode cX8_manyOf 12 = .ok (.aload_n 0, 1) := by decide +kernel
theorem dX8_manyOf_13 : decode cX8_manyOf 13 = .ok (.getfield 15, 3) := by decide +kernel
theorem dX8_manyOf_16 : decode cX8_manyOf 16 = .ok (.iload_n 3, 1) := by decide +kernel
theorem dX8_manyOf_17 : decode cX8_manyOf 17 = .ok (.iaload, 1) := by decide +kernel
theorem dX8_manyOf_18 : decode cX8_manyOf 18 = .ok (.iload_n 1, 1) := by decide +kernel
theorem dX8_manyOf_19 : decode cX8_manyOf 19 = .ok (.if_icmp .ne 6, 3) := by decide +kernel
theorem dX8_manyOf_22 : decode cX8_manyOf 22 = .ok (.iinc 2 1, 3) := by decide +kernel
theorem dX8_manyOf_25 : decode cX8_manyOf 25 = .ok (.iinc 3 1, 3) := by decide +kernel
theorem dX8_manyOf_28 : decode cX8_manyOf 28 = .ok (.goto (-24), 3) := by decide +kernel
theorem dX8_manyOf_31 : decode cX8_manyOf 31 = .ok (.iload_n 2, 1) := by decide +kernel
theorem dX8_manyOf_32 : decode cX8_manyOf 32 = .ok (.ireturn, 1) := by decide +kernel
theorem dX8_hasOne_0 : decode cX8_hasOne 0 = .ok (.iconst 0, 1) := by decide +kernel
theorem dX8_hasOne_1 : decode cX8_hasOne 1 = .ok (.istore_n 3, 1) := by decide +kernel
theorem dX8_hasOne_2 : decode cX8_hasOne 2 = .ok (.iload_n 3, 1) := by decide +kernel
theorem dX8_hasOne_3 : decode cX8_hasOne 3 = .ok (.aload_n 0, 1) := by decide +kernel
theorem dX8_hasOne_4 : decode cX8_hasOne 4 = .ok (.getfield 24, 3) := by decide +kernel
theorem dX8_hasOne_7 : decode cX8_hasOne 7 = .ok (.if_icmp .ge 31, 3) := by decide +kernel
theorem dX8_hasOne_10 : decode cX8_hasOne 10 = .ok (.aload_n 0, 1) := by decide +kernel
theorem dX8_hasOne_11 : decode cX8_hasOne 11 = .ok (.getfield 15, 3) := by decide +kernel
theorem dX8_hasOne_14 : decode cX8_hasOne 14 = .ok (.iload_n 3, 1) := by decide +kernel
theorem dX8_hasOne_15 : decode cX8_hasOne 15 = .ok (.iaload, 1) := by decide +kernel
theorem dX8_hasOne_16 : decode cX8_hasOne 16 = .ok (.iload_n 1, 1) := by decide +kernel
theorem dX8_hasOne_17 : decode cX8_hasOne 17 = .ok (.if_icmp .ne 15, 3) := by decide +kernel
theorem dX8_hasOne_20 : decode cX8_hasOne 20 = .ok (.aload_n 0, 1) := by decide +kernel
theorem dX8_hasOne_21 : decode cX8_hasOne 21 = .ok (.getfield 18, 3) := by decide +kernel
theorem dX8_hasOne_24 : decode cX8_hasOne 24 = .ok (.iload_n 3, 1) := by decide +kernel
theorem dX8_hasOne_25 : decode cX8_hasOne 25 = .ok (.iaload, 1) := by decide +kernel
theorem dX8_hasOne_26 : decode cX8_hasOne 26 = .ok (.iload_n 2, 1) := by decide +kernel
theorem dX8_hasOne_27 : decode cX8_hasOne 27 = .ok (.if_icmp .ne 5, 3) := by decide +kernel
theorem dX8_hasOne_30 : decode cX8_hasOne 30 = .ok (.iconst 1, 1) := by decide +kernel
theorem dX8_hasOne_31 : decode cX8_hasOne 31 = .ok (.ireturn, 1) := by decide +kernel
theorem dX8_hasOne_32 : decode cX8_hasOne 32 = .ok (.iinc 3 1, 3) := by decide +kernel
theorem dX8_hasOne_35 : decode cX8_hasOne 35 = .ok (.goto (-33), 3) := by decide +kernel
theorem dX8_hasOne_38 : decode cX8_hasOne 38 = .ok (.iconst 0, 1) := by decide +kernel
theorem dX8_hasOne_39 : decode cX8_hasOne 39 = .ok (.ireturn, 1) := by decide +kernel
theorem dX8_heightUpTo_0 : decode cX8_heightUpTo 0 = .ok (.iconst 0, 1) := by decide +kernel
theorem dX8_heightUpTo_1 : decode cX8_heightUpTo 1 = .ok (.istore_n 3, 1) := by decide +kernel
theorem dX8_heightUpTo_2 : decode cX8_heightUpTo 2 = .ok (.iconst 0, 1) := by decide +kernel
theorem dX8_heightUpTo_3 : decode cX8_heightUpTo 3 = .ok (.istore 4, 2) := by decide +kernel
theorem dX8_heightUpTo_5 : decode cX8_heightUpTo 5 = .ok (.iload 4, 2) := by decide +kernel
theorem dX8_heightUpTo_7 : decode cX8_heightUpTo 7 = .ok (.aload_n 0, 1) := by decide +kernel
theorem dX8_heightUpTo_8 : decode cX8_heightUpTo 8 = .ok (.getfield 24, 3) := by decide +kernel
theorem dX8_heightUpTo_11 : decode cX8_heightUpTo 11 = .ok (.if_icmp .ge 41, 3) := by decide +kernel
theorem dX8_heightUpTo_14 : decode cX8_heightUpTo 14 = .ok (.aload_n 0, 1) := by decide +kernel
theorem dX8_heightUpTo_15 : decode cX8_heightUpTo 15 = .ok (.getfield 15, 3) := by decide +kernel
theorem dX8_heightUpTo_18 : decode cX8_heightUpTo 18 = .ok (.iload 4, 2) := by decide +kernel
theorem dX8_heightUpTo_20 : decode cX8_heightUpTo 20 = .ok (.iaload, 1) := by decide +kernel
theorem dX8_heightUpTo_21 : decode cX8_heightUpTo 21 = .ok (.iload_n 1, 1) := by decide +kernel
theorem dX8_heightUpTo_22 : decode cX8_heightUpTo 22 = .ok (.if_icmp .ne 24, 3) := by decide +kernel
theorem dX8_heightUpTo_25 : decode cX8_heightUpTo 25 = .ok (.aload_n 0, 1) := by decide +kernel
theorem dX8_heightUpTo_26 : decode cX8_heightUpTo 26 = .ok (.getfield 18, 3) := by decide +kernel
theorem dX8_heightUpTo_29 : decode cX8_heightUpTo 29 = .ok (.iload 4, 2) := by decide +kernel
theorem dX8_heightUpTo_31 : decode cX8_heightUpTo 31 = .ok (.iaload, 1) := by decide +kernel
theorem dX8_heightUpTo_32 : decode cX8_heightUpTo 32 = .ok (.iload_n 2, 1) := by decide +kernel
theorem dX8_heightUpTo_33 : decode cX8_heightUpTo 33 = .ok (.if_icmp .gt 13, 3) := by decide +kernel
theorem dX8_heightUpTo_36 : decode cX8_heightUpTo 36 = .ok (.iload_n 3, 1) := by decide +kernel
theorem dX8_heightUpTo_37 : decode cX8_heightUpTo 37 = .ok (.aload_n 0, 1) := by decide +kernel
theorem dX8_heightUpTo_38 : decode cX8_heightUpTo 38 = .ok (.getfield 21, 3) := by decide +kernel
theorem dX8_heightUpTo_41 : decode cX8_heightUpTo 41 = .ok (.iload 4, 2) := by decide +kernel
theorem dX8_heightUpTo_43 : decode cX8_heightUpTo 43 = .ok (.iaload, 1) := by decide +kernel
theorem dX8_heightUpTo_44 : decode cX8_heightUpTo 44 = .ok (.iadd, 1) := by decide +kernel
theorem dX8_heightUpTo_45 : decode cX8_heightUpTo 45 = .ok (.istore_n 3, 1) := by decide +kernel
theorem dX8_heightUpTo_46 : decode cX8_heightUpTo 46 = .ok (.iinc 4 1, 3) := by decide +kernel
theorem dX8_heightUpTo_49 : decode cX8_heightUpTo 49 = .ok (.goto (-44), 3) := by decide +kernel
theorem dX8_heightUpTo_52 : decode cX8_heightUpTo 52 = .ok (.iload_n 3, 1) := by decide +kernel
theorem dX8_heightUpTo_53 : decode cX8_heightUpTo 53 = .ok (.ireturn, 1) := by decide +kernel
theorem dX8_takeOver_0 : decode cX8_takeOver 0 = .ok (.aload_n 1, 1) := by decide +kernel
theorem dX8_takeOver_1 : decode cX8_takeOver 1 = .ok (.getfield 9, 3) := by decide +kernel
theorem dX8_takeOver_4 : decode cX8_takeOver 4 = .ok (.iconst 0, 1) := by decide +kernel
theorem dX8_takeOver_5 : decode cX8_takeOver 5 = .ok (.aload_n 0, 1) := by decide +kernel
theorem dX8_takeOver_6 : decode cX8_takeOver 6 = .ok (.getfield 9, 3) := by decide +kernel
theorem dX8_takeOver_9 : decode cX8_takeOver 9 = .ok (.iconst 0, 1) := by decide +kernel
theorem dX8_takeOver_10 : decode cX8_takeOver 10 = .ok (.bipush 40, 2) := by decide +kernel
theorem dX8_takeOver_12 : decode cX8_takeOver 12 = .ok (.invokestatic 33, 3) := by decide +kernel
theorem dX8_takeOver_15 : decode cX8_takeOver 15 = .ok (.aload_n 1, 1) := by decide +kernel
theorem dX8_takeOver_16 : decode cX8_takeOver 16 = .ok (.getfield 15, 3) := by decide +kernel
theorem dX8_takeOver_19 : decode cX8_takeOver 19 = .ok (.iconst 0, 1) := by decide +kernel
theorem dX8_takeOver_20 : decode cX8_takeOver 20 = .ok (.aload_n 0, 1) := by decide +kernel
theorem dX8_takeOver_21 : decode cX8_takeOver 21 = .ok (.getfield 15, 3) := by decide +kernel
theorem dX8_takeOver_24 : decode cX8_takeOver 24 = .ok (.iconst 0, 1) := by decide +kernel
theorem dX8_takeOver_25 : decode cX8_takeOver 25 = .ok (.bipush 40, 2) := by decide +kernel
theorem dX8_takeOver_27 : decode cX8_takeOver 27 = .ok (.invokestatic 33, 3) := by decide +kernel
theorem dX8_takeOver_30 : decode cX8_takeOver 30 = .ok (.aload_n 1, 1) := by decide +kernel
theorem dX8_takeOver_31 : decode cX8_takeOver 31 = .ok (.getfield 18, 3) := by decide +kernel
theorem dX8_takeOver_34 : decode cX8_takeOver 34 = .ok (.iconst 0, 1) := by decide +kernel
theorem dX8_takeOver_35 : decode cX8_takeOver 35 = .ok (.aload_n 0, 1) := by decide +kernel
theorem dX8_takeOver_36 : decode cX8_takeOver 36 = .ok (.getfield 18, 3) := by decide +kernel
theorem dX8_takeOver_39 : decode cX8_takeOver 39 = .ok (.iconst 0, 1) := by decide +kernel
theorem dX8_takeOver_40 : decode cX8_takeOver 40 = .ok (.bipush 40, 2) := by decide +kernel
theorem dX8_takeOver_42 : decode cX8_takeOver 42 = .ok (.invokestatic 33, 3) := by decide +kernel
theorem dX8_takeOver_45 : decode cX8_takeOver 45 = .ok (.aload_n 1, 1) := by decide +kernel
theorem dX8_takeOver_46 : decode cX8_takeOver 46 = .ok (.getfield 21, 3) := by decide +kernel
theorem dX8_takeOver_49 : decode cX8_takeOver 49 = .ok (.iconst 0, 1) := by decide +kernel
theorem dX8_takeOver_50 : decode cX8_takeOver 50 = .ok (.aload_n 0, 1) := by decide +kernel
theorem dX8_takeOver_51 : decode cX8_takeOver 51 = .ok (.getfield 21, 3) := by decide +kernel
theorem dX8_takeOver_54 : decode cX8_takeOver 54 = .ok (.iconst 0, 1) := by decide +kernel
theorem dX8_takeOver_55 : decode cX8_takeOver 55 = .ok (.bipush 40, 2) := by decide +kernel
theorem dX8_takeOver_57 : decode cX8_takeOver 57 = .ok (.invokestatic 33, 3) := by decide +kernel
theorem dX8_takeOver_60 : decode cX8_takeOver 60 = .ok (.aload_n 0, 1) := by decide +kernel
theorem dX8_takeOver_61 : decode cX8_takeOver 61 = .ok (.aload_n 1, 1) := by decide +kernel
theorem dX8_takeOver_62 : decode cX8_takeOver 62 = .ok (.getfield 24, 3) := by decide +kernel
theorem dX8_takeOver_65 : decode cX8_takeOver 65 = .ok (.putfield 24, 3) := by decide +kernel
theorem dX8_takeOver_68 : decode cX8_takeOver 68 = .ok (.return_, 1) := by decide +kernel
theorem dX9_init_0 : decode cX9_init 0 = .ok (.aload_n 0, 1) := by decide +kernel
theorem dX9_init_1 : decode cX9_init 1 = .ok (.invokespecial 3, 3) := by decide +kernel
theorem dX9_init_4 : decode cX9_init 4 = .ok (.aload_n 0, 1) := by decide +kernel
theorem dX9_init_5 : decode cX9_init 5 = .ok (.bipush 96, 2) := by decide +kernel
theorem dX9_init_7 : decode cX9_init 7 = .ok (.newarray .int, 2) := by decide +kernel
theorem dX9_init_9 : decode cX9_init 9 = .ok (.putfield 9, 3) := by decide +kernel
theorem dX9_init_12 : decode cX9_init 12 = .ok (.return_, 1) := by decide +kernel
theorem dX9_addBytesOf_0 : decode cX9_addBytesOf 0 = .ok (.bipush 24, 2) := by decide +kernel
theorem dX9_addBytesOf_2 : decode cX9_addBytesOf 2 = .ok (.istore_n 2, 1) := by decide +kernel
theorem dX9_addBytesOf_3 : decode cX9_addBytesOf 3 = .ok (.iload_n 2, 1) := by decide +kernel
theorem dX9_addBytesOf_4 : decode cX9_addBytesOf 4 = .ok (.ifCond .lt 44, 3) := by decide +kernel
theorem dX9_addBytesOf_7 : decode cX9_addBytesOf 7 = .ok (.aload_n 0, 1) := by decide +kernel
theorem dX9_addBytesOf_8 : decode cX9_addBytesOf 8 = .ok (.getfield 15, 3) := by decide +kernel
theorem dX9_addBytesOf_11 : decode cX9_addBytesOf 11 = .ok (.bipush 96, 2) := by decide +kernel
theorem dX9_addBytesOf_13 : decode cX9_addBytesOf 13 = .ok (.if_icmp .ge 29, 3) := by decide +kernel
theorem dX9_addBytesOf_16 : decode cX9_addBytesOf 16 = .ok (.aload_n 0, 1) := by decide +kernel
theorem dX9_addBytesOf_17 : decode cX9_addBytesOf 17 = .ok (.getfield 9, 3) := by decide +kernel
theorem dX9_addBytesOf_20 : decode cX9_addBytesOf 20 = .ok (.aload_n 0, 1) := by decide +kernel
theorem dX9_addBytesOf_21 : decode cX9_addBytesOf 21 = .ok (.getfield 15, 3) := by decide +kernel
theorem dX9_addBytesOf_24 : decode cX9_addBytesOf 24 = .ok (.iload_n 1, 1) := by decide +kernel
theorem dX9_addBytesOf_25 : decode cX9_addBytesOf 25 = .ok (.iload_n 2, 1) := by decide +kernel
theorem dX9_addBytesOf_26 : decode cX9_addBytesOf 26 = .ok (.iushr, 1) := by decide +kernel
theorem dX9_addBytesOf_27 : decode cX9_addBytesOf 27 = .ok (.sipush 255, 3) := by decide +kernel
theorem dX9_addBytesOf_30 : decode cX9_addBytesOf 30 = .ok (.iand, 1) := by decide +kernel
theorem dX9_addBytesOf_31 : decode cX9_addBytesOf 31 = .ok (.iastore, 1) := by decide +kernel
theorem dX9_addBytesOf_32 : decode cX9_addBytesOf 32 = .ok (.aload_n 0, 1) := by decide +kernel
theorem dX9_addBytesOf_33 : decode cX9_addBytesOf 33 = .ok (.dup, 1) := by decide +kernel
theorem dX9_addBytesOf_34 : decode cX9_addBytesOf 34 = .ok (.getfield 15, 3) := by decide +kernel
theorem dX9_addBytesOf_37 : decode cX9_addBytesOf 37 = .ok (.iconst 1, 1) := by decide +kernel
theorem dX9_addBytesOf_38 : decode cX9_addBytesOf 38 = .ok (.iadd, 1) := by decide +kernel
theorem dX9_addBytesOf_39 : decode cX9_addBytesOf 39 = .ok (.putfield 15, 3) := by decide +kernel
theorem dX9_addBytesOf_42 : decode cX9_addBytesOf 42 = .ok (.iinc 2 (-8), 3) := by decide +kernel
theorem dX9_addBytesOf_45 : decode cX9_addBytesOf 45 = .ok (.goto (-42), 3) := by decide +kernel
theorem dX9_addBytesOf_48 : decode cX9_addBytesOf 48 = .ok (.return_, 1) := by decide +kernel
theorem dX9_openFirst_0 : decode cX9_openFirst 0 = .ok (.aload_n 0, 1) := by decide +kernel
theorem dX9_openFirst_1 : decode cX9_openFirst 1 = .ok (.iconst (-1), 1) := by decide +kernel
theorem dX9_openFirst_2 : decode cX9_openFirst 2 = .ok (.putfield 19, 3) := by decide +kernel
theorem dX9_openFirst_5 : decode cX9_openFirst 5 = .ok (.aload_n 0, 1) := by decide +kernel
theorem dX9_openFirst_6 : decode cX9_openFirst 6 = .ok (.iconst 0, 1) := by decide +kernel
theorem dX9_openFirst_7 : decode cX9_openFirst 7 = .ok (.putfield 22, 3) := by decide +kernel
theorem dX9_openFirst_10 : decode cX9_openFirst 10 = .ok (.aload_n 0, 1) := by decide +kernel
theorem dX9_openFirst_11 : decode cX9_openFirst 11 = .ok (.invokevirtual 25, 3) := by decide +kernel
theorem dX9_openFirst_14 : decode cX9_openFirst 14 = .ok (.return_, 1) := by decide +kernel
theorem dX9_openNext_0 : decode cX9_openNext 0 = .ok (.aload_n 0, 1) := by decide +kernel
theorem dX9_openNext_1 : decode cX9_openNext 1 = .ok (.getfield 19, 3) := by decide +kernel
theorem dX9_openNext_4 : decode cX9_openNext 4 = .ok (.bipush (-2), 2) := by decide +kernel
theorem dX9_openNext_6 : decode cX9_openNext 6 = .ok (.if_icmp .eq 12, 3) := by decide +kernel
theorem dX9_openNext_9 : decode cX9_openNext 9 = .ok (.aload_n 0, 1) := by decide +kernel
theorem dX9_openNext_10 : decode cX9_openNext 10 = .ok (.getfield 19, 3) := by decide +kernel
theorem dX9_openNext_13 : decode cX9_openNext 13 = .ok (.bipush (-3), 2) := by decide +kernel
theorem dX9_openNext_15 : decode cX9_openNext 15 = .ok (.if_icmp .ne 7, 3) := by decide +kernel
theorem dX9_openNext_18 : decode cX9_openNext 18 = .ok (.iconst 1, 1) := by decide +kernel
theorem dX9_openNext_19 : decode cX9_openNext 19 = .ok (.goto 4, 3) := by decide +kernel
theorem dX9_openNext_22 : decode cX9_openNext 22 = .ok (.iconst 0, 1) := by decide +kernel
theorem dX9_openNext_23 : decode cX9_openNext 23 = .ok (.istore_n 1, 1) := by decide +kernel
theorem dX9_openNext_24 : decode cX9_openNext 24 = .ok (.aload_n 0, 1) := by decide +kernel
theorem dX9_openNext_25 : decode cX9_openNext 25 = .ok (.aload_n 0, 1) := by decide +kernel
theorem dX9_openNext_26 : decode cX9_openNext 26 = .ok (.getfield 22, 3) := by decide +kernel
theorem dX9_openNext_29 : decode cX9_openNext 29 = .ok (.putfield 28, 3) := by decide +kernel
theorem dX9_openNext_32 : decode cX9_openNext 32 = .ok (.aload_n 0, 1) := by decide +kernel
theorem dX9_openNext_33 : decode cX9_openNext 33 = .ok (.getfield 28, 3) := by decide +kernel
theorem dX9_openNext_36 : decode cX9_openNext 36 = .ok (.aload_n 0, 1) := by decide +kernel
theorem dX9_openNext_37 : decode cX9_openNext 37 = .ok (.getfield 15, 3) := by decide +kernel
theorem dX9_openNext_40 : decode cX9_openNext 40 = .ok (.if_icmp .ge 30, 3) := by decide +kernel
theorem dX9_openNext_43 : decode cX9_openNext 43 = .ok (.aload_n 0, 1) := by decide +kernel
theorem dX9_openNext_44 : decode cX9_openNext 44 = .ok (.getfield 9, 3) := by decide +kernel
theorem dX9_openNext_47 : decode cX9_openNext 47 = .ok (.aload_n 0, 1) := by decide +kernel
theorem dX9_openNext_48 : decode cX9_openNext 48 = .ok (.getfield 28, 3) := by decide +kernel
theorem dX9_openNext_51 : decode cX9_openNext 51 = .ok (.iaload, 1) := by decide +kernel
theorem dX9_openNext_52 : decode cX9_openNext 52 = .ok (.bipush 32, 2) := by decide +kernel
theorem dX9_openNext_54 : decode cX9_openNext 54 = .ok (.if_icmp .ne 16, 3) := by decide +kernel
theorem dX9_openNext_57 : decode cX9_openNext 57 = .ok (.aload_n 0, 1) := by decide +kernel
theorem dX9_openNext_58 : decode cX9_openNext 58 = .ok (.dup, 1) := by decide +kernel
theorem dX9_openNext_59 : decode cX9_openNext 59 = .ok (.getfield 28, 3) := by decide +kernel
theorem dX9_openNext_62 : decode cX9_openNext 62 = .ok (.iconst 1, 1) := by decide +kernel
theorem dX9_openNext_63 : decode cX9_openNext 63 = .ok (.iadd, 1) := by decide +kernel
theorem dX9_openNext_64 : decode cX9_openNext 64 = .ok (.putfield 28, 3) := by decide +kernel
theorem dX9_openNext_67 : decode cX9_openNext 67 = .ok (.goto (-35), 3) := by decide +kernel
theorem dX9_openNext_70 : decode cX9_openNext 70 = .ok (.aload_n 0, 1) := by decide +kernel
theorem dX9_openNext_71 : decode cX9_openNext 71 = .ok (.getfield 28, 3) := by decide +kernel
theorem dX9_openNext_74 : decode cX9_openNext 74 = .ok (.aload_n 0, 1) := by decide +kernel
theorem dX9_openNext_75 : decode cX9_openNext 75 = .ok (.getfield 22, 3) := by decide +kernel
theorem dX9_openNext_78 : decode cX9_openNext 78 = .ok (.if_icmp .ne 7, 3) := by decide +kernel
theorem dX9_openNext_81 : decode cX9_openNext 81 = .ok (.iconst 1, 1) := by decide +kernel
theorem dX9_openNext_82 : decode cX9_openNext 82 = .ok (.goto 4, 3) := by decide +kernel
theorem dX9_openNext_85 : decode cX9_openNext 85 = .ok (.iconst 0, 1) := by decide +kernel
theorem dX9_openNext_86 : decode cX9_openNext 86 = .ok (.istore_n 2, 1) := by decide +kernel
theorem dX9_openNext_87 : decode cX9_openNext 87 = .ok (.aload_n 0, 1) := by decide +kernel
theorem dX9_openNext_88 : decode cX9_openNext 88 = .ok (.aload_n 0, 1) := by decide +kernel
theorem dX9_openNext_89 : decode cX9_openNext 89 = .ok (.getfield 28, 3) := by decide +kernel
theorem dX9_openNext_92 : decode cX9_openNext 92 = .ok (.putfield 22, 3) := by decide +kernel
theorem dX9_openNext_95 : decode cX9_openNext 95 = .ok (.aload_n 0, 1) := by decide +kernel
theorem dX9_openNext_96 : decode cX9_openNext 96 = .ok (.getfield 28, 3) := by decide +kernel
theorem dX9_openNext_99 : decode cX9_openNext 99 = .ok (.aload_n 0, 1) := by decide +kernel
theorem dX9_openNext_100 : decode cX9_openNext 100 = .ok (.getfield 15, 3) := by decide +kernel
theorem dX9_openNext_103 : decode cX9_openNext 103 = .ok (.if_icmp .lt 11, 3) := by decide +kernel
theorem dX9_openNext_106 : decode cX9_openNext 106 = .ok (.aload_n 0, 1) := by decide +kernel
theorem dX9_openNext_107 : decode cX9_openNext 107 = .ok (.iconst (-1), 1) := by decide +kernel
theorem dX9_openNext_108 : decode cX9_openNext 108 = .ok (.putfield 19, 3) := by decide +kernel
theorem dX9_openNext_111 : decode cX9_openNext 111 = .ok (.goto 62, 3) := by decide +kernel
theorem dX9_openNext_114 : decode cX9_openNext 114 = .ok (.aload_n 0, 1) := by decide +kernel
theorem dX9_openNext_115 : decode cX9_openNext 115 = .ok (.aload_n 0, 1) := by decide +kernel
theorem dX9_openNext_116 : decode cX9_openNext 116 = .ok (.getfield 28, 3) := by decide +kernel
theorem dX9_openNext_119 : decode cX9_openNext 119 = .ok (.invokevirtual 31, 3) := by decide +kernel
theorem dX9_openNext_122 : decode cX9_openNext 122 = .ok (.ifCond .eq 10, 3) := by decide +kernel
theorem dX9_openNext_125 : decode cX9_openNext 125 = .ok (.aload_n 0, 1) := by decide +kernel
theorem dX9_openNext_126 : decode cX9_openNext 126 = .ok (.invokevirtual 35, 3) := by decide +kernel
theorem dX9_openNext_129 : decode cX9_openNext 129 = .ok (.goto 44, 3) := by decide +kernel
theorem dX9_openNext_132 : decode cX9_openNext 132 = .ok (.aload_n 0, 1) := by decide +kernel
theorem dX9_openNext_133 : decode cX9_openNext 133 = .ok (.aload_n 0, 1) := by decide +kernel
theorem dX9_openNext_134 : decode cX9_openNext 134 = .ok (.getfield 28, 3) := by decide +kernel
theorem dX9_openNext_137 : decode cX9_openNext 137 = .ok (.invokevirtual 38, 3) := by decide +kernel
theorem dX9_openNext_140 : decode cX9_openNext 140 = .ok (.ifCond .eq 10, 3) := by decide +kernel
theorem dX9_openNext_143 : decode cX9_openNext 143 = .ok (.aload_n 0, 1) := by decide +kernel
theorem dX9_openNext_144 : decode cX9_openNext 144 = .ok (.invokevirtual 41, 3) := by decide +kernel
theorem dX9_openNext_147 : decode cX9_openNext 147 = .ok (.goto 26, 3) := by decide +kernel
theorem dX9_openNext_150 : decode cX9_openNext 150 = .ok (.aload_n 0, 1) := by decide +kernel
theorem dX9_openNext_151 : decode cX9_openNext 151 = .ok (.aload_n 0, 1) := by decide +kernel
theorem dX9_openNext_152 : decode cX9_openNext 152 = .ok (.getfield 9, 3) := by decide +kernel
theorem dX9_openNext_155 : decode cX9_openNext 155 = .ok (.aload_n 0, 1) := by decide +kernel
theorem dX9_openNext_156 : decode cX9_openNext 156 = .ok (.getfield 28, 3) := by decide +kernel
theorem dX9_openNext_159 : decode cX9_openNext 159 = .ok (.iaload, 1) := by decide +kernel
theorem dX9_openNext_160 : decode cX9_openNext 160 = .ok (.putfield 19, 3) := by decide +kernel
theorem dX9_openNext_163 : decode cX9_openNext 163 = .ok (.aload_n 0, 1) := by decide +kernel
theorem dX9_openNext_164 : decode cX9_openNext 164 = .ok (.aload_n 0, 1) := by decide +kernel
theorem dX9_openNext_165 : decode cX9_openNext 165 = .ok (.getfield 28, 3) := by decide +kernel
theorem dX9_openNext_168 : decode cX9_openNext 168 = .ok (.iconst 1, 1) := by decide +kernel
theorem dX9_openNext_169 : decode cX9_openNext 169 = .ok (.iadd, 1) := by decide +kernel
theorem dX9_openNext_170 : decode cX9_openNext 170 = .ok (.putfield 22, 3) := by decide +kernel
theorem dX9_openNext_173 : decode cX9_openNext 173 = .ok (.iload_n 1, 1) := by decide +kernel
theorem dX9_openNext_174 : decode cX9_openNext 174 = .ok (.ifCond .eq 31, 3) := by decide +kernel
theorem dX9_openNext_177 : decode cX9_openNext 177 = .ok (.iload_n 2, 1) := by decide +kernel
theorem dX9_openNext_178 : decode cX9_openNext 178 = .ok (.ifCond .eq 27, 3) := by decide +kernel
theorem dX9_openNext_181 : decode cX9_openNext 181 = .ok (.aload_n 0, 1) := by decide +kernel
theorem dX9_openNext_182 : decode cX9_openNext 182 = .ok (.getfield 19, 3) := by decide +kernel
theorem dX9_openNext_185 : decode cX9_openNext 185 = .ok (.bipush (-2), 2) := by decide +kernel
theorem dX9_openNext_187 : decode cX9_openNext 187 = .ok (.if_icmp .eq 12, 3) := by decide +kernel
theorem dX9_openNext_190 : decode cX9_openNext 190 = .ok (.aload_n 0, 1) := by decide +kernel
theorem dX9_openNext_191 : decode cX9_openNext 191 = .ok (.getfield 19, 3) := by decide +kernel
theorem dX9_openNext_194 : decode cX9_openNext 194 = .ok (.bipush (-3), 2) := by decide +kernel
theorem dX9_openNext_196 : decode cX9_openNext 196 = .ok (.if_icmp .ne 9, 3) := by decide +kernel
theorem dX9_openNext_199 : decode cX9_openNext 199 = .ok (.aload_n 0, 1) := by decide +kernel
theorem dX9_openNext_200 : decode cX9_openNext 200 = .ok (.bipush (-4), 2) := by decide +kernel
theorem dX9_openNext_202 : decode cX9_openNext 202 = .ok (.putfield 19, 3) := by decide +kernel
theorem dX9_openNext_205 : decode cX9_openNext 205 = .ok (.return_, 1) := by decide +kernel
theorem dX9_openWord_0 : decode cX9_openWord 0 = .ok (.aload_n 0, 1) := by decide +kernel
theorem dX9_openWord_1 : decode cX9_openWord 1 = .ok (.getfield 22, 3) := by decide +kernel
theorem dX9_openWord_4 : decode cX9_openWord 4 = .ok (.aload_n 0, 1) := by decide +kernel
theorem dX9_openWord_5 : decode cX9_openWord 5 = .ok (.getfield 15, 3) := by decide +kernel
theorem dX9_openWord_8 : decode cX9_openWord 8 = .ok (.if_icmp .ge 27, 3) := by decide +kernel
theorem dX9_openWord_11 : decode cX9_openWord 11 = .ok (.aload_n 0, 1) := by decide +kernel
theorem dX9_openWord_12 : decode cX9_openWord 12 = .ok (.aload_n 0, 1) := by decide +kernel
theorem dX9_openWord_13 : decode cX9_openWord 13 = .ok (.getfield 22, 3) := by decide +kernel
theorem dX9_openWord_16 : decode cX9_openWord 16 = .ok (.invokevirtual 31, 3) := by decide +kernel
theorem dX9_openWord_19 : decode cX9_openWord 19 = .ok (.ifCond .eq 16, 3) := by decide +kernel
theorem dX9_openWord_22 : decode cX9_openWord 22 = .ok (.aload_n 0, 1) := by decide +kernel
theorem dX9_openWord_23 : decode cX9_openWord 23 = .ok (.dup, 1) := by decide +kernel
theorem dX9_openWord_24 : decode cX9_openWord 24 = .ok (.getfield 22, 3) := by decide +kernel
theorem dX9_openWord_27 : decode cX9_openWord 27 = .ok (.iconst 1, 1) := by decide +kernel
theorem dX9_openWord_28 : decode cX9_openWord 28 = .ok (.iadd, 1) := by decide +kernel
theorem dX9_openWord_29 : decode cX9_openWord 29 = .ok (.putfield 22, 3) := by decide +kernel
theorem dX9_openWord_32 : decode cX9_openWord 32 = .ok (.goto (-32), 3) := by decide +kernel
theorem dX9_openWord_35 : decode cX9_openWord 35 = .ok (.aload_n 0, 1) := by decide +kernel
theorem dX9_openWord_36 : decode cX9_openWord 36 = .ok (.bipush (-2), 2) := by decide +kernel
theorem dX9_openWord_38 : decode cX9_openWord 38 = .ok (.putfield 19, 3) := by decide +kernel
theorem dX9_openWord_41 : decode cX9_openWord 41 = .ok (.aload_n 0, 1) := by decide +kernel
theorem dX9_openWord_42 : decode cX9_openWord 42 = .ok (.aload_n 0, 1) := by decide +kernel
theorem dX9_openWord_43 : decode cX9_openWord 43 = .ok (.getfield 22, 3) := by decide +kernel
theorem dX9_openWord_46 : decode cX9_openWord 46 = .ok (.aload_n 0, 1) := by decide +kernel
theorem dX9_openWord_47 : decode cX9_openWord 47 = .ok (.getfield 28, 3) := by decide +kernel
theorem dX9_openWord_50 : decode cX9_openWord 50 = .ok (.isub, 1) := by decide +kernel
theorem dX9_openWord_51 : decode cX9_openWord 51 = .ok (.iconst 1, 1) := by decide +kernel
theorem dX9_openWord_52 : decode cX9_openWord 52 = .ok (.if_icmp .ne 15, 3) := by decide +kernel
theorem dX9_openWord_55 : decode cX9_openWord 55 = .ok (.aload_n 0, 1) := by decide +kernel
theorem dX9_openWord_56 : decode cX9_openWord 56 = .ok (.getfield 9, 3) := by decide +kernel
theorem dX9_openWord_59 : decode cX9_openWord 59 = .ok (.aload_n 0, 1) := by decide +kernel
theorem dX9_openWord_60 : decode cX9_openWord 60 = .ok (.getfield 28, 3) := by decide +kernel
theorem dX9_openWord_63 : decode cX9_openWord 63 = .ok (.iaload, 1) := by decide +kernel
theorem dX9_openWord_64 : decode cX9_openWord 64 = .ok (.goto 4, 3) := by decide +kernel
theorem dX9_openWord_67 : decode cX9_openWord 67 = .ok (.iconst 0, 1) := by decide +kernel
theorem dX9_openWord_68 : decode cX9_openWord 68 = .ok (.putfield 44, 3) := by decide +kernel
theorem dX9_openWord_71 : decode cX9_openWord 71 = .ok (.return_, 1) := by decide +kernel
theorem dX9_openNumber_0 : decode cX9_openNumber 0 = .ok (.aload_n 0, 1) := by decide +kernel
theorem dX9_openNumber_1 : decode cX9_openNumber 1 = .ok (.iconst 0, 1) := by decide +kernel
theorem dX9_openNumber_2 : decode cX9_openNumber 2 = .ok (.putfield 44, 3) := by decide +kernel
theorem dX9_openNumber_5 : decode cX9_openNumber 5 = .ok (.aload_n 0, 1) := by decide +kernel
theorem dX9_openNumber_6 : decode cX9_openNumber 6 = .ok (.getfield 22, 3) := by decide +kernel
theorem dX9_openNumber_9 : decode cX9_openNumber 9 = .ok (.aload_n 0, 1) := by decide +kernel
theorem dX9_openNumber_10 : decode cX9_openNumber 10 = .ok (.getfield 15, 3) := by decide +kernel
theorem dX9_openNumber_13 : decode cX9_openNumber 13 = .ok (.if_icmp .ge 64, 3) := by decide +kernel
theorem dX9_openNumber_16 : decode cX9_openNumber 16 = .ok (.aload_n 0, 1) := by decide +kernel
theorem dX9_openNumber_17 : decode cX9_openNumber 17 = .ok (.aload_n 0, 1) := by decide +kernel
theorem dX9_openNumber_18 : decode cX9_openNumber 18 = .ok (.getfield 22, 3) := by decide +kernel
theorem dX9_openNumber_21 : decode cX9_openNumber 21 = .ok (.invokevirtual 38, 3) := by decide +kernel
theorem dX9_openNumber_24 : decode cX9_openNumber 24 = .ok (.ifCond .eq 53, 3) := by decide +kernel
theorem dX9_openNumber_27 : decode cX9_openNumber 27 = .ok (.aload_n 0, 1) := by decide +kernel
theorem dX9_openNumber_28 : decode cX9_openNumber 28 = .ok (.getfield 22, 3) := by decide +kernel
theorem dX9_openNumber_31 : decode cX9_openNumber 31 = .ok (.aload_n 0, 1) := by decide +kernel
theorem dX9_openNumber_32 : decode cX9_openNumber 32 = .ok (.getfield 28, 3) := by decide +kernel
theorem dX9_openNumber_35 : decode cX9_openNumber 35 = .ok (.isub, 1) := by decide +kernel
theorem dX9_openNumber_36 : decode cX9_openNumber 36 = .ok (.iconst 4, 1) := by decide +kernel
theorem dX9_openNumber_37 : decode cX9_openNumber 37 = .ok (.if_icmp .ge 27, 3) := by decide +kernel
theorem dX9_openNumber_40 : decode cX9_openNumber 40 = .ok (.aload_n 0, 1) := by decide +kernel
theorem dX9_openNumber_41 : decode cX9_openNumber 41 = .ok (.aload_n 0, 1) := by decide +kernel
theorem dX9_openNumber_42 : decode cX9_openNumber 42 = .ok (.getfield 44, 3) := by decide +kernel
theorem dX9_openNumber_45 : decode cX9_openNumber 45 = .ok (.bipush 10, 2) := by decide +kernel
theorem dX9_openNumber_47 : decode cX9_openNumber 47 = .ok (.imul, 1) := by decide +kernel
theorem dX9_openNumber_48 : decode cX9_openNumber 48 = .ok (.aload_n 0, 1) := by decide +kernel
theorem dX9_openNumber_49 : decode cX9_openNumber 49 = .ok (.getfield 9, 3) := by decide +kernel
theorem dX9_openNumber_52 : decode cX9_openNumber 52 = .ok (.aload_n 0, 1) := by decide +kernel
theorem dX9_openNumber_53 : decode cX9_openNumber 53 = .ok (.getfield 22, 3) := by decide +kernel
theorem dX9_openNumber_56 : decode cX9_openNumber 56 = .ok (.iaload, 1) := by decide +kernel
theorem dX9_openNumber_57 : decode cX9_openNumber 57 = .ok (.iadd, 1) := by decide +kernel
theorem dX9_openNumber_58 : decode cX9_openNumber 58 = .ok (.bipush 48, 2) := by decide +kernel
theorem dX9_openNumber_60 : decode cX9_openNumber 60 = .ok (.isub, 1) := by decide +kernel
theorem dX9_openNumber_61 : decode cX9_openNumber 61 = .ok (.putfield 44, 3) := by decide +kernel
theorem dX9_openNumber_64 : decode cX9_openNumber 64 = .ok (.aload_n 0, 1) := by decide +kernel
theorem dX9_openNumber_65 : decode cX9_openNumber 65 = .ok (.dup, 1) := by decide +kernel
theorem dX9_openNumber_66 : decode cX9_openNumber 66 = .ok (.getfield 22, 3) := by decide +kernel
theorem dX9_openNumber_69 : decode cX9_openNumber 69 = .ok (.iconst 1, 1) := by decide +kernel
theorem dX9_openNumber_70 : decode cX9_openNumber 70 = .ok (.iadd, 1) := by decide +kernel
theorem dX9_openNumber_71 : decode cX9_openNumber 71 = .ok (.putfield 22, 3) := by decide +kernel
theorem dX9_openNumber_74 : decode cX9_openNumber 74 = .ok (.goto (-69), 3) := by decide +kernel
theorem dX9_openNumber_77 : decode cX9_openNumber 77 = .ok (.aload_n 0, 1) := by decide +kernel
theorem dX9_openNumber_78 : decode cX9_openNumber 78 = .ok (.aload_n 0, 1) := by decide +kernel
theorem dX9_openNumber_79 : decode cX9_openNumber 79 = .ok (.getfield 22, 3) := by decide +kernel
theorem dX9_openNumber_82 : decode cX9_openNumber 82 = .ok (.aload_n 0, 1) := by decide +kernel
theorem dX9_openNumber_83 : decode cX9_openNumber 83 = .ok (.getfield 28, 3) := by decide +kernel
theorem dX9_openNumber_86 : decode cX9_openNumber 86 = .ok (.isub, 1) := by decide +kernel
theorem dX9_openNumber_87 : decode cX9_openNumber 87 = .ok (.iconst 4, 1) := by decide +kernel
theorem dX9_openNumber_88 : decode cX9_openNumber 88 = .ok (.if_icmp .le 8, 3) := by decide +kernel
theorem dX9_openNumber_91 : decode cX9_openNumber 91 = .ok (.bipush (-4), 2) := by decide +kernel
theorem dX9_openNumber_93 : decode cX9_openNumber 93 = .ok (.goto 5, 3) := by decide +kernel
theorem dX9_openNumber_96 : decode cX9_openNumber 96 = .ok (.bipush (-3), 2) := by decide +kernel
theorem dX9_openNumber_98 : decode cX9_openNumber 98 = .ok (.putfield 19, 3) := by decide +kernel
theorem dX9_openNumber_101 : decode cX9_openNumber 101 = .ok (.return_, 1) := by decide +kernel
theorem dX9_isLetter_0 : decode cX9_isLetter 0 = .ok (.aload_n 0, 1) := by decide +kernel
theorem dX9_isLetter_1 : decode cX9_isLetter 1 = .ok (.getfield 9, 3) := by decide +kernel
theorem dX9_isLetter_4 : decode cX9_isLetter 4 = .ok (.iload_n 1, 1) := by decide +kernel
theorem dX9_isLetter_5 : decode cX9_isLetter 5 = .ok (.iaload, 1) := by decide +kernel
theorem dX9_isLetter_6 : decode cX9_isLetter 6 = .ok (.bipush 97, 2) := by decide +kernel
theorem dX9_isLetter_8 : decode cX9_isLetter 8 = .ok (.if_icmp .lt 18, 3) := by decide +kernel
theorem dX9_isLetter_11 : decode cX9_isLetter 11 = .ok (.aload_n 0, 1) := by decide +kernel
theorem dX9_isLetter_12 : decode cX9_isLetter 12 = .ok (.getfield 9, 3) := by decide +kernel
theorem dX9_isLetter_15 : decode cX9_isLetter 15 = .ok (.iload_n 1, 1) := by decide +kernel
theorem dX9_isLetter_16 : decode cX9_isLetter 16 = .ok (.iaload, 1) := by decide +kernel
theorem dX9_isLetter_17 : decode cX9_isLetter 17 = .ok (.bipush 122, 2) := by decide +kernel
theorem dX9_isLetter_19 : decode cX9_isLetter 19 = .ok (.if_icmp .gt 7, 3) := by decide +kernel
theorem dX9_isLetter_22 : decode cX9_isLetter 22 = .ok (.iconst 1, 1) := by decide +kernel
theorem dX9_isLetter_23 : decode cX9_isLetter 23 = .ok (.goto 4, 3) := by decide +kernel
theorem dX9_isLetter_26 : decode cX9_isLetter 26 = .ok (.iconst 0, 1) := by decide +kernel
theorem dX9_isLetter_27 : decode cX9_isLetter 27 = .ok (.ireturn, 1) := by decide +kernel
theorem dX9_isDigit_0 : decode cX9_isDigit 0 = .ok (.aload_n 0, 1) := by decide +kernel
theorem dX9_isDigit_1 : decode cX9_isDigit 1 = .ok (.getfield 9, 3) := by decide +kernel
theorem dX9_isDigit_4 : decode cX9_isDigit 4 = .ok (.iload_n 1, 1) := by decide +kernel
theorem dX9_isDigit_5 : decode cX9_isDigit 5 = .ok (.iaload, 1) := by decide +kernel
theorem dX9_isDigit_6 : decode cX9_isDigit 6 = .ok (.bipush 48, 2) := by decide +kernel
theorem dX9_isDigit_8 : decode cX9_isDigit 8 = .ok (.if_icmp .lt 18, 3) := by decide +kernel
theorem dX9_isDigit_11 : decode cX9_isDigit 11 = .ok (.aload_n 0, 1) := by decide +kernel
theorem dX9_isDigit_12 : decode cX9_isDigit 12 = .ok (.getfield 9, 3) := by decide +kernel
theorem dX9_isDigit_15 : decode cX9_isDigit 15 = .ok (.iload_n 1, 1) := by decide +kernel
theorem dX9_isDigit_16 : decode cX9_isDigit 16 = .ok (.iaload, 1) := by decide +kernel
theorem dX9_isDigit_17 : decode cX9_isDigit 17 = .ok (.bipush 57, 2) := by decide +kernel
theorem dX9_isDigit_19 : decode cX9_isDigit 19 = .ok (.if_icmp .gt 7, 3) := by decide +kernel
theorem dX9_isDigit_22 : decode cX9_isDigit 22 = .ok (.iconst 1, 1) := by decide +kernel
theorem dX9_isDigit_23 : decode cX9_isDigit 23 = .ok (.goto 4, 3) := by decide +kernel
theorem dX9_isDigit_26 : decode cX9_isDigit 26 = .ok (.iconst 0, 1) := by decide +kernel
theorem dX9_isDigit_27 : decode cX9_isDigit 27 = .ok (.ireturn, 1) := by decide +kernel
theorem dX9_isOpen_0 : decode cX9_isOpen 0 = .ok (.aload_n 0, 1) := by decide +kernel
theorem dX9_isOpen_1 : decode cX9_isOpen 1 = .ok (.getfield 19, 3) := by decide +kernel
theorem dX9_isOpen_4 : decode cX9_isOpen 4 = .ok (.bipush (-2), 2) := by decide +kernel
theorem dX9_isOpen_6 : decode cX9_isOpen 6 = .ok (.if_icmp .ne 19, 3) := by decide +kernel
theorem dX9_isOpen_9 : decode cX9_isOpen 9 = .ok (.aload_n 0, 1) := by decide +kernel
theorem dX9_isOpen_10 : decode cX9_isOpen 10 = .ok (.getfield 22, 3) := by decide +kernel
theorem dX9_isOpen_13 : decode cX9_isOpen 13 = .ok (.aload_n 0, 1) := by decide +kernel
theorem dX9_isOpen_14 : decode cX9_isOpen 14 = .ok (.getfield 28, 3) := by decide +kernel
theorem dX9_isOpen_17 : decode cX9_isOpen 17 = .ok (.isub, 1) := by decide +kernel
theorem dX9_isOpen_18 : decode cX9_isOpen 18 = .ok (.aload_n 1, 1) := by decide +kernel
theorem dX9_isOpen_19 : decode cX9_isOpen 19 = .ok (.invokevirtual 47, 3) := by decide +kernel
theorem dX9_isOpen_22 : decode cX9_isOpen 22 = .ok (.if_icmp .eq 5, 3) := by decide +kernel
theorem dX9_isOpen_25 : decode cX9_isOpen 25 = .ok (.iconst 0, 1) := by decide +kernel
theorem dX9_isOpen_26 : decode cX9_isOpen 26 = .ok (.ireturn, 1) := by decide +kernel
theorem dX9_isOpen_27 : decode cX9_isOpen 27 = .ok (.iconst 0, 1) := by decide +kernel
theorem dX9_isOpen_28 : decode cX9_isOpen 28 = .ok (.istore_n 2, 1) := by decide +kernel
theorem dX9_isOpen_29 : decode cX9_isOpen 29 = .ok (.iload_n 2, 1) := by decide +kernel
theorem dX9_isOpen_30 : decode cX9_isOpen 30 = .ok (.aload_n 1, 1) := by decide +kernel
theorem dX9_isOpen_31 : decode cX9_isOpen 31 = .ok (.invokevirtual 47, 3) := by decide +kernel
theorem dX9_isOpen_34 : decode cX9_isOpen 34 = .ok (.if_icmp .ge 30, 3) := by decide +kernel
theorem dX9_isOpen_37 : decode cX9_isOpen 37 = .ok (.aload_n 0, 1) := by decide +kernel
theorem dX9_isOpen_38 : decode cX9_isOpen 38 = .ok (.getfield 9, 3) := by decide +kernel
theorem dX9_isOpen_41 : decode cX9_isOpen 41 = .ok (.aload_n 0, 1) := by decide +kernel
theorem dX9_isOpen_42 : decode cX9_isOpen 42 = .ok (.getfield 28, 3) := by decide +kernel
theorem dX9_isOpen_45 : decode cX9_isOpen 45 = .ok (.iload_n 2, 1) := by decide +kernel
theorem dX9_isOpen_46 : decode cX9_isOpen 46 = .ok (.iadd, 1) := by decide +kernel
theorem dX9_isOpen_47 : decode cX9_isOpen 47 = .ok (.iaload, 1) := by decide +kernel
theorem dX9_isOpen_48 : decode cX9_isOpen 48 = .ok (.aload_n 1, 1) := by decide +kernel
theorem dX9_isOpen_49 : decode cX9_isOpen 49 = .ok (.iload_n 2, 1) := by decide +kernel
theorem dX9_isOpen_50 : decode cX9_isOpen 50 = .ok (.invokevirtual 53, 3) := by decide +kernel
theorem dX9_isOpen_53 : decode cX9_isOpen 53 = .ok (.if_icmp .eq 5, 3) := by decide +kernel
theorem dX9_isOpen_56 : decode cX9_isOpen 56 = .ok (.iconst 0, 1) := by decide +kernel
theorem dX9_isOpen_57 : decode cX9_isOpen 57 = .ok (.ireturn, 1) := by decide +kernel
theorem dX9_isOpen_58 : decode cX9_isOpen 58 = .ok (.iinc 2 1, 3) := by decide +kernel
theorem dX9_isOpen_61 : decode cX9_isOpen 61 = .ok (.goto (-32), 3) := by decide +kernel
theorem dX9_isOpen_64 : decode cX9_isOpen 64 = .ok (.iconst 1, 1) := by decide +kernel
theorem dX9_isOpen_65 : decode cX9_isOpen 65 = .ok (.ireturn, 1) := by decide +kernel
theorem dX10_init_0 : decode cX10_init 0 = .ok (.aload_n 0, 1) := by decide +kernel
theorem dX10_init_1 : decode cX10_init 1 = .ok (.invokespecial 3, 3) := by decide +kernel
theorem dX10_init_4 : decode cX10_init 4 = .ok (.aload_n 0, 1) := by decide +kernel
theorem dX10_init_5 : decode cX10_init 5 = .ok (.sipush 5000, 3) := by decide +kernel
theorem dX10_init_8 : decode cX10_init 8 = .ok (.putfield 9, 3) := by decide +kernel
theorem dX10_init_11 : decode cX10_init 11 = .ok (.aload_n 0, 1) := by decide +kernel
theorem dX10_init_12 : decode cX10_init 12 = .ok (.bipush 80, 2) := by decide +kernel
theorem dX10_init_14 : decode cX10_init 14 = .ok (.putfield 15, 3) := by decide +kernel
theorem dX10_init_17 : decode cX10_init 17 = .ok (.aload_n 0, 1) := by decide +kernel
theorem dX10_init_18 : decode cX10_init 18 = .ok (.iconst 4, 1) := by decide +kernel
theorem dX10_init_19 : decode cX10_init 19 = .ok (.putfield 18, 3) := by decide +kernel
theorem dX10_init_22 : decode cX10_init 22 = .ok (.aload_n 0, 1) := by decide +kernel
theorem dX10_init_23 : decode cX10_init 23 = .ok (.iconst 1, 1) := by decide +kernel
theorem dX10_init_24 : decode cX10_init 24 = .ok (.putfield 21, 3) := by decide +kernel
theorem dX10_init_27 : decode cX10_init 27 = .ok (.aload_n 0, 1) := by decide +kernel
theorem dX10_init_28 : decode cX10_init 28 = .ok (.new 24, 3) := by decide +kernel
theorem dX10_init_31 : decode cX10_init 31 = .ok (.dup, 1) := by decide +kernel
theorem dX10_init_32 : decode cX10_init 32 = .ok (.invokespecial 26, 3) := by decide +kernel
theorem dX10_init_35 : decode cX10_init 35 = .ok (.putfield 27, 3) := by decide +kernel
theorem dX10_init_38 : decode cX10_init 38 = .ok (.aload_n 0, 1) := by decide +kernel
theorem dX10_init_39 : decode cX10_init 39 = .ok (.new 31, 3) := by decide +kernel
theorem dX10_init_42 : decode cX10_init 42 = .ok (.dup, 1) := by decide +kernel
theorem dX10_init_43 : decode cX10_init 43 = .ok (.bipush 20, 2) := by decide +kernel
theorem dX10_init_45 : decode cX10_init 45 = .ok (.invokespecial 33, 3) := by decide +kernel
theorem dX10_init_48 : decode cX10_init 48 = .ok (.putfield 36, 3) := by decide +kernel
theorem dX10_init_51 : decode cX10_init 51 = .ok (.aload_n 0, 1) := by decide +kernel
theorem dX10_init_52 : decode cX10_init 52 = .ok (.new 40, 3) := by decide +kernel
theorem dX10_init_55 : decode cX10_init 55 = .ok (.dup, 1) := by decide +kernel
theorem dX10_init_56 : decode cX10_init 56 = .ok (.invokespecial 42, 3) := by decide +kernel
theorem dX10_init_59 : decode cX10_init 59 = .ok (.putfield 43, 3) := by decide +kernel
theorem dX10_init_62 : decode cX10_init 62 = .ok (.aload_n 0, 1) := by decide +kernel
theorem dX10_init_63 : decode cX10_init 63 = .ok (.bipush 14, 2) := by decide +kernel
theorem dX10_init_65 : decode cX10_init 65 = .ok (.anewarray 47, 3) := by decide +kernel
theorem dX10_init_68 : decode cX10_init 68 = .ok (.putfield 49, 3) := by decide +kernel
theorem dX10_init_71 : decode cX10_init 71 = .ok (.aload_n 0, 1) := by decide +kernel
theorem dX10_init_72 : decode cX10_init 72 = .ok (.iconst 3, 1) := by decide +kernel
theorem dX10_init_73 : decode cX10_init 73 = .ok (.newarray .int, 2) := by decide +kernel
theorem dX10_init_75 : decode cX10_init 75 = .ok (.dup, 1) := by decide +kernel
theorem dX10_init_76 : decode cX10_init 76 = .ok (.iconst 0, 1) := by decide +kernel
theorem dX10_init_77 : decode cX10_init 77 = .ok (.ldc 53, 2) := by decide +kernel
theorem dX10_init_79 : decode cX10_init 79 = .ok (.iastore, 1) := by decide +kernel
theorem dX10_init_80 : decode cX10_init 80 = .ok (.dup, 1) := by decide +kernel
theorem dX10_init_81 : decode cX10_init 81 = .ok (.iconst 1, 1) := by decide +kernel
theorem dX10_init_82 : decode cX10_init 82 = .ok (.ldc 53, 2) := by decide +kernel
theorem dX10_init_84 : decode cX10_init 84 = .ok (.iastore, 1) := by decide +kernel
theorem dX10_init_85 : decode cX10_init 85 = .ok (.dup, 1) := by decide +kernel
theorem dX10_init_86 : decode cX10_init 86 = .ok (.iconst 2, 1) := by decide +kernel
theorem dX10_init_87 : decode cX10_init 87 = .ok (.ldc 53, 2) := by decide +kernel
theorem dX10_init_89 : decode cX10_init 89 = .ok (.iastore, 1) := by decide +kernel
theorem dX10_init_90 : decode cX10_init 90 = .ok (.putfield 54, 3) := by decide +kernel
theorem dX10_init_93 : decode cX10_init 93 = .ok (.aload_n 0, 1) := by decide +kernel
theorem dX10_init_94 : decode cX10_init 94 = .ok (.bipush 60, 2) := by decide +kernel
theorem dX10_init_96 : decode cX10_init 96 = .ok (.newarray .int, 2) := by decide +kernel
theorem dX10_init_98 : decode cX10_init 98 = .ok (.putfield 58, 3) := by decide +kernel
theorem dX10_init_101 : decode cX10_init 101 = .ok (.aload_n 0, 1) := by decide +kernel
theorem dX10_init_102 : decode cX10_init 102 = .ok (.new 31, 3) := by decide +kernel
theorem dX10_init_105 : decode cX10_init 105 = .ok (.dup, 1) := by decide +kernel
theorem dX10_init_106 : decode cX10_init 106 = .ok (.bipush 10, 2) := by decide +kernel
theorem dX10_init_108 : decode cX10_init 108 = .ok (.invokespecial 33, 3) := by decide +kernel
theorem dX10_init_111 : decode cX10_init 111 = .ok (.putfield 61, 3) := by decide +kernel
theorem dX10_init_114 : decode cX10_init 114 = .ok (.aload_n 0, 1) := by decide +kernel
theorem dX10_init_115 : decode cX10_init 115 = .ok (.new 64, 3) := by decide +kernel
theorem dX10_init_118 : decode cX10_init 118 = .ok (.dup, 1) := by decide +kernel
theorem dX10_init_119 : decode cX10_init 119 = .ok (.invokespecial 66, 3) := by decide +kernel
theorem dX10_init_122 : decode cX10_init 122 = .ok (.putfield 67, 3) := by decide +kernel
theorem dX10_init_125 : decode cX10_init 125 = .ok (.return_, 1) := by decide +kernel
theorem dX10_takeOver_0 : decode cX10_takeOver 0 = .ok (.aload_n 0, 1) := by decide +kernel
theorem dX10_takeOver_1 : decode cX10_takeOver 1 = .ok (.aload_n 1, 1) := by decide +kernel
theorem dX10_takeOver_2 : decode cX10_takeOver 2 = .ok (.getfield 71, 3) := by decide +kernel
theorem dX10_takeOver_5 : decode cX10_takeOver 5 = .ok (.putfield 71, 3) := by decide +kernel
theorem dX10_takeOver_8 : decode cX10_takeOver 8 = .ok (.aload_n 0, 1) := by decide +kernel
theorem dX10_takeOver_9 : decode cX10_takeOver 9 = .ok (.aload_n 1, 1) := by decide +kernel
theorem dX10_takeOver_10 : decode cX10_takeOver 10 = .ok (.getfield 9, 3) := by decide +kernel
theorem dX10_takeOver_13 : decode cX10_takeOver 13 = .ok (.putfield 9, 3) := by decide +kernel
theorem dX10_takeOver_16 : decode cX10_takeOver 16 = .ok (.aload_n 0, 1) := by decide +kernel
theorem dX10_takeOver_17 : decode cX10_takeOver 17 = .ok (.aload_n 1, 1) := by decide +kernel
theorem dX10_takeOver_18 : decode cX10_takeOver 18 = .ok (.getfield 15, 3) := by decide +kernel
theorem dX10_takeOver_21 : decode cX10_takeOver 21 = .ok (.putfield 15, 3) := by decide +kernel
theorem dX10_takeOver_24 : decode cX10_takeOver 24 = .ok (.aload_n 0, 1) := by decide +kernel
theorem dX10_takeOver_25 : decode cX10_takeOver 25 = .ok (.aload_n 1, 1) := by decide +kernel
theorem dX10_takeOver_26 : decode cX10_takeOver 26 = .ok (.getfield 18, 3) := by decide +kernel
theorem dX10_takeOver_29 : decode cX10_takeOver 29 = .ok (.putfield 18, 3) := by decide +kernel
theorem dX10_takeOver_32 : decode cX10_takeOver 32 = .ok (.aload_n 0, 1) := by decide +kernel
theorem dX10_takeOver_33 : decode cX10_takeOver 33 = .ok (.aload_n 1, 1) := by decide +kernel
theorem dX10_takeOver_34 : decode cX10_takeOver 34 = .ok (.getfield 74, 3) := by decide +kernel
theorem dX10_takeOver_37 : decode cX10_takeOver 37 = .ok (.putfield 74, 3) := by decide +kernel
theorem dX10_takeOver_40 : decode cX10_takeOver 40 = .ok (.aload_n 0, 1) := by decide +kernel
theorem dX10_takeOver_41 : decode cX10_takeOver 41 = .ok (.aload_n 1, 1) := by decide +kernel
theorem dX10_takeOver_42 : decode cX10_takeOver 42 = .ok (.getfield 21, 3) := by decide +kernel
theorem dX10_takeOver_45 : decode cX10_takeOver 45 = .ok (.putfield 21, 3) := by decide +kernel
theorem dX10_takeOver_48 : decode cX10_takeOver 48 = .ok (.aload_n 0, 1) := by decide +kernel
theorem dX10_takeOver_49 : decode cX10_takeOver 49 = .ok (.getfield 27, 3) := by decide +kernel
theorem dX10_takeOver_52 : decode cX10_takeOver 52 = .ok (.aload_n 1, 1) := by decide +kernel
theorem dX10_takeOver_53 : decode cX10_takeOver 53 = .ok (.getfield 27, 3) := by decide +kernel
theorem dX10_takeOver_56 : decode cX10_takeOver 56 = .ok (.invokevirtual 77, 3) := by decide +kernel
theorem dX10_takeOver_59 : decode cX10_takeOver 59 = .ok (.aload_n 0, 1) := by decide +kernel
theorem dX10_takeOver_60 : decode cX10_takeOver 60 = .ok (.getfield 36, 3) := by decide +kernel
theorem dX10_takeOver_63 : decode cX10_takeOver 63 = .ok (.aload_n 1, 1) := by decide +kernel
theorem dX10_takeOver_64 : decode cX10_takeOver 64 = .ok (.getfield 36, 3) := by decide +kernel
theorem dX10_takeOver_67 : decode cX10_takeOver 67 = .ok (.invokevirtual 81, 3) := by decide +kernel
theorem dX10_takeOver_70 : decode cX10_takeOver 70 = .ok (.aload_n 0, 1) := by decide +kernel
theorem dX10_takeOver_71 : decode cX10_takeOver 71 = .ok (.getfield 43, 3) := by decide +kernel
theorem dX10_takeOver_74 : decode cX10_takeOver 74 = .ok (.aload_n 1, 1) := by decide +kernel
theorem dX10_takeOver_75 : decode cX10_takeOver 75 = .ok (.getfield 43, 3) := by decide +kernel
theorem dX10_takeOver_78 : decode cX10_takeOver 78 = .ok (.invokevirtual 84, 3) := by decide +kernel
theorem dX10_takeOver_81 : decode cX10_takeOver 81 = .ok (.aload_n 1, 1) := by decide +kernel
theorem dX10_takeOver_82 : decode cX10_takeOver 82 = .ok (.getfield 49, 3) := by decide +kernel
theorem dX10_takeOver_85 : decode cX10_takeOver 85 = .ok (.iconst 0, 1) := by decide +kernel
theorem dX10_takeOver_86 : decode cX10_takeOver 86 = .ok (.aload_n 0, 1) := by decide +kernel
theorem dX10_takeOver_87 : decode cX10_takeOver 87 = .ok (.getfield 49, 3) := by decide +kernel
theorem dX10_takeOver_90 : decode cX10_takeOver 90 = .ok (.iconst 0, 1) := by decide +kernel
theorem dX10_takeOver_91 : decode cX10_takeOver 91 = .ok (.bipush 14, 2) := by decide +kernel
theorem dX10_takeOver_93 : decode cX10_takeOver 93 = .ok (.invokestatic 87, 3) := by decide +kernel
theorem dX10_takeOver_96 : decode cX10_takeOver 96 = .ok (.aload_n 0, 1) := by decide +kernel
theorem dX10_takeOver_97 : decode cX10_takeOver 97 = .ok (.aload_n 1, 1) := by decide +kernel
theorem dX10_takeOver_98 : decode cX10_takeOver 98 = .ok (.getfield 93, 3) := by decide +kernel
theorem dX10_takeOver_101 : decode cX10_takeOver 101 = .ok (.putfield 93, 3) := by decide +kernel
theorem dX10_takeOver_104 : decode cX10_takeOver 104 = .ok (.aload_n 1, 1) := by decide +kernel
theorem dX10_takeOver_105 : decode cX10_takeOver 105 = .ok (.getfield 54, 3) := by decide +kernel
theorem dX10_takeOver_108 : decode cX10_takeOver 108 = .ok (.iconst 0, 1) := by decide +kernel
theorem dX10_takeOver_109 : decode cX10_takeOver 109 = .ok (.aload_n 0, 1) := by decide +kernel
theorem dX10_takeOver_110 : decode cX10_takeOver 110 = .ok (.getfield 54, 3) := by decide +kernel
theorem dX10_takeOver_113 : decode cX10_takeOver 113 = .ok (.iconst 0, 1) := by decide +kernel
theorem dX10_takeOver_114 : decode cX10_takeOver 114 = .ok (.aload_n 0, 1) := by decide +kernel
theorem dX10_takeOver_115 : decode cX10_takeOver 115 = .ok (.getfield 54, 3) := by decide +kernel
theorem dX10_takeOver_118 : decode cX10_takeOver 118 = .ok (.arraylength, 1) := by decide +kernel
theorem dX10_takeOver_119 : decode cX10_takeOver 119 = .ok (.invokestatic 87, 3) := by decide +kernel
theorem dX10_takeOver_122 : decode cX10_takeOver 122 = .ok (.aload_n 1, 1) := by decide +kernel
theorem dX10_takeOver_123 : decode cX10_takeOver 123 = .ok (.getfield 58, 3) := by decide +kernel
theorem dX10_takeOver_126 : decode cX10_takeOver 126 = .ok (.iconst 0, 1) := by decide +kernel
theorem dX10_takeOver_127 : decode cX10_takeOver 127 = .ok (.aload_n 0, 1) := by decide +kernel
theorem dX10_takeOver_128 : decode cX10_takeOver 128 = .ok (.getfield 58, 3) := by decide +kernel
theorem dX10_takeOver_131 : decode cX10_takeOver 131 = .ok (.iconst 0, 1) := by decide +kernel
theorem dX10_takeOver_132 : decode cX10_takeOver 132 = .ok (.bipush 60, 2) := by decide +kernel
theorem dX10_takeOver_134 : decode cX10_takeOver 134 = .ok (.invokestatic 87, 3) := by decide +kernel
theorem dX10_takeOver_137 : decode cX10_takeOver 137 = .ok (.aload_n 0, 1) := by decide +kernel
theorem dX10_takeOver_138 : decode cX10_takeOver 138 = .ok (.aload_n 1, 1) := by decide +kernel
theorem dX10_takeOver_139 : decode cX10_takeOver 139 = .ok (.getfield 96, 3) := by decide +kernel
theorem dX10_takeOver_142 : decode cX10_takeOver 142 = .ok (.putfield 96, 3) := by decide +kernel
theorem dX10_takeOver_145 : decode cX10_takeOver 145 = .ok (.aload_n 0, 1) := by decide +kernel
theorem dX10_takeOver_146 : decode cX10_takeOver 146 = .ok (.getfield 61, 3) := by decide +kernel
theorem dX10_takeOver_149 : decode cX10_takeOver 149 = .ok (.aload_n 1, 1) := by decide +kernel
theorem dX10_takeOver_150 : decode cX10_takeOver 150 = .ok (.getfield 61, 3) := by decide +kernel
theorem dX10_takeOver_153 : decode cX10_takeOver 153 = .ok (.invokevirtual 81, 3) := by decide +kernel
theorem dX10_takeOver_156 : decode cX10_takeOver 156 = .ok (.aload_n 0, 1) := by decide +kernel
theorem dX10_takeOver_157 : decode cX10_takeOver 157 = .ok (.getfield 67, 3) := by decide +kernel
theorem dX10_takeOver_160 : decode cX10_takeOver 160 = .ok (.aload_n 1, 1) := by decide +kernel
theorem dX10_takeOver_161 : decode cX10_takeOver 161 = .ok (.getfield 67, 3) := by decide +kernel
theorem dX10_takeOver_164 : decode cX10_takeOver 164 = .ok (.invokevirtual 99, 3) := by decide +kernel
theorem dX10_takeOver_167 : decode cX10_takeOver 167 = .ok (.return_, 1) := by decide +kernel
theorem dX10_change_0 : decode cX10_change 0 = .ok (.iload_n 1, 1) := by decide +kernel
theorem dX10_change_1 : decode cX10_change 1 = .ok (.tableswitch 63 0 2 #[27, 39, 51], 27) := by decide +kernel
theorem dX10_change_28 : decode cX10_change 28 = .ok (.aload_n 0, 1) := by decide +kernel
theorem dX10_change_29 : decode cX10_change 29 = .ok (.getfield 15, 3) := by decide +kernel
theorem dX10_change_32 : decode cX10_change 32 = .ok (.istore_n 3, 1) := by decide +kernel
theorem dX10_change_33 : decode cX10_change 33 = .ok (.aload_n 0, 1) := by decide +kernel
theorem dX10_change_34 : decode cX10_change 34 = .ok (.iload_n 2, 1) := by decide +kernel
theorem dX10_change_35 : decode cX10_change 35 = .ok (.putfield 15, 3) := by decide +kernel
theorem dX10_change_38 : decode cX10_change 38 = .ok (.iload_n 3, 1) := by decide +kernel
theorem dX10_change_39 : decode cX10_change 39 = .ok (.ireturn, 1) := by decide +kernel
theorem dX10_change_40 : decode cX10_change 40 = .ok (.aload_n 0, 1) := by decide +kernel
theorem dX10_change_41 : decode cX10_change 41 = .ok (.getfield 18, 3) := by decide +kernel
theorem dX10_change_44 : decode cX10_change 44 = .ok (.istore_n 3, 1) := by decide +kernel
theorem dX10_change_45 : decode cX10_change 45 = .ok (.aload_n 0, 1) := by decide +kernel
theorem dX10_change_46 : decode cX10_change 46 = .ok (.iload_n 2, 1) := by decide +kernel
theorem dX10_change_47 : decode cX10_change 47 = .ok (.putfield 18, 3) := by decide +kernel
theorem dX10_change_50 : decode cX10_change 50 = .ok (.iload_n 3, 1) := by decide +kernel
theorem dX10_change_51 : decode cX10_change 51 = .ok (.ireturn, 1) := by decide +kernel
theorem dX10_change_52 : decode cX10_change 52 = .ok (.aload_n 0, 1) := by decide +kernel
theorem dX10_change_53 : decode cX10_change 53 = .ok (.getfield 9, 3) := by decide +kernel
theorem dX10_change_56 : decode cX10_change 56 = .ok (.istore_n 3, 1) := by decide +kernel
theorem dX10_change_57 : decode cX10_change 57 = .ok (.aload_n 0, 1) := by decide +kernel
theorem dX10_change_58 : decode cX10_change 58 = .ok (.iload_n 2, 1) := by decide +kernel
theorem dX10_change_59 : decode cX10_change 59 = .ok (.putfield 9, 3) := by decide +kernel
theorem dX10_change_62 : decode cX10_change 62 = .ok (.iload_n 3, 1) := by decide +kernel
theorem dX10_change_63 : decode cX10_change 63 = .ok (.ireturn, 1) := by decide +kernel
theorem dX10_change_64 : decode cX10_change 64 = .ok (.aload_n 0, 1) := by decide +kernel
theorem dX10_change_65 : decode cX10_change 65 = .ok (.getfield 74, 3) := by decide +kernel
theorem dX10_change_68 : decode cX10_change 68 = .ok (.istore_n 3, 1) := by decide +kernel
theorem dX10_change_69 : decode cX10_change 69 = .ok (.aload_n 0, 1) := by decide +kernel
theorem dX10_change_70 : decode cX10_change 70 = .ok (.iload_n 2, 1) := by decide +kernel
theorem dX10_change_71 : decode cX10_change 71 = .ok (.putfield 74, 3) := by decide +kernel
theorem dX10_change_74 : decode cX10_change 74 = .ok (.iload_n 3, 1) := by decide +kernel
theorem dX10_change_75 : decode cX10_change 75 = .ok (.ireturn, 1) := by decide +kernel
theorem dX10_addKnock_0 : decode cX10_addKnock 0 = .ok (.aload_n 0, 1) := by decide +kernel
theorem dX10_addKnock_1 : decode cX10_addKnock 1 = .ok (.getfield 96, 3) := by decide +kernel
theorem dX10_addKnock_4 : decode cX10_addKnock 4 = .ok (.bipush 60, 2) := by decide +kernel
theorem dX10_addKnock_6 : decode cX10_addKnock 6 = .ok (.if_icmp .lt 6, 3) := by decide +kernel
theorem dX10_addKnock_9 : decode cX10_addKnock 9 = .ok (.ldc 102, 2) := by decide +kernel
theorem dX10_addKnock_11 : decode cX10_addKnock 11 = .ok (.ireturn, 1) := by decide +kernel
theorem dX10_addKnock_12 : decode cX10_addKnock 12 = .ok (.aload_n 0, 1) := by decide +kernel
theorem dX10_addKnock_13 : decode cX10_addKnock 13 = .ok (.getfield 58, 3) := by decide +kernel
theorem dX10_addKnock_16 : decode cX10_addKnock 16 = .ok (.aload_n 0, 1) := by decide +kernel
theorem dX10_addKnock_17 : decode cX10_addKnock 17 = .ok (.getfield 96, 3) := by decide +kernel
theorem dX10_addKnock_20 : decode cX10_addKnock 20 = .ok (.iload_n 1, 1) := by decide +kernel
theorem dX10_addKnock_21 : decode cX10_addKnock 21 = .ok (.iastore, 1) := by decide +kernel
theorem dX10_addKnock_22 : decode cX10_addKnock 22 = .ok (.aload_n 0, 1) := by decide +kernel
theorem dX10_addKnock_23 : decode cX10_addKnock 23 = .ok (.dup, 1) := by decide +kernel
theorem dX10_addKnock_24 : decode cX10_addKnock 24 = .ok (.getfield 96, 3) := by decide +kernel
theorem dX10_addKnock_27 : decode cX10_addKnock 27 = .ok (.iconst 1, 1) := by decide +kernel
theorem dX10_addKnock_28 : decode cX10_addKnock 28 = .ok (.iadd, 1) := by decide +kernel
theorem dX10_addKnock_29 : decode cX10_addKnock 29 = .ok (.putfield 96, 3) := by decide +kernel
theorem dX10_addKnock_32 : decode cX10_addKnock 32 = .ok (.aload_n 0, 1) := by decide +kernel
theorem dX10_addKnock_33 : decode cX10_addKnock 33 = .ok (.getfield 96, 3) := by decide +kernel
theorem dX10_addKnock_36 : decode cX10_addKnock 36 = .ok (.iconst 1, 1) := by decide +kernel
theorem dX10_addKnock_37 : decode cX10_addKnock 37 = .ok (.isub, 1) := by decide +kernel
theorem dX10_addKnock_38 : decode cX10_addKnock 38 = .ok (.ireturn, 1) := by decide +kernel
theorem dX10_addLaw_0 : decode cX10_addLaw 0 = .ok (.aload_n 0, 1) := by decide +kernel
theorem dX10_addLaw_1 : decode cX10_addLaw 1 = .ok (.getfield 93, 3) := by decide +kernel
theorem dX10_addLaw_4 : decode cX10_addLaw 4 = .ok (.bipush 14, 2) := by decide +kernel
theorem dX10_addLaw_6 : decode cX10_addLaw 6 = .ok (.if_icmp .ge 18, 3) := by decide +kernel
theorem dX10_addLaw_9 : decode cX10_addLaw 9 = .ok (.aload_n 1, 1) := by decide +kernel
theorem dX10_addLaw_10 : decode cX10_addLaw 10 = .ok (.getfield 103, 3) := by decide +kernel
theorem dX10_addLaw_13 : decode cX10_addLaw 13 = .ok (.ifCond .lt 11, 3) := by decide +kernel
theorem dX10_addLaw_16 : decode cX10_addLaw 16 = .ok (.aload_n 1, 1) := by decide +kernel
theorem dX10_addLaw_17 : decode cX10_addLaw 17 = .ok (.getfield 103, 3) := by decide +kernel
theorem dX10_addLaw_20 : decode cX10_addLaw 20 = .ok (.iconst 2, 1) := by decide +kernel
theorem dX10_addLaw_21 : decode cX10_addLaw 21 = .ok (.if_icmp .le 6, 3) := by decide +kernel
theorem dX10_addLaw_24 : decode cX10_addLaw 24 = .ok (.ldc 102, 2) := by decide +kernel
theorem dX10_addLaw_26 : decode cX10_addLaw 26 = .ok (.ireturn, 1) := by decide +kernel
theorem dX10_addLaw_27 : decode cX10_addLaw 27 = .ok (.aload_n 0, 1) := by decide +kernel
theorem dX10_addLaw_28 : decode cX10_addLaw 28 = .ok (.getfield 49, 3) := by decide +kernel
theorem dX10_addLaw_31 : decode cX10_addLaw 31 = .ok (.aload_n 0, 1) := by decide +kernel
theorem dX10_addLaw_32 : decode cX10_addLaw 32 = .ok (.getfield 93, 3) := by decide +kernel
theorem dX10_addLaw_35 : decode cX10_addLaw 35 = .ok (.aload_n 1, 1) := by decide +kernel
theorem dX10_addLaw_36 : decode cX10_addLaw 36 = .ok (.aastore, 1) := by decide +kernel
theorem dX10_addLaw_37 : decode cX10_addLaw 37 = .ok (.aload_n 0, 1) := by decide +kernel
theorem dX10_addLaw_38 : decode cX10_addLaw 38 = .ok (.getfield 54, 3) := by decide +kernel
theorem dX10_addLaw_41 : decode cX10_addLaw 41 = .ok (.aload_n 1, 1) := by decide +kernel
theorem dX10_addLaw_42 : decode cX10_addLaw 42 = .ok (.getfield 103, 3) := by decide +kernel
theorem dX10_addLaw_45 : decode cX10_addLaw 45 = .ok (.aload_n 0, 1) := by decide +kernel
theorem dX10_addLaw_46 : decode cX10_addLaw 46 = .ok (.getfield 93, 3) := by decide +kernel
theorem dX10_addLaw_49 : decode cX10_addLaw 49 = .ok (.iastore, 1) := by decide +kernel
theorem dX10_addLaw_50 : decode cX10_addLaw 50 = .ok (.aload_n 0, 1) := by decide +kernel
theorem dX10_addLaw_51 : decode cX10_addLaw 51 = .ok (.dup, 1) := by decide +kernel
theorem dX10_addLaw_52 : decode cX10_addLaw 52 = .ok (.getfield 93, 3) := by decide +kernel
theorem dX10_addLaw_55 : decode cX10_addLaw 55 = .ok (.iconst 1, 1) := by decide +kernel
theorem dX10_addLaw_56 : decode cX10_addLaw 56 = .ok (.iadd, 1) := by decide +kernel
theorem dX10_addLaw_57 : decode cX10_addLaw 57 = .ok (.putfield 93, 3) := by decide +kernel
theorem dX10_addLaw_60 : decode cX10_addLaw 60 = .ok (.aload_n 0, 1) := by decide +kernel
theorem dX10_addLaw_61 : decode cX10_addLaw 61 = .ok (.getfield 93, 3) := by decide +kernel
theorem dX10_addLaw_64 : decode cX10_addLaw 64 = .ok (.iconst 1, 1) := by decide +kernel
theorem dX10_addLaw_65 : decode cX10_addLaw 65 = .ok (.isub, 1) := by decide +kernel
theorem dX10_addLaw_66 : decode cX10_addLaw 66 = .ok (.ireturn, 1) := by decide +kernel
theorem dX10_lawFor_0 : decode cX10_lawFor 0 = .ok (.aload_n 0, 1) := by decide +kernel
theorem dX10_lawFor_1 : decode cX10_lawFor 1 = .ok (.getfield 54, 3) := by decide +kernel
theorem dX10_lawFor_4 : decode cX10_lawFor 4 = .ok (.iload_n 1, 1) := by decide +kernel
theorem dX10_lawFor_5 : decode cX10_lawFor 5 = .ok (.iaload, 1) := by decide +kernel
theorem dX10_lawFor_6 : decode cX10_lawFor 6 = .ok (.istore_n 2, 1) := by decide +kernel
theorem dX10_lawFor_7 : decode cX10_lawFor 7 = .ok (.iload_n 2, 1) := by decide +kernel
theorem dX10_lawFor_8 : decode cX10_lawFor 8 = .ok (.ifCond .lt 11, 3) := by decide +kernel
theorem dX10_lawFor_11 : decode cX10_lawFor 11 = .ok (.iload_n 2, 1) := by decide +kernel
theorem dX10_lawFor_12 : decode cX10_lawFor 12 = .ok (.aload_n 0, 1) := by decide +kernel
theorem dX10_lawFor_13 : decode cX10_lawFor 13 = .ok (.getfield 93, 3) := by decide +kernel
theorem dX10_lawFor_16 : decode cX10_lawFor 16 = .ok (.if_icmp .lt 7, 3) := by decide +kernel
theorem dX10_lawFor_19 : decode cX10_lawFor 19 = .ok (.aconst_null, 1) := by decide +kernel
theorem dX10_lawFor_20 : decode cX10_lawFor 20 = .ok (.goto 9, 3) := by decide +kernel
theorem dX10_lawFor_23 : decode cX10_lawFor 23 = .ok (.aload_n 0, 1) := by decide +kernel
theorem dX10_lawFor_24 : decode cX10_lawFor 24 = .ok (.getfield 49, 3) := by decide +kernel
theorem dX10_lawFor_27 : decode cX10_lawFor 27 = .ok (.iload_n 2, 1) := by decide +kernel
theorem dX10_lawFor_28 : decode cX10_lawFor 28 = .ok (.aaload, 1) := by decide +kernel
theorem dX10_lawFor_29 : decode cX10_lawFor 29 = .ok (.areturn, 1) := by decide +kernel
theorem dX10_seenOn_0 : decode cX10_seenOn 0 = .ok (.aload_n 0, 1) := by decide +kernel
theorem dX10_seenOn_1 : decode cX10_seenOn 1 = .ok (.getfield 27, 3) := by decide +kernel
theorem dX10_seenOn_4 : decode cX10_seenOn 4 = .ok (.getfield 106, 3) := by decide +kernel
theorem dX10_seenOn_7 : decode cX10_seenOn 7 = .ok (.aload_n 0, 1) := by decide +kernel
theorem dX10_seenOn_8 : decode cX10_seenOn 8 = .ok (.getfield 36, 3) := by decide +kernel
theorem dX10_seenOn_11 : decode cX10_seenOn 11 = .ok (.iload_n 1, 1) := by decide +kernel
theorem dX10_seenOn_12 : decode cX10_seenOn 12 = .ok (.invokevirtual 109, 3) := by decide +kernel
theorem dX10_seenOn_15 : decode cX10_seenOn 15 = .ok (.invokestatic 113, 3) := by decide +kernel
theorem dX10_seenOn_18 : decode cX10_seenOn 18 = .ok (.ireturn, 1) := by decide +kernel
theorem dX10_isWatched_0 : decode cX10_isWatched 0 = .ok (.aload_n 0, 1) := by decide +kernel
theorem dX10_isWatched_1 : decode cX10_isWatched 1 = .ok (.getfield 36, 3) := by decide +kernel
theorem dX10_isWatched_4 : decode cX10_isWatched 4 = .ok (.iload_n 2, 1) := by decide +kernel
theorem dX10_isWatched_5 : decode cX10_isWatched 5 = .ok (.invokevirtual 109, 3) := by decide +kernel
theorem dX10_isWatched_8 : decode cX10_isWatched 8 = .ok (.iload_n 1, 1) := by decide +kernel
theorem dX10_isWatched_9 : decode cX10_isWatched 9 = .ok (.ishr, 1) := by decide +kernel
theorem dX10_isWatched_10 : decode cX10_isWatched 10 = .ok (.iconst 1, 1) := by decide +kernel
theorem dX10_isWatched_11 : decode cX10_isWatched 11 = .ok (.iand, 1) := by decide +kernel
theorem dX10_isWatched_12 : decode cX10_isWatched 12 = .ok (.ifCond .eq 7, 3) := by decide +kernel
theorem dX10_isWatched_15 : decode cX10_isWatched 15 = .ok (.iconst 1, 1) := by decide +kernel
theorem dX10_isWatched_16 : decode cX10_isWatched 16 = .ok (.goto 4, 3) := by decide +kernel
theorem dX10_isWatched_19 : decode cX10_isWatched 19 = .ok (.iconst 0, 1) := by decide +kernel
theorem dX10_isWatched_20 : decode cX10_isWatched 20 = .ok (.ireturn, 1) := by decide +kernel
theorem dX10_lineOf_0 : decode cX10_lineOf 0 = .ok (.aload_n 0, 1) := by decide +kernel
theorem dX10_lineOf_1 : decode cX10_lineOf 1 = .ok (.getfield 27, 3) := by decide +kernel
theorem dX10_lineOf_4 : decode cX10_lineOf 4 = .ok (.getfield 117, 3) := by decide +kernel
theorem dX10_lineOf_7 : decode cX10_lineOf 7 = .ok (.iload_n 1, 1) := by decide +kernel
theorem dX10_lineOf_8 : decode cX10_lineOf 8 = .ok (.iaload, 1) := by decide +kernel
theorem dX10_lineOf_9 : decode cX10_lineOf 9 = .ok (.iload_n 2, 1) := by decide +kernel
theorem dX10_lineOf_10 : decode cX10_lineOf 10 = .ok (.imul, 1) := by decide +kernel
theorem dX10_lineOf_11 : decode cX10_lineOf 11 = .ok (.aload_n 0, 1) := by decide +kernel
theorem dX10_lineOf_12 : decode cX10_lineOf 12 = .ok (.getfield 43, 3) := by decide +kernel
theorem dX10_lineOf_15 : decode cX10_lineOf 15 = .ok (.iload_n 1, 1) := by decide +kernel
theorem dX10_lineOf_16 : decode cX10_lineOf 16 = .ok (.iload_n 2, 1) := by decide +kernel
theorem dX10_lineOf_17 : decode cX10_lineOf 17 = .ok (.invokevirtual 120, 3) := by decide +kernel
theorem dX10_lineOf_20 : decode cX10_lineOf 20 = .ok (.iadd, 1) := by decide +kernel
theorem dX10_lineOf_21 : decode cX10_lineOf 21 = .ok (.ireturn, 1) := by decide +kernel
theorem dX10_isWithin_0 : decode cX10_isWithin 0 = .ok (.iload_n 1, 1) := by decide +kernel
theorem dX10_isWithin_1 : decode cX10_isWithin 1 = .ok (.invokestatic 124, 3) := by decide +kernel
theorem dX10_isWithin_4 : decode cX10_isWithin 4 = .ok (.aload_n 0, 1) := by decide +kernel
theorem dX10_isWithin_5 : decode cX10_isWithin 5 = .ok (.getfield 15, 3) := by decide +kernel
theorem dX10_isWithin_8 : decode cX10_isWithin 8 = .ok (.isub, 1) := by decide +kernel
theorem dX10_isWithin_9 : decode cX10_isWithin 9 = .ok (.invokestatic 124, 3) := by decide +kernel
theorem dX10_isWithin_12 : decode cX10_isWithin 12 = .ok (.iload_n 2, 1) := by decide +kernel
theorem dX10_isWithin_13 : decode cX10_isWithin 13 = .ok (.if_icmp .gt 7, 3) := by decide +kernel
theorem dX10_isWithin_16 : decode cX10_isWithin 16 = .ok (.iconst 1, 1) := by decide +kernel
theorem dX10_isWithin_17 : decode cX10_isWithin 17 = .ok (.goto 4, 3) := by decide +kernel
theorem dX10_isWithin_20 : decode cX10_isWithin 20 = .ok (.iconst 0, 1) := by decide +kernel
theorem dX10_isWithin_21 : decode cX10_isWithin 21 = .ok (.ireturn, 1) := by decide +kernel
theorem dX10_knocksWithin_0 : decode cX10_knocksWithin 0 = .ok (.iconst 0, 1) := by decide +kernel
theorem dX10_knocksWithin_1 : decode cX10_knocksWithin 1 = .ok (.istore_n 2, 1) := by decide +kernel
theorem dX10_knocksWithin_2 : decode cX10_knocksWithin 2 = .ok (.iconst 0, 1) := by decide +kernel
theorem dX10_knocksWithin_3 : decode cX10_knocksWithin 3 = .ok (.istore_n 3, 1) := by decide +kernel
theorem dX10_knocksWithin_4 : decode cX10_knocksWithin 4 = .ok (.iload_n 3, 1) := by decide +kernel
theorem dX10_knocksWithin_5 : decode cX10_knocksWithin 5 = .ok (.aload_n 0, 1) := by decide +kernel
theorem dX10_knocksWithin_6 : decode cX10_knocksWithin 6 = .ok (.getfield 96, 3) := by decide +kernel
theorem dX10_knocksWithin_9 : decode cX10_knocksWithin 9 = .ok (.if_icmp .ge 26, 3) := by decide +kernel
theorem dX10_knocksWithin_12 : decode cX10_knocksWithin 12 = .ok (.aload_n 0, 1) := by decide +kernel
theorem dX10_knocksWithin_13 : decode cX10_knocksWithin 13 = .ok (.aload_n 0, 1) := by decide +kernel
theorem dX10_knocksWithin_14 : decode cX10_knocksWithin 14 = .ok (.getfield 58, 3) := by decide +kernel
theorem dX10_knocksWithin_17 : decode cX10_knocksWithin 17 = .ok (.iload_n 3, 1) := by decide +kernel
theorem dX10_knocksWithin_18 : decode cX10_knocksWithin 18 = .ok (.iaload, 1) := by decide +kernel
theorem dX10_knocksWithin_19 : decode cX10_knocksWithin 19 = .ok (.iload_n 1, 1) := by decide +kernel
theorem dX10_knocksWithin_20 : decode cX10_knocksWithin 20 = .ok (.invokevirtual 129, 3) := by decide +kernel
theorem dX10_knocksWithin_23 : decode cX10_knocksWithin 23 = .ok (.ifCond .eq 6, 3) := by decide +kernel
theorem dX10_knocksWithin_26 : decode cX10_knocksWithin 26 = .ok (.iinc 2 1, 3) := by decide +kernel
theorem dX10_knocksWithin_29 : decode cX10_knocksWithin 29 = .ok (.iinc 3 1, 3) := by decide +kernel
theorem dX10_knocksWithin_32 : decode cX10_knocksWithin 32 = .ok (.goto (-28), 3) := by decide +kernel
theorem dX10_knocksWithin_35 : decode cX10_knocksWithin 35 = .ok (.iload_n 2, 1) := by decide +kernel
theorem dX10_knocksWithin_36 : decode cX10_knocksWithin 36 = .ok (.ireturn, 1) := by decide +kernel
theorem dX10_stepFits_0 : decode cX10_stepFits 0 = .ok (.aload_n 0, 1) := by decide +kernel
theorem dX10_stepFits_1 : decode cX10_stepFits 1 = .ok (.getfield 43, 3) := by decide +kernel
theorem dX10_stepFits_4 : decode cX10_stepFits 4 = .ok (.getfield 133, 3) := by decide +kernel
theorem dX10_stepFits_7 : decode cX10_stepFits 7 = .ok (.iload_n 1, 1) := by decide +kernel
theorem dX10_stepFits_8 : decode cX10_stepFits 8 = .ok (.iaload, 1) := by decide +kernel
theorem dX10_stepFits_9 : decode cX10_stepFits 9 = .ok (.istore_n 2, 1) := by decide +kernel
theorem dX10_stepFits_10 : decode cX10_stepFits 10 = .ok (.aload_n 0, 1) := by decide +kernel
theorem dX10_stepFits_11 : decode cX10_stepFits 11 = .ok (.iload_n 2, 1) := by decide +kernel
theorem dX10_stepFits_12 : decode cX10_stepFits 12 = .ok (.aload_n 0, 1) := by decide +kernel
theorem dX10_stepFits_13 : decode cX10_stepFits 13 = .ok (.getfield 18, 3) := by decide +kernel
theorem dX10_stepFits_16 : decode cX10_stepFits 16 = .ok (.invokevirtual 129, 3) := by decide +kernel
theorem dX10_stepFits_19 : decode cX10_stepFits 19 = .ok (.ifCond .ne 5, 3) := by decide +kernel
theorem dX10_stepFits_22 : decode cX10_stepFits 22 = .ok (.iconst 0, 1) := by decide +kernel
theorem dX10_stepFits_23 : decode cX10_stepFits 23 = .ok (.ireturn, 1) := by decide +kernel
theorem dX10_stepFits_24 : decode cX10_stepFits 24 = .ok (.aload_n 0, 1) := by decide +kernel
theorem dX10_stepFits_25 : decode cX10_stepFits 25 = .ok (.getfield 43, 3) := by decide +kernel
theorem dX10_stepFits_28 : decode cX10_stepFits 28 = .ok (.getfield 136, 3) := by decide +kernel
theorem dX10_stepFits_31 : decode cX10_stepFits 31 = .ok (.iload_n 1, 1) := by decide +kernel
theorem dX10_stepFits_32 : decode cX10_stepFits 32 = .ok (.iaload, 1) := by decide +kernel
theorem dX10_stepFits_33 : decode cX10_stepFits 33 = .ok (.tableswitch 113 1 5 #[35, 113, 45, 80, 82], 35) := by decide +kernel
theorem dX10_stepFits_68 : decode cX10_stepFits 68 = .ok (.iload_n 2, 1) := by decide +kernel
theorem dX10_stepFits_69 : decode cX10_stepFits 69 = .ok (.ifCond .le 7, 3) := by decide +kernel
theorem dX10_stepFits_72 : decode cX10_stepFits 72 = .ok (.iconst 1, 1) := by decide +kernel
theorem dX10_stepFits_73 : decode cX10_stepFits 73 = .ok (.goto 4, 3) := by decide +kernel
theorem dX10_stepFits_76 : decode cX10_stepFits 76 = .ok (.iconst 0, 1) := by decide +kernel
theorem dX10_stepFits_77 : decode cX10_stepFits 77 = .ok (.ireturn, 1) := by decide +kernel
theorem dX10_stepFits_78 : decode cX10_stepFits 78 = .ok (.iload_n 2, 1) := by decide +kernel
theorem dX10_stepFits_79 : decode cX10_stepFits 79 = .ok (.ifCond .le 32, 3) := by decide +kernel
theorem dX10_stepFits_82 : decode cX10_stepFits 82 = .ok (.aload_n 0, 1) := by decide +kernel
theorem dX10_stepFits_83 : decode cX10_stepFits 83 = .ok (.aload_n 0, 1) := by decide +kernel
theorem dX10_stepFits_84 : decode cX10_stepFits 84 = .ok (.getfield 43, 3) := by decide +kernel
theorem dX10_stepFits_87 : decode cX10_stepFits 87 = .ok (.getfield 139, 3) := by decide +kernel
theorem dX10_stepFits_90 : decode cX10_stepFits 90 = .ok (.iload_n 1, 1) := by decide +kernel
theorem dX10_stepFits_91 : decode cX10_stepFits 91 = .ok (.iaload, 1) := by decide +kernel
theorem dX10_stepFits_92 : decode cX10_stepFits 92 = .ok (.aload_n 0, 1) := by decide +kernel
theorem dX10_stepFits_93 : decode cX10_stepFits 93 = .ok (.getfield 43, 3) := by decide +kernel
theorem dX10_stepFits_96 : decode cX10_stepFits 96 = .ok (.getfield 142, 3) := by decide +kernel
theorem dX10_stepFits_99 : decode cX10_stepFits 99 = .ok (.iload_n 1, 1) := by decide +kernel
theorem dX10_stepFits_100 : decode cX10_stepFits 100 = .ok (.iaload, 1) := by decide +kernel
theorem dX10_stepFits_101 : decode cX10_stepFits 101 = .ok (.invokevirtual 144, 3) := by decide +kernel
theorem dX10_stepFits_104 : decode cX10_stepFits 104 = .ok (.ifCond .eq 7, 3) := by decide +kernel
theorem dX10_stepFits_107 : decode cX10_stepFits 107 = .ok (.iconst 1, 1) := by decide +kernel
theorem dX10_stepFits_108 : decode cX10_stepFits 108 = .ok (.goto 4, 3) := by decide +kernel
theorem dX10_stepFits_111 : decode cX10_stepFits 111 = .ok (.iconst 0, 1) := by decide +kernel
theorem dX10_stepFits_112 : decode cX10_stepFits 112 = .ok (.ireturn, 1) := by decide +kernel
theorem dX10_stepFits_113 : decode cX10_stepFits 113 = .ok (.iconst 0, 1) := by decide +kernel
theorem dX10_stepFits_114 : decode cX10_stepFits 114 = .ok (.ireturn, 1) := by decide +kernel
theorem dX10_stepFits_115 : decode cX10_stepFits 115 = .ok (.aload_n 0, 1) := by decide +kernel
theorem dX10_stepFits_116 : decode cX10_stepFits 116 = .ok (.aload_n 0, 1) := by decide +kernel
theorem dX10_stepFits_117 : decode cX10_stepFits 117 = .ok (.getfield 43, 3) := by decide +kernel
theorem dX10_stepFits_120 : decode cX10_stepFits 120 = .ok (.getfield 139, 3) := by decide +kernel
theorem dX10_stepFits_123 : decode cX10_stepFits 123 = .ok (.iload_n 1, 1) := by decide +kernel
theorem dX10_stepFits_124 : decode cX10_stepFits 124 = .ok (.iaload, 1) := by decide +kernel
theorem dX10_stepFits_125 : decode cX10_stepFits 125 = .ok (.aload_n 0, 1) := by decide +kernel
theorem dX10_stepFits_126 : decode cX10_stepFits 126 = .ok (.getfield 43, 3) := by decide +kernel
theorem dX10_stepFits_129 : decode cX10_stepFits 129 = .ok (.getfield 142, 3) := by decide +kernel
theorem dX10_stepFits_132 : decode cX10_stepFits 132 = .ok (.iload_n 1, 1) := by decide +kernel
theorem dX10_stepFits_133 : decode cX10_stepFits 133 = .ok (.iaload, 1) := by decide +kernel
theorem dX10_stepFits_134 : decode cX10_stepFits 134 = .ok (.invokevirtual 147, 3) := by decide +kernel
theorem dX10_stepFits_137 : decode cX10_stepFits 137 = .ok (.ifCond .ne 7, 3) := by decide +kernel
theorem dX10_stepFits_140 : decode cX10_stepFits 140 = .ok (.iconst 1, 1) := by decide +kernel
theorem dX10_stepFits_141 : decode cX10_stepFits 141 = .ok (.goto 4, 3) := by decide +kernel
theorem dX10_stepFits_144 : decode cX10_stepFits 144 = .ok (.iconst 0, 1) := by decide +kernel
theorem dX10_stepFits_145 : decode cX10_stepFits 145 = .ok (.ireturn, 1) := by decide +kernel
theorem dX10_stepFits_146 : decode cX10_stepFits 146 = .ok (.iconst 1, 1) := by decide +kernel
theorem dX10_stepFits_147 : decode cX10_stepFits 147 = .ok (.ireturn, 1) := by decide +kernel
theorem dX10_mateSteps_0 : decode cX10_mateSteps 0 = .ok (.aload_n 0, 1) := by decide +kernel
theorem dX10_mateSteps_1 : decode cX10_mateSteps 1 = .ok (.getfield 27, 3) := by decide +kernel
theorem dX10_mateSteps_4 : decode cX10_mateSteps 4 = .ok (.getfield 150, 3) := by decide +kernel
theorem dX10_mateSteps_7 : decode cX10_mateSteps 7 = .ok (.iload_n 1, 1) := by decide +kernel
theorem dX10_mateSteps_8 : decode cX10_mateSteps 8 = .ok (.iaload, 1) := by decide +kernel
theorem dX10_mateSteps_9 : decode cX10_mateSteps 9 = .ok (.istore_n 3, 1) := by decide +kernel
theorem dX10_mateSteps_10 : decode cX10_mateSteps 10 = .ok (.iload_n 3, 1) := by decide +kernel
theorem dX10_mateSteps_11 : decode cX10_mateSteps 11 = .ok (.ldc 53, 2) := by decide +kernel
theorem dX10_mateSteps_13 : decode cX10_mateSteps 13 = .ok (.if_icmp .eq 19, 3) := by decide +kernel
theorem dX10_mateSteps_16 : decode cX10_mateSteps 16 = .ok (.aload_n 0, 1) := by decide +kernel
theorem dX10_mateSteps_17 : decode cX10_mateSteps 17 = .ok (.getfield 43, 3) := by decide +kernel
theorem dX10_mateSteps_20 : decode cX10_mateSteps 20 = .ok (.iload_n 3, 1) := by decide +kernel
theorem dX10_mateSteps_21 : decode cX10_mateSteps 21 = .ok (.iload_n 2, 1) := by decide +kernel
theorem dX10_mateSteps_22 : decode cX10_mateSteps 22 = .ok (.invokevirtual 153, 3) := by decide +kernel
theorem dX10_mateSteps_25 : decode cX10_mateSteps 25 = .ok (.ifCond .eq 7, 3) := by decide +kernel
theorem dX10_mateSteps_28 : decode cX10_mateSteps 28 = .ok (.iconst 1, 1) := by decide +kernel
theorem dX10_mateSteps_29 : decode cX10_mateSteps 29 = .ok (.goto 4, 3) := by decide +kernel
theorem dX10_mateSteps_32 : decode cX10_mateSteps 32 = .ok (.iconst 0, 1) := by decide +kernel
theorem dX10_mateSteps_33 : decode cX10_mateSteps 33 = .ok (.ireturn, 1) := by decide +kernel
theorem dX10_hasFit_0 : decode cX10_hasFit 0 = .ok (.iconst 0, 1) := by decide +kernel
theorem dX10_hasFit_1 : decode cX10_hasFit 1 = .ok (.istore_n 2, 1) := by decide +kernel
theorem dX10_hasFit_2 : decode cX10_hasFit 2 = .ok (.iload_n 2, 1) := by decide +kernel
theorem dX10_hasFit_3 : decode cX10_hasFit 3 = .ok (.aload_n 0, 1) := by decide +kernel
theorem dX10_hasFit_4 : decode cX10_hasFit 4 = .ok (.getfield 43, 3) := by decide +kernel
theorem dX10_hasFit_7 : decode cX10_hasFit 7 = .ok (.getfield 156, 3) := by decide +kernel
theorem dX10_hasFit_10 : decode cX10_hasFit 10 = .ok (.if_icmp .ge 32, 3) := by decide +kernel
theorem dX10_hasFit_13 : decode cX10_hasFit 13 = .ok (.aload_n 0, 1) := by decide +kernel
theorem dX10_hasFit_14 : decode cX10_hasFit 14 = .ok (.getfield 43, 3) := by decide +kernel
theorem dX10_hasFit_17 : decode cX10_hasFit 17 = .ok (.getfield 142, 3) := by decide +kernel
theorem dX10_hasFit_20 : decode cX10_hasFit 20 = .ok (.iload_n 2, 1) := by decide +kernel
theorem dX10_hasFit_21 : decode cX10_hasFit 21 = .ok (.iaload, 1) := by decide +kernel
theorem dX10_hasFit_22 : decode cX10_hasFit 22 = .ok (.iload_n 1, 1) := by decide +kernel
theorem dX10_hasFit_23 : decode cX10_hasFit 23 = .ok (.if_icmp .ne 13, 3) := by decide +kernel
theorem dX10_hasFit_26 : decode cX10_hasFit 26 = .ok (.aload_n 0, 1) := by decide +kernel
theorem dX10_hasFit_27 : decode cX10_hasFit 27 = .ok (.iload_n 2, 1) := by decide +kernel
theorem dX10_hasFit_28 : decode cX10_hasFit 28 = .ok (.invokevirtual 159, 3) := by decide +kernel
theorem dX10_hasFit_31 : decode cX10_hasFit 31 = .ok (.ifCond .eq 5, 3) := by decide +kernel
theorem dX10_hasFit_34 : decode cX10_hasFit 34 = .ok (.iconst 1, 1) := by decide +kernel
theorem dX10_hasFit_35 : decode cX10_hasFit 35 = .ok (.ireturn, 1) := by decide +kernel
theorem dX10_hasFit_36 : decode cX10_hasFit 36 = .ok (.iinc 2 1, 3) := by decide +kernel
theorem dX10_hasFit_39 : decode cX10_hasFit 39 = .ok (.goto (-37), 3) := by decide +kernel
theorem dX10_hasFit_42 : decode cX10_hasFit 42 = .ok (.iconst 0, 1) := by decide +kernel
theorem dX10_hasFit_43 : decode cX10_hasFit 43 = .ok (.ireturn, 1) := by decide +kernel
theorem dX10_rateOn_0 : decode cX10_rateOn 0 = .ok (.aload_n 0, 1) := by decide +kernel
theorem dX10_rateOn_1 : decode cX10_rateOn 1 = .ok (.iconst 0, 1) := by decide +kernel
theorem dX10_rateOn_2 : decode cX10_rateOn 2 = .ok (.invokevirtual 163, 3) := by decide +kernel
theorem dX10_rateOn_5 : decode cX10_rateOn 5 = .ok (.astore_n 3, 1) := by decide +kernel
theorem dX10_rateOn_6 : decode cX10_rateOn 6 = .ok (.aload_n 3, 1) := by decide +kernel
theorem dX10_rateOn_7 : decode cX10_rateOn 7 = .ok (.ifnonnull 7, 3) := by decide +kernel
theorem dX10_rateOn_10 : decode cX10_rateOn 10 = .ok (.iload_n 2, 1) := by decide +kernel
theorem dX10_rateOn_11 : decode cX10_rateOn 11 = .ok (.goto 10, 3) := by decide +kernel
theorem dX10_rateOn_14 : decode cX10_rateOn 14 = .ok (.aload_n 3, 1) := by decide +kernel
theorem dX10_rateOn_15 : decode cX10_rateOn 15 = .ok (.iload_n 1, 1) := by decide +kernel
theorem dX10_rateOn_16 : decode cX10_rateOn 16 = .ok (.iload_n 2, 1) := by decide +kernel
theorem dX10_rateOn_17 : decode cX10_rateOn 17 = .ok (.aload_n 0, 1) := by decide +kernel
theorem dX10_rateOn_18 : decode cX10_rateOn 18 = .ok (.invokevirtual 167, 3) := by decide +kernel
theorem dX10_rateOn_21 : decode cX10_rateOn 21 = .ok (.invokestatic 171, 3) := by decide +kernel
theorem dX10_rateOn_24 : decode cX10_rateOn 24 = .ok (.ireturn, 1) := by decide +kernel
theorem dX10_knockOn_0 : decode cX10_knockOn 0 = .ok (.aload_n 0, 1) := by decide +kernel
theorem dX10_knockOn_1 : decode cX10_knockOn 1 = .ok (.iconst 1, 1) := by decide +kernel
theorem dX10_knockOn_2 : decode cX10_knockOn 2 = .ok (.invokevirtual 163, 3) := by decide +kernel
theorem dX10_knockOn_5 : decode cX10_knockOn 5 = .ok (.astore_n 3, 1) := by decide +kernel
theorem dX10_knockOn_6 : decode cX10_knockOn 6 = .ok (.aload_n 3, 1) := by decide +kernel
theorem dX10_knockOn_7 : decode cX10_knockOn 7 = .ok (.ifnonnull 7, 3) := by decide +kernel
theorem dX10_knockOn_10 : decode cX10_knockOn 10 = .ok (.iconst 1, 1) := by decide +kernel
theorem dX10_knockOn_11 : decode cX10_knockOn 11 = .ok (.goto 13, 3) := by decide +kernel
theorem dX10_knockOn_14 : decode cX10_knockOn 14 = .ok (.aload_n 3, 1) := by decide +kernel
theorem dX10_knockOn_15 : decode cX10_knockOn 15 = .ok (.iload_n 1, 1) := by decide +kernel
theorem dX10_knockOn_16 : decode cX10_knockOn 16 = .ok (.iload_n 2, 1) := by decide +kernel
theorem dX10_knockOn_17 : decode cX10_knockOn 17 = .ok (.aload_n 0, 1) := by decide +kernel
theorem dX10_knockOn_18 : decode cX10_knockOn 18 = .ok (.invokevirtual 167, 3) := by decide +kernel
theorem dX10_knockOn_21 : decode cX10_knockOn 21 = .ok (.invokestatic 171, 3) := by decide +kernel
theorem dX10_knockOn_24 : decode cX10_knockOn 24 = .ok (.ireturn, 1) := by decide +kernel
theorem dX10_believedBehind_0 : decode cX10_believedBehind 0 = .ok (.aload_n 0, 1) := by decide +kernel
theorem dX10_believedBehind_1 : decode cX10_believedBehind 1 = .ok (.iload_n 2, 1) := by decide +kernel
theorem dX10_believedBehind_2 : decode cX10_believedBehind 2 = .ok (.invokevirtual 174, 3) := by decide +kernel
theorem dX10_believedBehind_5 : decode cX10_believedBehind 5 = .ok (.istore_n 3, 1) := by decide +kernel
theorem dX10_believedBehind_6 : decode cX10_believedBehind 6 = .ok (.iload_n 1, 1) := by decide +kernel
theorem dX10_believedBehind_7 : decode cX10_believedBehind 7 = .ok (.aload_n 0, 1) := by decide +kernel
theorem dX10_believedBehind_8 : decode cX10_believedBehind 8 = .ok (.iload_n 2, 1) := by decide +kernel
theorem dX10_believedBehind_9 : decode cX10_believedBehind 9 = .ok (.iload_n 3, 1) := by decide +kernel
theorem dX10_believedBehind_10 : decode cX10_believedBehind 10 = .ok (.invokevirtual 177, 3) := by decide +kernel
theorem dX10_believedBehind_13 : decode cX10_believedBehind 13 = .ok (.aload_n 0, 1) := by decide +kernel
theorem dX10_believedBehind_14 : decode cX10_believedBehind 14 = .ok (.iload_n 2, 1) := by decide +kernel
theorem dX10_believedBehind_15 : decode cX10_believedBehind 15 = .ok (.iload_n 3, 1) := by decide +kernel
theorem dX10_believedBehind_16 : decode cX10_believedBehind 16 = .ok (.invokevirtual 180, 3) := by decide +kernel
theorem dX10_believedBehind_19 : decode cX10_believedBehind 19 = .ok (.aload_n 0, 1) := by decide +kernel
theorem dX10_believedBehind_20 : decode cX10_believedBehind 20 = .ok (.iload_n 2, 1) := by decide +kernel
theorem dX10_believedBehind_21 : decode cX10_believedBehind 21 = .ok (.invokevirtual 183, 3) := by decide +kernel
theorem dX10_believedBehind_24 : decode cX10_believedBehind 24 = .ok (.invokestatic 186, 3) := by decide +kernel
theorem dX10_believedBehind_27 : decode cX10_believedBehind 27 = .ok (.ireturn, 1) := by decide +kernel
theorem dX10_nextDraw_0 : decode cX10_nextDraw 0 = .ok (.aload_n 0, 1) := by decide +kernel
theorem dX10_nextDraw_1 : decode cX10_nextDraw 1 = .ok (.aload_n 0, 1) := by decide +kernel
theorem dX10_nextDraw_2 : decode cX10_nextDraw 2 = .ok (.getfield 21, 3) := by decide +kernel
theorem dX10_nextDraw_5 : decode cX10_nextDraw 5 = .ok (.ldc 190, 2) := by decide +kernel
theorem dX10_nextDraw_7 : decode cX10_nextDraw 7 = .ok (.imul, 1) := by decide +kernel
theorem dX10_nextDraw_8 : decode cX10_nextDraw 8 = .ok (.sipush 12345, 3) := by decide +kernel
theorem dX10_nextDraw_11 : decode cX10_nextDraw 11 = .ok (.iadd, 1) := by decide +kernel
theorem dX10_nextDraw_12 : decode cX10_nextDraw 12 = .ok (.putfield 21, 3) := by decide +kernel
theorem dX10_nextDraw_15 : decode cX10_nextDraw 15 = .ok (.aload_n 0, 1) := by decide +kernel
theorem dX10_nextDraw_16 : decode cX10_nextDraw 16 = .ok (.getfield 21, 3) := by decide +kernel
theorem dX10_nextDraw_19 : decode cX10_nextDraw 19 = .ok (.bipush 8, 2) := by decide +kernel
theorem dX10_nextDraw_21 : decode cX10_nextDraw 21 = .ok (.iushr, 1) := by decide +kernel
theorem dX10_nextDraw_22 : decode cX10_nextDraw 22 = .ok (.ireturn, 1) := by decide +kernel
theorem dX10_passDay_0 : decode cX10_passDay 0 = .ok (.aload_n 0, 1) := by decide +kernel
theorem dX10_passDay_1 : decode cX10_passDay 1 = .ok (.getfield 36, 3) := by decide +kernel
theorem dX10_passDay_4 : decode cX10_passDay 4 = .ok (.aload_n 0, 1) := by decide +kernel
theorem dX10_passDay_5 : decode cX10_passDay 5 = .ok (.getfield 71, 3) := by decide +kernel
theorem dX10_passDay_8 : decode cX10_passDay 8 = .ok (.invokevirtual 109, 3) := by decide +kernel
theorem dX10_passDay_11 : decode cX10_passDay 11 = .ok (.istore_n 1, 1) := by decide +kernel
theorem dX10_passDay_12 : decode cX10_passDay 12 = .ok (.aload_n 0, 1) := by decide +kernel
theorem dX10_passDay_13 : decode cX10_passDay 13 = .ok (.getfield 27, 3) := by decide +kernel
theorem dX10_passDay_16 : decode cX10_passDay 16 = .ok (.getfield 106, 3) := by decide +kernel
theorem dX10_passDay_19 : decode cX10_passDay 19 = .ok (.iload_n 1, 1) := by decide +kernel
theorem dX10_passDay_20 : decode cX10_passDay 20 = .ok (.invokestatic 113, 3) := by decide +kernel
theorem dX10_passDay_23 : decode cX10_passDay 23 = .ok (.istore_n 2, 1) := by decide +kernel
theorem dX10_passDay_24 : decode cX10_passDay 24 = .ok (.aload_n 0, 1) := by decide +kernel
theorem dX10_passDay_25 : decode cX10_passDay 25 = .ok (.aload_n 0, 1) := by decide +kernel
theorem dX10_passDay_26 : decode cX10_passDay 26 = .ok (.getfield 71, 3) := by decide +kernel
theorem dX10_passDay_29 : decode cX10_passDay 29 = .ok (.iload_n 2, 1) := by decide +kernel
theorem dX10_passDay_30 : decode cX10_passDay 30 = .ok (.invokevirtual 177, 3) := by decide +kernel
theorem dX10_passDay_33 : decode cX10_passDay 33 = .ok (.istore_n 3, 1) := by decide +kernel
theorem dX10_passDay_34 : decode cX10_passDay 34 = .ok (.aload_n 0, 1) := by decide +kernel
theorem dX10_passDay_35 : decode cX10_passDay 35 = .ok (.aload_n 0, 1) := by decide +kernel
theorem dX10_passDay_36 : decode cX10_passDay 36 = .ok (.getfield 71, 3) := by decide +kernel
theorem dX10_passDay_39 : decode cX10_passDay 39 = .ok (.iload_n 2, 1) := by decide +kernel
theorem dX10_passDay_40 : decode cX10_passDay 40 = .ok (.invokevirtual 180, 3) := by decide +kernel
theorem dX10_passDay_43 : decode cX10_passDay 43 = .ok (.istore 4, 2) := by decide +kernel
theorem dX10_passDay_45 : decode cX10_passDay 45 = .ok (.aload_n 0, 1) := by decide +kernel
theorem dX10_passDay_46 : decode cX10_passDay 46 = .ok (.getfield 74, 3) := by decide +kernel
theorem dX10_passDay_49 : decode cX10_passDay 49 = .ok (.iconst 1, 1) := by decide +kernel
theorem dX10_passDay_50 : decode cX10_passDay 50 = .ok (.if_icmp .ne 9, 3) := by decide +kernel
theorem dX10_passDay_53 : decode cX10_passDay 53 = .ok (.aload_n 0, 1) := by decide +kernel
theorem dX10_passDay_54 : decode cX10_passDay 54 = .ok (.iload_n 1, 1) := by decide +kernel
theorem dX10_passDay_55 : decode cX10_passDay 55 = .ok (.iload_n 3, 1) := by decide +kernel
theorem dX10_passDay_56 : decode cX10_passDay 56 = .ok (.invokevirtual 191, 3) := by decide +kernel
theorem dX10_passDay_59 : decode cX10_passDay 59 = .ok (.aload_n 0, 1) := by decide +kernel
theorem dX10_passDay_60 : decode cX10_passDay 60 = .ok (.iload_n 1, 1) := by decide +kernel
theorem dX10_passDay_61 : decode cX10_passDay 61 = .ok (.iload 4, 2) := by decide +kernel
theorem dX10_passDay_63 : decode cX10_passDay 63 = .ok (.invokevirtual 195, 3) := by decide +kernel
theorem dX10_passDay_66 : decode cX10_passDay 66 = .ok (.aload_n 0, 1) := by decide +kernel
theorem dX10_passDay_67 : decode cX10_passDay 67 = .ok (.aload_n 0, 1) := by decide +kernel
theorem dX10_passDay_68 : decode cX10_passDay 68 = .ok (.getfield 9, 3) := by decide +kernel
theorem dX10_passDay_71 : decode cX10_passDay 71 = .ok (.iload_n 3, 1) := by decide +kernel
theorem dX10_passDay_72 : decode cX10_passDay 72 = .ok (.iload 4, 2) := by decide +kernel
theorem dX10_passDay_74 : decode cX10_passDay 74 = .ok (.aload_n 0, 1) := by decide +kernel
theorem dX10_passDay_75 : decode cX10_passDay 75 = .ok (.aload_n 0, 1) := by decide +kernel
theorem dX10_passDay_76 : decode cX10_passDay 76 = .ok (.getfield 71, 3) := by decide +kernel
theorem dX10_passDay_79 : decode cX10_passDay 79 = .ok (.invokevirtual 183, 3) := by decide +kernel
theorem dX10_passDay_82 : decode cX10_passDay 82 = .ok (.invokestatic 186, 3) := by decide +kernel
theorem dX10_passDay_85 : decode cX10_passDay 85 = .ok (.putfield 9, 3) := by decide +kernel
theorem dX10_passDay_88 : decode cX10_passDay 88 = .ok (.aload_n 0, 1) := by decide +kernel
theorem dX10_passDay_89 : decode cX10_passDay 89 = .ok (.dup, 1) := by decide +kernel
theorem dX10_passDay_90 : decode cX10_passDay 90 = .ok (.getfield 71, 3) := by decide +kernel
theorem dX10_passDay_93 : decode cX10_passDay 93 = .ok (.iconst 1, 1) := by decide +kernel
theorem dX10_passDay_94 : decode cX10_passDay 94 = .ok (.iadd, 1) := by decide +kernel
theorem dX10_passDay_95 : decode cX10_passDay 95 = .ok (.putfield 71, 3) := by decide +kernel
theorem dX10_passDay_98 : decode cX10_passDay 98 = .ok (.return_, 1) := by decide +kernel
theorem dX10_drawJust_0 : decode cX10_drawJust 0 = .ok (.aload_n 0, 1) := by decide +kernel
theorem dX10_drawJust_1 : decode cX10_drawJust 1 = .ok (.invokevirtual 198, 3) := by decide +kernel
theorem dX10_drawJust_4 : decode cX10_drawJust 4 = .ok (.sipush 1000, 3) := by decide +kernel
theorem dX10_drawJust_7 : decode cX10_drawJust 7 = .ok (.irem, 1) := by decide +kernel
theorem dX10_drawJust_8 : decode cX10_drawJust 8 = .ok (.iload_n 2, 1) := by decide +kernel
theorem dX10_drawJust_9 : decode cX10_drawJust 9 = .ok (.if_icmp .ge 7, 3) := by decide +kernel
theorem dX10_drawJust_12 : decode cX10_drawJust 12 = .ok (.iconst 1, 1) := by decide +kernel
theorem dX10_drawJust_13 : decode cX10_drawJust 13 = .ok (.goto 4, 3) := by decide +kernel
theorem dX10_drawJust_16 : decode cX10_drawJust 16 = .ok (.iconst 0, 1) := by decide +kernel
theorem dX10_drawJust_17 : decode cX10_drawJust 17 = .ok (.istore_n 3, 1) := by decide +kernel
theorem dX10_drawJust_18 : decode cX10_drawJust 18 = .ok (.iload_n 3, 1) := by decide +kernel
theorem dX10_drawJust_19 : decode cX10_drawJust 19 = .ok (.ifCond .eq 39, 3) := by decide +kernel
theorem dX10_drawJust_22 : decode cX10_drawJust 22 = .ok (.iload_n 1, 1) := by decide +kernel
theorem dX10_drawJust_23 : decode cX10_drawJust 23 = .ok (.ifCond .eq 35, 3) := by decide +kernel
theorem dX10_drawJust_26 : decode cX10_drawJust 26 = .ok (.aload_n 0, 1) := by decide +kernel
theorem dX10_drawJust_27 : decode cX10_drawJust 27 = .ok (.getfield 43, 3) := by decide +kernel
theorem dX10_drawJust_30 : decode cX10_drawJust 30 = .ok (.invokevirtual 202, 3) := by decide +kernel
theorem dX10_drawJust_33 : decode cX10_drawJust 33 = .ok (.ifCond .ne 25, 3) := by decide +kernel
theorem dX10_drawJust_36 : decode cX10_drawJust 36 = .ok (.aload_n 0, 1) := by decide +kernel
theorem dX10_drawJust_37 : decode cX10_drawJust 37 = .ok (.getfield 43, 3) := by decide +kernel
theorem dX10_drawJust_40 : decode cX10_drawJust 40 = .ok (.iconst 1, 1) := by decide +kernel
theorem dX10_drawJust_41 : decode cX10_drawJust 41 = .ok (.iload_n 1, 1) := by decide +kernel
theorem dX10_drawJust_42 : decode cX10_drawJust 42 = .ok (.iconst 0, 1) := by decide +kernel
theorem dX10_drawJust_43 : decode cX10_drawJust 43 = .ok (.invokestatic 206, 3) := by decide +kernel
theorem dX10_drawJust_46 : decode cX10_drawJust 46 = .ok (.aload_n 0, 1) := by decide +kernel
theorem dX10_drawJust_47 : decode cX10_drawJust 47 = .ok (.getfield 71, 3) := by decide +kernel
theorem dX10_drawJust_50 : decode cX10_drawJust 50 = .ok (.aload_n 0, 1) := by decide +kernel
theorem dX10_drawJust_51 : decode cX10_drawJust 51 = .ok (.getfield 15, 3) := by decide +kernel
theorem dX10_drawJust_54 : decode cX10_drawJust 54 = .ok (.invokevirtual 209, 3) := by decide +kernel
theorem dX10_drawJust_57 : decode cX10_drawJust 57 = .ok (.pop, 1) := by decide +kernel
theorem dX10_drawJust_58 : decode cX10_drawJust 58 = .ok (.return_, 1) := by decide +kernel
theorem dX10_drawKnocked_0 : decode cX10_drawKnocked 0 = .ok (.aload_n 0, 1) := by decide +kernel
theorem dX10_drawKnocked_1 : decode cX10_drawKnocked 1 = .ok (.invokevirtual 198, 3) := by decide +kernel
theorem dX10_drawKnocked_4 : decode cX10_drawKnocked 4 = .ok (.sipush 1000, 3) := by decide +kernel
theorem dX10_drawKnocked_7 : decode cX10_drawKnocked 7 = .ok (.irem, 1) := by decide +kernel
theorem dX10_drawKnocked_8 : decode cX10_drawKnocked 8 = .ok (.iload_n 2, 1) := by decide +kernel
theorem dX10_drawKnocked_9 : decode cX10_drawKnocked 9 = .ok (.if_icmp .ge 7, 3) := by decide +kernel
theorem dX10_drawKnocked_12 : decode cX10_drawKnocked 12 = .ok (.iconst 1, 1) := by decide +kernel
theorem dX10_drawKnocked_13 : decode cX10_drawKnocked 13 = .ok (.goto 4, 3) := by decide +kernel
theorem dX10_drawKnocked_16 : decode cX10_drawKnocked 16 = .ok (.iconst 0, 1) := by decide +kernel
theorem dX10_drawKnocked_17 : decode cX10_drawKnocked 17 = .ok (.istore_n 3, 1) := by decide +kernel
theorem dX10_drawKnocked_18 : decode cX10_drawKnocked 18 = .ok (.iload_n 1, 1) := by decide +kernel
theorem dX10_drawKnocked_19 : decode cX10_drawKnocked 19 = .ok (.invokestatic 213, 3) := by decide +kernel
theorem dX10_drawKnocked_22 : decode cX10_drawKnocked 22 = .ok (.istore 4, 2) := by decide +kernel
theorem dX10_drawKnocked_24 : decode cX10_drawKnocked 24 = .ok (.iload_n 3, 1) := by decide +kernel
theorem dX10_drawKnocked_25 : decode cX10_drawKnocked 25 = .ok (.ifCond .eq 83, 3) := by decide +kernel
theorem dX10_drawKnocked_28 : decode cX10_drawKnocked 28 = .ok (.iload 4, 2) := by decide +kernel
theorem dX10_drawKnocked_30 : decode cX10_drawKnocked 30 = .ok (.ifCond .le 78, 3) := by decide +kernel
theorem dX10_drawKnocked_33 : decode cX10_drawKnocked 33 = .ok (.aload_n 0, 1) := by decide +kernel
theorem dX10_drawKnocked_34 : decode cX10_drawKnocked 34 = .ok (.getfield 43, 3) := by decide +kernel
theorem dX10_drawKnocked_37 : decode cX10_drawKnocked 37 = .ok (.invokevirtual 202, 3) := by decide +kernel
theorem dX10_drawKnocked_40 : decode cX10_drawKnocked 40 = .ok (.ifCond .ne 68, 3) := by decide +kernel
theorem dX10_drawKnocked_43 : decode cX10_drawKnocked 43 = .ok (.iload_n 1, 1) := by decide +kernel
theorem dX10_drawKnocked_44 : decode cX10_drawKnocked 44 = .ok (.aload_n 0, 1) := by decide +kernel
theorem dX10_drawKnocked_45 : decode cX10_drawKnocked 45 = .ok (.invokevirtual 198, 3) := by decide +kernel
theorem dX10_drawKnocked_48 : decode cX10_drawKnocked 48 = .ok (.iload 4, 2) := by decide +kernel
theorem dX10_drawKnocked_50 : decode cX10_drawKnocked 50 = .ok (.irem, 1) := by decide +kernel
theorem dX10_drawKnocked_51 : decode cX10_drawKnocked 51 = .ok (.invokestatic 206, 3) := by decide +kernel
theorem dX10_drawKnocked_54 : decode cX10_drawKnocked 54 = .ok (.istore 5, 2) := by decide +kernel
theorem dX10_drawKnocked_56 : decode cX10_drawKnocked 56 = .ok (.aload_n 0, 1) := by decide +kernel
theorem dX10_drawKnocked_57 : decode cX10_drawKnocked 57 = .ok (.getfield 96, 3) := by decide +kernel
theorem dX10_drawKnocked_60 : decode cX10_drawKnocked 60 = .ok (.ifCond .le 20, 3) := by decide +kernel
theorem dX10_drawKnocked_63 : decode cX10_drawKnocked 63 = .ok (.aload_n 0, 1) := by decide +kernel
theorem dX10_drawKnocked_64 : decode cX10_drawKnocked 64 = .ok (.getfield 58, 3) := by decide +kernel
theorem dX10_drawKnocked_67 : decode cX10_drawKnocked 67 = .ok (.aload_n 0, 1) := by decide +kernel
theorem dX10_drawKnocked_68 : decode cX10_drawKnocked 68 = .ok (.invokevirtual 198, 3) := by decide +kernel
theorem dX10_drawKnocked_71 : decode cX10_drawKnocked 71 = .ok (.aload_n 0, 1) := by decide +kernel
theorem dX10_drawKnocked_72 : decode cX10_drawKnocked 72 = .ok (.getfield 96, 3) := by decide +kernel
theorem dX10_drawKnocked_75 : decode cX10_drawKnocked 75 = .ok (.irem, 1) := by decide +kernel
theorem dX10_drawKnocked_76 : decode cX10_drawKnocked 76 = .ok (.iaload, 1) := by decide +kernel
theorem dX10_drawKnocked_77 : decode cX10_drawKnocked 77 = .ok (.goto 12, 3) := by decide +kernel
theorem dX10_drawKnocked_80 : decode cX10_drawKnocked 80 = .ok (.iconst 1, 1) := by decide +kernel
theorem dX10_drawKnocked_81 : decode cX10_drawKnocked 81 = .ok (.aload_n 0, 1) := by decide +kernel
theorem dX10_drawKnocked_82 : decode cX10_drawKnocked 82 = .ok (.invokevirtual 198, 3) := by decide +kernel
theorem dX10_drawKnocked_85 : decode cX10_drawKnocked 85 = .ok (.bipush 99, 2) := by decide +kernel
theorem dX10_drawKnocked_87 : decode cX10_drawKnocked 87 = .ok (.irem, 1) := by decide +kernel
theorem dX10_drawKnocked_88 : decode cX10_drawKnocked 88 = .ok (.iadd, 1) := by decide +kernel
theorem dX10_drawKnocked_89 : decode cX10_drawKnocked 89 = .ok (.istore 6, 2) := by decide +kernel
theorem dX10_drawKnocked_91 : decode cX10_drawKnocked 91 = .ok (.aload_n 0, 1) := by decide +kernel
theorem dX10_drawKnocked_92 : decode cX10_drawKnocked 92 = .ok (.getfield 43, 3) := by decide +kernel
theorem dX10_drawKnocked_95 : decode cX10_drawKnocked 95 = .ok (.iconst 2, 1) := by decide +kernel
theorem dX10_drawKnocked_96 : decode cX10_drawKnocked 96 = .ok (.iload 5, 2) := by decide +kernel
theorem dX10_drawKnocked_98 : decode cX10_drawKnocked 98 = .ok (.aload_n 0, 1) := by decide +kernel
theorem dX10_drawKnocked_99 : decode cX10_drawKnocked 99 = .ok (.getfield 71, 3) := by decide +kernel
theorem dX10_drawKnocked_102 : decode cX10_drawKnocked 102 = .ok (.iload 6, 2) := by decide +kernel
theorem dX10_drawKnocked_104 : decode cX10_drawKnocked 104 = .ok (.invokevirtual 209, 3) := by decide +kernel
theorem dX10_drawKnocked_107 : decode cX10_drawKnocked 107 = .ok (.pop, 1) := by decide +kernel
theorem dX10_drawKnocked_108 : decode cX10_drawKnocked 108 = .ok (.return_, 1) := by decide +kernel
theorem dX10_coilAt_0 : decode cX10_coilAt 0 = .ok (.iload_n 1, 1) := by decide +kernel
theorem dX10_coilAt_1 : decode cX10_coilAt 1 = .ok (.istore_n 2, 1) := by decide +kernel
theorem dX10_coilAt_2 : decode cX10_coilAt 2 = .ok (.iconst 0, 1) := by decide +kernel
theorem dX10_coilAt_3 : decode cX10_coilAt 3 = .ok (.istore_n 3, 1) := by decide +kernel
theorem dX10_coilAt_4 : decode cX10_coilAt 4 = .ok (.iload_n 3, 1) := by decide +kernel
theorem dX10_coilAt_5 : decode cX10_coilAt 5 = .ok (.bipush 6, 2) := by decide +kernel
theorem dX10_coilAt_7 : decode cX10_coilAt 7 = .ok (.if_icmp .ge 26, 3) := by decide +kernel
theorem dX10_coilAt_10 : decode cX10_coilAt 10 = .ok (.iload_n 0, 1) := by decide +kernel
theorem dX10_coilAt_11 : decode cX10_coilAt 11 = .ok (.iload_n 3, 1) := by decide +kernel
theorem dX10_coilAt_12 : decode cX10_coilAt 12 = .ok (.ishr, 1) := by decide +kernel
theorem dX10_coilAt_13 : decode cX10_coilAt 13 = .ok (.iconst 1, 1) := by decide +kernel
theorem dX10_coilAt_14 : decode cX10_coilAt 14 = .ok (.iand, 1) := by decide +kernel
theorem dX10_coilAt_15 : decode cX10_coilAt 15 = .ok (.ifCond .eq 12, 3) := by decide +kernel
theorem dX10_coilAt_18 : decode cX10_coilAt 18 = .ok (.iload_n 2, 1) := by decide +kernel
theorem dX10_coilAt_19 : decode cX10_coilAt 19 = .ok (.ifCond .ne 5, 3) := by decide +kernel
theorem dX10_coilAt_22 : decode cX10_coilAt 22 = .ok (.iload_n 3, 1) := by decide +kernel
theorem dX10_coilAt_23 : decode cX10_coilAt 23 = .ok (.ireturn, 1) := by decide +kernel
theorem dX10_coilAt_24 : decode cX10_coilAt 24 = .ok (.iinc 2 (-1), 3) := by decide +kernel
theorem dX10_coilAt_27 : decode cX10_coilAt 27 = .ok (.iinc 3 1, 3) := by decide +kernel
theorem dX10_coilAt_30 : decode cX10_coilAt 30 = .ok (.goto (-26), 3) := by decide +kernel
theorem dX10_coilAt_33 : decode cX10_coilAt 33 = .ok (.iconst 0, 1) := by decide +kernel
theorem dX10_coilAt_34 : decode cX10_coilAt 34 = .ok (.ireturn, 1) := by decide +kernel
theorem dJ6_bitCount_0f7a4_0 : decode cJ6_bitCount_0f7a4 0 = .ok (.iload_n 0, 1) := by decide +kernel
theorem dJ6_bitCount_0f7a4_1 : decode cJ6_bitCount_0f7a4 1 = .ok (.iload_n 0, 1) := by decide +kernel
theorem dJ6_bitCount_0f7a4_2 : decode cJ6_bitCount_0f7a4 2 = .ok (.iconst 1, 1) := by decide +kernel
theorem dJ6_bitCount_0f7a4_3 : decode cJ6_bitCount_0f7a4 3 = .ok (.iushr, 1) := by decide +kernel
theorem dJ6_bitCount_0f7a4_4 : decode cJ6_bitCount_0f7a4 4 = .ok (.ldc_w 265, 3) := by decide +kernel
theorem dJ6_bitCount_0f7a4_7 : decode cJ6_bitCount_0f7a4 7 = .ok (.iand, 1) := by decide +kernel
theorem dJ6_bitCount_0f7a4_8 : decode cJ6_bitCount_0f7a4 8 = .ok (.isub, 1) := by decide +kernel
theorem dJ6_bitCount_0f7a4_9 : decode cJ6_bitCount_0f7a4 9 = .ok (.istore_n 0, 1) := by decide +kernel
theorem dJ6_bitCount_0f7a4_10 : decode cJ6_bitCount_0f7a4 10 = .ok (.iload_n 0, 1) := by decide +kernel
theorem dJ6_bitCount_0f7a4_11 : decode cJ6_bitCount_0f7a4 11 = .ok (.ldc_w 266, 3) := by decide +kernel
theorem dJ6_bitCount_0f7a4_14 : decode cJ6_bitCount_0f7a4 14 = .ok (.iand, 1) := by decide +kernel
theorem dJ6_bitCount_0f7a4_15 : decode cJ6_bitCount_0f7a4 15 = .ok (.iload_n 0, 1) := by decide +kernel
theorem dJ6_bitCount_0f7a4_16 : decode cJ6_bitCount_0f7a4 16 = .ok (.iconst 2, 1) := by decide +kernel
theorem dJ6_bitCount_0f7a4_17 : decode cJ6_bitCount_0f7a4 17 = .ok (.iushr, 1) := by decide +kernel
theorem dJ6_bitCount_0f7a4_18 : decode cJ6_bitCount_0f7a4 18 = .ok (.ldc_w 266, 3) := by decide +kernel
theorem dJ6_bitCount_0f7a4_21 : decode cJ6_bitCount_0f7a4 21 = .ok (.iand, 1) := by decide +kernel
theorem dJ6_bitCount_0f7a4_22 : decode cJ6_bitCount_0f7a4 22 = .ok (.iadd, 1) := by decide +kernel
theorem dJ6_bitCount_0f7a4_23 : decode cJ6_bitCount_0f7a4 23 = .ok (.istore_n 0, 1) := by decide +kernel
theorem dJ6_bitCount_0f7a4_24 : decode cJ6_bitCount_0f7a4 24 = .ok (.iload_n 0, 1) := by decide +kernel
theorem dJ6_bitCount_0f7a4_25 : decode cJ6_bitCount_0f7a4 25 = .ok (.iload_n 0, 1) := by decide +kernel
theorem dJ6_bitCount_0f7a4_26 : decode cJ6_bitCount_0f7a4 26 = .ok (.iconst 4, 1) := by decide +kernel
theorem dJ6_bitCount_0f7a4_27 : decode cJ6_bitCount_0f7a4 27 = .ok (.iushr, 1) := by decide +kernel
theorem dJ6_bitCount_0f7a4_28 : decode cJ6_bitCount_0f7a4 28 = .ok (.iadd, 1) := by decide +kernel
theorem dJ6_bitCount_0f7a4_29 : decode cJ6_bitCount_0f7a4 29 = .ok (.ldc_w 267, 3) := by decide +kernel
theorem dJ6_bitCount_0f7a4_32 : decode cJ6_bitCount_0f7a4 32 = .ok (.iand, 1) := by decide +kernel
theorem dJ6_bitCount_0f7a4_33 : decode cJ6_bitCount_0f7a4 33 = .ok (.istore_n 0, 1) := by decide +kernel
theorem dJ6_bitCount_0f7a4_34 : decode cJ6_bitCount_0f7a4 34 = .ok (.iload_n 0, 1) := by decide +kernel
theorem dJ6_bitCount_0f7a4_35 : decode cJ6_bitCount_0f7a4 35 = .ok (.iload_n 0, 1) := by decide +kernel
theorem dJ6_bitCount_0f7a4_36 : decode cJ6_bitCount_0f7a4 36 = .ok (.bipush 8, 2) := by decide +kernel
theorem dJ6_bitCount_0f7a4_38 : decode cJ6_bitCount_0f7a4 38 = .ok (.iushr, 1) := by decide +kernel
theorem dJ6_bitCount_0f7a4_39 : decode cJ6_bitCount_0f7a4 39 = .ok (.iadd, 1) := by decide +kernel
theorem dJ6_bitCount_0f7a4_40 : decode cJ6_bitCount_0f7a4 40 = .ok (.istore_n 0, 1) := by decide +kernel
theorem dJ6_bitCount_0f7a4_41 : decode cJ6_bitCount_0f7a4 41 = .ok (.iload_n 0, 1) := by decide +kernel
theorem dJ6_bitCount_0f7a4_42 : decode cJ6_bitCount_0f7a4 42 = .ok (.iload_n 0, 1) := by decide +kernel
theorem dJ6_bitCount_0f7a4_43 : decode cJ6_bitCount_0f7a4 43 = .ok (.bipush 16, 2) := by decide +kernel
theorem dJ6_bitCount_0f7a4_45 : decode cJ6_bitCount_0f7a4 45 = .ok (.iushr, 1) := by decide +kernel
theorem dJ6_bitCount_0f7a4_46 : decode cJ6_bitCount_0f7a4 46 = .ok (.iadd, 1) := by decide +kernel
theorem dJ6_bitCount_0f7a4_47 : decode cJ6_bitCount_0f7a4 47 = .ok (.istore_n 0, 1) := by decide +kernel
theorem dJ6_bitCount_0f7a4_48 : decode cJ6_bitCount_0f7a4 48 = .ok (.iload_n 0, 1) := by decide +kernel
theorem dJ6_bitCount_0f7a4_49 : decode cJ6_bitCount_0f7a4 49 = .ok (.bipush 63, 2) := by decide +kernel
theorem dJ6_bitCount_0f7a4_51 : decode cJ6_bitCount_0f7a4 51 = .ok (.iand, 1) := by decide +kernel
theorem dJ6_bitCount_0f7a4_52 : decode cJ6_bitCount_0f7a4 52 = .ok (.ireturn, 1) := by decide +kernel
theorem dJ9_abs_0f7a4_0 : decode cJ9_abs_0f7a4 0 = .ok (.iload_n 0, 1) := by decide +kernel
theorem dJ9_abs_0f7a4_1 : decode cJ9_abs_0f7a4 1 = .ok (.ifCond .ge 8, 3) := by decide +kernel
theorem dJ9_abs_0f7a4_4 : decode cJ9_abs_0f7a4 4 = .ok (.iload_n 0, 1) := by decide +kernel
theorem dJ9_abs_0f7a4_5 : decode cJ9_abs_0f7a4 5 = .ok (.ineg, 1) := by decide +kernel
theorem dJ9_abs_0f7a4_6 : decode cJ9_abs_0f7a4 6 = .ok (.goto 4, 3) := by decide +kernel
theorem dJ9_abs_0f7a4_9 : decode cJ9_abs_0f7a4 9 = .ok (.iload_n 0, 1) := by decide +kernel
theorem dJ9_abs_0f7a4_10 : decode cJ9_abs_0f7a4 10 = .ok (.ireturn, 1) := by decide +kernel
theorem dJ9_max_7cf53_0 : decode cJ9_max_7cf53 0 = .ok (.iload_n 0, 1) := by decide +kernel
theorem dJ9_max_7cf53_1 : decode cJ9_max_7cf53 1 = .ok (.iload_n 1, 1) := by decide +kernel
theorem dJ9_max_7cf53_2 : decode cJ9_max_7cf53 2 = .ok (.if_icmp .lt 7, 3) := by decide +kernel
theorem dJ9_max_7cf53_5 : decode cJ9_max_7cf53 5 = .ok (.iload_n 0, 1) := by decide +kernel
theorem dJ9_max_7cf53_6 : decode cJ9_max_7cf53 6 = .ok (.goto 4, 3) := by decide +kernel
theorem dJ9_max_7cf53_9 : decode cJ9_max_7cf53 9 = .ok (.iload_n 1, 1) := by decide +kernel
theorem dJ9_max_7cf53_10 : decode cJ9_max_7cf53 10 = .ok (.ireturn, 1) := by decide +kernel
theorem dJ9_min_7cf53_0 : decode cJ9_min_7cf53 0 = .ok (.iload_n 0, 1) := by decide +kernel
theorem dJ9_min_7cf53_1 : decode cJ9_min_7cf53 1 = .ok (.iload_n 1, 1) := by decide +kernel
theorem dJ9_min_7cf53_2 : decode cJ9_min_7cf53 2 = .ok (.if_icmp .gt 7, 3) := by decide +kernel
theorem dJ9_min_7cf53_5 : decode cJ9_min_7cf53 5 = .ok (.iload_n 0, 1) := by decide +kernel
theorem dJ9_min_7cf53_6 : decode cJ9_min_7cf53 6 = .ok (.goto 4, 3) := by decide +kernel
theorem dJ9_min_7cf53_9 : decode cJ9_min_7cf53 9 = .ok (.iload_n 1, 1) := by decide +kernel
theorem dJ9_min_7cf53_10 : decode cJ9_min_7cf53 10 = .ok (.ireturn, 1) := by decide +kernel
theorem dJ0_length_8abf5_0 : decode cJ0_length_8abf5 0 = .ok (.aload_n 0, 1) := by decide +kernel
theorem dJ0_length_8abf5_1 : decode cJ0_length_8abf5 1 = .ok (.getfield 9, 3) := by decide +kernel
theorem dJ0_length_8abf5_4 : decode cJ0_length_8abf5 4 = .ok (.arraylength, 1) := by decide +kernel
theorem dJ0_length_8abf5_5 : decode cJ0_length_8abf5 5 = .ok (.aload_n 0, 1) := by decide +kernel
theorem dJ0_length_8abf5_6 : decode cJ0_length_8abf5 6 = .ok (.invokevirtual 335, 3) := by decide +kernel
theorem dJ0_length_8abf5_9 : decode cJ0_length_8abf5 9 = .ok (.ishr, 1) := by decide +kernel
theorem dJ0_length_8abf5_10 : decode cJ0_length_8abf5 10 = .ok (.ireturn, 1) := by decide +kernel
theorem dJ0_charAt_5068e_0 : decode cJ0_charAt_5068e 0 = .ok (.aload_n 0, 1) := by decide +kernel
theorem dJ0_charAt_5068e_1 : decode cJ0_charAt_5068e 1 = .ok (.invokevirtual 492, 3) := by decide +kernel
theorem dJ0_charAt_5068e_4 : decode cJ0_charAt_5068e 4 = .ok (.ifCond .eq 12, 3) := by decide +kernel
theorem dJ0_charAt_5068e_7 : decode cJ0_charAt_5068e 7 = .ok (.aload_n 0, 1) := by decide +kernel
theorem dJ0_charAt_5068e_8 : decode cJ0_charAt_5068e 8 = .ok (.getfield 9, 3) := by decide +kernel
theorem dJ0_charAt_5068e_11 : decode cJ0_charAt_5068e 11 = .ok (.iload_n 1, 1) := by decide +kernel
theorem dJ0_charAt_5068e_12 : decode cJ0_charAt_5068e 12 = .ok (.invokestatic 495, 3) := by decide +kernel
theorem dJ0_charAt_5068e_15 : decode cJ0_charAt_5068e 15 = .ok (.ireturn, 1) := by decide +kernel
theorem dJ0_charAt_5068e_16 : decode cJ0_charAt_5068e 16 = .ok (.aload_n 0, 1) := by decide +kernel
theorem dJ0_charAt_5068e_17 : decode cJ0_charAt_5068e 17 = .ok (.getfield 9, 3) := by decide +kernel
theorem dJ0_charAt_5068e_20 : decode cJ0_charAt_5068e 20 = .ok (.iload_n 1, 1) := by decide +kernel
theorem dJ0_charAt_5068e_21 : decode cJ0_charAt_5068e 21 = .ok (.invokestatic 498, 3) := by decide +kernel
theorem dJ0_charAt_5068e_24 : decode cJ0_charAt_5068e 24 = .ok (.ireturn, 1) := by decide +kernel
theorem dJ0_coder_7d493_0 : decode cJ0_coder_7d493 0 = .ok (.getstatic 38, 3) := by decide +kernel
theorem dJ0_coder_7d493_3 : decode cJ0_coder_7d493 3 = .ok (.ifCond .eq 10, 3) := by decide +kernel
theorem dJ0_coder_7d493_6 : decode cJ0_coder_7d493 6 = .ok (.aload_n 0, 1) := by decide +kernel
theorem dJ0_coder_7d493_7 : decode cJ0_coder_7d493 7 = .ok (.getfield 15, 3) := by decide +kernel
theorem dJ0_coder_7d493_10 : decode cJ0_coder_7d493 10 = .ok (.goto 4, 3) := by decide +kernel
theorem dJ0_coder_7d493_13 : decode cJ0_coder_7d493 13 = .ok (.iconst 1, 1) := by decide +kernel
theorem dJ0_coder_7d493_14 : decode cJ0_coder_7d493 14 = .ok (.ireturn, 1) := by decide +kernel
theorem dJ0_isLatin1_aae02_0 : decode cJ0_isLatin1_aae02 0 = .ok (.getstatic 38, 3) := by decide +kernel
theorem dJ0_isLatin1_aae02_3 : decode cJ0_isLatin1_aae02 3 = .ok (.ifCond .eq 14, 3) := by decide +kernel
theorem dJ0_isLatin1_aae02_6 : decode cJ0_isLatin1_aae02 6 = .ok (.aload_n 0, 1) := by decide +kernel
theorem dJ0_isLatin1_aae02_7 : decode cJ0_isLatin1_aae02 7 = .ok (.getfield 15, 3) := by decide +kernel
theorem dJ0_isLatin1_aae02_10 : decode cJ0_isLatin1_aae02 10 = .ok (.ifCond .ne 7, 3) := by decide +kernel
theorem dJ0_isLatin1_aae02_13 : decode cJ0_isLatin1_aae02 13 = .ok (.iconst 1, 1) := by decide +kernel
theorem dJ0_isLatin1_aae02_14 : decode cJ0_isLatin1_aae02 14 = .ok (.goto 4, 3) := by decide +kernel
theorem dJ0_isLatin1_aae02_17 : decode cJ0_isLatin1_aae02 17 = .ok (.iconst 0, 1) := by decide +kernel
theorem dJ0_isLatin1_aae02_18 : decode cJ0_isLatin1_aae02 18 = .ok (.ireturn, 1) := by decide +kernel
theorem dJ0_checkIndex_df160_0 : decode cJ0_checkIndex_df160 0 = .ok (.iload_n 0, 1) := by decide +kernel
theorem dJ0_checkIndex_df160_1 : decode cJ0_checkIndex_df160 1 = .ok (.iload_n 1, 1) := by decide +kernel
theorem dJ0_checkIndex_df160_2 : decode cJ0_checkIndex_df160 2 = .ok (.getstatic 1053, 3) := by decide +kernel
theorem dJ0_checkIndex_df160_5 : decode cJ0_checkIndex_df160 5 = .ok (.invokestatic 1059, 3) := by decide +kernel
theorem dJ0_checkIndex_df160_8 : decode cJ0_checkIndex_df160 8 = .ok (.pop, 1) := by decide +kernel
theorem dJ0_checkIndex_df160_9 : decode cJ0_checkIndex_df160 9 = .ok (.return_, 1) := by decide +kernel
theorem dJ1_charAt_3b067_0 : decode cJ1_charAt_3b067 0 = .ok (.iload_n 1, 1) := by decide +kernel
theorem dJ1_charAt_3b067_1 : decode cJ1_charAt_3b067 1 = .ok (.aload_n 0, 1) := by decide +kernel
theorem dJ1_charAt_3b067_2 : decode cJ1_charAt_3b067 2 = .ok (.arraylength, 1) := by decide +kernel
theorem dJ1_charAt_3b067_3 : decode cJ1_charAt_3b067 3 = .ok (.invokestatic 9, 3) := by decide +kernel
theorem dJ1_charAt_3b067_6 : decode cJ1_charAt_3b067 6 = .ok (.aload_n 0, 1) := by decide +kernel
theorem dJ1_charAt_3b067_7 : decode cJ1_charAt_3b067 7 = .ok (.iload_n 1, 1) := by decide +kernel
theorem dJ1_charAt_3b067_8 : decode cJ1_charAt_3b067 8 = .ok (.baload, 1) := by decide +kernel
theorem dJ1_charAt_3b067_9 : decode cJ1_charAt_3b067 9 = .ok (.sipush 255, 3) := by decide +kernel
theorem dJ1_charAt_3b067_12 : decode cJ1_charAt_3b067 12 = .ok (.iand, 1) := by decide +kernel
theorem dJ1_charAt_3b067_13 : decode cJ1_charAt_3b067 13 = .ok (.i2c, 1) := by decide +kernel
theorem dJ1_charAt_3b067_14 : decode cJ1_charAt_3b067 14 = .ok (.ireturn, 1) := by decide +kernel
theorem dJ2_getChar_3b067_0 : decode cJ2_getChar_3b067 0 = .ok (.getstatic 44, 3) := by decide +kernel
theorem dJ2_getChar_3b067_3 : decode cJ2_getChar_3b067 3 = .ok (.ifCond .ne 25, 3) := by decide +kernel
theorem dJ2_getChar_3b067_6 : decode cJ2_getChar_3b067 6 = .ok (.iload_n 1, 1) := by decide +kernel
theorem dJ2_getChar_3b067_7 : decode cJ2_getChar_3b067 7 = .ok (.ifCond .lt 11, 3) := by decide +kernel
theorem dJ2_getChar_3b067_10 : decode cJ2_getChar_3b067 10 = .ok (.iload_n 1, 1) := by decide +kernel
theorem dJ2_getChar_3b067_11 : decode cJ2_getChar_3b067 11 = .ok (.aload_n 0, 1) := by decide +kernel
theorem dJ2_getChar_3b067_12 : decode cJ2_getChar_3b067 12 = .ok (.invokestatic 48, 3) := by decide +kernel
theorem dJ2_getChar_3b067_15 : decode cJ2_getChar_3b067 15 = .ok (.if_icmp .lt 13, 3) := by decide +kernel
theorem dJ2_getChar_3b067_18 : decode cJ2_getChar_3b067 18 = .ok (.new 52, 3) := by decide +kernel
theorem dJ2_getChar_3b067_21 : decode cJ2_getChar_3b067 21 = .ok (.dup, 1) := by decide +kernel
theorem dJ2_getChar_3b067_22 : decode cJ2_getChar_3b067 22 = .ok (.ldc 54, 2) := by decide +kernel
theorem dJ2_getChar_3b067_24 : decode cJ2_getChar_3b067 24 = .ok (.invokespecial 56, 3) := by decide +kernel
theorem dJ2_getChar_3b067_27 : decode cJ2_getChar_3b067 27 = .ok (.athrow, 1) := by decide +kernel
theorem dJ2_getChar_3b067_28 : decode cJ2_getChar_3b067 28 = .ok (.iload_n 1, 1) := by decide +kernel
theorem dJ2_getChar_3b067_29 : decode cJ2_getChar_3b067 29 = .ok (.iconst 1, 1) := by decide +kernel
theorem dJ2_getChar_3b067_30 : decode cJ2_getChar_3b067 30 = .ok (.ishl, 1) := by decide +kernel
theorem dJ2_getChar_3b067_31 : decode cJ2_getChar_3b067 31 = .ok (.istore_n 1, 1) := by decide +kernel
theorem dJ2_getChar_3b067_32 : decode cJ2_getChar_3b067 32 = .ok (.aload_n 0, 1) := by decide +kernel
theorem dJ2_getChar_3b067_33 : decode cJ2_getChar_3b067 33 = .ok (.iload_n 1, 1) := by decide +kernel
theorem dJ2_getChar_3b067_34 : decode cJ2_getChar_3b067 34 = .ok (.iinc 1 1, 3) := by decide +kernel
theorem dJ2_getChar_3b067_37 : decode cJ2_getChar_3b067 37 = .ok (.baload, 1) := by decide +kernel
theorem dJ2_getChar_3b067_38 : decode cJ2_getChar_3b067 38 = .ok (.sipush 255, 3) := by decide +kernel
theorem dJ2_getChar_3b067_41 : decode cJ2_getChar_3b067 41 = .ok (.iand, 1) := by decide +kernel
theorem dJ2_getChar_3b067_42 : decode cJ2_getChar_3b067 42 = .ok (.getstatic 59, 3) := by decide +kernel
theorem dJ2_getChar_3b067_45 : decode cJ2_getChar_3b067 45 = .ok (.ishl, 1) := by decide +kernel
theorem dJ2_getChar_3b067_46 : decode cJ2_getChar_3b067 46 = .ok (.aload_n 0, 1) := by decide +kernel
theorem dJ2_getChar_3b067_47 : decode cJ2_getChar_3b067 47 = .ok (.iload_n 1, 1) := by decide +kernel
theorem dJ2_getChar_3b067_48 : decode cJ2_getChar_3b067 48 = .ok (.baload, 1) := by decide +kernel
theorem dJ2_getChar_3b067_49 : decode cJ2_getChar_3b067 49 = .ok (.sipush 255, 3) := by decide +kernel
theorem dJ2_getChar_3b067_52 : decode cJ2_getChar_3b067 52 = .ok (.iand, 1) := by decide +kernel
theorem dJ2_getChar_3b067_53 : decode cJ2_getChar_3b067 53 = .ok (.getstatic 63, 3) := by decide +kernel
theorem dJ2_getChar_3b067_56 : decode cJ2_getChar_3b067 56 = .ok (.ishl, 1) := by decide +kernel
theorem dJ2_getChar_3b067_57 : decode cJ2_getChar_3b067 57 = .ok (.ior, 1) := by decide +kernel
theorem dJ2_getChar_3b067_58 : decode cJ2_getChar_3b067 58 = .ok (.i2c, 1) := by decide +kernel
theorem dJ2_getChar_3b067_59 : decode cJ2_getChar_3b067 59 = .ok (.ireturn, 1) := by decide +kernel
theorem dJ2_length_9d52b_0 : decode cJ2_length_9d52b 0 = .ok (.aload_n 0, 1) := by decide +kernel
theorem dJ2_length_9d52b_1 : decode cJ2_length_9d52b 1 = .ok (.arraylength, 1) := by decide +kernel
theorem dJ2_length_9d52b_2 : decode cJ2_length_9d52b 2 = .ok (.iconst 1, 1) := by decide +kernel
theorem dJ2_length_9d52b_3 : decode cJ2_length_9d52b 3 = .ok (.ishr, 1) := by decide +kernel
theorem dJ2_length_9d52b_4 : decode cJ2_length_9d52b 4 = .ok (.ireturn, 1) := by decide +kernel
theorem dJ2_charAt_3b067_0 : decode cJ2_charAt_3b067 0 = .ok (.iload_n 1, 1) := by decide +kernel
theorem dJ2_charAt_3b067_1 : decode cJ2_charAt_3b067 1 = .ok (.aload_n 0, 1) := by decide +kernel
theorem dJ2_charAt_3b067_2 : decode cJ2_charAt_3b067 2 = .ok (.invokestatic 67, 3) := by decide +kernel
theorem dJ2_charAt_3b067_5 : decode cJ2_charAt_3b067 5 = .ok (.aload_n 0, 1) := by decide +kernel
theorem dJ2_charAt_3b067_6 : decode cJ2_charAt_3b067 6 = .ok (.iload_n 1, 1) := by decide +kernel
theorem dJ2_charAt_3b067_7 : decode cJ2_charAt_3b067 7 = .ok (.invokestatic 71, 3) := by decide +kernel
theorem dJ2_charAt_3b067_10 : decode cJ2_charAt_3b067 10 = .ok (.ireturn, 1) := by decide +kernel
theorem dJ2_checkIndex_2214a_0 : decode cJ2_checkIndex_2214a 0 = .ok (.iload_n 0, 1) := by decide +kernel
theorem dJ2_checkIndex_2214a_1 : decode cJ2_checkIndex_2214a 1 = .ok (.aload_n 1, 1) := by decide +kernel
theorem dJ2_checkIndex_2214a_2 : decode cJ2_checkIndex_2214a 2 = .ok (.invokestatic 48, 3) := by decide +kernel
theorem dJ2_checkIndex_2214a_5 : decode cJ2_checkIndex_2214a 5 = .ok (.invokestatic 414, 3) := by decide +kernel
theorem dJ2_checkIndex_2214a_8 : decode cJ2_checkIndex_2214a 8 = .ok (.return_, 1) := by decide +kernel
theorem dJ7_fill_53178_0 : decode cJ7_fill_53178 0 = .ok (.iconst 0, 1) := by decide +kernel
theorem dJ7_fill_53178_1 : decode cJ7_fill_53178 1 = .ok (.istore_n 2, 1) := by decide +kernel
theorem dJ7_fill_53178_2 : decode cJ7_fill_53178 2 = .ok (.aload_n 0, 1) := by decide +kernel
theorem dJ7_fill_53178_3 : decode cJ7_fill_53178 3 = .ok (.arraylength, 1) := by decide +kernel
theorem dJ7_fill_53178_4 : decode cJ7_fill_53178 4 = .ok (.istore_n 3, 1) := by decide +kernel
theorem dJ7_fill_53178_5 : decode cJ7_fill_53178 5 = .ok (.iload_n 2, 1) := by decide +kernel
theorem dJ7_fill_53178_6 : decode cJ7_fill_53178 6 = .ok (.iload_n 3, 1) := by decide +kernel
theorem dJ7_fill_53178_7 : decode cJ7_fill_53178 7 = .ok (.if_icmp .ge 13, 3) := by decide +kernel
theorem dJ7_fill_53178_10 : decode cJ7_fill_53178 10 = .ok (.aload_n 0, 1) := by decide +kernel
theorem dJ7_fill_53178_11 : decode cJ7_fill_53178 11 = .ok (.iload_n 2, 1) := by decide +kernel
theorem dJ7_fill_53178_12 : decode cJ7_fill_53178 12 = .ok (.iload_n 1, 1) := by decide +kernel
theorem dJ7_fill_53178_13 : decode cJ7_fill_53178 13 = .ok (.iastore, 1) := by decide +kernel
theorem dJ7_fill_53178_14 : decode cJ7_fill_53178 14 = .ok (.iinc 2 1, 3) := by decide +kernel
theorem dJ7_fill_53178_17 : decode cJ7_fill_53178 17 = .ok (.goto (-12), 3) := by decide +kernel
theorem dJ7_fill_53178_20 : decode cJ7_fill_53178 20 = .ok (.return_, 1) := by decide +kernel
theorem dJ7_copyOf_59c91_0 : decode cJ7_copyOf_59c91 0 = .ok (.iload_n 1, 1) := by decide +kernel
theorem dJ7_copyOf_59c91_1 : decode cJ7_copyOf_59c91 1 = .ok (.aload_n 0, 1) := by decide +kernel
theorem dJ7_copyOf_59c91_2 : decode cJ7_copyOf_59c91 2 = .ok (.arraylength, 1) := by decide +kernel
theorem dJ7_copyOf_59c91_3 : decode cJ7_copyOf_59c91 3 = .ok (.if_icmp .ne 11, 3) := by decide +kernel
theorem dJ7_copyOf_59c91_6 : decode cJ7_copyOf_59c91 6 = .ok (.aload_n 0, 1) := by decide +kernel
theorem dJ7_copyOf_59c91_7 : decode cJ7_copyOf_59c91 7 = .ok (.invokevirtual 316, 3) := by decide +kernel
theorem dJ7_copyOf_59c91_10 : decode cJ7_copyOf_59c91 10 = .ok (.checkcast 317, 3) := by decide +kernel
theorem dJ7_copyOf_59c91_13 : decode cJ7_copyOf_59c91 13 = .ok (.areturn, 1) := by decide +kernel
theorem dJ7_copyOf_59c91_14 : decode cJ7_copyOf_59c91 14 = .ok (.iload_n 1, 1) := by decide +kernel
theorem dJ7_copyOf_59c91_15 : decode cJ7_copyOf_59c91 15 = .ok (.newarray .int, 2) := by decide +kernel
theorem dJ7_copyOf_59c91_17 : decode cJ7_copyOf_59c91 17 = .ok (.astore_n 2, 1) := by decide +kernel
theorem dJ7_copyOf_59c91_18 : decode cJ7_copyOf_59c91 18 = .ok (.aload_n 0, 1) := by decide +kernel
theorem dJ7_copyOf_59c91_19 : decode cJ7_copyOf_59c91 19 = .ok (.iconst 0, 1) := by decide +kernel
theorem dJ7_copyOf_59c91_20 : decode cJ7_copyOf_59c91 20 = .ok (.aload_n 2, 1) := by decide +kernel
theorem dJ7_copyOf_59c91_21 : decode cJ7_copyOf_59c91 21 = .ok (.iconst 0, 1) := by decide +kernel
theorem dJ7_copyOf_59c91_22 : decode cJ7_copyOf_59c91 22 = .ok (.aload_n 0, 1) := by decide +kernel
theorem dJ7_copyOf_59c91_23 : decode cJ7_copyOf_59c91 23 = .ok (.arraylength, 1) := by decide +kernel
theorem dJ7_copyOf_59c91_24 : decode cJ7_copyOf_59c91 24 = .ok (.iload_n 1, 1) := by decide +kernel
theorem dJ7_copyOf_59c91_25 : decode cJ7_copyOf_59c91 25 = .ok (.invokestatic 304, 3) := by decide +kernel
theorem dJ7_copyOf_59c91_28 : decode cJ7_copyOf_59c91 28 = .ok (.invokestatic 150, 3) := by decide +kernel
theorem dJ7_copyOf_59c91_31 : decode cJ7_copyOf_59c91 31 = .ok (.aload_n 2, 1) := by decide +kernel
theorem dJ7_copyOf_59c91_32 : decode cJ7_copyOf_59c91 32 = .ok (.areturn, 1) := by decide +kernel
theorem dJ3_checkIndex_8e157_0 : decode cJ3_checkIndex_8e157 0 = .ok (.iload_n 0, 1) := by decide +kernel
theorem dJ3_checkIndex_8e157_1 : decode cJ3_checkIndex_8e157 1 = .ok (.ifCond .lt 8, 3) := by decide +kernel
theorem dJ3_checkIndex_8e157_4 : decode cJ3_checkIndex_8e157 4 = .ok (.iload_n 0, 1) := by decide +kernel
theorem dJ3_checkIndex_8e157_5 : decode cJ3_checkIndex_8e157 5 = .ok (.iload_n 1, 1) := by decide +kernel
theorem dJ3_checkIndex_8e157_6 : decode cJ3_checkIndex_8e157 6 = .ok (.if_icmp .lt 10, 3) := by decide +kernel
theorem dJ3_checkIndex_8e157_9 : decode cJ3_checkIndex_8e157 9 = .ok (.aload_n 2, 1) := by decide +kernel
theorem dJ3_checkIndex_8e157_10 : decode cJ3_checkIndex_8e157 10 = .ok (.iload_n 0, 1) := by decide +kernel
theorem dJ3_checkIndex_8e157_11 : decode cJ3_checkIndex_8e157 11 = .ok (.iload_n 1, 1) := by decide +kernel
theorem dJ3_checkIndex_8e157_12 : decode cJ3_checkIndex_8e157 12 = .ok (.invokestatic 95, 3) := by decide +kernel
theorem dJ3_checkIndex_8e157_15 : decode cJ3_checkIndex_8e157 15 = .ok (.athrow, 1) := by decide +kernel
theorem dJ3_checkIndex_8e157_16 : decode cJ3_checkIndex_8e157 16 = .ok (.iload_n 0, 1) := by decide +kernel
theorem dJ3_checkIndex_8e157_17 : decode cJ3_checkIndex_8e157 17 = .ok (.ireturn, 1) := by decide +kernel
