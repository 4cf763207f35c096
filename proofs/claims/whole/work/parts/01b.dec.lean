theorem dX11_init_0 : decode cX11_init 0 = .ok (.aload_n 0, 1) := by decide +kernel
theorem dX11_init_1 : decode cX11_init 1 = .ok (.invokespecial 3, 3) := by decide +kernel
theorem dX11_init_4 : decode cX11_init 4 = .ok (.aload_n 0, 1) := by decide +kernel
theorem dX11_init_5 : decode cX11_init 5 = .ok (.new 9, 3) := by decide +kernel
theorem dX11_init_8 : decode cX11_init 8 = .ok (.dup, 1) := by decide +kernel
theorem dX11_init_9 : decode cX11_init 9 = .ok (.invokespecial 11, 3) := by decide +kernel
theorem dX11_init_12 : decode cX11_init 12 = .ok (.putfield 12, 3) := by decide +kernel
theorem dX11_init_15 : decode cX11_init 15 = .ok (.aload_n 0, 1) := by decide +kernel
theorem dX11_init_16 : decode cX11_init 16 = .ok (.new 9, 3) := by decide +kernel
theorem dX11_init_19 : decode cX11_init 19 = .ok (.dup, 1) := by decide +kernel
theorem dX11_init_20 : decode cX11_init 20 = .ok (.invokespecial 11, 3) := by decide +kernel
theorem dX11_init_23 : decode cX11_init 23 = .ok (.putfield 16, 3) := by decide +kernel
theorem dX11_init_26 : decode cX11_init 26 = .ok (.aload_n 0, 1) := by decide +kernel
theorem dX11_init_27 : decode cX11_init 27 = .ok (.new 9, 3) := by decide +kernel
theorem dX11_init_30 : decode cX11_init 30 = .ok (.dup, 1) := by decide +kernel
theorem dX11_init_31 : decode cX11_init 31 = .ok (.invokespecial 11, 3) := by decide +kernel
theorem dX11_init_34 : decode cX11_init 34 = .ok (.putfield 19, 3) := by decide +kernel
theorem dX11_init_37 : decode cX11_init 37 = .ok (.aload_n 0, 1) := by decide +kernel
theorem dX11_init_38 : decode cX11_init 38 = .ok (.iconst 4, 1) := by decide +kernel
theorem dX11_init_39 : decode cX11_init 39 = .ok (.anewarray 22, 3) := by decide +kernel
theorem dX11_init_42 : decode cX11_init 42 = .ok (.putfield 24, 3) := by decide +kernel
theorem dX11_init_45 : decode cX11_init 45 = .ok (.iconst 0, 1) := by decide +kernel
theorem dX11_init_46 : decode cX11_init 46 = .ok (.istore_n 1, 1) := by decide +kernel
theorem dX11_init_47 : decode cX11_init 47 = .ok (.iload_n 1, 1) := by decide +kernel
theorem dX11_init_48 : decode cX11_init 48 = .ok (.iconst 4, 1) := by decide +kernel
theorem dX11_init_49 : decode cX11_init 49 = .ok (.if_icmp .ge 22, 3) := by decide +kernel
theorem dX11_init_52 : decode cX11_init 52 = .ok (.aload_n 0, 1) := by decide +kernel
theorem dX11_init_53 : decode cX11_init 53 = .ok (.getfield 24, 3) := by decide +kernel
theorem dX11_init_56 : decode cX11_init 56 = .ok (.iload_n 1, 1) := by decide +kernel
theorem dX11_init_57 : decode cX11_init 57 = .ok (.new 22, 3) := by decide +kernel
theorem dX11_init_60 : decode cX11_init 60 = .ok (.dup, 1) := by decide +kernel
theorem dX11_init_61 : decode cX11_init 61 = .ok (.invokespecial 28, 3) := by decide +kernel
theorem dX11_init_64 : decode cX11_init 64 = .ok (.aastore, 1) := by decide +kernel
theorem dX11_init_65 : decode cX11_init 65 = .ok (.iinc 1 1, 3) := by decide +kernel
theorem dX11_init_68 : decode cX11_init 68 = .ok (.goto (-21), 3) := by decide +kernel
theorem dX11_init_71 : decode cX11_init 71 = .ok (.aload_n 0, 1) := by decide +kernel
theorem dX11_init_72 : decode cX11_init 72 = .ok (.iconst 5, 1) := by decide +kernel
theorem dX11_init_73 : decode cX11_init 73 = .ok (.anewarray 29, 3) := by decide +kernel
theorem dX11_init_76 : decode cX11_init 76 = .ok (.putfield 31, 3) := by decide +kernel
theorem dX11_init_79 : decode cX11_init 79 = .ok (.iconst 0, 1) := by decide +kernel
theorem dX11_init_80 : decode cX11_init 80 = .ok (.istore_n 1, 1) := by decide +kernel
theorem dX11_init_81 : decode cX11_init 81 = .ok (.iload_n 1, 1) := by decide +kernel
theorem dX11_init_82 : decode cX11_init 82 = .ok (.iconst 5, 1) := by decide +kernel
theorem dX11_init_83 : decode cX11_init 83 = .ok (.if_icmp .ge 22, 3) := by decide +kernel
theorem dX11_init_86 : decode cX11_init 86 = .ok (.aload_n 0, 1) := by decide +kernel
theorem dX11_init_87 : decode cX11_init 87 = .ok (.getfield 31, 3) := by decide +kernel
theorem dX11_init_90 : decode cX11_init 90 = .ok (.iload_n 1, 1) := by decide +kernel
theorem dX11_init_91 : decode cX11_init 91 = .ok (.new 29, 3) := by decide +kernel
theorem dX11_init_94 : decode cX11_init 94 = .ok (.dup, 1) := by decide +kernel
theorem dX11_init_95 : decode cX11_init 95 = .ok (.invokespecial 35, 3) := by decide +kernel
theorem dX11_init_98 : decode cX11_init 98 = .ok (.aastore, 1) := by decide +kernel
theorem dX11_init_99 : decode cX11_init 99 = .ok (.iinc 1 1, 3) := by decide +kernel
theorem dX11_init_102 : decode cX11_init 102 = .ok (.goto (-21), 3) := by decide +kernel
theorem dX11_init_105 : decode cX11_init 105 = .ok (.aload_n 0, 1) := by decide +kernel
theorem dX11_init_106 : decode cX11_init 106 = .ok (.bipush 60, 2) := by decide +kernel
theorem dX11_init_108 : decode cX11_init 108 = .ok (.newarray .int, 2) := by decide +kernel
theorem dX11_init_110 : decode cX11_init 110 = .ok (.putfield 36, 3) := by decide +kernel
theorem dX11_init_113 : decode cX11_init 113 = .ok (.aload_n 0, 1) := by decide +kernel
theorem dX11_init_114 : decode cX11_init 114 = .ok (.new 40, 3) := by decide +kernel
theorem dX11_init_117 : decode cX11_init 117 = .ok (.dup, 1) := by decide +kernel
theorem dX11_init_118 : decode cX11_init 118 = .ok (.invokespecial 42, 3) := by decide +kernel
theorem dX11_init_121 : decode cX11_init 121 = .ok (.putfield 43, 3) := by decide +kernel
theorem dX11_init_124 : decode cX11_init 124 = .ok (.aload_n 0, 1) := by decide +kernel
theorem dX11_init_125 : decode cX11_init 125 = .ok (.new 47, 3) := by decide +kernel
theorem dX11_init_128 : decode cX11_init 128 = .ok (.dup, 1) := by decide +kernel
theorem dX11_init_129 : decode cX11_init 129 = .ok (.invokespecial 49, 3) := by decide +kernel
theorem dX11_init_132 : decode cX11_init 132 = .ok (.putfield 50, 3) := by decide +kernel
theorem dX11_init_135 : decode cX11_init 135 = .ok (.return_, 1) := by decide +kernel
theorem dX11_coil_0 : decode cX11_coil 0 = .ok (.iload_n 1, 1) := by decide +kernel
theorem dX11_coil_1 : decode cX11_coil 1 = .ok (.invokestatic 54, 3) := by decide +kernel
theorem dX11_coil_4 : decode cX11_coil 4 = .ok (.ifCond .eq 17, 3) := by decide +kernel
theorem dX11_coil_7 : decode cX11_coil 7 = .ok (.aload_n 0, 1) := by decide +kernel
theorem dX11_coil_8 : decode cX11_coil 8 = .ok (.getfield 12, 3) := by decide +kernel
theorem dX11_coil_11 : decode cX11_coil 11 = .ok (.getfield 58, 3) := by decide +kernel
theorem dX11_coil_14 : decode cX11_coil 14 = .ok (.iload_n 1, 1) := by decide +kernel
theorem dX11_coil_15 : decode cX11_coil 15 = .ok (.invokevirtual 62, 3) := by decide +kernel
theorem dX11_coil_18 : decode cX11_coil 18 = .ok (.goto 5, 3) := by decide +kernel
theorem dX11_coil_21 : decode cX11_coil 21 = .ok (.ldc 68, 2) := by decide +kernel
theorem dX11_coil_23 : decode cX11_coil 23 = .ok (.ireturn, 1) := by decide +kernel
theorem dX11_coilTold_0 : decode cX11_coilTold 0 = .ok (.aload_n 0, 1) := by decide +kernel
theorem dX11_coilTold_1 : decode cX11_coilTold 1 = .ok (.getfield 12, 3) := by decide +kernel
theorem dX11_coilTold_4 : decode cX11_coilTold 4 = .ok (.getfield 58, 3) := by decide +kernel
theorem dX11_coilTold_7 : decode cX11_coilTold 7 = .ok (.astore_n 3, 1) := by decide +kernel
theorem dX11_coilTold_8 : decode cX11_coilTold 8 = .ok (.aload_n 3, 1) := by decide +kernel
theorem dX11_coilTold_9 : decode cX11_coilTold 9 = .ok (.iload_n 1, 1) := by decide +kernel
theorem dX11_coilTold_10 : decode cX11_coilTold 10 = .ok (.invokevirtual 69, 3) := by decide +kernel
theorem dX11_coilTold_13 : decode cX11_coilTold 13 = .ok (.ifCond .ne 6, 3) := by decide +kernel
theorem dX11_coilTold_16 : decode cX11_coilTold 16 = .ok (.ldc 68, 2) := by decide +kernel
theorem dX11_coilTold_18 : decode cX11_coilTold 18 = .ok (.ireturn, 1) := by decide +kernel
theorem dX11_coilTold_19 : decode cX11_coilTold 19 = .ok (.iload_n 2, 1) := by decide +kernel
theorem dX11_coilTold_20 : decode cX11_coilTold 20 = .ok (.tableswitch 93 0 4 #[36, 43, 50, 57, 81], 36) := by decide +kernel
theorem dX11_coilTold_56 : decode cX11_coilTold 56 = .ok (.aload_n 3, 1) := by decide +kernel
theorem dX11_coilTold_57 : decode cX11_coilTold 57 = .ok (.getfield 72, 3) := by decide +kernel
theorem dX11_coilTold_60 : decode cX11_coilTold 60 = .ok (.iload_n 1, 1) := by decide +kernel
theorem dX11_coilTold_61 : decode cX11_coilTold 61 = .ok (.iaload, 1) := by decide +kernel
theorem dX11_coilTold_62 : decode cX11_coilTold 62 = .ok (.ireturn, 1) := by decide +kernel
theorem dX11_coilTold_63 : decode cX11_coilTold 63 = .ok (.aload_n 3, 1) := by decide +kernel
theorem dX11_coilTold_64 : decode cX11_coilTold 64 = .ok (.getfield 75, 3) := by decide +kernel
theorem dX11_coilTold_67 : decode cX11_coilTold 67 = .ok (.iload_n 1, 1) := by decide +kernel
theorem dX11_coilTold_68 : decode cX11_coilTold 68 = .ok (.iaload, 1) := by decide +kernel
theorem dX11_coilTold_69 : decode cX11_coilTold 69 = .ok (.ireturn, 1) := by decide +kernel
theorem dX11_coilTold_70 : decode cX11_coilTold 70 = .ok (.aload_n 3, 1) := by decide +kernel
theorem dX11_coilTold_71 : decode cX11_coilTold 71 = .ok (.getfield 78, 3) := by decide +kernel
theorem dX11_coilTold_74 : decode cX11_coilTold 74 = .ok (.iload_n 1, 1) := by decide +kernel
theorem dX11_coilTold_75 : decode cX11_coilTold 75 = .ok (.iaload, 1) := by decide +kernel
theorem dX11_coilTold_76 : decode cX11_coilTold 76 = .ok (.ireturn, 1) := by decide +kernel
theorem dX11_coilTold_77 : decode cX11_coilTold 77 = .ok (.aload_n 0, 1) := by decide +kernel
theorem dX11_coilTold_78 : decode cX11_coilTold 78 = .ok (.getfield 12, 3) := by decide +kernel
theorem dX11_coilTold_81 : decode cX11_coilTold 81 = .ok (.iload_n 1, 1) := by decide +kernel
theorem dX11_coilTold_82 : decode cX11_coilTold 82 = .ok (.aload_n 0, 1) := by decide +kernel
theorem dX11_coilTold_83 : decode cX11_coilTold 83 = .ok (.getfield 12, 3) := by decide +kernel
theorem dX11_coilTold_86 : decode cX11_coilTold 86 = .ok (.getfield 81, 3) := by decide +kernel
theorem dX11_coilTold_89 : decode cX11_coilTold 89 = .ok (.invokevirtual 85, 3) := by decide +kernel
theorem dX11_coilTold_92 : decode cX11_coilTold 92 = .ok (.ifCond .eq 7, 3) := by decide +kernel
theorem dX11_coilTold_95 : decode cX11_coilTold 95 = .ok (.iconst 1, 1) := by decide +kernel
theorem dX11_coilTold_96 : decode cX11_coilTold 96 = .ok (.goto 4, 3) := by decide +kernel
theorem dX11_coilTold_99 : decode cX11_coilTold 99 = .ok (.iconst 0, 1) := by decide +kernel
theorem dX11_coilTold_100 : decode cX11_coilTold 100 = .ok (.ireturn, 1) := by decide +kernel
theorem dX11_coilTold_101 : decode cX11_coilTold 101 = .ok (.aload_n 0, 1) := by decide +kernel
theorem dX11_coilTold_102 : decode cX11_coilTold 102 = .ok (.getfield 12, 3) := by decide +kernel
theorem dX11_coilTold_105 : decode cX11_coilTold 105 = .ok (.getfield 89, 3) := by decide +kernel
theorem dX11_coilTold_108 : decode cX11_coilTold 108 = .ok (.iload_n 1, 1) := by decide +kernel
theorem dX11_coilTold_109 : decode cX11_coilTold 109 = .ok (.invokevirtual 93, 3) := by decide +kernel
theorem dX11_coilTold_112 : decode cX11_coilTold 112 = .ok (.ireturn, 1) := by decide +kernel
theorem dX11_coilTold_113 : decode cX11_coilTold 113 = .ok (.ldc 68, 2) := by decide +kernel
theorem dX11_coilTold_115 : decode cX11_coilTold 115 = .ok (.ireturn, 1) := by decide +kernel
theorem dX11_creep_0 : decode cX11_creep 0 = .ok (.aload_n 0, 1) := by decide +kernel
theorem dX11_creep_1 : decode cX11_creep 1 = .ok (.getfield 12, 3) := by decide +kernel
theorem dX11_creep_4 : decode cX11_creep 4 = .ok (.getfield 58, 3) := by decide +kernel
theorem dX11_creep_7 : decode cX11_creep 7 = .ok (.iload_n 1, 1) := by decide +kernel
theorem dX11_creep_8 : decode cX11_creep 8 = .ok (.invokevirtual 69, 3) := by decide +kernel
theorem dX11_creep_11 : decode cX11_creep 11 = .ok (.ifCond .eq 15, 3) := by decide +kernel
theorem dX11_creep_14 : decode cX11_creep 14 = .ok (.iload_n 2, 1) := by decide +kernel
theorem dX11_creep_15 : decode cX11_creep 15 = .ok (.bipush (-9), 2) := by decide +kernel
theorem dX11_creep_17 : decode cX11_creep 17 = .ok (.if_icmp .lt 9, 3) := by decide +kernel
theorem dX11_creep_20 : decode cX11_creep 20 = .ok (.iload_n 2, 1) := by decide +kernel
theorem dX11_creep_21 : decode cX11_creep 21 = .ok (.bipush 9, 2) := by decide +kernel
theorem dX11_creep_23 : decode cX11_creep 23 = .ok (.if_icmp .le 6, 3) := by decide +kernel
theorem dX11_creep_26 : decode cX11_creep 26 = .ok (.ldc 68, 2) := by decide +kernel
theorem dX11_creep_28 : decode cX11_creep 28 = .ok (.ireturn, 1) := by decide +kernel
theorem dX11_creep_29 : decode cX11_creep 29 = .ok (.aload_n 0, 1) := by decide +kernel
theorem dX11_creep_30 : decode cX11_creep 30 = .ok (.getfield 12, 3) := by decide +kernel
theorem dX11_creep_33 : decode cX11_creep 33 = .ok (.getfield 58, 3) := by decide +kernel
theorem dX11_creep_36 : decode cX11_creep 36 = .ok (.getfield 75, 3) := by decide +kernel
theorem dX11_creep_39 : decode cX11_creep 39 = .ok (.iload_n 1, 1) := by decide +kernel
theorem dX11_creep_40 : decode cX11_creep 40 = .ok (.iaload, 1) := by decide +kernel
theorem dX11_creep_41 : decode cX11_creep 41 = .ok (.istore_n 3, 1) := by decide +kernel
theorem dX11_creep_42 : decode cX11_creep 42 = .ok (.aload_n 0, 1) := by decide +kernel
theorem dX11_creep_43 : decode cX11_creep 43 = .ok (.getfield 12, 3) := by decide +kernel
theorem dX11_creep_46 : decode cX11_creep 46 = .ok (.getfield 58, 3) := by decide +kernel
theorem dX11_creep_49 : decode cX11_creep 49 = .ok (.getfield 75, 3) := by decide +kernel
theorem dX11_creep_52 : decode cX11_creep 52 = .ok (.iload_n 1, 1) := by decide +kernel
theorem dX11_creep_53 : decode cX11_creep 53 = .ok (.iload_n 2, 1) := by decide +kernel
theorem dX11_creep_54 : decode cX11_creep 54 = .ok (.iastore, 1) := by decide +kernel
theorem dX11_creep_55 : decode cX11_creep 55 = .ok (.iload_n 3, 1) := by decide +kernel
theorem dX11_creep_56 : decode cX11_creep 56 = .ok (.ireturn, 1) := by decide +kernel
theorem dX11_pair_0 : decode cX11_pair 0 = .ok (.aload_n 0, 1) := by decide +kernel
theorem dX11_pair_1 : decode cX11_pair 1 = .ok (.getfield 12, 3) := by decide +kernel
theorem dX11_pair_4 : decode cX11_pair 4 = .ok (.getfield 58, 3) := by decide +kernel
theorem dX11_pair_7 : decode cX11_pair 7 = .ok (.astore_n 3, 1) := by decide +kernel
theorem dX11_pair_8 : decode cX11_pair 8 = .ok (.aload_n 3, 1) := by decide +kernel
theorem dX11_pair_9 : decode cX11_pair 9 = .ok (.iload_n 1, 1) := by decide +kernel
theorem dX11_pair_10 : decode cX11_pair 10 = .ok (.invokevirtual 69, 3) := by decide +kernel
theorem dX11_pair_13 : decode cX11_pair 13 = .ok (.ifCond .eq 16, 3) := by decide +kernel
theorem dX11_pair_16 : decode cX11_pair 16 = .ok (.aload_n 3, 1) := by decide +kernel
theorem dX11_pair_17 : decode cX11_pair 17 = .ok (.iload_n 2, 1) := by decide +kernel
theorem dX11_pair_18 : decode cX11_pair 18 = .ok (.invokevirtual 69, 3) := by decide +kernel
theorem dX11_pair_21 : decode cX11_pair 21 = .ok (.ifCond .eq 8, 3) := by decide +kernel
theorem dX11_pair_24 : decode cX11_pair 24 = .ok (.iload_n 1, 1) := by decide +kernel
theorem dX11_pair_25 : decode cX11_pair 25 = .ok (.iload_n 2, 1) := by decide +kernel
theorem dX11_pair_26 : decode cX11_pair 26 = .ok (.if_icmp .ne 6, 3) := by decide +kernel
theorem dX11_pair_29 : decode cX11_pair 29 = .ok (.ldc 68, 2) := by decide +kernel
theorem dX11_pair_31 : decode cX11_pair 31 = .ok (.ireturn, 1) := by decide +kernel
theorem dX11_pair_32 : decode cX11_pair 32 = .ok (.aload_n 3, 1) := by decide +kernel
theorem dX11_pair_33 : decode cX11_pair 33 = .ok (.getfield 78, 3) := by decide +kernel
theorem dX11_pair_36 : decode cX11_pair 36 = .ok (.iload_n 1, 1) := by decide +kernel
theorem dX11_pair_37 : decode cX11_pair 37 = .ok (.iaload, 1) := by decide +kernel
theorem dX11_pair_38 : decode cX11_pair 38 = .ok (.ldc 98, 2) := by decide +kernel
theorem dX11_pair_40 : decode cX11_pair 40 = .ok (.if_icmp .ne 14, 3) := by decide +kernel
theorem dX11_pair_43 : decode cX11_pair 43 = .ok (.aload_n 3, 1) := by decide +kernel
theorem dX11_pair_44 : decode cX11_pair 44 = .ok (.getfield 78, 3) := by decide +kernel
theorem dX11_pair_47 : decode cX11_pair 47 = .ok (.iload_n 2, 1) := by decide +kernel
theorem dX11_pair_48 : decode cX11_pair 48 = .ok (.iaload, 1) := by decide +kernel
theorem dX11_pair_49 : decode cX11_pair 49 = .ok (.ldc 98, 2) := by decide +kernel
theorem dX11_pair_51 : decode cX11_pair 51 = .ok (.if_icmp .eq 6, 3) := by decide +kernel
theorem dX11_pair_54 : decode cX11_pair 54 = .ok (.ldc 99, 2) := by decide +kernel
theorem dX11_pair_56 : decode cX11_pair 56 = .ok (.ireturn, 1) := by decide +kernel
theorem dX11_pair_57 : decode cX11_pair 57 = .ok (.aload_n 3, 1) := by decide +kernel
theorem dX11_pair_58 : decode cX11_pair 58 = .ok (.getfield 78, 3) := by decide +kernel
theorem dX11_pair_61 : decode cX11_pair 61 = .ok (.iload_n 1, 1) := by decide +kernel
theorem dX11_pair_62 : decode cX11_pair 62 = .ok (.iload_n 2, 1) := by decide +kernel
theorem dX11_pair_63 : decode cX11_pair 63 = .ok (.iastore, 1) := by decide +kernel
theorem dX11_pair_64 : decode cX11_pair 64 = .ok (.aload_n 3, 1) := by decide +kernel
theorem dX11_pair_65 : decode cX11_pair 65 = .ok (.getfield 78, 3) := by decide +kernel
theorem dX11_pair_68 : decode cX11_pair 68 = .ok (.iload_n 2, 1) := by decide +kernel
theorem dX11_pair_69 : decode cX11_pair 69 = .ok (.iload_n 1, 1) := by decide +kernel
theorem dX11_pair_70 : decode cX11_pair 70 = .ok (.iastore, 1) := by decide +kernel
theorem dX11_pair_71 : decode cX11_pair 71 = .ok (.iconst 1, 1) := by decide +kernel
theorem dX11_pair_72 : decode cX11_pair 72 = .ok (.ireturn, 1) := by decide +kernel
theorem dX11_part_0 : decode cX11_part 0 = .ok (.aload_n 0, 1) := by decide +kernel
theorem dX11_part_1 : decode cX11_part 1 = .ok (.getfield 12, 3) := by decide +kernel
theorem dX11_part_4 : decode cX11_part 4 = .ok (.getfield 58, 3) := by decide +kernel
theorem dX11_part_7 : decode cX11_part 7 = .ok (.astore_n 2, 1) := by decide +kernel
theorem dX11_part_8 : decode cX11_part 8 = .ok (.aload_n 2, 1) := by decide +kernel
theorem dX11_part_9 : decode cX11_part 9 = .ok (.iload_n 1, 1) := by decide +kernel
theorem dX11_part_10 : decode cX11_part 10 = .ok (.invokevirtual 69, 3) := by decide +kernel
theorem dX11_part_13 : decode cX11_part 13 = .ok (.ifCond .ne 6, 3) := by decide +kernel
theorem dX11_part_16 : decode cX11_part 16 = .ok (.ldc 68, 2) := by decide +kernel
theorem dX11_part_18 : decode cX11_part 18 = .ok (.ireturn, 1) := by decide +kernel
theorem dX11_part_19 : decode cX11_part 19 = .ok (.aload_n 2, 1) := by decide +kernel
theorem dX11_part_20 : decode cX11_part 20 = .ok (.getfield 78, 3) := by decide +kernel
theorem dX11_part_23 : decode cX11_part 23 = .ok (.iload_n 1, 1) := by decide +kernel
theorem dX11_part_24 : decode cX11_part 24 = .ok (.iaload, 1) := by decide +kernel
theorem dX11_part_25 : decode cX11_part 25 = .ok (.istore_n 3, 1) := by decide +kernel
theorem dX11_part_26 : decode cX11_part 26 = .ok (.aload_n 2, 1) := by decide +kernel
theorem dX11_part_27 : decode cX11_part 27 = .ok (.iload_n 3, 1) := by decide +kernel
theorem dX11_part_28 : decode cX11_part 28 = .ok (.invokevirtual 69, 3) := by decide +kernel
theorem dX11_part_31 : decode cX11_part 31 = .ok (.ifCond .ne 6, 3) := by decide +kernel
theorem dX11_part_34 : decode cX11_part 34 = .ok (.ldc 99, 2) := by decide +kernel
theorem dX11_part_36 : decode cX11_part 36 = .ok (.ireturn, 1) := by decide +kernel
theorem dX11_part_37 : decode cX11_part 37 = .ok (.aload_n 2, 1) := by decide +kernel
theorem dX11_part_38 : decode cX11_part 38 = .ok (.getfield 78, 3) := by decide +kernel
theorem dX11_part_41 : decode cX11_part 41 = .ok (.iload_n 1, 1) := by decide +kernel
theorem dX11_part_42 : decode cX11_part 42 = .ok (.ldc 98, 2) := by decide +kernel
theorem dX11_part_44 : decode cX11_part 44 = .ok (.iastore, 1) := by decide +kernel
theorem dX11_part_45 : decode cX11_part 45 = .ok (.aload_n 2, 1) := by decide +kernel
theorem dX11_part_46 : decode cX11_part 46 = .ok (.getfield 78, 3) := by decide +kernel
theorem dX11_part_49 : decode cX11_part 49 = .ok (.iload_n 3, 1) := by decide +kernel
theorem dX11_part_50 : decode cX11_part 50 = .ok (.ldc 98, 2) := by decide +kernel
theorem dX11_part_52 : decode cX11_part 52 = .ok (.iastore, 1) := by decide +kernel
theorem dX11_part_53 : decode cX11_part 53 = .ok (.iload_n 3, 1) := by decide +kernel
theorem dX11_part_54 : decode cX11_part 54 = .ok (.ireturn, 1) := by decide +kernel
theorem dX11_watch_0 : decode cX11_watch 0 = .ok (.aload_n 0, 1) := by decide +kernel
theorem dX11_watch_1 : decode cX11_watch 1 = .ok (.getfield 12, 3) := by decide +kernel
theorem dX11_watch_4 : decode cX11_watch 4 = .ok (.getfield 58, 3) := by decide +kernel
theorem dX11_watch_7 : decode cX11_watch 7 = .ok (.iload_n 1, 1) := by decide +kernel
theorem dX11_watch_8 : decode cX11_watch 8 = .ok (.invokevirtual 69, 3) := by decide +kernel
theorem dX11_watch_11 : decode cX11_watch 11 = .ok (.ifCond .eq 27, 3) := by decide +kernel
theorem dX11_watch_14 : decode cX11_watch 14 = .ok (.iload_n 2, 1) := by decide +kernel
theorem dX11_watch_15 : decode cX11_watch 15 = .ok (.iload_n 3, 1) := by decide +kernel
theorem dX11_watch_16 : decode cX11_watch 16 = .ok (.invokestatic 100, 3) := by decide +kernel
theorem dX11_watch_19 : decode cX11_watch 19 = .ok (.ifCond .eq 19, 3) := by decide +kernel
theorem dX11_watch_22 : decode cX11_watch 22 = .ok (.aload_n 0, 1) := by decide +kernel
theorem dX11_watch_23 : decode cX11_watch 23 = .ok (.getfield 12, 3) := by decide +kernel
theorem dX11_watch_26 : decode cX11_watch 26 = .ok (.getfield 103, 3) := by decide +kernel
theorem dX11_watch_29 : decode cX11_watch 29 = .ok (.iload_n 1, 1) := by decide +kernel
theorem dX11_watch_30 : decode cX11_watch 30 = .ok (.iload_n 2, 1) := by decide +kernel
theorem dX11_watch_31 : decode cX11_watch 31 = .ok (.iload_n 3, 1) := by decide +kernel
theorem dX11_watch_32 : decode cX11_watch 32 = .ok (.invokevirtual 107, 3) := by decide +kernel
theorem dX11_watch_35 : decode cX11_watch 35 = .ok (.goto 5, 3) := by decide +kernel
theorem dX11_watch_38 : decode cX11_watch 38 = .ok (.ldc 68, 2) := by decide +kernel
theorem dX11_watch_40 : decode cX11_watch 40 = .ok (.ireturn, 1) := by decide +kernel
theorem dX11_seen_0 : decode cX11_seen 0 = .ok (.iload_n 1, 1) := by decide +kernel
theorem dX11_seen_1 : decode cX11_seen 1 = .ok (.invokestatic 112, 3) := by decide +kernel
theorem dX11_seen_4 : decode cX11_seen 4 = .ok (.ifCond .eq 14, 3) := by decide +kernel
theorem dX11_seen_7 : decode cX11_seen 7 = .ok (.aload_n 0, 1) := by decide +kernel
theorem dX11_seen_8 : decode cX11_seen 8 = .ok (.getfield 12, 3) := by decide +kernel
theorem dX11_seen_11 : decode cX11_seen 11 = .ok (.iload_n 1, 1) := by decide +kernel
theorem dX11_seen_12 : decode cX11_seen 12 = .ok (.invokevirtual 115, 3) := by decide +kernel
theorem dX11_seen_15 : decode cX11_seen 15 = .ok (.goto 5, 3) := by decide +kernel
theorem dX11_seen_18 : decode cX11_seen 18 = .ok (.ldc 68, 2) := by decide +kernel
theorem dX11_seen_20 : decode cX11_seen 20 = .ok (.ireturn, 1) := by decide +kernel
theorem dX11_line_0 : decode cX11_line 0 = .ok (.aload_n 0, 1) := by decide +kernel
theorem dX11_line_1 : decode cX11_line 1 = .ok (.getfield 12, 3) := by decide +kernel
theorem dX11_line_4 : decode cX11_line 4 = .ok (.getfield 58, 3) := by decide +kernel
theorem dX11_line_7 : decode cX11_line 7 = .ok (.iload_n 1, 1) := by decide +kernel
theorem dX11_line_8 : decode cX11_line 8 = .ok (.invokevirtual 69, 3) := by decide +kernel
theorem dX11_line_11 : decode cX11_line 11 = .ok (.ifCond .eq 22, 3) := by decide +kernel
theorem dX11_line_14 : decode cX11_line 14 = .ok (.iload_n 2, 1) := by decide +kernel
theorem dX11_line_15 : decode cX11_line 15 = .ok (.invokestatic 112, 3) := by decide +kernel
theorem dX11_line_18 : decode cX11_line 18 = .ok (.ifCond .eq 15, 3) := by decide +kernel
theorem dX11_line_21 : decode cX11_line 21 = .ok (.aload_n 0, 1) := by decide +kernel
theorem dX11_line_22 : decode cX11_line 22 = .ok (.getfield 12, 3) := by decide +kernel
theorem dX11_line_25 : decode cX11_line 25 = .ok (.iload_n 1, 1) := by decide +kernel
theorem dX11_line_26 : decode cX11_line 26 = .ok (.iload_n 2, 1) := by decide +kernel
theorem dX11_line_27 : decode cX11_line 27 = .ok (.invokevirtual 118, 3) := by decide +kernel
theorem dX11_line_30 : decode cX11_line 30 = .ok (.goto 5, 3) := by decide +kernel
theorem dX11_line_33 : decode cX11_line 33 = .ok (.ldc 68, 2) := by decide +kernel
theorem dX11_line_35 : decode cX11_line 35 = .ok (.ireturn, 1) := by decide +kernel
theorem dX11_step_0 : decode cX11_step 0 = .ok (.iload_n 1, 1) := by decide +kernel
theorem dX11_step_1 : decode cX11_step 1 = .ok (.invokestatic 122, 3) := by decide +kernel
theorem dX11_step_4 : decode cX11_step 4 = .ok (.ifCond .eq 40, 3) := by decide +kernel
theorem dX11_step_7 : decode cX11_step 7 = .ok (.aload_n 0, 1) := by decide +kernel
theorem dX11_step_8 : decode cX11_step 8 = .ok (.getfield 12, 3) := by decide +kernel
theorem dX11_step_11 : decode cX11_step 11 = .ok (.getfield 58, 3) := by decide +kernel
theorem dX11_step_14 : decode cX11_step 14 = .ok (.iload_n 2, 1) := by decide +kernel
theorem dX11_step_15 : decode cX11_step 15 = .ok (.invokevirtual 69, 3) := by decide +kernel
theorem dX11_step_18 : decode cX11_step 18 = .ok (.ifCond .eq 26, 3) := by decide +kernel
theorem dX11_step_21 : decode cX11_step 21 = .ok (.iload_n 3, 1) := by decide +kernel
theorem dX11_step_22 : decode cX11_step 22 = .ok (.ifCond .lt 22, 3) := by decide +kernel
theorem dX11_step_25 : decode cX11_step 25 = .ok (.iload_n 3, 1) := by decide +kernel
theorem dX11_step_26 : decode cX11_step 26 = .ok (.aload_n 0, 1) := by decide +kernel
theorem dX11_step_27 : decode cX11_step 27 = .ok (.getfield 12, 3) := by decide +kernel
theorem dX11_step_30 : decode cX11_step 30 = .ok (.getfield 81, 3) := by decide +kernel
theorem dX11_step_33 : decode cX11_step 33 = .ok (.if_icmp .gt 11, 3) := by decide +kernel
theorem dX11_step_36 : decode cX11_step 36 = .ok (.iload 4, 2) := by decide +kernel
theorem dX11_step_38 : decode cX11_step 38 = .ok (.invokestatic 125, 3) := by decide +kernel
theorem dX11_step_41 : decode cX11_step 41 = .ok (.ifCond .ne 6, 3) := by decide +kernel
theorem dX11_step_44 : decode cX11_step 44 = .ok (.ldc 68, 2) := by decide +kernel
theorem dX11_step_46 : decode cX11_step 46 = .ok (.ireturn, 1) := by decide +kernel
theorem dX11_step_47 : decode cX11_step 47 = .ok (.aload_n 0, 1) := by decide +kernel
theorem dX11_step_48 : decode cX11_step 48 = .ok (.getfield 12, 3) := by decide +kernel
theorem dX11_step_51 : decode cX11_step 51 = .ok (.getfield 89, 3) := by decide +kernel
theorem dX11_step_54 : decode cX11_step 54 = .ok (.iload_n 1, 1) := by decide +kernel
theorem dX11_step_55 : decode cX11_step 55 = .ok (.iload_n 2, 1) := by decide +kernel
theorem dX11_step_56 : decode cX11_step 56 = .ok (.iload_n 3, 1) := by decide +kernel
theorem dX11_step_57 : decode cX11_step 57 = .ok (.iload 4, 2) := by decide +kernel
theorem dX11_step_59 : decode cX11_step 59 = .ok (.invokevirtual 128, 3) := by decide +kernel
theorem dX11_step_62 : decode cX11_step 62 = .ok (.ireturn, 1) := by decide +kernel
theorem dX11_told_0 : decode cX11_told 0 = .ok (.aload_n 0, 1) := by decide +kernel
theorem dX11_told_1 : decode cX11_told 1 = .ok (.getfield 12, 3) := by decide +kernel
theorem dX11_told_4 : decode cX11_told 4 = .ok (.getfield 89, 3) := by decide +kernel
theorem dX11_told_7 : decode cX11_told 7 = .ok (.astore_n 3, 1) := by decide +kernel
theorem dX11_told_8 : decode cX11_told 8 = .ok (.aload_n 3, 1) := by decide +kernel
theorem dX11_told_9 : decode cX11_told 9 = .ok (.iload_n 1, 1) := by decide +kernel
theorem dX11_told_10 : decode cX11_told 10 = .ok (.invokevirtual 131, 3) := by decide +kernel
theorem dX11_told_13 : decode cX11_told 13 = .ok (.ifCond .ne 6, 3) := by decide +kernel
theorem dX11_told_16 : decode cX11_told 16 = .ok (.ldc 68, 2) := by decide +kernel
theorem dX11_told_18 : decode cX11_told 18 = .ok (.ireturn, 1) := by decide +kernel
theorem dX11_told_19 : decode cX11_told 19 = .ok (.iload_n 2, 1) := by decide +kernel
theorem dX11_told_20 : decode cX11_told 20 = .ok (.tableswitch 108 0 5 #[40, 47, 54, 61, 68, 85], 40) := by decide +kernel
theorem dX11_told_60 : decode cX11_told 60 = .ok (.aload_n 3, 1) := by decide +kernel
theorem dX11_told_61 : decode cX11_told 61 = .ok (.getfield 132, 3) := by decide +kernel
theorem dX11_told_64 : decode cX11_told 64 = .ok (.iload_n 1, 1) := by decide +kernel
theorem dX11_told_65 : decode cX11_told 65 = .ok (.iaload, 1) := by decide +kernel
theorem dX11_told_66 : decode cX11_told 66 = .ok (.ireturn, 1) := by decide +kernel
theorem dX11_told_67 : decode cX11_told 67 = .ok (.aload_n 3, 1) := by decide +kernel
theorem dX11_told_68 : decode cX11_told 68 = .ok (.getfield 135, 3) := by decide +kernel
theorem dX11_told_71 : decode cX11_told 71 = .ok (.iload_n 1, 1) := by decide +kernel
theorem dX11_told_72 : decode cX11_told 72 = .ok (.iaload, 1) := by decide +kernel
theorem dX11_told_73 : decode cX11_told 73 = .ok (.ireturn, 1) := by decide +kernel
theorem dX11_told_74 : decode cX11_told 74 = .ok (.aload_n 3, 1) := by decide +kernel
theorem dX11_told_75 : decode cX11_told 75 = .ok (.getfield 138, 3) := by decide +kernel
theorem dX11_told_78 : decode cX11_told 78 = .ok (.iload_n 1, 1) := by decide +kernel
theorem dX11_told_79 : decode cX11_told 79 = .ok (.iaload, 1) := by decide +kernel
theorem dX11_told_80 : decode cX11_told 80 = .ok (.ireturn, 1) := by decide +kernel
theorem dX11_told_81 : decode cX11_told 81 = .ok (.aload_n 3, 1) := by decide +kernel
theorem dX11_told_82 : decode cX11_told 82 = .ok (.getfield 140, 3) := by decide +kernel
theorem dX11_told_85 : decode cX11_told 85 = .ok (.iload_n 1, 1) := by decide +kernel
theorem dX11_told_86 : decode cX11_told 86 = .ok (.iaload, 1) := by decide +kernel
theorem dX11_told_87 : decode cX11_told 87 = .ok (.ireturn, 1) := by decide +kernel
theorem dX11_told_88 : decode cX11_told 88 = .ok (.aload_n 0, 1) := by decide +kernel
theorem dX11_told_89 : decode cX11_told 89 = .ok (.getfield 12, 3) := by decide +kernel
theorem dX11_told_92 : decode cX11_told 92 = .ok (.iload_n 1, 1) := by decide +kernel
theorem dX11_told_93 : decode cX11_told 93 = .ok (.invokevirtual 143, 3) := by decide +kernel
theorem dX11_told_96 : decode cX11_told 96 = .ok (.ifCond .eq 7, 3) := by decide +kernel
theorem dX11_told_99 : decode cX11_told 99 = .ok (.iconst 1, 1) := by decide +kernel
theorem dX11_told_100 : decode cX11_told 100 = .ok (.goto 4, 3) := by decide +kernel
theorem dX11_told_103 : decode cX11_told 103 = .ok (.iconst 0, 1) := by decide +kernel
theorem dX11_told_104 : decode cX11_told 104 = .ok (.ireturn, 1) := by decide +kernel
theorem dX11_told_105 : decode cX11_told 105 = .ok (.aload_n 3, 1) := by decide +kernel
theorem dX11_told_106 : decode cX11_told 106 = .ok (.getfield 132, 3) := by decide +kernel
theorem dX11_told_109 : decode cX11_told 109 = .ok (.iload_n 1, 1) := by decide +kernel
theorem dX11_told_110 : decode cX11_told 110 = .ok (.iaload, 1) := by decide +kernel
theorem dX11_told_111 : decode cX11_told 111 = .ok (.aload_n 3, 1) := by decide +kernel
theorem dX11_told_112 : decode cX11_told 112 = .ok (.getfield 140, 3) := by decide +kernel
theorem dX11_told_115 : decode cX11_told 115 = .ok (.iload_n 1, 1) := by decide +kernel
theorem dX11_told_116 : decode cX11_told 116 = .ok (.iaload, 1) := by decide +kernel
theorem dX11_told_117 : decode cX11_told 117 = .ok (.aload_n 0, 1) := by decide +kernel
theorem dX11_told_118 : decode cX11_told 118 = .ok (.getfield 12, 3) := by decide +kernel
theorem dX11_told_121 : decode cX11_told 121 = .ok (.getfield 146, 3) := by decide +kernel
theorem dX11_told_124 : decode cX11_told 124 = .ok (.invokestatic 149, 3) := by decide +kernel
theorem dX11_told_127 : decode cX11_told 127 = .ok (.ireturn, 1) := by decide +kernel
theorem dX11_told_128 : decode cX11_told 128 = .ok (.ldc 68, 2) := by decide +kernel
theorem dX11_told_130 : decode cX11_told 130 = .ok (.ireturn, 1) := by decide +kernel
theorem dX11_as_0 : decode cX11_as 0 = .ok (.aload_n 0, 1) := by decide +kernel
theorem dX11_as_1 : decode cX11_as 1 = .ok (.getfield 12, 3) := by decide +kernel
theorem dX11_as_4 : decode cX11_as 4 = .ok (.getfield 89, 3) := by decide +kernel
theorem dX11_as_7 : decode cX11_as 7 = .ok (.iload_n 1, 1) := by decide +kernel
theorem dX11_as_8 : decode cX11_as 8 = .ok (.invokevirtual 131, 3) := by decide +kernel
theorem dX11_as_11 : decode cX11_as 11 = .ok (.ifCond .eq 10, 3) := by decide +kernel
theorem dX11_as_14 : decode cX11_as 14 = .ok (.iload_n 2, 1) := by decide +kernel
theorem dX11_as_15 : decode cX11_as 15 = .ok (.invokestatic 122, 3) := by decide +kernel
theorem dX11_as_18 : decode cX11_as 18 = .ok (.ifCond .ne 6, 3) := by decide +kernel
theorem dX11_as_21 : decode cX11_as 21 = .ok (.ldc 68, 2) := by decide +kernel
theorem dX11_as_23 : decode cX11_as 23 = .ok (.ireturn, 1) := by decide +kernel
theorem dX11_as_24 : decode cX11_as 24 = .ok (.aload_n 0, 1) := by decide +kernel
theorem dX11_as_25 : decode cX11_as 25 = .ok (.getfield 12, 3) := by decide +kernel
theorem dX11_as_28 : decode cX11_as 28 = .ok (.getfield 89, 3) := by decide +kernel
theorem dX11_as_31 : decode cX11_as 31 = .ok (.getfield 132, 3) := by decide +kernel
theorem dX11_as_34 : decode cX11_as 34 = .ok (.iload_n 1, 1) := by decide +kernel
theorem dX11_as_35 : decode cX11_as 35 = .ok (.iaload, 1) := by decide +kernel
theorem dX11_as_36 : decode cX11_as 36 = .ok (.iload_n 2, 1) := by decide +kernel
theorem dX11_as_37 : decode cX11_as 37 = .ok (.invokestatic 152, 3) := by decide +kernel
theorem dX11_as_40 : decode cX11_as 40 = .ok (.ifCond .eq 18, 3) := by decide +kernel
theorem dX11_as_43 : decode cX11_as 43 = .ok (.aload_n 0, 1) := by decide +kernel
theorem dX11_as_44 : decode cX11_as 44 = .ok (.getfield 12, 3) := by decide +kernel
theorem dX11_as_47 : decode cX11_as 47 = .ok (.getfield 89, 3) := by decide +kernel
theorem dX11_as_50 : decode cX11_as 50 = .ok (.getfield 140, 3) := by decide +kernel
theorem dX11_as_53 : decode cX11_as 53 = .ok (.iload_n 1, 1) := by decide +kernel
theorem dX11_as_54 : decode cX11_as 54 = .ok (.iaload, 1) := by decide +kernel
theorem dX11_as_55 : decode cX11_as 55 = .ok (.goto 5, 3) := by decide +kernel
theorem dX11_as_58 : decode cX11_as 58 = .ok (.ldc 155, 2) := by decide +kernel
theorem dX11_as_60 : decode cX11_as 60 = .ok (.ireturn, 1) := by decide +kernel
theorem dX11_turns_0 : decode cX11_turns 0 = .ok (.aload_n 0, 1) := by decide +kernel
theorem dX11_turns_1 : decode cX11_turns 1 = .ok (.getfield 12, 3) := by decide +kernel
theorem dX11_turns_4 : decode cX11_turns 4 = .ok (.getfield 89, 3) := by decide +kernel
theorem dX11_turns_7 : decode cX11_turns 7 = .ok (.iload_n 1, 1) := by decide +kernel
theorem dX11_turns_8 : decode cX11_turns 8 = .ok (.invokevirtual 131, 3) := by decide +kernel
theorem dX11_turns_11 : decode cX11_turns 11 = .ok (.ifCond .eq 10, 3) := by decide +kernel
theorem dX11_turns_14 : decode cX11_turns 14 = .ok (.iload_n 2, 1) := by decide +kernel
theorem dX11_turns_15 : decode cX11_turns 15 = .ok (.invokestatic 122, 3) := by decide +kernel
theorem dX11_turns_18 : decode cX11_turns 18 = .ok (.ifCond .ne 6, 3) := by decide +kernel
theorem dX11_turns_21 : decode cX11_turns 21 = .ok (.ldc 68, 2) := by decide +kernel
theorem dX11_turns_23 : decode cX11_turns 23 = .ok (.ireturn, 1) := by decide +kernel
theorem dX11_turns_24 : decode cX11_turns 24 = .ok (.aload_n 0, 1) := by decide +kernel
theorem dX11_turns_25 : decode cX11_turns 25 = .ok (.getfield 12, 3) := by decide +kernel
theorem dX11_turns_28 : decode cX11_turns 28 = .ok (.getfield 89, 3) := by decide +kernel
theorem dX11_turns_31 : decode cX11_turns 31 = .ok (.getfield 132, 3) := by decide +kernel
theorem dX11_turns_34 : decode cX11_turns 34 = .ok (.iload_n 1, 1) := by decide +kernel
theorem dX11_turns_35 : decode cX11_turns 35 = .ok (.iaload, 1) := by decide +kernel
theorem dX11_turns_36 : decode cX11_turns 36 = .ok (.istore_n 3, 1) := by decide +kernel
theorem dX11_turns_37 : decode cX11_turns 37 = .ok (.aload_n 0, 1) := by decide +kernel
theorem dX11_turns_38 : decode cX11_turns 38 = .ok (.getfield 12, 3) := by decide +kernel
theorem dX11_turns_41 : decode cX11_turns 41 = .ok (.getfield 89, 3) := by decide +kernel
theorem dX11_turns_44 : decode cX11_turns 44 = .ok (.getfield 132, 3) := by decide +kernel
theorem dX11_turns_47 : decode cX11_turns 47 = .ok (.iload_n 1, 1) := by decide +kernel
theorem dX11_turns_48 : decode cX11_turns 48 = .ok (.iload_n 2, 1) := by decide +kernel
theorem dX11_turns_49 : decode cX11_turns 49 = .ok (.iastore, 1) := by decide +kernel
theorem dX11_turns_50 : decode cX11_turns 50 = .ok (.iload_n 3, 1) := by decide +kernel
theorem dX11_turns_51 : decode cX11_turns 51 = .ok (.ireturn, 1) := by decide +kernel
theorem dX11_drop_0 : decode cX11_drop 0 = .ok (.aload_n 0, 1) := by decide +kernel
theorem dX11_drop_1 : decode cX11_drop 1 = .ok (.getfield 12, 3) := by decide +kernel
theorem dX11_drop_4 : decode cX11_drop 4 = .ok (.getfield 89, 3) := by decide +kernel
theorem dX11_drop_7 : decode cX11_drop 7 = .ok (.iload_n 1, 1) := by decide +kernel
theorem dX11_drop_8 : decode cX11_drop 8 = .ok (.invokevirtual 131, 3) := by decide +kernel
theorem dX11_drop_11 : decode cX11_drop 11 = .ok (.ifCond .ne 6, 3) := by decide +kernel
theorem dX11_drop_14 : decode cX11_drop 14 = .ok (.ldc 68, 2) := by decide +kernel
theorem dX11_drop_16 : decode cX11_drop 16 = .ok (.ireturn, 1) := by decide +kernel
theorem dX11_drop_17 : decode cX11_drop 17 = .ok (.aload_n 0, 1) := by decide +kernel
theorem dX11_drop_18 : decode cX11_drop 18 = .ok (.getfield 12, 3) := by decide +kernel
theorem dX11_drop_21 : decode cX11_drop 21 = .ok (.getfield 89, 3) := by decide +kernel
theorem dX11_drop_24 : decode cX11_drop 24 = .ok (.iload_n 1, 1) := by decide +kernel
theorem dX11_drop_25 : decode cX11_drop 25 = .ok (.invokevirtual 156, 3) := by decide +kernel
theorem dX11_drop_28 : decode cX11_drop 28 = .ok (.aload_n 0, 1) := by decide +kernel
theorem dX11_drop_29 : decode cX11_drop 29 = .ok (.getfield 12, 3) := by decide +kernel
theorem dX11_drop_32 : decode cX11_drop 32 = .ok (.getfield 89, 3) := by decide +kernel
theorem dX11_drop_35 : decode cX11_drop 35 = .ok (.getfield 160, 3) := by decide +kernel
theorem dX11_drop_38 : decode cX11_drop 38 = .ok (.ireturn, 1) := by decide +kernel
theorem dX11_set_0 : decode cX11_set 0 = .ok (.iload_n 1, 1) := by decide +kernel
theorem dX11_set_1 : decode cX11_set 1 = .ok (.ifCond .lt 19, 3) := by decide +kernel
theorem dX11_set_4 : decode cX11_set 4 = .ok (.iload_n 1, 1) := by decide +kernel
theorem dX11_set_5 : decode cX11_set 5 = .ok (.getstatic 163, 3) := by decide +kernel
theorem dX11_set_8 : decode cX11_set 8 = .ok (.arraylength, 1) := by decide +kernel
theorem dX11_set_9 : decode cX11_set 9 = .ok (.if_icmp .ge 11, 3) := by decide +kernel
theorem dX11_set_12 : decode cX11_set 12 = .ok (.iload_n 1, 1) := by decide +kernel
theorem dX11_set_13 : decode cX11_set 13 = .ok (.getstatic 166, 3) := by decide +kernel
theorem dX11_set_16 : decode cX11_set 16 = .ok (.arraylength, 1) := by decide +kernel
theorem dX11_set_17 : decode cX11_set 17 = .ok (.if_icmp .lt 6, 3) := by decide +kernel
theorem dX11_set_20 : decode cX11_set 20 = .ok (.ldc 68, 2) := by decide +kernel
theorem dX11_set_22 : decode cX11_set 22 = .ok (.ireturn, 1) := by decide +kernel
theorem dX11_set_23 : decode cX11_set 23 = .ok (.iload_n 2, 1) := by decide +kernel
theorem dX11_set_24 : decode cX11_set 24 = .ok (.getstatic 163, 3) := by decide +kernel
theorem dX11_set_27 : decode cX11_set 27 = .ok (.iload_n 1, 1) := by decide +kernel
theorem dX11_set_28 : decode cX11_set 28 = .ok (.iaload, 1) := by decide +kernel
theorem dX11_set_29 : decode cX11_set 29 = .ok (.if_icmp .lt 12, 3) := by decide +kernel
theorem dX11_set_32 : decode cX11_set 32 = .ok (.iload_n 2, 1) := by decide +kernel
theorem dX11_set_33 : decode cX11_set 33 = .ok (.getstatic 166, 3) := by decide +kernel
theorem dX11_set_36 : decode cX11_set 36 = .ok (.iload_n 1, 1) := by decide +kernel
theorem dX11_set_37 : decode cX11_set 37 = .ok (.iaload, 1) := by decide +kernel
theorem dX11_set_38 : decode cX11_set 38 = .ok (.if_icmp .le 8, 3) := by decide +kernel
theorem dX11_set_41 : decode cX11_set 41 = .ok (.ldc 68, 2) := by decide +kernel
theorem dX11_set_43 : decode cX11_set 43 = .ok (.goto 12, 3) := by decide +kernel
theorem dX11_set_46 : decode cX11_set 46 = .ok (.aload_n 0, 1) := by decide +kernel
theorem dX11_set_47 : decode cX11_set 47 = .ok (.getfield 12, 3) := by decide +kernel
theorem dX11_set_50 : decode cX11_set 50 = .ok (.iload_n 1, 1) := by decide +kernel
theorem dX11_set_51 : decode cX11_set 51 = .ok (.iload_n 2, 1) := by decide +kernel
theorem dX11_set_52 : decode cX11_set 52 = .ok (.invokevirtual 169, 3) := by decide +kernel
theorem dX11_set_55 : decode cX11_set 55 = .ok (.ireturn, 1) := by decide +kernel
theorem dX11_fit_0 : decode cX11_fit 0 = .ok (.iconst 0, 1) := by decide +kernel
theorem dX11_fit_1 : decode cX11_fit 1 = .ok (.istore_n 1, 1) := by decide +kernel
theorem dX11_fit_2 : decode cX11_fit 2 = .ok (.iconst 0, 1) := by decide +kernel
theorem dX11_fit_3 : decode cX11_fit 3 = .ok (.istore_n 2, 1) := by decide +kernel
theorem dX11_fit_4 : decode cX11_fit 4 = .ok (.iload_n 2, 1) := by decide +kernel
theorem dX11_fit_5 : decode cX11_fit 5 = .ok (.aload_n 0, 1) := by decide +kernel
theorem dX11_fit_6 : decode cX11_fit 6 = .ok (.getfield 12, 3) := by decide +kernel
theorem dX11_fit_9 : decode cX11_fit 9 = .ok (.getfield 89, 3) := by decide +kernel
theorem dX11_fit_12 : decode cX11_fit 12 = .ok (.getfield 160, 3) := by decide +kernel
theorem dX11_fit_15 : decode cX11_fit 15 = .ok (.if_icmp .ge 23, 3) := by decide +kernel
theorem dX11_fit_18 : decode cX11_fit 18 = .ok (.aload_n 0, 1) := by decide +kernel
theorem dX11_fit_19 : decode cX11_fit 19 = .ok (.getfield 12, 3) := by decide +kernel
theorem dX11_fit_22 : decode cX11_fit 22 = .ok (.iload_n 2, 1) := by decide +kernel
theorem dX11_fit_23 : decode cX11_fit 23 = .ok (.invokevirtual 143, 3) := by decide +kernel
theorem dX11_fit_26 : decode cX11_fit 26 = .ok (.ifCond .eq 6, 3) := by decide +kernel
theorem dX11_fit_29 : decode cX11_fit 29 = .ok (.iinc 1 1, 3) := by decide +kernel
theorem dX11_fit_32 : decode cX11_fit 32 = .ok (.iinc 2 1, 3) := by decide +kernel
theorem dX11_fit_35 : decode cX11_fit 35 = .ok (.goto (-31), 3) := by decide +kernel
theorem dX11_fit_38 : decode cX11_fit 38 = .ok (.iload_n 1, 1) := by decide +kernel
theorem dX11_fit_39 : decode cX11_fit 39 = .ok (.ireturn, 1) := by decide +kernel
theorem dX11_run_0 : decode cX11_run 0 = .ok (.iload_n 1, 1) := by decide +kernel
theorem dX11_run_1 : decode cX11_run 1 = .ok (.iconst 1, 1) := by decide +kernel
theorem dX11_run_2 : decode cX11_run 2 = .ok (.if_icmp .lt 9, 3) := by decide +kernel
theorem dX11_run_5 : decode cX11_run 5 = .ok (.iload_n 1, 1) := by decide +kernel
theorem dX11_run_6 : decode cX11_run 6 = .ok (.bipush 60, 2) := by decide +kernel
theorem dX11_run_8 : decode cX11_run 8 = .ok (.if_icmp .le 6, 3) := by decide +kernel
theorem dX11_run_11 : decode cX11_run 11 = .ok (.ldc 68, 2) := by decide +kernel
theorem dX11_run_13 : decode cX11_run 13 = .ok (.ireturn, 1) := by decide +kernel
theorem dX11_run_14 : decode cX11_run 14 = .ok (.aload_n 0, 1) := by decide +kernel
theorem dX11_run_15 : decode cX11_run 15 = .ok (.getfield 12, 3) := by decide +kernel
theorem dX11_run_18 : decode cX11_run 18 = .ok (.getfield 81, 3) := by decide +kernel
theorem dX11_run_21 : decode cX11_run 21 = .ok (.iload_n 1, 1) := by decide +kernel
theorem dX11_run_22 : decode cX11_run 22 = .ok (.iadd, 1) := by decide +kernel
theorem dX11_run_23 : decode cX11_run 23 = .ok (.sipush 1999, 3) := by decide +kernel
theorem dX11_run_26 : decode cX11_run 26 = .ok (.if_icmp .le 6, 3) := by decide +kernel
theorem dX11_run_29 : decode cX11_run 29 = .ok (.ldc 172, 2) := by decide +kernel
theorem dX11_run_31 : decode cX11_run 31 = .ok (.ireturn, 1) := by decide +kernel
theorem dX11_run_32 : decode cX11_run 32 = .ok (.iconst 0, 1) := by decide +kernel
theorem dX11_run_33 : decode cX11_run 33 = .ok (.istore_n 2, 1) := by decide +kernel
theorem dX11_run_34 : decode cX11_run 34 = .ok (.iload_n 2, 1) := by decide +kernel
theorem dX11_run_35 : decode cX11_run 35 = .ok (.iload_n 1, 1) := by decide +kernel
theorem dX11_run_36 : decode cX11_run 36 = .ok (.if_icmp .ge 16, 3) := by decide +kernel
theorem dX11_run_39 : decode cX11_run 39 = .ok (.aload_n 0, 1) := by decide +kernel
theorem dX11_run_40 : decode cX11_run 40 = .ok (.getfield 12, 3) := by decide +kernel
theorem dX11_run_43 : decode cX11_run 43 = .ok (.invokevirtual 173, 3) := by decide +kernel
theorem dX11_run_46 : decode cX11_run 46 = .ok (.iinc 2 1, 3) := by decide +kernel
theorem dX11_run_49 : decode cX11_run 49 = .ok (.goto (-15), 3) := by decide +kernel
theorem dX11_run_52 : decode cX11_run 52 = .ok (.aload_n 0, 1) := by decide +kernel
theorem dX11_run_53 : decode cX11_run 53 = .ok (.getfield 12, 3) := by decide +kernel
theorem dX11_run_56 : decode cX11_run 56 = .ok (.getfield 176, 3) := by decide +kernel
theorem dX11_run_59 : decode cX11_run 59 = .ok (.ireturn, 1) := by decide +kernel
theorem dX11_news_0 : decode cX11_news 0 = .ok (.iload_n 1, 1) := by decide +kernel
theorem dX11_news_1 : decode cX11_news 1 = .ok (.invokestatic 112, 3) := by decide +kernel
theorem dX11_news_4 : decode cX11_news 4 = .ok (.ifCond .ne 6, 3) := by decide +kernel
theorem dX11_news_7 : decode cX11_news 7 = .ok (.ldc 68, 2) := by decide +kernel
theorem dX11_news_9 : decode cX11_news 9 = .ok (.ireturn, 1) := by decide +kernel
theorem dX11_news_10 : decode cX11_news 10 = .ok (.iload_n 2, 1) := by decide +kernel
theorem dX11_news_11 : decode cX11_news 11 = .ok (.tableswitch 76 0 2 #[25, 42, 59], 25) := by decide +kernel
theorem dX11_news_36 : decode cX11_news 36 = .ok (.aload_n 0, 1) := by decide +kernel
theorem dX11_news_37 : decode cX11_news 37 = .ok (.getfield 12, 3) := by decide +kernel
theorem dX11_news_40 : decode cX11_news 40 = .ok (.iload_n 1, 1) := by decide +kernel
theorem dX11_news_41 : decode cX11_news 41 = .ok (.aload_n 0, 1) := by decide +kernel
theorem dX11_news_42 : decode cX11_news 42 = .ok (.getfield 12, 3) := by decide +kernel
theorem dX11_news_45 : decode cX11_news 45 = .ok (.iload_n 1, 1) := by decide +kernel
theorem dX11_news_46 : decode cX11_news 46 = .ok (.invokevirtual 115, 3) := by decide +kernel
theorem dX11_news_49 : decode cX11_news 49 = .ok (.invokevirtual 179, 3) := by decide +kernel
theorem dX11_news_52 : decode cX11_news 52 = .ok (.ireturn, 1) := by decide +kernel
theorem dX11_news_53 : decode cX11_news 53 = .ok (.aload_n 0, 1) := by decide +kernel
theorem dX11_news_54 : decode cX11_news 54 = .ok (.getfield 12, 3) := by decide +kernel
theorem dX11_news_57 : decode cX11_news 57 = .ok (.iload_n 1, 1) := by decide +kernel
theorem dX11_news_58 : decode cX11_news 58 = .ok (.aload_n 0, 1) := by decide +kernel
theorem dX11_news_59 : decode cX11_news 59 = .ok (.getfield 12, 3) := by decide +kernel
theorem dX11_news_62 : decode cX11_news 62 = .ok (.iload_n 1, 1) := by decide +kernel
theorem dX11_news_63 : decode cX11_news 63 = .ok (.invokevirtual 115, 3) := by decide +kernel
theorem dX11_news_66 : decode cX11_news 66 = .ok (.invokevirtual 182, 3) := by decide +kernel
theorem dX11_news_69 : decode cX11_news 69 = .ok (.ireturn, 1) := by decide +kernel
theorem dX11_news_70 : decode cX11_news 70 = .ok (.aload_n 0, 1) := by decide +kernel
theorem dX11_news_71 : decode cX11_news 71 = .ok (.getfield 12, 3) := by decide +kernel
theorem dX11_news_74 : decode cX11_news 74 = .ok (.iload_n 1, 1) := by decide +kernel
theorem dX11_news_75 : decode cX11_news 75 = .ok (.invokevirtual 185, 3) := by decide +kernel
theorem dX11_news_78 : decode cX11_news 78 = .ok (.ifCond .eq 7, 3) := by decide +kernel
theorem dX11_news_81 : decode cX11_news 81 = .ok (.iconst 1, 1) := by decide +kernel
theorem dX11_news_82 : decode cX11_news 82 = .ok (.goto 4, 3) := by decide +kernel
theorem dX11_news_85 : decode cX11_news 85 = .ok (.iconst 0, 1) := by decide +kernel
theorem dX11_news_86 : decode cX11_news 86 = .ok (.ireturn, 1) := by decide +kernel
theorem dX11_news_87 : decode cX11_news 87 = .ok (.ldc 68, 2) := by decide +kernel
theorem dX11_news_89 : decode cX11_news 89 = .ok (.ireturn, 1) := by decide +kernel
theorem dX11_since_0 : decode cX11_since 0 = .ok (.iload_n 1, 1) := by decide +kernel
theorem dX11_since_1 : decode cX11_since 1 = .ok (.ifCond .lt 10, 3) := by decide +kernel
theorem dX11_since_4 : decode cX11_since 4 = .ok (.iload_n 1, 1) := by decide +kernel
theorem dX11_since_5 : decode cX11_since 5 = .ok (.sipush 200, 3) := by decide +kernel
theorem dX11_since_8 : decode cX11_since 8 = .ok (.if_icmp .le 6, 3) := by decide +kernel
theorem dX11_since_11 : decode cX11_since 11 = .ok (.ldc 68, 2) := by decide +kernel
theorem dX11_since_13 : decode cX11_since 13 = .ok (.ireturn, 1) := by decide +kernel
theorem dX11_since_14 : decode cX11_since 14 = .ok (.aload_n 0, 1) := by decide +kernel
theorem dX11_since_15 : decode cX11_since 15 = .ok (.getfield 12, 3) := by decide +kernel
theorem dX11_since_18 : decode cX11_since 18 = .ok (.getfield 176, 3) := by decide +kernel
theorem dX11_since_21 : decode cX11_since 21 = .ok (.istore_n 2, 1) := by decide +kernel
theorem dX11_since_22 : decode cX11_since 22 = .ok (.iconst 0, 1) := by decide +kernel
theorem dX11_since_23 : decode cX11_since 23 = .ok (.istore_n 3, 1) := by decide +kernel
theorem dX11_since_24 : decode cX11_since 24 = .ok (.iload_n 3, 1) := by decide +kernel
theorem dX11_since_25 : decode cX11_since 25 = .ok (.iload_n 1, 1) := by decide +kernel
theorem dX11_since_26 : decode cX11_since 26 = .ok (.if_icmp .ge 27, 3) := by decide +kernel
theorem dX11_since_29 : decode cX11_since 29 = .ok (.aload_n 0, 1) := by decide +kernel
theorem dX11_since_30 : decode cX11_since 30 = .ok (.getfield 12, 3) := by decide +kernel
theorem dX11_since_33 : decode cX11_since 33 = .ok (.iload_n 2, 1) := by decide +kernel
theorem dX11_since_34 : decode cX11_since 34 = .ok (.aload_n 0, 1) := by decide +kernel
theorem dX11_since_35 : decode cX11_since 35 = .ok (.getfield 12, 3) := by decide +kernel
theorem dX11_since_38 : decode cX11_since 38 = .ok (.getfield 81, 3) := by decide +kernel
theorem dX11_since_41 : decode cX11_since 41 = .ok (.iload_n 3, 1) := by decide +kernel
theorem dX11_since_42 : decode cX11_since 42 = .ok (.iadd, 1) := by decide +kernel
theorem dX11_since_43 : decode cX11_since 43 = .ok (.invokevirtual 188, 3) := by decide +kernel
theorem dX11_since_46 : decode cX11_since 46 = .ok (.istore_n 2, 1) := by decide +kernel
theorem dX11_since_47 : decode cX11_since 47 = .ok (.iinc 3 1, 3) := by decide +kernel
theorem dX11_since_50 : decode cX11_since 50 = .ok (.goto (-26), 3) := by decide +kernel
theorem dX11_since_53 : decode cX11_since 53 = .ok (.iload_n 2, 1) := by decide +kernel
theorem dX11_since_54 : decode cX11_since 54 = .ok (.ireturn, 1) := by decide +kernel
theorem dX11_falls_0 : decode cX11_falls 0 = .ok (.iload_n 1, 1) := by decide +kernel
theorem dX11_falls_1 : decode cX11_falls 1 = .ok (.ifCond .lt 10, 3) := by decide +kernel
theorem dX11_falls_4 : decode cX11_falls 4 = .ok (.iload_n 1, 1) := by decide +kernel
theorem dX11_falls_5 : decode cX11_falls 5 = .ok (.sipush 10000, 3) := by decide +kernel
theorem dX11_falls_8 : decode cX11_falls 8 = .ok (.if_icmp .le 6, 3) := by decide +kernel
theorem dX11_falls_11 : decode cX11_falls 11 = .ok (.ldc 68, 2) := by decide +kernel
theorem dX11_falls_13 : decode cX11_falls 13 = .ok (.ireturn, 1) := by decide +kernel
theorem dX11_falls_14 : decode cX11_falls 14 = .ok (.aload_n 0, 1) := by decide +kernel
theorem dX11_falls_15 : decode cX11_falls 15 = .ok (.getfield 12, 3) := by decide +kernel
theorem dX11_falls_18 : decode cX11_falls 18 = .ok (.getfield 176, 3) := by decide +kernel
theorem dX11_falls_21 : decode cX11_falls 21 = .ok (.istore_n 2, 1) := by decide +kernel
theorem dX11_falls_22 : decode cX11_falls 22 = .ok (.iconst 0, 1) := by decide +kernel
theorem dX11_falls_23 : decode cX11_falls 23 = .ok (.istore_n 3, 1) := by decide +kernel
theorem dX11_falls_24 : decode cX11_falls 24 = .ok (.iload_n 3, 1) := by decide +kernel
theorem dX11_falls_25 : decode cX11_falls 25 = .ok (.sipush 200, 3) := by decide +kernel
theorem dX11_falls_28 : decode cX11_falls 28 = .ok (.if_icmp .ge 42, 3) := by decide +kernel
theorem dX11_falls_31 : decode cX11_falls 31 = .ok (.aload_n 0, 1) := by decide +kernel
theorem dX11_falls_32 : decode cX11_falls 32 = .ok (.getfield 12, 3) := by decide +kernel
theorem dX11_falls_35 : decode cX11_falls 35 = .ok (.iload_n 2, 1) := by decide +kernel
theorem dX11_falls_36 : decode cX11_falls 36 = .ok (.aload_n 0, 1) := by decide +kernel
theorem dX11_falls_37 : decode cX11_falls 37 = .ok (.getfield 12, 3) := by decide +kernel
theorem dX11_falls_40 : decode cX11_falls 40 = .ok (.getfield 81, 3) := by decide +kernel
theorem dX11_falls_43 : decode cX11_falls 43 = .ok (.iload_n 3, 1) := by decide +kernel
theorem dX11_falls_44 : decode cX11_falls 44 = .ok (.iadd, 1) := by decide +kernel
theorem dX11_falls_45 : decode cX11_falls 45 = .ok (.invokevirtual 188, 3) := by decide +kernel
theorem dX11_falls_48 : decode cX11_falls 48 = .ok (.istore_n 2, 1) := by decide +kernel
theorem dX11_falls_49 : decode cX11_falls 49 = .ok (.iload_n 2, 1) := by decide +kernel
theorem dX11_falls_50 : decode cX11_falls 50 = .ok (.iload_n 1, 1) := by decide +kernel
theorem dX11_falls_51 : decode cX11_falls 51 = .ok (.if_icmp .ge 13, 3) := by decide +kernel
theorem dX11_falls_54 : decode cX11_falls 54 = .ok (.aload_n 0, 1) := by decide +kernel
theorem dX11_falls_55 : decode cX11_falls 55 = .ok (.getfield 12, 3) := by decide +kernel
theorem dX11_falls_58 : decode cX11_falls 58 = .ok (.getfield 81, 3) := by decide +kernel
theorem dX11_falls_61 : decode cX11_falls 61 = .ok (.iload_n 3, 1) := by decide +kernel
theorem dX11_falls_62 : decode cX11_falls 62 = .ok (.iadd, 1) := by decide +kernel
theorem dX11_falls_63 : decode cX11_falls 63 = .ok (.ireturn, 1) := by decide +kernel
theorem dX11_falls_64 : decode cX11_falls 64 = .ok (.iinc 3 1, 3) := by decide +kernel
theorem dX11_falls_67 : decode cX11_falls 67 = .ok (.goto (-43), 3) := by decide +kernel
theorem dX11_falls_70 : decode cX11_falls 70 = .ok (.ldc 98, 2) := by decide +kernel
theorem dX11_falls_72 : decode cX11_falls 72 = .ok (.ireturn, 1) := by decide +kernel
theorem dX11_await_0 : decode cX11_await 0 = .ok (.ldc 191, 2) := by decide +kernel
theorem dX11_await_2 : decode cX11_await 2 = .ok (.istore_n 1, 1) := by decide +kernel
theorem dX11_await_3 : decode cX11_await 3 = .ok (.iconst 0, 1) := by decide +kernel
theorem dX11_await_4 : decode cX11_await 4 = .ok (.istore_n 2, 1) := by decide +kernel
theorem dX11_await_5 : decode cX11_await 5 = .ok (.iload_n 2, 1) := by decide +kernel
theorem dX11_await_6 : decode cX11_await 6 = .ok (.sipush 200, 3) := by decide +kernel
theorem dX11_await_9 : decode cX11_await 9 = .ok (.if_icmp .ge 54, 3) := by decide +kernel
theorem dX11_await_12 : decode cX11_await 12 = .ok (.aload_n 0, 1) := by decide +kernel
theorem dX11_await_13 : decode cX11_await 13 = .ok (.getfield 12, 3) := by decide +kernel
theorem dX11_await_16 : decode cX11_await 16 = .ok (.getfield 81, 3) := by decide +kernel
theorem dX11_await_19 : decode cX11_await 19 = .ok (.iload_n 2, 1) := by decide +kernel
theorem dX11_await_20 : decode cX11_await 20 = .ok (.iadd, 1) := by decide +kernel
theorem dX11_await_21 : decode cX11_await 21 = .ok (.istore_n 3, 1) := by decide +kernel
theorem dX11_await_22 : decode cX11_await 22 = .ok (.iload_n 1, 1) := by decide +kernel
theorem dX11_await_23 : decode cX11_await 23 = .ok (.sipush 1000, 3) := by decide +kernel
theorem dX11_await_26 : decode cX11_await 26 = .ok (.aload_n 0, 1) := by decide +kernel
theorem dX11_await_27 : decode cX11_await 27 = .ok (.getfield 12, 3) := by decide +kernel
theorem dX11_await_30 : decode cX11_await 30 = .ok (.iload_n 3, 1) := by decide +kernel
theorem dX11_await_31 : decode cX11_await 31 = .ok (.aload_n 0, 1) := by decide +kernel
theorem dX11_await_32 : decode cX11_await 32 = .ok (.getfield 12, 3) := by decide +kernel
theorem dX11_await_35 : decode cX11_await 35 = .ok (.iload_n 3, 1) := by decide +kernel
theorem dX11_await_36 : decode cX11_await 36 = .ok (.invokevirtual 115, 3) := by decide +kernel
theorem dX11_await_39 : decode cX11_await 39 = .ok (.invokevirtual 179, 3) := by decide +kernel
theorem dX11_await_42 : decode cX11_await 42 = .ok (.isub, 1) := by decide +kernel
theorem dX11_await_43 : decode cX11_await 43 = .ok (.imul, 1) := by decide +kernel
theorem dX11_await_44 : decode cX11_await 44 = .ok (.sipush 1000, 3) := by decide +kernel
theorem dX11_await_47 : decode cX11_await 47 = .ok (.idiv, 1) := by decide +kernel
theorem dX11_await_48 : decode cX11_await 48 = .ok (.istore_n 1, 1) := by decide +kernel
theorem dX11_await_49 : decode cX11_await 49 = .ok (.iload_n 1, 1) := by decide +kernel
theorem dX11_await_50 : decode cX11_await 50 = .ok (.ldc 192, 2) := by decide +kernel
theorem dX11_await_52 : decode cX11_await 52 = .ok (.if_icmp .gt 5, 3) := by decide +kernel
theorem dX11_await_55 : decode cX11_await 55 = .ok (.iload_n 3, 1) := by decide +kernel
theorem dX11_await_56 : decode cX11_await 56 = .ok (.ireturn, 1) := by decide +kernel
theorem dX11_await_57 : decode cX11_await 57 = .ok (.iinc 2 1, 3) := by decide +kernel
theorem dX11_await_60 : decode cX11_await 60 = .ok (.goto (-55), 3) := by decide +kernel
theorem dX11_await_63 : decode cX11_await 63 = .ok (.ldc 98, 2) := by decide +kernel
theorem dX11_await_65 : decode cX11_await 65 = .ok (.ireturn, 1) := by decide +kernel
theorem dX11_beyond_0 : decode cX11_beyond 0 = .ok (.aload_n 0, 1) := by decide +kernel
theorem dX11_beyond_1 : decode cX11_beyond 1 = .ok (.getfield 12, 3) := by decide +kernel
theorem dX11_beyond_4 : decode cX11_beyond 4 = .ok (.iconst 2, 1) := by decide +kernel
theorem dX11_beyond_5 : decode cX11_beyond 5 = .ok (.invokevirtual 193, 3) := by decide +kernel
theorem dX11_beyond_8 : decode cX11_beyond 8 = .ok (.astore_n 1, 1) := by decide +kernel
theorem dX11_beyond_9 : decode cX11_beyond 9 = .ok (.aload_n 1, 1) := by decide +kernel
theorem dX11_beyond_10 : decode cX11_beyond 10 = .ok (.ifnonnull 6, 3) := by decide +kernel
theorem dX11_beyond_13 : decode cX11_beyond 13 = .ok (.ldc 98, 2) := by decide +kernel
theorem dX11_beyond_15 : decode cX11_beyond 15 = .ok (.ireturn, 1) := by decide +kernel
theorem dX11_beyond_16 : decode cX11_beyond 16 = .ok (.iconst 0, 1) := by decide +kernel
theorem dX11_beyond_17 : decode cX11_beyond 17 = .ok (.istore_n 2, 1) := by decide +kernel
theorem dX11_beyond_18 : decode cX11_beyond 18 = .ok (.iload_n 2, 1) := by decide +kernel
theorem dX11_beyond_19 : decode cX11_beyond 19 = .ok (.sipush 200, 3) := by decide +kernel
theorem dX11_beyond_22 : decode cX11_beyond 22 = .ok (.if_icmp .ge 55, 3) := by decide +kernel
theorem dX11_beyond_25 : decode cX11_beyond 25 = .ok (.aload_n 0, 1) := by decide +kernel
theorem dX11_beyond_26 : decode cX11_beyond 26 = .ok (.getfield 12, 3) := by decide +kernel
theorem dX11_beyond_29 : decode cX11_beyond 29 = .ok (.getfield 81, 3) := by decide +kernel
theorem dX11_beyond_32 : decode cX11_beyond 32 = .ok (.iload_n 2, 1) := by decide +kernel
theorem dX11_beyond_33 : decode cX11_beyond 33 = .ok (.iadd, 1) := by decide +kernel
theorem dX11_beyond_34 : decode cX11_beyond 34 = .ok (.istore_n 3, 1) := by decide +kernel
theorem dX11_beyond_35 : decode cX11_beyond 35 = .ok (.aload_n 0, 1) := by decide +kernel
theorem dX11_beyond_36 : decode cX11_beyond 36 = .ok (.getfield 12, 3) := by decide +kernel
theorem dX11_beyond_39 : decode cX11_beyond 39 = .ok (.iload_n 3, 1) := by decide +kernel
theorem dX11_beyond_40 : decode cX11_beyond 40 = .ok (.invokevirtual 115, 3) := by decide +kernel
theorem dX11_beyond_43 : decode cX11_beyond 43 = .ok (.istore 4, 2) := by decide +kernel
theorem dX11_beyond_45 : decode cX11_beyond 45 = .ok (.aload_n 0, 1) := by decide +kernel
theorem dX11_beyond_46 : decode cX11_beyond 46 = .ok (.getfield 12, 3) := by decide +kernel
theorem dX11_beyond_49 : decode cX11_beyond 49 = .ok (.iload_n 3, 1) := by decide +kernel
theorem dX11_beyond_50 : decode cX11_beyond 50 = .ok (.iload 4, 2) := by decide +kernel
theorem dX11_beyond_52 : decode cX11_beyond 52 = .ok (.invokevirtual 179, 3) := by decide +kernel
theorem dX11_beyond_55 : decode cX11_beyond 55 = .ok (.aload_n 1, 1) := by decide +kernel
theorem dX11_beyond_56 : decode cX11_beyond 56 = .ok (.iload_n 3, 1) := by decide +kernel
theorem dX11_beyond_57 : decode cX11_beyond 57 = .ok (.iload 4, 2) := by decide +kernel
theorem dX11_beyond_59 : decode cX11_beyond 59 = .ok (.aload_n 0, 1) := by decide +kernel
theorem dX11_beyond_60 : decode cX11_beyond 60 = .ok (.getfield 12, 3) := by decide +kernel
theorem dX11_beyond_63 : decode cX11_beyond 63 = .ok (.invokevirtual 197, 3) := by decide +kernel
theorem dX11_beyond_66 : decode cX11_beyond 66 = .ok (.if_icmp .le 5, 3) := by decide +kernel
theorem dX11_beyond_69 : decode cX11_beyond 69 = .ok (.iload_n 3, 1) := by decide +kernel
theorem dX11_beyond_70 : decode cX11_beyond 70 = .ok (.ireturn, 1) := by decide +kernel
theorem dX11_beyond_71 : decode cX11_beyond 71 = .ok (.iinc 2 1, 3) := by decide +kernel
theorem dX11_beyond_74 : decode cX11_beyond 74 = .ok (.goto (-56), 3) := by decide +kernel
theorem dX11_beyond_77 : decode cX11_beyond 77 = .ok (.ldc 98, 2) := by decide +kernel
theorem dX11_beyond_79 : decode cX11_beyond 79 = .ok (.ireturn, 1) := by decide +kernel
theorem dX11_seed_0 : decode cX11_seed 0 = .ok (.aload_n 0, 1) := by decide +kernel
theorem dX11_seed_1 : decode cX11_seed 1 = .ok (.getfield 12, 3) := by decide +kernel
theorem dX11_seed_4 : decode cX11_seed 4 = .ok (.getfield 203, 3) := by decide +kernel
theorem dX11_seed_7 : decode cX11_seed 7 = .ok (.istore_n 2, 1) := by decide +kernel
theorem dX11_seed_8 : decode cX11_seed 8 = .ok (.aload_n 0, 1) := by decide +kernel
theorem dX11_seed_9 : decode cX11_seed 9 = .ok (.getfield 12, 3) := by decide +kernel
theorem dX11_seed_12 : decode cX11_seed 12 = .ok (.iload_n 1, 1) := by decide +kernel
theorem dX11_seed_13 : decode cX11_seed 13 = .ok (.putfield 203, 3) := by decide +kernel
theorem dX11_seed_16 : decode cX11_seed 16 = .ok (.iload_n 2, 1) := by decide +kernel
theorem dX11_seed_17 : decode cX11_seed 17 = .ok (.ireturn, 1) := by decide +kernel
theorem dX11_feed_0 : decode cX11_feed 0 = .ok (.aload_n 0, 1) := by decide +kernel
theorem dX11_feed_1 : decode cX11_feed 1 = .ok (.getfield 43, 3) := by decide +kernel
theorem dX11_feed_4 : decode cX11_feed 4 = .ok (.getfield 206, 3) := by decide +kernel
theorem dX11_feed_7 : decode cX11_feed 7 = .ok (.astore 4, 2) := by decide +kernel
theorem dX11_feed_9 : decode cX11_feed 9 = .ok (.aload 4, 2) := by decide +kernel
theorem dX11_feed_11 : decode cX11_feed 11 = .ok (.getfield 210, 3) := by decide +kernel
theorem dX11_feed_14 : decode cX11_feed 14 = .ok (.bipush 12, 2) := by decide +kernel
theorem dX11_feed_16 : decode cX11_feed 16 = .ok (.iadd, 1) := by decide +kernel
theorem dX11_feed_17 : decode cX11_feed 17 = .ok (.bipush 96, 2) := by decide +kernel
theorem dX11_feed_19 : decode cX11_feed 19 = .ok (.if_icmp .le 6, 3) := by decide +kernel
theorem dX11_feed_22 : decode cX11_feed 22 = .ok (.ldc 172, 2) := by decide +kernel
theorem dX11_feed_24 : decode cX11_feed 24 = .ok (.ireturn, 1) := by decide +kernel
theorem dX11_feed_25 : decode cX11_feed 25 = .ok (.aload 4, 2) := by decide +kernel
theorem dX11_feed_27 : decode cX11_feed 27 = .ok (.iload_n 1, 1) := by decide +kernel
theorem dX11_feed_28 : decode cX11_feed 28 = .ok (.invokevirtual 213, 3) := by decide +kernel
theorem dX11_feed_31 : decode cX11_feed 31 = .ok (.aload 4, 2) := by decide +kernel
theorem dX11_feed_33 : decode cX11_feed 33 = .ok (.iload_n 2, 1) := by decide +kernel
theorem dX11_feed_34 : decode cX11_feed 34 = .ok (.invokevirtual 213, 3) := by decide +kernel
theorem dX11_feed_37 : decode cX11_feed 37 = .ok (.aload 4, 2) := by decide +kernel
theorem dX11_feed_39 : decode cX11_feed 39 = .ok (.iload_n 3, 1) := by decide +kernel
theorem dX11_feed_40 : decode cX11_feed 40 = .ok (.invokevirtual 213, 3) := by decide +kernel
theorem dX11_feed_43 : decode cX11_feed 43 = .ok (.aload 4, 2) := by decide +kernel
theorem dX11_feed_45 : decode cX11_feed 45 = .ok (.getfield 210, 3) := by decide +kernel
theorem dX11_feed_48 : decode cX11_feed 48 = .ok (.ireturn, 1) := by decide +kernel
theorem dX11_trim_0 : decode cX11_trim 0 = .ok (.iload_n 1, 1) := by decide +kernel
theorem dX11_trim_1 : decode cX11_trim 1 = .ok (.ifCond .lt 17, 3) := by decide +kernel
theorem dX11_trim_4 : decode cX11_trim 4 = .ok (.iload_n 1, 1) := by decide +kernel
theorem dX11_trim_5 : decode cX11_trim 5 = .ok (.aload_n 0, 1) := by decide +kernel
theorem dX11_trim_6 : decode cX11_trim 6 = .ok (.getfield 43, 3) := by decide +kernel
theorem dX11_trim_9 : decode cX11_trim 9 = .ok (.getfield 206, 3) := by decide +kernel
theorem dX11_trim_12 : decode cX11_trim 12 = .ok (.getfield 210, 3) := by decide +kernel
theorem dX11_trim_15 : decode cX11_trim 15 = .ok (.if_icmp .le 6, 3) := by decide +kernel
theorem dX11_trim_18 : decode cX11_trim 18 = .ok (.ldc 68, 2) := by decide +kernel
theorem dX11_trim_20 : decode cX11_trim 20 = .ok (.ireturn, 1) := by decide +kernel
theorem dX11_trim_21 : decode cX11_trim 21 = .ok (.aload_n 0, 1) := by decide +kernel
theorem dX11_trim_22 : decode cX11_trim 22 = .ok (.getfield 43, 3) := by decide +kernel
theorem dX11_trim_25 : decode cX11_trim 25 = .ok (.getfield 206, 3) := by decide +kernel
theorem dX11_trim_28 : decode cX11_trim 28 = .ok (.iload_n 1, 1) := by decide +kernel
theorem dX11_trim_29 : decode cX11_trim 29 = .ok (.putfield 210, 3) := by decide +kernel
theorem dX11_trim_32 : decode cX11_trim 32 = .ok (.iload_n 1, 1) := by decide +kernel
theorem dX11_trim_33 : decode cX11_trim 33 = .ok (.ireturn, 1) := by decide +kernel
theorem dX11_text_0 : decode cX11_text 0 = .ok (.aload_n 0, 1) := by decide +kernel
theorem dX11_text_1 : decode cX11_text 1 = .ok (.getfield 43, 3) := by decide +kernel
theorem dX11_text_4 : decode cX11_text 4 = .ok (.invokevirtual 216, 3) := by decide +kernel
theorem dX11_text_7 : decode cX11_text 7 = .ok (.istore_n 1, 1) := by decide +kernel
theorem dX11_text_8 : decode cX11_text 8 = .ok (.aload_n 0, 1) := by decide +kernel
theorem dX11_text_9 : decode cX11_text 9 = .ok (.getfield 43, 3) := by decide +kernel
theorem dX11_text_12 : decode cX11_text 12 = .ok (.getfield 206, 3) := by decide +kernel
theorem dX11_text_15 : decode cX11_text 15 = .ok (.getfield 220, 3) := by decide +kernel
theorem dX11_text_18 : decode cX11_text 18 = .ok (.istore_n 2, 1) := by decide +kernel
theorem dX11_text_19 : decode cX11_text 19 = .ok (.aload_n 0, 1) := by decide +kernel
theorem dX11_text_20 : decode cX11_text 20 = .ok (.getfield 43, 3) := by decide +kernel
theorem dX11_text_23 : decode cX11_text 23 = .ok (.getfield 206, 3) := by decide +kernel
theorem dX11_text_26 : decode cX11_text 26 = .ok (.iconst 0, 1) := by decide +kernel
theorem dX11_text_27 : decode cX11_text 27 = .ok (.putfield 210, 3) := by decide +kernel
theorem dX11_text_30 : decode cX11_text 30 = .ok (.iload_n 1, 1) := by decide +kernel
theorem dX11_text_31 : decode cX11_text 31 = .ok (.ifCond .ne 8, 3) := by decide +kernel
theorem dX11_text_34 : decode cX11_text 34 = .ok (.bipush (-100), 2) := by decide +kernel
theorem dX11_text_36 : decode cX11_text 36 = .ok (.iload_n 2, 1) := by decide +kernel
theorem dX11_text_37 : decode cX11_text 37 = .ok (.isub, 1) := by decide +kernel
theorem dX11_text_38 : decode cX11_text 38 = .ok (.ireturn, 1) := by decide +kernel
theorem dX11_text_39 : decode cX11_text 39 = .ok (.aload_n 0, 1) := by decide +kernel
theorem dX11_text_40 : decode cX11_text 40 = .ok (.getfield 12, 3) := by decide +kernel
theorem dX11_text_43 : decode cX11_text 43 = .ok (.aload_n 0, 1) := by decide +kernel
theorem dX11_text_44 : decode cX11_text 44 = .ok (.getfield 43, 3) := by decide +kernel
theorem dX11_text_47 : decode cX11_text 47 = .ok (.invokevirtual 223, 3) := by decide +kernel
theorem dX11_text_50 : decode cX11_text 50 = .ok (.invokevirtual 227, 3) := by decide +kernel
theorem dX11_text_53 : decode cX11_text 53 = .ok (.ireturn, 1) := by decide +kernel
theorem dX11_textTold_0 : decode cX11_textTold 0 = .ok (.iload_n 1, 1) := by decide +kernel
theorem dX11_textTold_1 : decode cX11_textTold 1 = .ok (.ifCond .lt 14, 3) := by decide +kernel
theorem dX11_textTold_4 : decode cX11_textTold 4 = .ok (.iload_n 1, 1) := by decide +kernel
theorem dX11_textTold_5 : decode cX11_textTold 5 = .ok (.aload_n 0, 1) := by decide +kernel
theorem dX11_textTold_6 : decode cX11_textTold 6 = .ok (.getfield 12, 3) := by decide +kernel
theorem dX11_textTold_9 : decode cX11_textTold 9 = .ok (.getfield 231, 3) := by decide +kernel
theorem dX11_textTold_12 : decode cX11_textTold 12 = .ok (.if_icmp .lt 6, 3) := by decide +kernel
theorem dX11_textTold_15 : decode cX11_textTold 15 = .ok (.ldc 68, 2) := by decide +kernel
theorem dX11_textTold_17 : decode cX11_textTold 17 = .ok (.ireturn, 1) := by decide +kernel
theorem dX11_textTold_18 : decode cX11_textTold 18 = .ok (.aload_n 0, 1) := by decide +kernel
theorem dX11_textTold_19 : decode cX11_textTold 19 = .ok (.getfield 12, 3) := by decide +kernel
theorem dX11_textTold_22 : decode cX11_textTold 22 = .ok (.getfield 234, 3) := by decide +kernel
theorem dX11_textTold_25 : decode cX11_textTold 25 = .ok (.iload_n 1, 1) := by decide +kernel
theorem dX11_textTold_26 : decode cX11_textTold 26 = .ok (.aaload, 1) := by decide +kernel
theorem dX11_textTold_27 : decode cX11_textTold 27 = .ok (.astore_n 3, 1) := by decide +kernel
theorem dX11_textTold_28 : decode cX11_textTold 28 = .ok (.aload_n 3, 1) := by decide +kernel
theorem dX11_textTold_29 : decode cX11_textTold 29 = .ok (.ifnull 12, 3) := by decide +kernel
theorem dX11_textTold_32 : decode cX11_textTold 32 = .ok (.iload_n 2, 1) := by decide +kernel
theorem dX11_textTold_33 : decode cX11_textTold 33 = .ok (.ifCond .lt 8, 3) := by decide +kernel
theorem dX11_textTold_36 : decode cX11_textTold 36 = .ok (.iload_n 2, 1) := by decide +kernel
theorem dX11_textTold_37 : decode cX11_textTold 37 = .ok (.iconst 1, 1) := by decide +kernel
theorem dX11_textTold_38 : decode cX11_textTold 38 = .ok (.if_icmp .le 6, 3) := by decide +kernel
theorem dX11_textTold_41 : decode cX11_textTold 41 = .ok (.ldc 68, 2) := by decide +kernel
theorem dX11_textTold_43 : decode cX11_textTold 43 = .ok (.ireturn, 1) := by decide +kernel
theorem dX11_textTold_44 : decode cX11_textTold 44 = .ok (.iload_n 2, 1) := by decide +kernel
theorem dX11_textTold_45 : decode cX11_textTold 45 = .ok (.ifCond .ne 10, 3) := by decide +kernel
theorem dX11_textTold_48 : decode cX11_textTold 48 = .ok (.aload_n 3, 1) := by decide +kernel
theorem dX11_textTold_49 : decode cX11_textTold 49 = .ok (.getfield 238, 3) := by decide +kernel
theorem dX11_textTold_52 : decode cX11_textTold 52 = .ok (.goto 7, 3) := by decide +kernel
theorem dX11_textTold_55 : decode cX11_textTold 55 = .ok (.aload_n 3, 1) := by decide +kernel
theorem dX11_textTold_56 : decode cX11_textTold 56 = .ok (.getfield 241, 3) := by decide +kernel
theorem dX11_textTold_59 : decode cX11_textTold 59 = .ok (.ireturn, 1) := by decide +kernel
theorem dX11_why_0 : decode cX11_why 0 = .ok (.iload_n 1, 1) := by decide +kernel
theorem dX11_why_1 : decode cX11_why 1 = .ok (.ifCond .lt 8, 3) := by decide +kernel
theorem dX11_why_4 : decode cX11_why 4 = .ok (.iload_n 1, 1) := by decide +kernel
theorem dX11_why_5 : decode cX11_why 5 = .ok (.iconst 2, 1) := by decide +kernel
theorem dX11_why_6 : decode cX11_why 6 = .ok (.if_icmp .le 8, 3) := by decide +kernel
theorem dX11_why_9 : decode cX11_why 9 = .ok (.ldc 68, 2) := by decide +kernel
theorem dX11_why_11 : decode cX11_why 11 = .ok (.goto 12, 3) := by decide +kernel
theorem dX11_why_14 : decode cX11_why 14 = .ok (.aload_n 0, 1) := by decide +kernel
theorem dX11_why_15 : decode cX11_why 15 = .ok (.getfield 12, 3) := by decide +kernel
theorem dX11_why_18 : decode cX11_why 18 = .ok (.getfield 244, 3) := by decide +kernel
theorem dX11_why_21 : decode cX11_why 21 = .ok (.iload_n 1, 1) := by decide +kernel
theorem dX11_why_22 : decode cX11_why 22 = .ok (.iaload, 1) := by decide +kernel
theorem dX11_why_23 : decode cX11_why 23 = .ok (.ireturn, 1) := by decide +kernel
theorem dX11_knock_0 : decode cX11_knock 0 = .ok (.iload_n 1, 1) := by decide +kernel
theorem dX11_knock_1 : decode cX11_knock 1 = .ok (.invokestatic 125, 3) := by decide +kernel
theorem dX11_knock_4 : decode cX11_knock 4 = .ok (.ifCond .eq 14, 3) := by decide +kernel
theorem dX11_knock_7 : decode cX11_knock 7 = .ok (.aload_n 0, 1) := by decide +kernel
theorem dX11_knock_8 : decode cX11_knock 8 = .ok (.getfield 12, 3) := by decide +kernel
theorem dX11_knock_11 : decode cX11_knock 11 = .ok (.iload_n 1, 1) := by decide +kernel
theorem dX11_knock_12 : decode cX11_knock 12 = .ok (.invokevirtual 247, 3) := by decide +kernel
theorem dX11_knock_15 : decode cX11_knock 15 = .ok (.goto 5, 3) := by decide +kernel
theorem dX11_knock_18 : decode cX11_knock 18 = .ok (.ldc 68, 2) := by decide +kernel
theorem dX11_knock_20 : decode cX11_knock 20 = .ok (.ireturn, 1) := by decide +kernel
theorem dX11_pour_0 : decode cX11_pour 0 = .ok (.iload_n 1, 1) := by decide +kernel
theorem dX11_pour_1 : decode cX11_pour 1 = .ok (.invokestatic 250, 3) := by decide +kernel
theorem dX11_pour_4 : decode cX11_pour 4 = .ok (.ifCond .ne 6, 3) := by decide +kernel
theorem dX11_pour_7 : decode cX11_pour 7 = .ok (.ldc 68, 2) := by decide +kernel
theorem dX11_pour_9 : decode cX11_pour 9 = .ok (.ireturn, 1) := by decide +kernel
theorem dX11_pour_10 : decode cX11_pour 10 = .ok (.aload_n 0, 1) := by decide +kernel
theorem dX11_pour_11 : decode cX11_pour 11 = .ok (.getfield 24, 3) := by decide +kernel
theorem dX11_pour_14 : decode cX11_pour 14 = .ok (.iload_n 1, 1) := by decide +kernel
theorem dX11_pour_15 : decode cX11_pour 15 = .ok (.aaload, 1) := by decide +kernel
theorem dX11_pour_16 : decode cX11_pour 16 = .ok (.astore_n 2, 1) := by decide +kernel
theorem dX11_pour_17 : decode cX11_pour 17 = .ok (.aload_n 2, 1) := by decide +kernel
theorem dX11_pour_18 : decode cX11_pour 18 = .ok (.invokevirtual 253, 3) := by decide +kernel
theorem dX11_pour_21 : decode cX11_pour 21 = .ok (.ifCond .eq 7, 3) := by decide +kernel
theorem dX11_pour_24 : decode cX11_pour 24 = .ok (.ldc_w 256, 3) := by decide +kernel
theorem dX11_pour_27 : decode cX11_pour 27 = .ok (.ireturn, 1) := by decide +kernel
theorem dX11_pour_28 : decode cX11_pour 28 = .ok (.aload_n 2, 1) := by decide +kernel
theorem dX11_pour_29 : decode cX11_pour 29 = .ok (.invokestatic 257, 3) := by decide +kernel
theorem dX11_pour_32 : decode cX11_pour 32 = .ok (.istore_n 3, 1) := by decide +kernel
theorem dX11_pour_33 : decode cX11_pour 33 = .ok (.aload_n 0, 1) := by decide +kernel
theorem dX11_pour_34 : decode cX11_pour 34 = .ok (.getfield 12, 3) := by decide +kernel
theorem dX11_pour_37 : decode cX11_pour 37 = .ok (.getfield 261, 3) := by decide +kernel
theorem dX11_pour_40 : decode cX11_pour 40 = .ok (.iload_n 3, 1) := by decide +kernel
theorem dX11_pour_41 : decode cX11_pour 41 = .ok (.iadd, 1) := by decide +kernel
theorem dX11_pour_42 : decode cX11_pour 42 = .ok (.bipush 60, 2) := by decide +kernel
theorem dX11_pour_44 : decode cX11_pour 44 = .ok (.if_icmp .le 6, 3) := by decide +kernel
theorem dX11_pour_47 : decode cX11_pour 47 = .ok (.ldc 172, 2) := by decide +kernel
theorem dX11_pour_49 : decode cX11_pour 49 = .ok (.ireturn, 1) := by decide +kernel
theorem dX11_pour_50 : decode cX11_pour 50 = .ok (.iconst 0, 1) := by decide +kernel
theorem dX11_pour_51 : decode cX11_pour 51 = .ok (.istore 4, 2) := by decide +kernel
theorem dX11_pour_53 : decode cX11_pour 53 = .ok (.iload 4, 2) := by decide +kernel
theorem dX11_pour_55 : decode cX11_pour 55 = .ok (.iload_n 3, 1) := by decide +kernel
theorem dX11_pour_56 : decode cX11_pour 56 = .ok (.if_icmp .ge 24, 3) := by decide +kernel
theorem dX11_pour_59 : decode cX11_pour 59 = .ok (.aload_n 0, 1) := by decide +kernel
theorem dX11_pour_60 : decode cX11_pour 60 = .ok (.getfield 12, 3) := by decide +kernel
theorem dX11_pour_63 : decode cX11_pour 63 = .ok (.aload_n 2, 1) := by decide +kernel
theorem dX11_pour_64 : decode cX11_pour 64 = .ok (.getfield 264, 3) := by decide +kernel
theorem dX11_pour_67 : decode cX11_pour 67 = .ok (.iload 4, 2) := by decide +kernel
theorem dX11_pour_69 : decode cX11_pour 69 = .ok (.iaload, 1) := by decide +kernel
theorem dX11_pour_70 : decode cX11_pour 70 = .ok (.invokevirtual 247, 3) := by decide +kernel
theorem dX11_pour_73 : decode cX11_pour 73 = .ok (.pop, 1) := by decide +kernel
theorem dX11_pour_74 : decode cX11_pour 74 = .ok (.iinc 4 1, 3) := by decide +kernel
theorem dX11_pour_77 : decode cX11_pour 77 = .ok (.goto (-24), 3) := by decide +kernel
theorem dX11_pour_80 : decode cX11_pour 80 = .ok (.iload_n 3, 1) := by decide +kernel
theorem dX11_pour_81 : decode cX11_pour 81 = .ok (.ireturn, 1) := by decide +kernel
theorem dX11_chance_0 : decode cX11_chance 0 = .ok (.aload_n 0, 1) := by decide +kernel
theorem dX11_chance_1 : decode cX11_chance 1 = .ok (.getfield 12, 3) := by decide +kernel
theorem dX11_chance_4 : decode cX11_chance 4 = .ok (.aload_n 0, 1) := by decide +kernel
theorem dX11_chance_5 : decode cX11_chance 5 = .ok (.getfield 12, 3) := by decide +kernel
theorem dX11_chance_8 : decode cX11_chance 8 = .ok (.getfield 267, 3) := by decide +kernel
theorem dX11_chance_11 : decode cX11_chance 11 = .ok (.invokevirtual 270, 3) := by decide +kernel
theorem dX11_chance_14 : decode cX11_chance 14 = .ok (.ireturn, 1) := by decide +kernel
theorem dX11_width_0 : decode cX11_width 0 = .ok (.iload_n 1, 1) := by decide +kernel
theorem dX11_width_1 : decode cX11_width 1 = .ok (.ifCond .lt 9, 3) := by decide +kernel
theorem dX11_width_4 : decode cX11_width 4 = .ok (.iload_n 1, 1) := by decide +kernel
theorem dX11_width_5 : decode cX11_width 5 = .ok (.bipush 60, 2) := by decide +kernel
theorem dX11_width_7 : decode cX11_width 7 = .ok (.if_icmp .le 6, 3) := by decide +kernel
theorem dX11_width_10 : decode cX11_width 10 = .ok (.ldc 68, 2) := by decide +kernel
theorem dX11_width_12 : decode cX11_width 12 = .ok (.ireturn, 1) := by decide +kernel
theorem dX11_width_13 : decode cX11_width 13 = .ok (.iconst 0, 1) := by decide +kernel
theorem dX11_width_14 : decode cX11_width 14 = .ok (.istore_n 2, 1) := by decide +kernel
theorem dX11_width_15 : decode cX11_width 15 = .ok (.iload_n 2, 1) := by decide +kernel
theorem dX11_width_16 : decode cX11_width 16 = .ok (.bipush 99, 2) := by decide +kernel
theorem dX11_width_18 : decode cX11_width 18 = .ok (.if_icmp .gt 23, 3) := by decide +kernel
theorem dX11_width_21 : decode cX11_width 21 = .ok (.aload_n 0, 1) := by decide +kernel
theorem dX11_width_22 : decode cX11_width 22 = .ok (.getfield 12, 3) := by decide +kernel
theorem dX11_width_25 : decode cX11_width 25 = .ok (.iload_n 2, 1) := by decide +kernel
theorem dX11_width_26 : decode cX11_width 26 = .ok (.invokevirtual 270, 3) := by decide +kernel
theorem dX11_width_29 : decode cX11_width 29 = .ok (.iload_n 1, 1) := by decide +kernel
theorem dX11_width_30 : decode cX11_width 30 = .ok (.if_icmp .lt 5, 3) := by decide +kernel
theorem dX11_width_33 : decode cX11_width 33 = .ok (.iload_n 2, 1) := by decide +kernel
theorem dX11_width_34 : decode cX11_width 34 = .ok (.ireturn, 1) := by decide +kernel
theorem dX11_width_35 : decode cX11_width 35 = .ok (.iinc 2 1, 3) := by decide +kernel
theorem dX11_width_38 : decode cX11_width 38 = .ok (.goto (-23), 3) := by decide +kernel
theorem dX11_width_41 : decode cX11_width 41 = .ok (.ldc 98, 2) := by decide +kernel
theorem dX11_width_43 : decode cX11_width 43 = .ok (.ireturn, 1) := by decide +kernel
theorem dX11_key_0 : decode cX11_key 0 = .ok (.iload_n 1, 1) := by decide +kernel
theorem dX11_key_1 : decode cX11_key 1 = .ok (.iload_n 2, 1) := by decide +kernel
theorem dX11_key_2 : decode cX11_key 2 = .ok (.invokestatic 100, 3) := by decide +kernel
theorem dX11_key_5 : decode cX11_key 5 = .ok (.ifCond .eq 19, 3) := by decide +kernel
theorem dX11_key_8 : decode cX11_key 8 = .ok (.aload_n 0, 1) := by decide +kernel
theorem dX11_key_9 : decode cX11_key 9 = .ok (.getfield 12, 3) := by decide +kernel
theorem dX11_key_12 : decode cX11_key 12 = .ok (.getfield 273, 3) := by decide +kernel
theorem dX11_key_15 : decode cX11_key 15 = .ok (.iconst 0, 1) := by decide +kernel
theorem dX11_key_16 : decode cX11_key 16 = .ok (.iload_n 1, 1) := by decide +kernel
theorem dX11_key_17 : decode cX11_key 17 = .ok (.iload_n 2, 1) := by decide +kernel
theorem dX11_key_18 : decode cX11_key 18 = .ok (.invokevirtual 107, 3) := by decide +kernel
theorem dX11_key_21 : decode cX11_key 21 = .ok (.goto 5, 3) := by decide +kernel
theorem dX11_key_24 : decode cX11_key 24 = .ok (.ldc 68, 2) := by decide +kernel
theorem dX11_key_26 : decode cX11_key 26 = .ok (.ireturn, 1) := by decide +kernel
theorem dX11_keys_0 : decode cX11_keys 0 = .ok (.iload_n 1, 1) := by decide +kernel
theorem dX11_keys_1 : decode cX11_keys 1 = .ok (.invokestatic 112, 3) := by decide +kernel
theorem dX11_keys_4 : decode cX11_keys 4 = .ok (.ifCond .eq 17, 3) := by decide +kernel
theorem dX11_keys_7 : decode cX11_keys 7 = .ok (.aload_n 0, 1) := by decide +kernel
theorem dX11_keys_8 : decode cX11_keys 8 = .ok (.getfield 12, 3) := by decide +kernel
theorem dX11_keys_11 : decode cX11_keys 11 = .ok (.getfield 273, 3) := by decide +kernel
theorem dX11_keys_14 : decode cX11_keys 14 = .ok (.iload_n 1, 1) := by decide +kernel
theorem dX11_keys_15 : decode cX11_keys 15 = .ok (.invokevirtual 276, 3) := by decide +kernel
theorem dX11_keys_18 : decode cX11_keys 18 = .ok (.goto 5, 3) := by decide +kernel
theorem dX11_keys_21 : decode cX11_keys 21 = .ok (.ldc 68, 2) := by decide +kernel
theorem dX11_keys_23 : decode cX11_keys 23 = .ok (.ireturn, 1) := by decide +kernel
theorem dX11_jokes_0 : decode cX11_jokes 0 = .ok (.iconst 0, 1) := by decide +kernel
theorem dX11_jokes_1 : decode cX11_jokes 1 = .ok (.istore_n 1, 1) := by decide +kernel
theorem dX11_jokes_2 : decode cX11_jokes 2 = .ok (.iconst 0, 1) := by decide +kernel
theorem dX11_jokes_3 : decode cX11_jokes 3 = .ok (.istore_n 2, 1) := by decide +kernel
theorem dX11_jokes_4 : decode cX11_jokes 4 = .ok (.iload_n 2, 1) := by decide +kernel
theorem dX11_jokes_5 : decode cX11_jokes 5 = .ok (.aload_n 0, 1) := by decide +kernel
theorem dX11_jokes_6 : decode cX11_jokes 6 = .ok (.getfield 12, 3) := by decide +kernel
theorem dX11_jokes_9 : decode cX11_jokes 9 = .ok (.getfield 89, 3) := by decide +kernel
theorem dX11_jokes_12 : decode cX11_jokes 12 = .ok (.getfield 160, 3) := by decide +kernel
theorem dX11_jokes_15 : decode cX11_jokes 15 = .ok (.if_icmp .ge 48, 3) := by decide +kernel
theorem dX11_jokes_18 : decode cX11_jokes 18 = .ok (.aload_n 0, 1) := by decide +kernel
theorem dX11_jokes_19 : decode cX11_jokes 19 = .ok (.getfield 12, 3) := by decide +kernel
theorem dX11_jokes_22 : decode cX11_jokes 22 = .ok (.getfield 273, 3) := by decide +kernel
theorem dX11_jokes_25 : decode cX11_jokes 25 = .ok (.aload_n 0, 1) := by decide +kernel
theorem dX11_jokes_26 : decode cX11_jokes 26 = .ok (.getfield 12, 3) := by decide +kernel
theorem dX11_jokes_29 : decode cX11_jokes 29 = .ok (.getfield 89, 3) := by decide +kernel
theorem dX11_jokes_32 : decode cX11_jokes 32 = .ok (.getfield 138, 3) := by decide +kernel
theorem dX11_jokes_35 : decode cX11_jokes 35 = .ok (.iload_n 2, 1) := by decide +kernel
theorem dX11_jokes_36 : decode cX11_jokes 36 = .ok (.iaload, 1) := by decide +kernel
theorem dX11_jokes_37 : decode cX11_jokes 37 = .ok (.invokevirtual 276, 3) := by decide +kernel
theorem dX11_jokes_40 : decode cX11_jokes 40 = .ok (.ifCond .le 17, 3) := by decide +kernel
theorem dX11_jokes_43 : decode cX11_jokes 43 = .ok (.aload_n 0, 1) := by decide +kernel
theorem dX11_jokes_44 : decode cX11_jokes 44 = .ok (.getfield 12, 3) := by decide +kernel
theorem dX11_jokes_47 : decode cX11_jokes 47 = .ok (.iload_n 2, 1) := by decide +kernel
theorem dX11_jokes_48 : decode cX11_jokes 48 = .ok (.invokevirtual 143, 3) := by decide +kernel
theorem dX11_jokes_51 : decode cX11_jokes 51 = .ok (.ifCond .eq 6, 3) := by decide +kernel
theorem dX11_jokes_54 : decode cX11_jokes 54 = .ok (.iinc 1 1, 3) := by decide +kernel
theorem dX11_jokes_57 : decode cX11_jokes 57 = .ok (.iinc 2 1, 3) := by decide +kernel
theorem dX11_jokes_60 : decode cX11_jokes 60 = .ok (.goto (-56), 3) := by decide +kernel
theorem dX11_jokes_63 : decode cX11_jokes 63 = .ok (.iload_n 1, 1) := by decide +kernel
theorem dX11_jokes_64 : decode cX11_jokes 64 = .ok (.ireturn, 1) := by decide +kernel
theorem dX11_offer_0 : decode cX11_offer 0 = .ok (.iload_n 1, 1) := by decide +kernel
theorem dX11_offer_1 : decode cX11_offer 1 = .ok (.invokestatic 54, 3) := by decide +kernel
theorem dX11_offer_4 : decode cX11_offer 4 = .ok (.ifCond .eq 29, 3) := by decide +kernel
theorem dX11_offer_7 : decode cX11_offer 7 = .ok (.iload_n 2, 1) := by decide +kernel
theorem dX11_offer_8 : decode cX11_offer 8 = .ok (.ifCond .lt 25, 3) := by decide +kernel
theorem dX11_offer_11 : decode cX11_offer 11 = .ok (.iload_n 2, 1) := by decide +kernel
theorem dX11_offer_12 : decode cX11_offer 12 = .ok (.sipush 999, 3) := by decide +kernel
theorem dX11_offer_15 : decode cX11_offer 15 = .ok (.if_icmp .gt 18, 3) := by decide +kernel
theorem dX11_offer_18 : decode cX11_offer 18 = .ok (.aload_n 0, 1) := by decide +kernel
theorem dX11_offer_19 : decode cX11_offer 19 = .ok (.getfield 12, 3) := by decide +kernel
theorem dX11_offer_22 : decode cX11_offer 22 = .ok (.getfield 279, 3) := by decide +kernel
theorem dX11_offer_25 : decode cX11_offer 25 = .ok (.iload_n 1, 1) := by decide +kernel
theorem dX11_offer_26 : decode cX11_offer 26 = .ok (.iload_n 2, 1) := by decide +kernel
theorem dX11_offer_27 : decode cX11_offer 27 = .ok (.invokevirtual 283, 3) := by decide +kernel
theorem dX11_offer_30 : decode cX11_offer 30 = .ok (.goto 5, 3) := by decide +kernel
theorem dX11_offer_33 : decode cX11_offer 33 = .ok (.ldc 68, 2) := by decide +kernel
theorem dX11_offer_35 : decode cX11_offer 35 = .ok (.ireturn, 1) := by decide +kernel
theorem dX11_clear_0 : decode cX11_clear 0 = .ok (.aload_n 0, 1) := by decide +kernel
theorem dX11_clear_1 : decode cX11_clear 1 = .ok (.getfield 12, 3) := by decide +kernel
theorem dX11_clear_4 : decode cX11_clear 4 = .ok (.getfield 279, 3) := by decide +kernel
theorem dX11_clear_7 : decode cX11_clear 7 = .ok (.getfield 287, 3) := by decide +kernel
theorem dX11_clear_10 : decode cX11_clear 10 = .ok (.istore_n 1, 1) := by decide +kernel
theorem dX11_clear_11 : decode cX11_clear 11 = .ok (.aload_n 0, 1) := by decide +kernel
theorem dX11_clear_12 : decode cX11_clear 12 = .ok (.getfield 12, 3) := by decide +kernel
theorem dX11_clear_15 : decode cX11_clear 15 = .ok (.getfield 279, 3) := by decide +kernel
theorem dX11_clear_18 : decode cX11_clear 18 = .ok (.iconst 0, 1) := by decide +kernel
theorem dX11_clear_19 : decode cX11_clear 19 = .ok (.putfield 287, 3) := by decide +kernel
theorem dX11_clear_22 : decode cX11_clear 22 = .ok (.iload_n 1, 1) := by decide +kernel
theorem dX11_clear_23 : decode cX11_clear 23 = .ok (.ireturn, 1) := by decide +kernel
theorem dX11_best_0 : decode cX11_best 0 = .ok (.iload_n 1, 1) := by decide +kernel
theorem dX11_best_1 : decode cX11_best 1 = .ok (.invokestatic 288, 3) := by decide +kernel
theorem dX11_best_4 : decode cX11_best 4 = .ok (.ifCond .eq 12, 3) := by decide +kernel
theorem dX11_best_7 : decode cX11_best 7 = .ok (.iload_n 2, 1) := by decide +kernel
theorem dX11_best_8 : decode cX11_best 8 = .ok (.ifCond .lt 8, 3) := by decide +kernel
theorem dX11_best_11 : decode cX11_best 11 = .ok (.iload_n 2, 1) := by decide +kernel
theorem dX11_best_12 : decode cX11_best 12 = .ok (.iconst 2, 1) := by decide +kernel
theorem dX11_best_13 : decode cX11_best 13 = .ok (.if_icmp .le 6, 3) := by decide +kernel
theorem dX11_best_16 : decode cX11_best 16 = .ok (.ldc 68, 2) := by decide +kernel
theorem dX11_best_18 : decode cX11_best 18 = .ok (.ireturn, 1) := by decide +kernel
theorem dX11_best_19 : decode cX11_best 19 = .ok (.aload_n 0, 1) := by decide +kernel
theorem dX11_best_20 : decode cX11_best 20 = .ok (.getfield 50, 3) := by decide +kernel
theorem dX11_best_23 : decode cX11_best 23 = .ok (.aload_n 0, 1) := by decide +kernel
theorem dX11_best_24 : decode cX11_best 24 = .ok (.getfield 12, 3) := by decide +kernel
theorem dX11_best_27 : decode cX11_best 27 = .ok (.getfield 279, 3) := by decide +kernel
theorem dX11_best_30 : decode cX11_best 30 = .ok (.iload_n 1, 1) := by decide +kernel
theorem dX11_best_31 : decode cX11_best 31 = .ok (.invokevirtual 291, 3) := by decide +kernel
theorem dX11_best_34 : decode cX11_best 34 = .ok (.iload_n 2, 1) := by decide +kernel
theorem dX11_best_35 : decode cX11_best 35 = .ok (.lookupswitch 41 #[(0, 25), (1, 33)], 25) := by decide +kernel
theorem dX11_best_60 : decode cX11_best 60 = .ok (.aload_n 0, 1) := by decide +kernel
theorem dX11_best_61 : decode cX11_best 61 = .ok (.getfield 50, 3) := by decide +kernel
theorem dX11_best_64 : decode cX11_best 64 = .ok (.getfield 295, 3) := by decide +kernel
theorem dX11_best_67 : decode cX11_best 67 = .ok (.ireturn, 1) := by decide +kernel
theorem dX11_best_68 : decode cX11_best 68 = .ok (.aload_n 0, 1) := by decide +kernel
theorem dX11_best_69 : decode cX11_best 69 = .ok (.getfield 50, 3) := by decide +kernel
theorem dX11_best_72 : decode cX11_best 72 = .ok (.getfield 298, 3) := by decide +kernel
theorem dX11_best_75 : decode cX11_best 75 = .ok (.ireturn, 1) := by decide +kernel
theorem dX11_best_76 : decode cX11_best 76 = .ok (.aload_n 0, 1) := by decide +kernel
theorem dX11_best_77 : decode cX11_best 77 = .ok (.getfield 50, 3) := by decide +kernel
theorem dX11_best_80 : decode cX11_best 80 = .ok (.getfield 301, 3) := by decide +kernel
theorem dX11_best_83 : decode cX11_best 83 = .ok (.ireturn, 1) := by decide +kernel
theorem dX11_soonest_0 : decode cX11_soonest 0 = .ok (.iload_n 1, 1) := by decide +kernel
theorem dX11_soonest_1 : decode cX11_soonest 1 = .ok (.invokestatic 288, 3) := by decide +kernel
theorem dX11_soonest_4 : decode cX11_soonest 4 = .ok (.ifCond .eq 23, 3) := by decide +kernel
theorem dX11_soonest_7 : decode cX11_soonest 7 = .ok (.iload_n 2, 1) := by decide +kernel
theorem dX11_soonest_8 : decode cX11_soonest 8 = .ok (.ifCond .lt 19, 3) := by decide +kernel
theorem dX11_soonest_11 : decode cX11_soonest 11 = .ok (.iload_n 2, 1) := by decide +kernel
theorem dX11_soonest_12 : decode cX11_soonest 12 = .ok (.sipush 10000, 3) := by decide +kernel
theorem dX11_soonest_15 : decode cX11_soonest 15 = .ok (.if_icmp .gt 12, 3) := by decide +kernel
theorem dX11_soonest_18 : decode cX11_soonest 18 = .ok (.iload_n 3, 1) := by decide +kernel
theorem dX11_soonest_19 : decode cX11_soonest 19 = .ok (.ifCond .lt 8, 3) := by decide +kernel
theorem dX11_soonest_22 : decode cX11_soonest 22 = .ok (.iload_n 3, 1) := by decide +kernel
theorem dX11_soonest_23 : decode cX11_soonest 23 = .ok (.iconst 2, 1) := by decide +kernel
theorem dX11_soonest_24 : decode cX11_soonest 24 = .ok (.if_icmp .le 6, 3) := by decide +kernel
theorem dX11_soonest_27 : decode cX11_soonest 27 = .ok (.ldc 68, 2) := by decide +kernel
theorem dX11_soonest_29 : decode cX11_soonest 29 = .ok (.ireturn, 1) := by decide +kernel
theorem dX11_soonest_30 : decode cX11_soonest 30 = .ok (.aload_n 0, 1) := by decide +kernel
theorem dX11_soonest_31 : decode cX11_soonest 31 = .ok (.getfield 50, 3) := by decide +kernel
theorem dX11_soonest_34 : decode cX11_soonest 34 = .ok (.aload_n 0, 1) := by decide +kernel
theorem dX11_soonest_35 : decode cX11_soonest 35 = .ok (.getfield 12, 3) := by decide +kernel
theorem dX11_soonest_38 : decode cX11_soonest 38 = .ok (.iload_n 1, 1) := by decide +kernel
theorem dX11_soonest_39 : decode cX11_soonest 39 = .ok (.iload_n 2, 1) := by decide +kernel
theorem dX11_soonest_40 : decode cX11_soonest 40 = .ok (.invokevirtual 304, 3) := by decide +kernel
theorem dX11_soonest_43 : decode cX11_soonest 43 = .ok (.ifCond .ne 6, 3) := by decide +kernel
theorem dX11_soonest_46 : decode cX11_soonest 46 = .ok (.ldc 98, 2) := by decide +kernel
theorem dX11_soonest_48 : decode cX11_soonest 48 = .ok (.ireturn, 1) := by decide +kernel
theorem dX11_soonest_49 : decode cX11_soonest 49 = .ok (.iload_n 3, 1) := by decide +kernel
theorem dX11_soonest_50 : decode cX11_soonest 50 = .ok (.lookupswitch 42 #[(0, 26), (1, 34)], 26) := by decide +kernel
theorem dX11_soonest_76 : decode cX11_soonest 76 = .ok (.aload_n 0, 1) := by decide +kernel
theorem dX11_soonest_77 : decode cX11_soonest 77 = .ok (.getfield 50, 3) := by decide +kernel
theorem dX11_soonest_80 : decode cX11_soonest 80 = .ok (.getfield 295, 3) := by decide +kernel
theorem dX11_soonest_83 : decode cX11_soonest 83 = .ok (.ireturn, 1) := by decide +kernel
theorem dX11_soonest_84 : decode cX11_soonest 84 = .ok (.aload_n 0, 1) := by decide +kernel
theorem dX11_soonest_85 : decode cX11_soonest 85 = .ok (.getfield 50, 3) := by decide +kernel
theorem dX11_soonest_88 : decode cX11_soonest 88 = .ok (.getfield 308, 3) := by decide +kernel
theorem dX11_soonest_91 : decode cX11_soonest 91 = .ok (.ireturn, 1) := by decide +kernel
theorem dX11_soonest_92 : decode cX11_soonest 92 = .ok (.aload_n 0, 1) := by decide +kernel
theorem dX11_soonest_93 : decode cX11_soonest 93 = .ok (.getfield 50, 3) := by decide +kernel
theorem dX11_soonest_96 : decode cX11_soonest 96 = .ok (.getfield 301, 3) := by decide +kernel
theorem dX11_soonest_99 : decode cX11_soonest 99 = .ok (.ireturn, 1) := by decide +kernel
theorem dX11_sheet_0 : decode cX11_sheet 0 = .ok (.iload_n 1, 1) := by decide +kernel
theorem dX11_sheet_1 : decode cX11_sheet 1 = .ok (.invokestatic 250, 3) := by decide +kernel
theorem dX11_sheet_4 : decode cX11_sheet 4 = .ok (.ifCond .eq 13, 3) := by decide +kernel
theorem dX11_sheet_7 : decode cX11_sheet 7 = .ok (.iload_n 2, 1) := by decide +kernel
theorem dX11_sheet_8 : decode cX11_sheet 8 = .ok (.iconst (-1), 1) := by decide +kernel
theorem dX11_sheet_9 : decode cX11_sheet 9 = .ok (.if_icmp .lt 8, 3) := by decide +kernel
theorem dX11_sheet_12 : decode cX11_sheet 12 = .ok (.iload_n 2, 1) := by decide +kernel
theorem dX11_sheet_13 : decode cX11_sheet 13 = .ok (.iconst 1, 1) := by decide +kernel
theorem dX11_sheet_14 : decode cX11_sheet 14 = .ok (.if_icmp .le 6, 3) := by decide +kernel
theorem dX11_sheet_17 : decode cX11_sheet 17 = .ok (.ldc 68, 2) := by decide +kernel
theorem dX11_sheet_19 : decode cX11_sheet 19 = .ok (.ireturn, 1) := by decide +kernel
theorem dX11_sheet_20 : decode cX11_sheet 20 = .ok (.iload_n 2, 1) := by decide +kernel
theorem dX11_sheet_21 : decode cX11_sheet 21 = .ok (.iconst (-1), 1) := by decide +kernel
theorem dX11_sheet_22 : decode cX11_sheet 22 = .ok (.if_icmp .ne 16, 3) := by decide +kernel
theorem dX11_sheet_25 : decode cX11_sheet 25 = .ok (.aload_n 0, 1) := by decide +kernel
theorem dX11_sheet_26 : decode cX11_sheet 26 = .ok (.getfield 24, 3) := by decide +kernel
theorem dX11_sheet_29 : decode cX11_sheet 29 = .ok (.iload_n 1, 1) := by decide +kernel
theorem dX11_sheet_30 : decode cX11_sheet 30 = .ok (.aaload, 1) := by decide +kernel
theorem dX11_sheet_31 : decode cX11_sheet 31 = .ok (.iconst (-1), 1) := by decide +kernel
theorem dX11_sheet_32 : decode cX11_sheet 32 = .ok (.iconst 0, 1) := by decide +kernel
theorem dX11_sheet_33 : decode cX11_sheet 33 = .ok (.invokevirtual 311, 3) := by decide +kernel
theorem dX11_sheet_36 : decode cX11_sheet 36 = .ok (.iconst 0, 1) := by decide +kernel
theorem dX11_sheet_37 : decode cX11_sheet 37 = .ok (.ireturn, 1) := by decide +kernel
theorem dX11_sheet_38 : decode cX11_sheet 38 = .ok (.iload_n 3, 1) := by decide +kernel
theorem dX11_sheet_39 : decode cX11_sheet 39 = .ok (.bipush 24, 2) := by decide +kernel
theorem dX11_sheet_41 : decode cX11_sheet 41 = .ok (.if_icmp .le 6, 3) := by decide +kernel
theorem dX11_sheet_44 : decode cX11_sheet 44 = .ok (.ldc 68, 2) := by decide +kernel
theorem dX11_sheet_46 : decode cX11_sheet 46 = .ok (.ireturn, 1) := by decide +kernel
theorem dX11_sheet_47 : decode cX11_sheet 47 = .ok (.iload_n 3, 1) := by decide +kernel
theorem dX11_sheet_48 : decode cX11_sheet 48 = .ok (.ifCond .ge 7, 3) := by decide +kernel
theorem dX11_sheet_51 : decode cX11_sheet 51 = .ok (.ldc_w 315, 3) := by decide +kernel
theorem dX11_sheet_54 : decode cX11_sheet 54 = .ok (.ireturn, 1) := by decide +kernel
theorem dX11_sheet_55 : decode cX11_sheet 55 = .ok (.aload_n 0, 1) := by decide +kernel
theorem dX11_sheet_56 : decode cX11_sheet 56 = .ok (.getfield 24, 3) := by decide +kernel
theorem dX11_sheet_59 : decode cX11_sheet 59 = .ok (.iload_n 1, 1) := by decide +kernel
theorem dX11_sheet_60 : decode cX11_sheet 60 = .ok (.aaload, 1) := by decide +kernel
theorem dX11_sheet_61 : decode cX11_sheet 61 = .ok (.iload_n 2, 1) := by decide +kernel
theorem dX11_sheet_62 : decode cX11_sheet 62 = .ok (.iload_n 3, 1) := by decide +kernel
theorem dX11_sheet_63 : decode cX11_sheet 63 = .ok (.invokevirtual 311, 3) := by decide +kernel
theorem dX11_sheet_66 : decode cX11_sheet 66 = .ok (.iload_n 3, 1) := by decide +kernel
theorem dX11_sheet_67 : decode cX11_sheet 67 = .ok (.ireturn, 1) := by decide +kernel
theorem dX11_mark_0 : decode cX11_mark 0 = .ok (.iload_n 1, 1) := by decide +kernel
theorem dX11_mark_1 : decode cX11_mark 1 = .ok (.invokestatic 250, 3) := by decide +kernel
theorem dX11_mark_4 : decode cX11_mark 4 = .ok (.ifCond .ne 6, 3) := by decide +kernel
theorem dX11_mark_7 : decode cX11_mark 7 = .ok (.ldc 68, 2) := by decide +kernel
theorem dX11_mark_9 : decode cX11_mark 9 = .ok (.ireturn, 1) := by decide +kernel
theorem dX11_mark_10 : decode cX11_mark 10 = .ok (.aload_n 0, 1) := by decide +kernel
theorem dX11_mark_11 : decode cX11_mark 11 = .ok (.getfield 24, 3) := by decide +kernel
theorem dX11_mark_14 : decode cX11_mark 14 = .ok (.iload_n 1, 1) := by decide +kernel
theorem dX11_mark_15 : decode cX11_mark 15 = .ok (.aaload, 1) := by decide +kernel
theorem dX11_mark_16 : decode cX11_mark 16 = .ok (.astore 4, 2) := by decide +kernel
theorem dX11_mark_18 : decode cX11_mark 18 = .ok (.aload 4, 2) := by decide +kernel
theorem dX11_mark_20 : decode cX11_mark 20 = .ok (.invokevirtual 253, 3) := by decide +kernel
theorem dX11_mark_23 : decode cX11_mark 23 = .ok (.ifCond .eq 7, 3) := by decide +kernel
theorem dX11_mark_26 : decode cX11_mark 26 = .ok (.ldc_w 256, 3) := by decide +kernel
theorem dX11_mark_29 : decode cX11_mark 29 = .ok (.ireturn, 1) := by decide +kernel
theorem dX11_mark_30 : decode cX11_mark 30 = .ok (.aload 4, 2) := by decide +kernel
theorem dX11_mark_32 : decode cX11_mark 32 = .ok (.iload_n 2, 1) := by decide +kernel
theorem dX11_mark_33 : decode cX11_mark 33 = .ok (.invokevirtual 316, 3) := by decide +kernel
theorem dX11_mark_36 : decode cX11_mark 36 = .ok (.ifCond .ne 7, 3) := by decide +kernel
theorem dX11_mark_39 : decode cX11_mark 39 = .ok (.ldc_w 317, 3) := by decide +kernel
theorem dX11_mark_42 : decode cX11_mark 42 = .ok (.ireturn, 1) := by decide +kernel
theorem dX11_mark_43 : decode cX11_mark 43 = .ok (.aload 4, 2) := by decide +kernel
theorem dX11_mark_45 : decode cX11_mark 45 = .ok (.getfield 318, 3) := by decide +kernel
theorem dX11_mark_48 : decode cX11_mark 48 = .ok (.ifCond .ne 23, 3) := by decide +kernel
theorem dX11_mark_51 : decode cX11_mark 51 = .ok (.iload_n 3, 1) := by decide +kernel
theorem dX11_mark_52 : decode cX11_mark 52 = .ok (.ldc 98, 2) := by decide +kernel
theorem dX11_mark_54 : decode cX11_mark 54 = .ok (.if_icmp .ne 6, 3) := by decide +kernel
theorem dX11_mark_57 : decode cX11_mark 57 = .ok (.ldc 155, 2) := by decide +kernel
theorem dX11_mark_59 : decode cX11_mark 59 = .ok (.ireturn, 1) := by decide +kernel
theorem dX11_mark_60 : decode cX11_mark 60 = .ok (.aload 4, 2) := by decide +kernel
theorem dX11_mark_62 : decode cX11_mark 62 = .ok (.getfield 264, 3) := by decide +kernel
theorem dX11_mark_65 : decode cX11_mark 65 = .ok (.iload_n 2, 1) := by decide +kernel
theorem dX11_mark_66 : decode cX11_mark 66 = .ok (.iload_n 3, 1) := by decide +kernel
theorem dX11_mark_67 : decode cX11_mark 67 = .ok (.i2s, 1) := by decide +kernel
theorem dX11_mark_68 : decode cX11_mark 68 = .ok (.iastore, 1) := by decide +kernel
theorem dX11_mark_69 : decode cX11_mark 69 = .ok (.iconst 1, 1) := by decide +kernel
theorem dX11_mark_70 : decode cX11_mark 70 = .ok (.ireturn, 1) := by decide +kernel
theorem dX11_mark_71 : decode cX11_mark 71 = .ok (.iload_n 3, 1) := by decide +kernel
theorem dX11_mark_72 : decode cX11_mark 72 = .ok (.ldc 98, 2) := by decide +kernel
theorem dX11_mark_74 : decode cX11_mark 74 = .ok (.if_icmp .eq 20, 3) := by decide +kernel
theorem dX11_mark_77 : decode cX11_mark 77 = .ok (.iload_n 3, 1) := by decide +kernel
theorem dX11_mark_78 : decode cX11_mark 78 = .ok (.ldc_w 321, 3) := by decide +kernel
theorem dX11_mark_81 : decode cX11_mark 81 = .ok (.if_icmp .lt 10, 3) := by decide +kernel
theorem dX11_mark_84 : decode cX11_mark 84 = .ok (.iload_n 3, 1) := by decide +kernel
theorem dX11_mark_85 : decode cX11_mark 85 = .ok (.ldc_w 322, 3) := by decide +kernel
theorem dX11_mark_88 : decode cX11_mark 88 = .ok (.if_icmp .le 6, 3) := by decide +kernel
theorem dX11_mark_91 : decode cX11_mark 91 = .ok (.ldc 68, 2) := by decide +kernel
theorem dX11_mark_93 : decode cX11_mark 93 = .ok (.ireturn, 1) := by decide +kernel
theorem dX11_mark_94 : decode cX11_mark 94 = .ok (.aload 4, 2) := by decide +kernel
theorem dX11_mark_96 : decode cX11_mark 96 = .ok (.getfield 264, 3) := by decide +kernel
theorem dX11_mark_99 : decode cX11_mark 99 = .ok (.iload_n 2, 1) := by decide +kernel
theorem dX11_mark_100 : decode cX11_mark 100 = .ok (.iload_n 3, 1) := by decide +kernel
theorem dX11_mark_101 : decode cX11_mark 101 = .ok (.ldc 98, 2) := by decide +kernel
theorem dX11_mark_103 : decode cX11_mark 103 = .ok (.if_icmp .ne 8, 3) := by decide +kernel
theorem dX11_mark_106 : decode cX11_mark 106 = .ok (.ldc 98, 2) := by decide +kernel
theorem dX11_mark_108 : decode cX11_mark 108 = .ok (.goto 4, 3) := by decide +kernel
theorem dX11_mark_111 : decode cX11_mark 111 = .ok (.iload_n 3, 1) := by decide +kernel
theorem dX11_mark_112 : decode cX11_mark 112 = .ok (.iastore, 1) := by decide +kernel
theorem dX11_mark_113 : decode cX11_mark 113 = .ok (.iconst 1, 1) := by decide +kernel
theorem dX11_mark_114 : decode cX11_mark 114 = .ok (.ireturn, 1) := by decide +kernel
theorem dX11_reads_0 : decode cX11_reads 0 = .ok (.iload_n 1, 1) := by decide +kernel
theorem dX11_reads_1 : decode cX11_reads 1 = .ok (.invokestatic 250, 3) := by decide +kernel
theorem dX11_reads_4 : decode cX11_reads 4 = .ok (.ifCond .eq 24, 3) := by decide +kernel
theorem dX11_reads_7 : decode cX11_reads 7 = .ok (.aload_n 0, 1) := by decide +kernel
theorem dX11_reads_8 : decode cX11_reads 8 = .ok (.getfield 12, 3) := by decide +kernel
theorem dX11_reads_11 : decode cX11_reads 11 = .ok (.getfield 58, 3) := by decide +kernel
theorem dX11_reads_14 : decode cX11_reads 14 = .ok (.iload_n 2, 1) := by decide +kernel
theorem dX11_reads_15 : decode cX11_reads 15 = .ok (.invokevirtual 69, 3) := by decide +kernel
theorem dX11_reads_18 : decode cX11_reads 18 = .ok (.ifCond .eq 10, 3) := by decide +kernel
theorem dX11_reads_21 : decode cX11_reads 21 = .ok (.iload_n 3, 1) := by decide +kernel
theorem dX11_reads_22 : decode cX11_reads 22 = .ok (.invokestatic 112, 3) := by decide +kernel
theorem dX11_reads_25 : decode cX11_reads 25 = .ok (.ifCond .ne 6, 3) := by decide +kernel
theorem dX11_reads_28 : decode cX11_reads 28 = .ok (.ldc 68, 2) := by decide +kernel
theorem dX11_reads_30 : decode cX11_reads 30 = .ok (.ireturn, 1) := by decide +kernel
theorem dX11_reads_31 : decode cX11_reads 31 = .ok (.aload_n 0, 1) := by decide +kernel
theorem dX11_reads_32 : decode cX11_reads 32 = .ok (.getfield 24, 3) := by decide +kernel
theorem dX11_reads_35 : decode cX11_reads 35 = .ok (.iload_n 1, 1) := by decide +kernel
theorem dX11_reads_36 : decode cX11_reads 36 = .ok (.aaload, 1) := by decide +kernel
theorem dX11_reads_37 : decode cX11_reads 37 = .ok (.astore 4, 2) := by decide +kernel
theorem dX11_reads_39 : decode cX11_reads 39 = .ok (.aload 4, 2) := by decide +kernel
theorem dX11_reads_41 : decode cX11_reads 41 = .ok (.invokevirtual 253, 3) := by decide +kernel
theorem dX11_reads_44 : decode cX11_reads 44 = .ok (.ifCond .eq 7, 3) := by decide +kernel
theorem dX11_reads_47 : decode cX11_reads 47 = .ok (.ldc_w 256, 3) := by decide +kernel
theorem dX11_reads_50 : decode cX11_reads 50 = .ok (.ireturn, 1) := by decide +kernel
theorem dX11_reads_51 : decode cX11_reads 51 = .ok (.iconst 0, 1) := by decide +kernel
theorem dX11_reads_52 : decode cX11_reads 52 = .ok (.istore 5, 2) := by decide +kernel
theorem dX11_reads_54 : decode cX11_reads 54 = .ok (.iload 5, 2) := by decide +kernel
theorem dX11_reads_56 : decode cX11_reads 56 = .ok (.aload 4, 2) := by decide +kernel
theorem dX11_reads_58 : decode cX11_reads 58 = .ok (.getfield 323, 3) := by decide +kernel
theorem dX11_reads_61 : decode cX11_reads 61 = .ok (.if_icmp .ge 48, 3) := by decide +kernel
theorem dX11_reads_64 : decode cX11_reads 64 = .ok (.aload 4, 2) := by decide +kernel
theorem dX11_reads_66 : decode cX11_reads 66 = .ok (.getfield 264, 3) := by decide +kernel
theorem dX11_reads_69 : decode cX11_reads 69 = .ok (.iload 5, 2) := by decide +kernel
theorem dX11_reads_71 : decode cX11_reads 71 = .ok (.iaload, 1) := by decide +kernel
theorem dX11_reads_72 : decode cX11_reads 72 = .ok (.ldc 98, 2) := by decide +kernel
theorem dX11_reads_74 : decode cX11_reads 74 = .ok (.if_icmp .eq 29, 3) := by decide +kernel
theorem dX11_reads_77 : decode cX11_reads 77 = .ok (.aload 4, 2) := by decide +kernel
theorem dX11_reads_79 : decode cX11_reads 79 = .ok (.getfield 264, 3) := by decide +kernel
theorem dX11_reads_82 : decode cX11_reads 82 = .ok (.iload 5, 2) := by decide +kernel
theorem dX11_reads_84 : decode cX11_reads 84 = .ok (.iaload, 1) := by decide +kernel
theorem dX11_reads_85 : decode cX11_reads 85 = .ok (.aload_n 0, 1) := by decide +kernel
theorem dX11_reads_86 : decode cX11_reads 86 = .ok (.getfield 12, 3) := by decide +kernel
theorem dX11_reads_89 : decode cX11_reads 89 = .ok (.iload_n 2, 1) := by decide +kernel
theorem dX11_reads_90 : decode cX11_reads 90 = .ok (.iload_n 3, 1) := by decide +kernel
theorem dX11_reads_91 : decode cX11_reads 91 = .ok (.iload 5, 2) := by decide +kernel
theorem dX11_reads_93 : decode cX11_reads 93 = .ok (.iadd, 1) := by decide +kernel
theorem dX11_reads_94 : decode cX11_reads 94 = .ok (.invokevirtual 118, 3) := by decide +kernel
theorem dX11_reads_97 : decode cX11_reads 97 = .ok (.if_icmp .eq 6, 3) := by decide +kernel
theorem dX11_reads_100 : decode cX11_reads 100 = .ok (.iload 5, 2) := by decide +kernel
theorem dX11_reads_102 : decode cX11_reads 102 = .ok (.ireturn, 1) := by decide +kernel
theorem dX11_reads_103 : decode cX11_reads 103 = .ok (.iinc 5 1, 3) := by decide +kernel
theorem dX11_reads_106 : decode cX11_reads 106 = .ok (.goto (-52), 3) := by decide +kernel
theorem dX11_reads_109 : decode cX11_reads 109 = .ok (.ldc 98, 2) := by decide +kernel
theorem dX11_reads_111 : decode cX11_reads 111 = .ok (.ireturn, 1) := by decide +kernel
theorem dX11_copy_0 : decode cX11_copy 0 = .ok (.iload_n 1, 1) := by decide +kernel
theorem dX11_copy_1 : decode cX11_copy 1 = .ok (.invokestatic 250, 3) := by decide +kernel
theorem dX11_copy_4 : decode cX11_copy 4 = .ok (.ifCond .eq 10, 3) := by decide +kernel
theorem dX11_copy_7 : decode cX11_copy 7 = .ok (.iload_n 3, 1) := by decide +kernel
theorem dX11_copy_8 : decode cX11_copy 8 = .ok (.invokestatic 250, 3) := by decide +kernel
theorem dX11_copy_11 : decode cX11_copy 11 = .ok (.ifCond .ne 6, 3) := by decide +kernel
theorem dX11_copy_14 : decode cX11_copy 14 = .ok (.ldc 68, 2) := by decide +kernel
theorem dX11_copy_16 : decode cX11_copy 16 = .ok (.ireturn, 1) := by decide +kernel
theorem dX11_copy_17 : decode cX11_copy 17 = .ok (.aload_n 0, 1) := by decide +kernel
theorem dX11_copy_18 : decode cX11_copy 18 = .ok (.getfield 24, 3) := by decide +kernel
theorem dX11_copy_21 : decode cX11_copy 21 = .ok (.iload_n 1, 1) := by decide +kernel
theorem dX11_copy_22 : decode cX11_copy 22 = .ok (.aaload, 1) := by decide +kernel
theorem dX11_copy_23 : decode cX11_copy 23 = .ok (.astore 6, 2) := by decide +kernel
theorem dX11_copy_25 : decode cX11_copy 25 = .ok (.aload_n 0, 1) := by decide +kernel
theorem dX11_copy_26 : decode cX11_copy 26 = .ok (.getfield 24, 3) := by decide +kernel
theorem dX11_copy_29 : decode cX11_copy 29 = .ok (.iload_n 3, 1) := by decide +kernel
theorem dX11_copy_30 : decode cX11_copy 30 = .ok (.aaload, 1) := by decide +kernel
theorem dX11_copy_31 : decode cX11_copy 31 = .ok (.astore 7, 2) := by decide +kernel
theorem dX11_copy_33 : decode cX11_copy 33 = .ok (.aload 6, 2) := by decide +kernel
theorem dX11_copy_35 : decode cX11_copy 35 = .ok (.invokevirtual 253, 3) := by decide +kernel
theorem dX11_copy_38 : decode cX11_copy 38 = .ok (.ifCond .ne 11, 3) := by decide +kernel
theorem dX11_copy_41 : decode cX11_copy 41 = .ok (.aload 7, 2) := by decide +kernel
theorem dX11_copy_43 : decode cX11_copy 43 = .ok (.invokevirtual 253, 3) := by decide +kernel
theorem dX11_copy_46 : decode cX11_copy 46 = .ok (.ifCond .eq 7, 3) := by decide +kernel
theorem dX11_copy_49 : decode cX11_copy 49 = .ok (.ldc_w 256, 3) := by decide +kernel
theorem dX11_copy_52 : decode cX11_copy 52 = .ok (.ireturn, 1) := by decide +kernel
theorem dX11_copy_53 : decode cX11_copy 53 = .ok (.aload 6, 2) := by decide +kernel
theorem dX11_copy_55 : decode cX11_copy 55 = .ok (.getfield 318, 3) := by decide +kernel
theorem dX11_copy_58 : decode cX11_copy 58 = .ok (.aload 7, 2) := by decide +kernel
theorem dX11_copy_60 : decode cX11_copy 60 = .ok (.getfield 318, 3) := by decide +kernel
theorem dX11_copy_63 : decode cX11_copy 63 = .ok (.if_icmp .eq 6, 3) := by decide +kernel
theorem dX11_copy_66 : decode cX11_copy 66 = .ok (.ldc 155, 2) := by decide +kernel
theorem dX11_copy_68 : decode cX11_copy 68 = .ok (.ireturn, 1) := by decide +kernel
theorem dX11_copy_69 : decode cX11_copy 69 = .ok (.aload 6, 2) := by decide +kernel
theorem dX11_copy_71 : decode cX11_copy 71 = .ok (.iload_n 2, 1) := by decide +kernel
theorem dX11_copy_72 : decode cX11_copy 72 = .ok (.iload 5, 2) := by decide +kernel
theorem dX11_copy_74 : decode cX11_copy 74 = .ok (.invokevirtual 324, 3) := by decide +kernel
theorem dX11_copy_77 : decode cX11_copy 77 = .ok (.ifCond .eq 15, 3) := by decide +kernel
theorem dX11_copy_80 : decode cX11_copy 80 = .ok (.aload 7, 2) := by decide +kernel
theorem dX11_copy_82 : decode cX11_copy 82 = .ok (.iload 4, 2) := by decide +kernel
theorem dX11_copy_84 : decode cX11_copy 84 = .ok (.iload 5, 2) := by decide +kernel
theorem dX11_copy_86 : decode cX11_copy 86 = .ok (.invokevirtual 324, 3) := by decide +kernel
theorem dX11_copy_89 : decode cX11_copy 89 = .ok (.ifCond .ne 7, 3) := by decide +kernel
theorem dX11_copy_92 : decode cX11_copy 92 = .ok (.ldc_w 317, 3) := by decide +kernel
theorem dX11_copy_95 : decode cX11_copy 95 = .ok (.ireturn, 1) := by decide +kernel
theorem dX11_copy_96 : decode cX11_copy 96 = .ok (.aload 6, 2) := by decide +kernel
theorem dX11_copy_98 : decode cX11_copy 98 = .ok (.getfield 264, 3) := by decide +kernel
theorem dX11_copy_101 : decode cX11_copy 101 = .ok (.iload_n 2, 1) := by decide +kernel
theorem dX11_copy_102 : decode cX11_copy 102 = .ok (.aload 7, 2) := by decide +kernel
theorem dX11_copy_104 : decode cX11_copy 104 = .ok (.getfield 264, 3) := by decide +kernel
theorem dX11_copy_107 : decode cX11_copy 107 = .ok (.iload 4, 2) := by decide +kernel
theorem dX11_copy_109 : decode cX11_copy 109 = .ok (.iload 5, 2) := by decide +kernel
theorem dX11_copy_111 : decode cX11_copy 111 = .ok (.invokestatic 327, 3) := by decide +kernel
theorem dX11_copy_114 : decode cX11_copy 114 = .ok (.iload 5, 2) := by decide +kernel
theorem dX11_copy_116 : decode cX11_copy 116 = .ok (.ireturn, 1) := by decide +kernel
theorem dX11_lay_0 : decode cX11_lay 0 = .ok (.iload_n 1, 1) := by decide +kernel
theorem dX11_lay_1 : decode cX11_lay 1 = .ok (.invokestatic 333, 3) := by decide +kernel
theorem dX11_lay_4 : decode cX11_lay 4 = .ok (.ifCond .eq 12, 3) := by decide +kernel
theorem dX11_lay_7 : decode cX11_lay 7 = .ok (.iload_n 2, 1) := by decide +kernel
theorem dX11_lay_8 : decode cX11_lay 8 = .ok (.ifCond .lt 8, 3) := by decide +kernel
theorem dX11_lay_11 : decode cX11_lay 11 = .ok (.iload_n 2, 1) := by decide +kernel
theorem dX11_lay_12 : decode cX11_lay 12 = .ok (.iconst 3, 1) := by decide +kernel
theorem dX11_lay_13 : decode cX11_lay 13 = .ok (.if_icmp .le 6, 3) := by decide +kernel
theorem dX11_lay_16 : decode cX11_lay 16 = .ok (.ldc 68, 2) := by decide +kernel
theorem dX11_lay_18 : decode cX11_lay 18 = .ok (.ireturn, 1) := by decide +kernel
theorem dX11_lay_19 : decode cX11_lay 19 = .ok (.iload_n 2, 1) := by decide +kernel
theorem dX11_lay_20 : decode cX11_lay 20 = .ok (.iconst 1, 1) := by decide +kernel
theorem dX11_lay_21 : decode cX11_lay 21 = .ok (.if_icmp .ne 17, 3) := by decide +kernel
theorem dX11_lay_24 : decode cX11_lay 24 = .ok (.aload_n 0, 1) := by decide +kernel
theorem dX11_lay_25 : decode cX11_lay 25 = .ok (.getfield 12, 3) := by decide +kernel
theorem dX11_lay_28 : decode cX11_lay 28 = .ok (.getfield 89, 3) := by decide +kernel
theorem dX11_lay_31 : decode cX11_lay 31 = .ok (.iload_n 3, 1) := by decide +kernel
theorem dX11_lay_32 : decode cX11_lay 32 = .ok (.invokevirtual 131, 3) := by decide +kernel
theorem dX11_lay_35 : decode cX11_lay 35 = .ok (.ifCond .eq 15, 3) := by decide +kernel
theorem dX11_lay_38 : decode cX11_lay 38 = .ok (.iload_n 2, 1) := by decide +kernel
theorem dX11_lay_39 : decode cX11_lay 39 = .ok (.iconst 2, 1) := by decide +kernel
theorem dX11_lay_40 : decode cX11_lay 40 = .ok (.if_icmp .ne 13, 3) := by decide +kernel
theorem dX11_lay_43 : decode cX11_lay 43 = .ok (.iload_n 3, 1) := by decide +kernel
theorem dX11_lay_44 : decode cX11_lay 44 = .ok (.invokestatic 250, 3) := by decide +kernel
theorem dX11_lay_47 : decode cX11_lay 47 = .ok (.ifCond .ne 6, 3) := by decide +kernel
theorem dX11_lay_50 : decode cX11_lay 50 = .ok (.ldc 68, 2) := by decide +kernel
theorem dX11_lay_52 : decode cX11_lay 52 = .ok (.ireturn, 1) := by decide +kernel
theorem dX11_lay_53 : decode cX11_lay 53 = .ok (.iload_n 2, 1) := by decide +kernel
theorem dX11_lay_54 : decode cX11_lay 54 = .ok (.iconst 2, 1) := by decide +kernel
theorem dX11_lay_55 : decode cX11_lay 55 = .ok (.if_icmp .ne 19, 3) := by decide +kernel
theorem dX11_lay_58 : decode cX11_lay 58 = .ok (.aload_n 0, 1) := by decide +kernel
theorem dX11_lay_59 : decode cX11_lay 59 = .ok (.getfield 24, 3) := by decide +kernel
theorem dX11_lay_62 : decode cX11_lay 62 = .ok (.iload_n 3, 1) := by decide +kernel
theorem dX11_lay_63 : decode cX11_lay 63 = .ok (.aaload, 1) := by decide +kernel
theorem dX11_lay_64 : decode cX11_lay 64 = .ok (.invokevirtual 253, 3) := by decide +kernel
theorem dX11_lay_67 : decode cX11_lay 67 = .ok (.ifCond .eq 7, 3) := by decide +kernel
theorem dX11_lay_70 : decode cX11_lay 70 = .ok (.ldc_w 256, 3) := by decide +kernel
theorem dX11_lay_73 : decode cX11_lay 73 = .ok (.ireturn, 1) := by decide +kernel
theorem dX11_lay_74 : decode cX11_lay 74 = .ok (.aload_n 0, 1) := by decide +kernel
theorem dX11_lay_75 : decode cX11_lay 75 = .ok (.getfield 31, 3) := by decide +kernel
theorem dX11_lay_78 : decode cX11_lay 78 = .ok (.iload_n 1, 1) := by decide +kernel
theorem dX11_lay_79 : decode cX11_lay 79 = .ok (.aaload, 1) := by decide +kernel
theorem dX11_lay_80 : decode cX11_lay 80 = .ok (.astore 4, 2) := by decide +kernel
theorem dX11_lay_82 : decode cX11_lay 82 = .ok (.aload 4, 2) := by decide +kernel
theorem dX11_lay_84 : decode cX11_lay 84 = .ok (.getfield 336, 3) := by decide +kernel
theorem dX11_lay_87 : decode cX11_lay 87 = .ok (.istore 5, 2) := by decide +kernel
theorem dX11_lay_89 : decode cX11_lay 89 = .ok (.aload 4, 2) := by decide +kernel
theorem dX11_lay_91 : decode cX11_lay 91 = .ok (.iload_n 2, 1) := by decide +kernel
theorem dX11_lay_92 : decode cX11_lay 92 = .ok (.putfield 336, 3) := by decide +kernel
theorem dX11_lay_95 : decode cX11_lay 95 = .ok (.iload_n 2, 1) := by decide +kernel
theorem dX11_lay_96 : decode cX11_lay 96 = .ok (.iconst 1, 1) := by decide +kernel
theorem dX11_lay_97 : decode cX11_lay 97 = .ok (.if_icmp .ne 40, 3) := by decide +kernel
theorem dX11_lay_100 : decode cX11_lay 100 = .ok (.aload 4, 2) := by decide +kernel
theorem dX11_lay_102 : decode cX11_lay 102 = .ok (.aload_n 0, 1) := by decide +kernel
theorem dX11_lay_103 : decode cX11_lay 103 = .ok (.getfield 12, 3) := by decide +kernel
theorem dX11_lay_106 : decode cX11_lay 106 = .ok (.getfield 89, 3) := by decide +kernel
theorem dX11_lay_109 : decode cX11_lay 109 = .ok (.getfield 132, 3) := by decide +kernel
theorem dX11_lay_112 : decode cX11_lay 112 = .ok (.iload_n 3, 1) := by decide +kernel
theorem dX11_lay_113 : decode cX11_lay 113 = .ok (.iaload, 1) := by decide +kernel
theorem dX11_lay_114 : decode cX11_lay 114 = .ok (.putfield 339, 3) := by decide +kernel
theorem dX11_lay_117 : decode cX11_lay 117 = .ok (.aload 4, 2) := by decide +kernel
theorem dX11_lay_119 : decode cX11_lay 119 = .ok (.aload_n 0, 1) := by decide +kernel
theorem dX11_lay_120 : decode cX11_lay 120 = .ok (.getfield 12, 3) := by decide +kernel
theorem dX11_lay_123 : decode cX11_lay 123 = .ok (.getfield 89, 3) := by decide +kernel
theorem dX11_lay_126 : decode cX11_lay 126 = .ok (.getfield 140, 3) := by decide +kernel
theorem dX11_lay_129 : decode cX11_lay 129 = .ok (.iload_n 3, 1) := by decide +kernel
theorem dX11_lay_130 : decode cX11_lay 130 = .ok (.iaload, 1) := by decide +kernel
theorem dX11_lay_131 : decode cX11_lay 131 = .ok (.putfield 341, 3) := by decide +kernel
theorem dX11_lay_134 : decode cX11_lay 134 = .ok (.goto 31, 3) := by decide +kernel
theorem dX11_lay_137 : decode cX11_lay 137 = .ok (.iload_n 2, 1) := by decide +kernel
theorem dX11_lay_138 : decode cX11_lay 138 = .ok (.iconst 2, 1) := by decide +kernel
theorem dX11_lay_139 : decode cX11_lay 139 = .ok (.if_icmp .ne 20, 3) := by decide +kernel
theorem dX11_lay_142 : decode cX11_lay 142 = .ok (.aload 4, 2) := by decide +kernel
theorem dX11_lay_144 : decode cX11_lay 144 = .ok (.getfield 343, 3) := by decide +kernel
theorem dX11_lay_147 : decode cX11_lay 147 = .ok (.aload_n 0, 1) := by decide +kernel
theorem dX11_lay_148 : decode cX11_lay 148 = .ok (.getfield 24, 3) := by decide +kernel
theorem dX11_lay_151 : decode cX11_lay 151 = .ok (.iload_n 3, 1) := by decide +kernel
theorem dX11_lay_152 : decode cX11_lay 152 = .ok (.aaload, 1) := by decide +kernel
theorem dX11_lay_153 : decode cX11_lay 153 = .ok (.invokevirtual 347, 3) := by decide +kernel
theorem dX11_lay_156 : decode cX11_lay 156 = .ok (.goto 9, 3) := by decide +kernel
theorem dX11_lay_159 : decode cX11_lay 159 = .ok (.aload 4, 2) := by decide +kernel
theorem dX11_lay_161 : decode cX11_lay 161 = .ok (.iload_n 3, 1) := by decide +kernel
theorem dX11_lay_162 : decode cX11_lay 162 = .ok (.putfield 351, 3) := by decide +kernel
theorem dX11_lay_165 : decode cX11_lay 165 = .ok (.iload 5, 2) := by decide +kernel
theorem dX11_lay_167 : decode cX11_lay 167 = .ok (.ireturn, 1) := by decide +kernel
theorem dX11_ask_0 : decode cX11_ask 0 = .ok (.iload_n 1, 1) := by decide +kernel
theorem dX11_ask_1 : decode cX11_ask 1 = .ok (.invokestatic 333, 3) := by decide +kernel
theorem dX11_ask_4 : decode cX11_ask 4 = .ok (.ifCond .eq 10, 3) := by decide +kernel
theorem dX11_ask_7 : decode cX11_ask 7 = .ok (.iload_n 2, 1) := by decide +kernel
theorem dX11_ask_8 : decode cX11_ask 8 = .ok (.invokestatic 122, 3) := by decide +kernel
theorem dX11_ask_11 : decode cX11_ask 11 = .ok (.ifCond .ne 6, 3) := by decide +kernel
theorem dX11_ask_14 : decode cX11_ask 14 = .ok (.ldc 68, 2) := by decide +kernel
theorem dX11_ask_16 : decode cX11_ask 16 = .ok (.ireturn, 1) := by decide +kernel
theorem dX11_ask_17 : decode cX11_ask 17 = .ok (.aload_n 0, 1) := by decide +kernel
theorem dX11_ask_18 : decode cX11_ask 18 = .ok (.getfield 31, 3) := by decide +kernel
theorem dX11_ask_21 : decode cX11_ask 21 = .ok (.iload_n 1, 1) := by decide +kernel
theorem dX11_ask_22 : decode cX11_ask 22 = .ok (.aaload, 1) := by decide +kernel
theorem dX11_ask_23 : decode cX11_ask 23 = .ok (.astore_n 3, 1) := by decide +kernel
theorem dX11_ask_24 : decode cX11_ask 24 = .ok (.aload_n 3, 1) := by decide +kernel
theorem dX11_ask_25 : decode cX11_ask 25 = .ok (.getfield 336, 3) := by decide +kernel
theorem dX11_ask_28 : decode cX11_ask 28 = .ok (.ifCond .ne 7, 3) := by decide +kernel
theorem dX11_ask_31 : decode cX11_ask 31 = .ok (.ldc_w 256, 3) := by decide +kernel
theorem dX11_ask_34 : decode cX11_ask 34 = .ok (.ireturn, 1) := by decide +kernel
theorem dX11_ask_35 : decode cX11_ask 35 = .ok (.aload_n 3, 1) := by decide +kernel
theorem dX11_ask_36 : decode cX11_ask 36 = .ok (.getfield 336, 3) := by decide +kernel
theorem dX11_ask_39 : decode cX11_ask 39 = .ok (.iconst 1, 1) := by decide +kernel
theorem dX11_ask_40 : decode cX11_ask 40 = .ok (.if_icmp .ne 14, 3) := by decide +kernel
theorem dX11_ask_43 : decode cX11_ask 43 = .ok (.aload_n 3, 1) := by decide +kernel
theorem dX11_ask_44 : decode cX11_ask 44 = .ok (.getfield 339, 3) := by decide +kernel
theorem dX11_ask_47 : decode cX11_ask 47 = .ok (.iload_n 2, 1) := by decide +kernel
theorem dX11_ask_48 : decode cX11_ask 48 = .ok (.invokestatic 152, 3) := by decide +kernel
theorem dX11_ask_51 : decode cX11_ask 51 = .ok (.ifCond .ne 6, 3) := by decide +kernel
theorem dX11_ask_54 : decode cX11_ask 54 = .ok (.ldc 155, 2) := by decide +kernel
theorem dX11_ask_56 : decode cX11_ask 56 = .ok (.ireturn, 1) := by decide +kernel
theorem dX11_ask_57 : decode cX11_ask 57 = .ok (.aload_n 3, 1) := by decide +kernel
theorem dX11_ask_58 : decode cX11_ask 58 = .ok (.getfield 339, 3) := by decide +kernel
theorem dX11_ask_61 : decode cX11_ask 61 = .ok (.aload_n 3, 1) := by decide +kernel
theorem dX11_ask_62 : decode cX11_ask 62 = .ok (.getfield 341, 3) := by decide +kernel
theorem dX11_ask_65 : decode cX11_ask 65 = .ok (.aload_n 0, 1) := by decide +kernel
theorem dX11_ask_66 : decode cX11_ask 66 = .ok (.getfield 12, 3) := by decide +kernel
theorem dX11_ask_69 : decode cX11_ask 69 = .ok (.getfield 146, 3) := by decide +kernel
theorem dX11_ask_72 : decode cX11_ask 72 = .ok (.invokestatic 149, 3) := by decide +kernel
theorem dX11_ask_75 : decode cX11_ask 75 = .ok (.ireturn, 1) := by decide +kernel
theorem dX11_item_0 : decode cX11_item 0 = .ok (.iload_n 1, 1) := by decide +kernel
theorem dX11_item_1 : decode cX11_item 1 = .ok (.invokestatic 333, 3) := by decide +kernel
theorem dX11_item_4 : decode cX11_item 4 = .ok (.ifCond .ne 6, 3) := by decide +kernel
theorem dX11_item_7 : decode cX11_item 7 = .ok (.ldc 68, 2) := by decide +kernel
theorem dX11_item_9 : decode cX11_item 9 = .ok (.ireturn, 1) := by decide +kernel
theorem dX11_item_10 : decode cX11_item 10 = .ok (.aload_n 0, 1) := by decide +kernel
theorem dX11_item_11 : decode cX11_item 11 = .ok (.getfield 31, 3) := by decide +kernel
theorem dX11_item_14 : decode cX11_item 14 = .ok (.iload_n 1, 1) := by decide +kernel
theorem dX11_item_15 : decode cX11_item 15 = .ok (.aaload, 1) := by decide +kernel
theorem dX11_item_16 : decode cX11_item 16 = .ok (.astore_n 3, 1) := by decide +kernel
theorem dX11_item_17 : decode cX11_item 17 = .ok (.aload_n 3, 1) := by decide +kernel
theorem dX11_item_18 : decode cX11_item 18 = .ok (.getfield 336, 3) := by decide +kernel
theorem dX11_item_21 : decode cX11_item 21 = .ok (.ifCond .ne 7, 3) := by decide +kernel
theorem dX11_item_24 : decode cX11_item 24 = .ok (.ldc_w 256, 3) := by decide +kernel
theorem dX11_item_27 : decode cX11_item 27 = .ok (.ireturn, 1) := by decide +kernel
theorem dX11_item_28 : decode cX11_item 28 = .ok (.aload_n 3, 1) := by decide +kernel
theorem dX11_item_29 : decode cX11_item 29 = .ok (.getfield 336, 3) := by decide +kernel
theorem dX11_item_32 : decode cX11_item 32 = .ok (.iconst 2, 1) := by decide +kernel
theorem dX11_item_33 : decode cX11_item 33 = .ok (.if_icmp .eq 6, 3) := by decide +kernel
theorem dX11_item_36 : decode cX11_item 36 = .ok (.ldc 155, 2) := by decide +kernel
theorem dX11_item_38 : decode cX11_item 38 = .ok (.ireturn, 1) := by decide +kernel
theorem dX11_item_39 : decode cX11_item 39 = .ok (.aload_n 3, 1) := by decide +kernel
theorem dX11_item_40 : decode cX11_item 40 = .ok (.getfield 343, 3) := by decide +kernel
theorem dX11_item_43 : decode cX11_item 43 = .ok (.iload_n 2, 1) := by decide +kernel
theorem dX11_item_44 : decode cX11_item 44 = .ok (.invokevirtual 316, 3) := by decide +kernel
theorem dX11_item_47 : decode cX11_item 47 = .ok (.ifCond .ne 7, 3) := by decide +kernel
theorem dX11_item_50 : decode cX11_item 50 = .ok (.ldc_w 317, 3) := by decide +kernel
theorem dX11_item_53 : decode cX11_item 53 = .ok (.ireturn, 1) := by decide +kernel
theorem dX11_item_54 : decode cX11_item 54 = .ok (.aload_n 3, 1) := by decide +kernel
theorem dX11_item_55 : decode cX11_item 55 = .ok (.getfield 343, 3) := by decide +kernel
theorem dX11_item_58 : decode cX11_item 58 = .ok (.getfield 264, 3) := by decide +kernel
theorem dX11_item_61 : decode cX11_item 61 = .ok (.iload_n 2, 1) := by decide +kernel
theorem dX11_item_62 : decode cX11_item 62 = .ok (.iaload, 1) := by decide +kernel
theorem dX11_item_63 : decode cX11_item 63 = .ok (.istore 4, 2) := by decide +kernel
theorem dX11_item_65 : decode cX11_item 65 = .ok (.iload 4, 2) := by decide +kernel
theorem dX11_item_67 : decode cX11_item 67 = .ok (.ldc 98, 2) := by decide +kernel
theorem dX11_item_69 : decode cX11_item 69 = .ok (.if_icmp .ne 8, 3) := by decide +kernel
theorem dX11_item_72 : decode cX11_item 72 = .ok (.ldc 155, 2) := by decide +kernel
theorem dX11_item_74 : decode cX11_item 74 = .ok (.goto 5, 3) := by decide +kernel
theorem dX11_item_77 : decode cX11_item 77 = .ok (.iload 4, 2) := by decide +kernel
theorem dX11_item_79 : decode cX11_item 79 = .ok (.ireturn, 1) := by decide +kernel
theorem dX11_rest_0 : decode cX11_rest 0 = .ok (.iload_n 1, 1) := by decide +kernel
theorem dX11_rest_1 : decode cX11_rest 1 = .ok (.invokestatic 333, 3) := by decide +kernel
theorem dX11_rest_4 : decode cX11_rest 4 = .ok (.ifCond .ne 6, 3) := by decide +kernel
theorem dX11_rest_7 : decode cX11_rest 7 = .ok (.ldc 68, 2) := by decide +kernel
theorem dX11_rest_9 : decode cX11_rest 9 = .ok (.ireturn, 1) := by decide +kernel
theorem dX11_rest_10 : decode cX11_rest 10 = .ok (.aload_n 0, 1) := by decide +kernel
theorem dX11_rest_11 : decode cX11_rest 11 = .ok (.getfield 31, 3) := by decide +kernel
theorem dX11_rest_14 : decode cX11_rest 14 = .ok (.iload_n 1, 1) := by decide +kernel
theorem dX11_rest_15 : decode cX11_rest 15 = .ok (.aaload, 1) := by decide +kernel
theorem dX11_rest_16 : decode cX11_rest 16 = .ok (.astore_n 3, 1) := by decide +kernel
theorem dX11_rest_17 : decode cX11_rest 17 = .ok (.aload_n 3, 1) := by decide +kernel
theorem dX11_rest_18 : decode cX11_rest 18 = .ok (.getfield 336, 3) := by decide +kernel
theorem dX11_rest_21 : decode cX11_rest 21 = .ok (.ifCond .ne 7, 3) := by decide +kernel
theorem dX11_rest_24 : decode cX11_rest 24 = .ok (.ldc_w 256, 3) := by decide +kernel
theorem dX11_rest_27 : decode cX11_rest 27 = .ok (.ireturn, 1) := by decide +kernel
theorem dX11_rest_28 : decode cX11_rest 28 = .ok (.aload_n 3, 1) := by decide +kernel
theorem dX11_rest_29 : decode cX11_rest 29 = .ok (.getfield 336, 3) := by decide +kernel
theorem dX11_rest_32 : decode cX11_rest 32 = .ok (.iconst 3, 1) := by decide +kernel
theorem dX11_rest_33 : decode cX11_rest 33 = .ok (.if_icmp .eq 6, 3) := by decide +kernel
theorem dX11_rest_36 : decode cX11_rest 36 = .ok (.ldc 155, 2) := by decide +kernel
theorem dX11_rest_38 : decode cX11_rest 38 = .ok (.ireturn, 1) := by decide +kernel
theorem dX11_rest_39 : decode cX11_rest 39 = .ok (.iload_n 2, 1) := by decide +kernel
theorem dX11_rest_40 : decode cX11_rest 40 = .ok (.ifCond .ne 8, 3) := by decide +kernel
theorem dX11_rest_43 : decode cX11_rest 43 = .ok (.ldc 99, 2) := by decide +kernel
theorem dX11_rest_45 : decode cX11_rest 45 = .ok (.goto 9, 3) := by decide +kernel
theorem dX11_rest_48 : decode cX11_rest 48 = .ok (.aload_n 3, 1) := by decide +kernel
theorem dX11_rest_49 : decode cX11_rest 49 = .ok (.getfield 351, 3) := by decide +kernel
theorem dX11_rest_52 : decode cX11_rest 52 = .ok (.iload_n 2, 1) := by decide +kernel
theorem dX11_rest_53 : decode cX11_rest 53 = .ok (.irem, 1) := by decide +kernel
theorem dX11_rest_54 : decode cX11_rest 54 = .ok (.ireturn, 1) := by decide +kernel
theorem dX11_tell_0 : decode cX11_tell 0 = .ok (.aload_n 0, 1) := by decide +kernel
theorem dX11_tell_1 : decode cX11_tell 1 = .ok (.getfield 354, 3) := by decide +kernel
theorem dX11_tell_4 : decode cX11_tell 4 = .ok (.bipush 60, 2) := by decide +kernel
theorem dX11_tell_6 : decode cX11_tell 6 = .ok (.if_icmp .lt 6, 3) := by decide +kernel
theorem dX11_tell_9 : decode cX11_tell 9 = .ok (.ldc 172, 2) := by decide +kernel
theorem dX11_tell_11 : decode cX11_tell 11 = .ok (.ireturn, 1) := by decide +kernel
theorem dX11_tell_12 : decode cX11_tell 12 = .ok (.aload_n 0, 1) := by decide +kernel
theorem dX11_tell_13 : decode cX11_tell 13 = .ok (.getfield 36, 3) := by decide +kernel
theorem dX11_tell_16 : decode cX11_tell 16 = .ok (.aload_n 0, 1) := by decide +kernel
theorem dX11_tell_17 : decode cX11_tell 17 = .ok (.getfield 354, 3) := by decide +kernel
theorem dX11_tell_20 : decode cX11_tell 20 = .ok (.iload_n 1, 1) := by decide +kernel
theorem dX11_tell_21 : decode cX11_tell 21 = .ok (.iastore, 1) := by decide +kernel
theorem dX11_tell_22 : decode cX11_tell 22 = .ok (.aload_n 0, 1) := by decide +kernel
theorem dX11_tell_23 : decode cX11_tell 23 = .ok (.dup, 1) := by decide +kernel
theorem dX11_tell_24 : decode cX11_tell 24 = .ok (.getfield 354, 3) := by decide +kernel
theorem dX11_tell_27 : decode cX11_tell 27 = .ok (.iconst 1, 1) := by decide +kernel
theorem dX11_tell_28 : decode cX11_tell 28 = .ok (.iadd, 1) := by decide +kernel
theorem dX11_tell_29 : decode cX11_tell 29 = .ok (.putfield 354, 3) := by decide +kernel
theorem dX11_tell_32 : decode cX11_tell 32 = .ok (.aload_n 0, 1) := by decide +kernel
theorem dX11_tell_33 : decode cX11_tell 33 = .ok (.getfield 354, 3) := by decide +kernel
theorem dX11_tell_36 : decode cX11_tell 36 = .ok (.ireturn, 1) := by decide +kernel
theorem dX11_check_0 : decode cX11_check 0 = .ok (.aload_n 0, 1) := by decide +kernel
theorem dX11_check_1 : decode cX11_check 1 = .ok (.getfield 354, 3) := by decide +kernel
theorem dX11_check_4 : decode cX11_check 4 = .ok (.istore_n 2, 1) := by decide +kernel
theorem dX11_check_5 : decode cX11_check 5 = .ok (.aload_n 0, 1) := by decide +kernel
theorem dX11_check_6 : decode cX11_check 6 = .ok (.iconst 0, 1) := by decide +kernel
theorem dX11_check_7 : decode cX11_check 7 = .ok (.putfield 354, 3) := by decide +kernel
theorem dX11_check_10 : decode cX11_check 10 = .ok (.iload_n 1, 1) := by decide +kernel
theorem dX11_check_11 : decode cX11_check 11 = .ok (.iconst 1, 1) := by decide +kernel
theorem dX11_check_12 : decode cX11_check 12 = .ok (.if_icmp .lt 9, 3) := by decide +kernel
theorem dX11_check_15 : decode cX11_check 15 = .ok (.iload_n 1, 1) := by decide +kernel
theorem dX11_check_16 : decode cX11_check 16 = .ok (.bipush 30, 2) := by decide +kernel
theorem dX11_check_18 : decode cX11_check 18 = .ok (.if_icmp .le 6, 3) := by decide +kernel
theorem dX11_check_21 : decode cX11_check 21 = .ok (.ldc 68, 2) := by decide +kernel
theorem dX11_check_23 : decode cX11_check 23 = .ok (.ireturn, 1) := by decide +kernel
theorem dX11_check_24 : decode cX11_check 24 = .ok (.aload_n 0, 1) := by decide +kernel
theorem dX11_check_25 : decode cX11_check 25 = .ok (.getfield 357, 3) := by decide +kernel
theorem dX11_check_28 : decode cX11_check 28 = .ok (.ifCond .ne 6, 3) := by decide +kernel
theorem dX11_check_31 : decode cX11_check 31 = .ok (.ldc 99, 2) := by decide +kernel
theorem dX11_check_33 : decode cX11_check 33 = .ok (.ireturn, 1) := by decide +kernel
theorem dX11_check_34 : decode cX11_check 34 = .ok (.aload_n 0, 1) := by decide +kernel
theorem dX11_check_35 : decode cX11_check 35 = .ok (.getfield 19, 3) := by decide +kernel
theorem dX11_check_38 : decode cX11_check 38 = .ok (.aload_n 0, 1) := by decide +kernel
theorem dX11_check_39 : decode cX11_check 39 = .ok (.getfield 16, 3) := by decide +kernel
theorem dX11_check_42 : decode cX11_check 42 = .ok (.invokevirtual 361, 3) := by decide +kernel
theorem dX11_check_45 : decode cX11_check 45 = .ok (.iconst 0, 1) := by decide +kernel
theorem dX11_check_46 : decode cX11_check 46 = .ok (.istore_n 3, 1) := by decide +kernel
theorem dX11_check_47 : decode cX11_check 47 = .ok (.iload_n 3, 1) := by decide +kernel
theorem dX11_check_48 : decode cX11_check 48 = .ok (.iload_n 1, 1) := by decide +kernel
theorem dX11_check_49 : decode cX11_check 49 = .ok (.if_icmp .ge 85, 3) := by decide +kernel
theorem dX11_check_52 : decode cX11_check 52 = .ok (.aload_n 0, 1) := by decide +kernel
theorem dX11_check_53 : decode cX11_check 53 = .ok (.getfield 19, 3) := by decide +kernel
theorem dX11_check_56 : decode cX11_check 56 = .ok (.invokevirtual 173, 3) := by decide +kernel
theorem dX11_check_59 : decode cX11_check 59 = .ok (.iconst 2, 1) := by decide +kernel
theorem dX11_check_60 : decode cX11_check 60 = .ok (.iload_n 3, 1) := by decide +kernel
theorem dX11_check_61 : decode cX11_check 61 = .ok (.imul, 1) := by decide +kernel
theorem dX11_check_62 : decode cX11_check 62 = .ok (.iload_n 2, 1) := by decide +kernel
theorem dX11_check_63 : decode cX11_check 63 = .ok (.if_icmp .ge 21, 3) := by decide +kernel
theorem dX11_check_66 : decode cX11_check 66 = .ok (.aload_n 0, 1) := by decide +kernel
theorem dX11_check_67 : decode cX11_check 67 = .ok (.getfield 36, 3) := by decide +kernel
theorem dX11_check_70 : decode cX11_check 70 = .ok (.iconst 2, 1) := by decide +kernel
theorem dX11_check_71 : decode cX11_check 71 = .ok (.iload_n 3, 1) := by decide +kernel
theorem dX11_check_72 : decode cX11_check 72 = .ok (.imul, 1) := by decide +kernel
theorem dX11_check_73 : decode cX11_check 73 = .ok (.iaload, 1) := by decide +kernel
theorem dX11_check_74 : decode cX11_check 74 = .ok (.aload_n 0, 1) := by decide +kernel
theorem dX11_check_75 : decode cX11_check 75 = .ok (.getfield 19, 3) := by decide +kernel
theorem dX11_check_78 : decode cX11_check 78 = .ok (.getfield 176, 3) := by decide +kernel
theorem dX11_check_81 : decode cX11_check 81 = .ok (.if_icmp .eq 9, 3) := by decide +kernel
theorem dX11_check_84 : decode cX11_check 84 = .ok (.iconst 1, 1) := by decide +kernel
theorem dX11_check_85 : decode cX11_check 85 = .ok (.iconst 2, 1) := by decide +kernel
theorem dX11_check_86 : decode cX11_check 86 = .ok (.iload_n 3, 1) := by decide +kernel
theorem dX11_check_87 : decode cX11_check 87 = .ok (.imul, 1) := by decide +kernel
theorem dX11_check_88 : decode cX11_check 88 = .ok (.iadd, 1) := by decide +kernel
theorem dX11_check_89 : decode cX11_check 89 = .ok (.ireturn, 1) := by decide +kernel
theorem dX11_check_90 : decode cX11_check 90 = .ok (.iconst 2, 1) := by decide +kernel
theorem dX11_check_91 : decode cX11_check 91 = .ok (.iload_n 3, 1) := by decide +kernel
theorem dX11_check_92 : decode cX11_check 92 = .ok (.imul, 1) := by decide +kernel
theorem dX11_check_93 : decode cX11_check 93 = .ok (.iconst 1, 1) := by decide +kernel
theorem dX11_check_94 : decode cX11_check 94 = .ok (.iadd, 1) := by decide +kernel
theorem dX11_check_95 : decode cX11_check 95 = .ok (.iload_n 2, 1) := by decide +kernel
theorem dX11_check_96 : decode cX11_check 96 = .ok (.if_icmp .ge 26, 3) := by decide +kernel
theorem dX11_check_99 : decode cX11_check 99 = .ok (.aload_n 0, 1) := by decide +kernel
theorem dX11_check_100 : decode cX11_check 100 = .ok (.getfield 36, 3) := by decide +kernel
theorem dX11_check_103 : decode cX11_check 103 = .ok (.iconst 2, 1) := by decide +kernel
theorem dX11_check_104 : decode cX11_check 104 = .ok (.iload_n 3, 1) := by decide +kernel
theorem dX11_check_105 : decode cX11_check 105 = .ok (.imul, 1) := by decide +kernel
theorem dX11_check_106 : decode cX11_check 106 = .ok (.iconst 1, 1) := by decide +kernel
theorem dX11_check_107 : decode cX11_check 107 = .ok (.iadd, 1) := by decide +kernel
theorem dX11_check_108 : decode cX11_check 108 = .ok (.iaload, 1) := by decide +kernel
theorem dX11_check_109 : decode cX11_check 109 = .ok (.aload_n 0, 1) := by decide +kernel
theorem dX11_check_110 : decode cX11_check 110 = .ok (.getfield 19, 3) := by decide +kernel
theorem dX11_check_113 : decode cX11_check 113 = .ok (.getfield 89, 3) := by decide +kernel
theorem dX11_check_116 : decode cX11_check 116 = .ok (.getfield 160, 3) := by decide +kernel
theorem dX11_check_119 : decode cX11_check 119 = .ok (.if_icmp .eq 9, 3) := by decide +kernel
theorem dX11_check_122 : decode cX11_check 122 = .ok (.iconst 2, 1) := by decide +kernel
theorem dX11_check_123 : decode cX11_check 123 = .ok (.iconst 2, 1) := by decide +kernel
theorem dX11_check_124 : decode cX11_check 124 = .ok (.iload_n 3, 1) := by decide +kernel
theorem dX11_check_125 : decode cX11_check 125 = .ok (.imul, 1) := by decide +kernel
theorem dX11_check_126 : decode cX11_check 126 = .ok (.iadd, 1) := by decide +kernel
theorem dX11_check_127 : decode cX11_check 127 = .ok (.ireturn, 1) := by decide +kernel
theorem dX11_check_128 : decode cX11_check 128 = .ok (.iinc 3 1, 3) := by decide +kernel
theorem dX11_check_131 : decode cX11_check 131 = .ok (.goto (-84), 3) := by decide +kernel
theorem dX11_check_134 : decode cX11_check 134 = .ok (.iload_n 2, 1) := by decide +kernel
theorem dX11_check_135 : decode cX11_check 135 = .ok (.iconst 2, 1) := by decide +kernel
theorem dX11_check_136 : decode cX11_check 136 = .ok (.iload_n 1, 1) := by decide +kernel
theorem dX11_check_137 : decode cX11_check 137 = .ok (.imul, 1) := by decide +kernel
theorem dX11_check_138 : decode cX11_check 138 = .ok (.if_icmp .le 11, 3) := by decide +kernel
theorem dX11_check_141 : decode cX11_check 141 = .ok (.iconst 1, 1) := by decide +kernel
theorem dX11_check_142 : decode cX11_check 142 = .ok (.iconst 2, 1) := by decide +kernel
theorem dX11_check_143 : decode cX11_check 143 = .ok (.iload_n 1, 1) := by decide +kernel
theorem dX11_check_144 : decode cX11_check 144 = .ok (.imul, 1) := by decide +kernel
theorem dX11_check_145 : decode cX11_check 145 = .ok (.iadd, 1) := by decide +kernel
theorem dX11_check_146 : decode cX11_check 146 = .ok (.goto 4, 3) := by decide +kernel
theorem dX11_check_149 : decode cX11_check 149 = .ok (.iconst 0, 1) := by decide +kernel
theorem dX11_check_150 : decode cX11_check 150 = .ok (.ireturn, 1) := by decide +kernel
theorem dX11_keep_0 : decode cX11_keep 0 = .ok (.aload_n 0, 1) := by decide +kernel
theorem dX11_keep_1 : decode cX11_keep 1 = .ok (.getfield 16, 3) := by decide +kernel
theorem dX11_keep_4 : decode cX11_keep 4 = .ok (.aload_n 0, 1) := by decide +kernel
theorem dX11_keep_5 : decode cX11_keep 5 = .ok (.getfield 12, 3) := by decide +kernel
theorem dX11_keep_8 : decode cX11_keep 8 = .ok (.invokevirtual 361, 3) := by decide +kernel
theorem dX11_keep_11 : decode cX11_keep 11 = .ok (.aload_n 0, 1) := by decide +kernel
theorem dX11_keep_12 : decode cX11_keep 12 = .ok (.iconst 1, 1) := by decide +kernel
theorem dX11_keep_13 : decode cX11_keep 13 = .ok (.putfield 357, 3) := by decide +kernel
theorem dX11_keep_16 : decode cX11_keep 16 = .ok (.aload_n 0, 1) := by decide +kernel
theorem dX11_keep_17 : decode cX11_keep 17 = .ok (.getfield 12, 3) := by decide +kernel
theorem dX11_keep_20 : decode cX11_keep 20 = .ok (.getfield 81, 3) := by decide +kernel
theorem dX11_keep_23 : decode cX11_keep 23 = .ok (.ireturn, 1) := by decide +kernel
theorem dX11_back_0 : decode cX11_back 0 = .ok (.aload_n 0, 1) := by decide +kernel
theorem dX11_back_1 : decode cX11_back 1 = .ok (.getfield 357, 3) := by decide +kernel
theorem dX11_back_4 : decode cX11_back 4 = .ok (.ifCond .ne 6, 3) := by decide +kernel
theorem dX11_back_7 : decode cX11_back 7 = .ok (.ldc 99, 2) := by decide +kernel
theorem dX11_back_9 : decode cX11_back 9 = .ok (.ireturn, 1) := by decide +kernel
theorem dX11_back_10 : decode cX11_back 10 = .ok (.aload_n 0, 1) := by decide +kernel
theorem dX11_back_11 : decode cX11_back 11 = .ok (.getfield 12, 3) := by decide +kernel
theorem dX11_back_14 : decode cX11_back 14 = .ok (.aload_n 0, 1) := by decide +kernel
theorem dX11_back_15 : decode cX11_back 15 = .ok (.getfield 16, 3) := by decide +kernel
theorem dX11_back_18 : decode cX11_back 18 = .ok (.invokevirtual 361, 3) := by decide +kernel
theorem dX11_back_21 : decode cX11_back 21 = .ok (.aload_n 0, 1) := by decide +kernel
theorem dX11_back_22 : decode cX11_back 22 = .ok (.getfield 12, 3) := by decide +kernel
theorem dX11_back_25 : decode cX11_back 25 = .ok (.getfield 81, 3) := by decide +kernel
theorem dX11_back_28 : decode cX11_back 28 = .ok (.ireturn, 1) := by decide +kernel
theorem dX11_count_0 : decode cX11_count 0 = .ok (.iload_n 1, 1) := by decide +kernel
theorem dX11_count_1 : decode cX11_count 1 = .ok (.tableswitch 189 0 12 #[67, 78, 89, 100, 108, 116, 127, 138, 149, 157, 165, 170, 181], 67) := by decide +kernel
theorem dX11_count_68 : decode cX11_count 68 = .ok (.aload_n 0, 1) := by decide +kernel
theorem dX11_count_69 : decode cX11_count 69 = .ok (.getfield 12, 3) := by decide +kernel
theorem dX11_count_72 : decode cX11_count 72 = .ok (.getfield 58, 3) := by decide +kernel
theorem dX11_count_75 : decode cX11_count 75 = .ok (.getfield 364, 3) := by decide +kernel
theorem dX11_count_78 : decode cX11_count 78 = .ok (.ireturn, 1) := by decide +kernel
theorem dX11_count_79 : decode cX11_count 79 = .ok (.aload_n 0, 1) := by decide +kernel
theorem dX11_count_80 : decode cX11_count 80 = .ok (.getfield 12, 3) := by decide +kernel
theorem dX11_count_83 : decode cX11_count 83 = .ok (.getfield 103, 3) := by decide +kernel
theorem dX11_count_86 : decode cX11_count 86 = .ok (.getfield 365, 3) := by decide +kernel
theorem dX11_count_89 : decode cX11_count 89 = .ok (.ireturn, 1) := by decide +kernel
theorem dX11_count_90 : decode cX11_count 90 = .ok (.aload_n 0, 1) := by decide +kernel
theorem dX11_count_91 : decode cX11_count 91 = .ok (.getfield 12, 3) := by decide +kernel
theorem dX11_count_94 : decode cX11_count 94 = .ok (.getfield 89, 3) := by decide +kernel
theorem dX11_count_97 : decode cX11_count 97 = .ok (.getfield 160, 3) := by decide +kernel
theorem dX11_count_100 : decode cX11_count 100 = .ok (.ireturn, 1) := by decide +kernel
theorem dX11_count_101 : decode cX11_count 101 = .ok (.aload_n 0, 1) := by decide +kernel
theorem dX11_count_102 : decode cX11_count 102 = .ok (.getfield 12, 3) := by decide +kernel
theorem dX11_count_105 : decode cX11_count 105 = .ok (.getfield 231, 3) := by decide +kernel
theorem dX11_count_108 : decode cX11_count 108 = .ok (.ireturn, 1) := by decide +kernel
theorem dX11_count_109 : decode cX11_count 109 = .ok (.aload_n 0, 1) := by decide +kernel
theorem dX11_count_110 : decode cX11_count 110 = .ok (.getfield 12, 3) := by decide +kernel
theorem dX11_count_113 : decode cX11_count 113 = .ok (.getfield 261, 3) := by decide +kernel
theorem dX11_count_116 : decode cX11_count 116 = .ok (.ireturn, 1) := by decide +kernel
theorem dX11_count_117 : decode cX11_count 117 = .ok (.aload_n 0, 1) := by decide +kernel
theorem dX11_count_118 : decode cX11_count 118 = .ok (.getfield 12, 3) := by decide +kernel
theorem dX11_count_121 : decode cX11_count 121 = .ok (.getfield 273, 3) := by decide +kernel
theorem dX11_count_124 : decode cX11_count 124 = .ok (.getfield 365, 3) := by decide +kernel
theorem dX11_count_127 : decode cX11_count 127 = .ok (.ireturn, 1) := by decide +kernel
theorem dX11_count_128 : decode cX11_count 128 = .ok (.aload_n 0, 1) := by decide +kernel
theorem dX11_count_129 : decode cX11_count 129 = .ok (.getfield 12, 3) := by decide +kernel
theorem dX11_count_132 : decode cX11_count 132 = .ok (.getfield 279, 3) := by decide +kernel
theorem dX11_count_135 : decode cX11_count 135 = .ok (.getfield 287, 3) := by decide +kernel
theorem dX11_count_138 : decode cX11_count 138 = .ok (.ireturn, 1) := by decide +kernel
theorem dX11_count_139 : decode cX11_count 139 = .ok (.aload_n 0, 1) := by decide +kernel
theorem dX11_count_140 : decode cX11_count 140 = .ok (.getfield 12, 3) := by decide +kernel
theorem dX11_count_143 : decode cX11_count 143 = .ok (.getfield 58, 3) := by decide +kernel
theorem dX11_count_146 : decode cX11_count 146 = .ok (.invokevirtual 366, 3) := by decide +kernel
theorem dX11_count_149 : decode cX11_count 149 = .ok (.ireturn, 1) := by decide +kernel
theorem dX11_count_150 : decode cX11_count 150 = .ok (.aload_n 0, 1) := by decide +kernel
theorem dX11_count_151 : decode cX11_count 151 = .ok (.getfield 12, 3) := by decide +kernel
theorem dX11_count_154 : decode cX11_count 154 = .ok (.getfield 176, 3) := by decide +kernel
theorem dX11_count_157 : decode cX11_count 157 = .ok (.ireturn, 1) := by decide +kernel
theorem dX11_count_158 : decode cX11_count 158 = .ok (.aload_n 0, 1) := by decide +kernel
theorem dX11_count_159 : decode cX11_count 159 = .ok (.getfield 12, 3) := by decide +kernel
theorem dX11_count_162 : decode cX11_count 162 = .ok (.getfield 81, 3) := by decide +kernel
theorem dX11_count_165 : decode cX11_count 165 = .ok (.ireturn, 1) := by decide +kernel
theorem dX11_count_166 : decode cX11_count 166 = .ok (.aload_n 0, 1) := by decide +kernel
theorem dX11_count_167 : decode cX11_count 167 = .ok (.getfield 354, 3) := by decide +kernel
theorem dX11_count_170 : decode cX11_count 170 = .ok (.ireturn, 1) := by decide +kernel
theorem dX11_count_171 : decode cX11_count 171 = .ok (.aload_n 0, 1) := by decide +kernel
theorem dX11_count_172 : decode cX11_count 172 = .ok (.getfield 43, 3) := by decide +kernel
theorem dX11_count_175 : decode cX11_count 175 = .ok (.getfield 206, 3) := by decide +kernel
theorem dX11_count_178 : decode cX11_count 178 = .ok (.getfield 210, 3) := by decide +kernel
theorem dX11_count_181 : decode cX11_count 181 = .ok (.ireturn, 1) := by decide +kernel
theorem dX11_count_182 : decode cX11_count 182 = .ok (.aload_n 0, 1) := by decide +kernel
theorem dX11_count_183 : decode cX11_count 183 = .ok (.getfield 12, 3) := by decide +kernel
theorem dX11_count_186 : decode cX11_count 186 = .ok (.getfield 203, 3) := by decide +kernel
theorem dX11_count_189 : decode cX11_count 189 = .ok (.ireturn, 1) := by decide +kernel
theorem dX11_count_190 : decode cX11_count 190 = .ok (.ldc 68, 2) := by decide +kernel
theorem dX11_count_192 : decode cX11_count 192 = .ok (.ireturn, 1) := by decide +kernel
theorem dX11_isSize_0 : decode cX11_isSize 0 = .ok (.iload_n 0, 1) := by decide +kernel
theorem dX11_isSize_1 : decode cX11_isSize 1 = .ok (.iconst 1, 1) := by decide +kernel
theorem dX11_isSize_2 : decode cX11_isSize 2 = .ok (.if_icmp .lt 13, 3) := by decide +kernel
theorem dX11_isSize_5 : decode cX11_isSize 5 = .ok (.iload_n 0, 1) := by decide +kernel
theorem dX11_isSize_6 : decode cX11_isSize 6 = .ok (.bipush 9, 2) := by decide +kernel
theorem dX11_isSize_8 : decode cX11_isSize 8 = .ok (.if_icmp .gt 7, 3) := by decide +kernel
theorem dX11_isSize_11 : decode cX11_isSize 11 = .ok (.iconst 1, 1) := by decide +kernel
theorem dX11_isSize_12 : decode cX11_isSize 12 = .ok (.goto 4, 3) := by decide +kernel
theorem dX11_isSize_15 : decode cX11_isSize 15 = .ok (.iconst 0, 1) := by decide +kernel
theorem dX11_isSize_16 : decode cX11_isSize 16 = .ok (.ireturn, 1) := by decide +kernel
theorem dX11_isDay_0 : decode cX11_isDay 0 = .ok (.iload_n 0, 1) := by decide +kernel
theorem dX11_isDay_1 : decode cX11_isDay 1 = .ok (.ifCond .lt 14, 3) := by decide +kernel
theorem dX11_isDay_4 : decode cX11_isDay 4 = .ok (.iload_n 0, 1) := by decide +kernel
theorem dX11_isDay_5 : decode cX11_isDay 5 = .ok (.sipush 1999, 3) := by decide +kernel
theorem dX11_isDay_8 : decode cX11_isDay 8 = .ok (.if_icmp .gt 7, 3) := by decide +kernel
theorem dX11_isDay_11 : decode cX11_isDay 11 = .ok (.iconst 1, 1) := by decide +kernel
theorem dX11_isDay_12 : decode cX11_isDay 12 = .ok (.goto 4, 3) := by decide +kernel
theorem dX11_isDay_15 : decode cX11_isDay 15 = .ok (.iconst 0, 1) := by decide +kernel
theorem dX11_isDay_16 : decode cX11_isDay 16 = .ok (.ireturn, 1) := by decide +kernel
theorem dX11_isSpan_0 : decode cX11_isSpan 0 = .ok (.iload_n 0, 1) := by decide +kernel
theorem dX11_isSpan_1 : decode cX11_isSpan 1 = .ok (.invokestatic 112, 3) := by decide +kernel
theorem dX11_isSpan_4 : decode cX11_isSpan 4 = .ok (.ifCond .eq 19, 3) := by decide +kernel
theorem dX11_isSpan_7 : decode cX11_isSpan 7 = .ok (.iload_n 1, 1) := by decide +kernel
theorem dX11_isSpan_8 : decode cX11_isSpan 8 = .ok (.invokestatic 112, 3) := by decide +kernel
theorem dX11_isSpan_11 : decode cX11_isSpan 11 = .ok (.ifCond .eq 12, 3) := by decide +kernel
theorem dX11_isSpan_14 : decode cX11_isSpan 14 = .ok (.iload_n 1, 1) := by decide +kernel
theorem dX11_isSpan_15 : decode cX11_isSpan 15 = .ok (.iload_n 0, 1) := by decide +kernel
theorem dX11_isSpan_16 : decode cX11_isSpan 16 = .ok (.if_icmp .lt 7, 3) := by decide +kernel
theorem dX11_isSpan_19 : decode cX11_isSpan 19 = .ok (.iconst 1, 1) := by decide +kernel
theorem dX11_isSpan_20 : decode cX11_isSpan 20 = .ok (.goto 4, 3) := by decide +kernel
theorem dX11_isSpan_23 : decode cX11_isSpan 23 = .ok (.iconst 0, 1) := by decide +kernel
theorem dX11_isSpan_24 : decode cX11_isSpan 24 = .ok (.ireturn, 1) := by decide +kernel
theorem dX11_isHeight_0 : decode cX11_isHeight 0 = .ok (.iload_n 0, 1) := by decide +kernel
theorem dX11_isHeight_1 : decode cX11_isHeight 1 = .ok (.sipush (-999), 3) := by decide +kernel
theorem dX11_isHeight_4 : decode cX11_isHeight 4 = .ok (.if_icmp .lt 14, 3) := by decide +kernel
theorem dX11_isHeight_7 : decode cX11_isHeight 7 = .ok (.iload_n 0, 1) := by decide +kernel
theorem dX11_isHeight_8 : decode cX11_isHeight 8 = .ok (.sipush 999, 3) := by decide +kernel
theorem dX11_isHeight_11 : decode cX11_isHeight 11 = .ok (.if_icmp .gt 7, 3) := by decide +kernel
theorem dX11_isHeight_14 : decode cX11_isHeight 14 = .ok (.iconst 1, 1) := by decide +kernel
theorem dX11_isHeight_15 : decode cX11_isHeight 15 = .ok (.goto 4, 3) := by decide +kernel
theorem dX11_isHeight_18 : decode cX11_isHeight 18 = .ok (.iconst 0, 1) := by decide +kernel
theorem dX11_isHeight_19 : decode cX11_isHeight 19 = .ok (.ireturn, 1) := by decide +kernel
theorem dX11_isSum_0 : decode cX11_isSum 0 = .ok (.iload_n 0, 1) := by decide +kernel
theorem dX11_isSum_1 : decode cX11_isSum 1 = .ok (.ifCond .lt 14, 3) := by decide +kernel
theorem dX11_isSum_4 : decode cX11_isSum 4 = .ok (.iload_n 0, 1) := by decide +kernel
theorem dX11_isSum_5 : decode cX11_isSum 5 = .ok (.sipush 9999, 3) := by decide +kernel
theorem dX11_isSum_8 : decode cX11_isSum 8 = .ok (.if_icmp .gt 7, 3) := by decide +kernel
theorem dX11_isSum_11 : decode cX11_isSum 11 = .ok (.iconst 1, 1) := by decide +kernel
theorem dX11_isSum_12 : decode cX11_isSum 12 = .ok (.goto 4, 3) := by decide +kernel
theorem dX11_isSum_15 : decode cX11_isSum 15 = .ok (.iconst 0, 1) := by decide +kernel
theorem dX11_isSum_16 : decode cX11_isSum 16 = .ok (.ireturn, 1) := by decide +kernel
theorem dX11_isKind_0 : decode cX11_isKind 0 = .ok (.iload_n 0, 1) := by decide +kernel
theorem dX11_isKind_1 : decode cX11_isKind 1 = .ok (.ifCond .lt 12, 3) := by decide +kernel
theorem dX11_isKind_4 : decode cX11_isKind 4 = .ok (.iload_n 0, 1) := by decide +kernel
theorem dX11_isKind_5 : decode cX11_isKind 5 = .ok (.iconst 5, 1) := by decide +kernel
theorem dX11_isKind_6 : decode cX11_isKind 6 = .ok (.if_icmp .gt 7, 3) := by decide +kernel
theorem dX11_isKind_9 : decode cX11_isKind 9 = .ok (.iconst 1, 1) := by decide +kernel
theorem dX11_isKind_10 : decode cX11_isKind 10 = .ok (.goto 4, 3) := by decide +kernel
theorem dX11_isKind_13 : decode cX11_isKind 13 = .ok (.iconst 0, 1) := by decide +kernel
theorem dX11_isKind_14 : decode cX11_isKind 14 = .ok (.ireturn, 1) := by decide +kernel
theorem dX11_isSheet_0 : decode cX11_isSheet 0 = .ok (.iload_n 0, 1) := by decide +kernel
theorem dX11_isSheet_1 : decode cX11_isSheet 1 = .ok (.ifCond .lt 12, 3) := by decide +kernel
theorem dX11_isSheet_4 : decode cX11_isSheet 4 = .ok (.iload_n 0, 1) := by decide +kernel
theorem dX11_isSheet_5 : decode cX11_isSheet 5 = .ok (.iconst 4, 1) := by decide +kernel
theorem dX11_isSheet_6 : decode cX11_isSheet 6 = .ok (.if_icmp .ge 7, 3) := by decide +kernel
theorem dX11_isSheet_9 : decode cX11_isSheet 9 = .ok (.iconst 1, 1) := by decide +kernel
theorem dX11_isSheet_10 : decode cX11_isSheet 10 = .ok (.goto 4, 3) := by decide +kernel
theorem dX11_isSheet_13 : decode cX11_isSheet 13 = .ok (.iconst 0, 1) := by decide +kernel
theorem dX11_isSheet_14 : decode cX11_isSheet 14 = .ok (.ireturn, 1) := by decide +kernel
theorem dX11_isSlot_0 : decode cX11_isSlot 0 = .ok (.iload_n 0, 1) := by decide +kernel
theorem dX11_isSlot_1 : decode cX11_isSlot 1 = .ok (.ifCond .lt 12, 3) := by decide +kernel
theorem dX11_isSlot_4 : decode cX11_isSlot 4 = .ok (.iload_n 0, 1) := by decide +kernel
theorem dX11_isSlot_5 : decode cX11_isSlot 5 = .ok (.iconst 5, 1) := by decide +kernel
theorem dX11_isSlot_6 : decode cX11_isSlot 6 = .ok (.if_icmp .ge 7, 3) := by decide +kernel
theorem dX11_isSlot_9 : decode cX11_isSlot 9 = .ok (.iconst 1, 1) := by decide +kernel
theorem dX11_isSlot_10 : decode cX11_isSlot 10 = .ok (.goto 4, 3) := by decide +kernel
theorem dX11_isSlot_13 : decode cX11_isSlot 13 = .ok (.iconst 0, 1) := by decide +kernel
theorem dX11_isSlot_14 : decode cX11_isSlot 14 = .ok (.ireturn, 1) := by decide +kernel
theorem dX11_isUnder_0 : decode cX11_isUnder 0 = .ok (.iload_n 0, 1) := by decide +kernel
theorem dX11_isUnder_1 : decode cX11_isUnder 1 = .ok (.istore_n 2, 1) := by decide +kernel
theorem dX11_isUnder_2 : decode cX11_isUnder 2 = .ok (.iconst 0, 1) := by decide +kernel
theorem dX11_isUnder_3 : decode cX11_isUnder 3 = .ok (.istore_n 3, 1) := by decide +kernel
theorem dX11_isUnder_4 : decode cX11_isUnder 4 = .ok (.iload_n 3, 1) := by decide +kernel
theorem dX11_isUnder_5 : decode cX11_isUnder 5 = .ok (.getstatic 370, 3) := by decide +kernel
theorem dX11_isUnder_8 : decode cX11_isUnder 8 = .ok (.arraylength, 1) := by decide +kernel
theorem dX11_isUnder_9 : decode cX11_isUnder 9 = .ok (.if_icmp .ge 29, 3) := by decide +kernel
theorem dX11_isUnder_12 : decode cX11_isUnder 12 = .ok (.iload_n 2, 1) := by decide +kernel
theorem dX11_isUnder_13 : decode cX11_isUnder 13 = .ok (.invokestatic 122, 3) := by decide +kernel
theorem dX11_isUnder_16 : decode cX11_isUnder 16 = .ok (.ifCond .eq 22, 3) := by decide +kernel
theorem dX11_isUnder_19 : decode cX11_isUnder 19 = .ok (.iload_n 2, 1) := by decide +kernel
theorem dX11_isUnder_20 : decode cX11_isUnder 20 = .ok (.iload_n 1, 1) := by decide +kernel
theorem dX11_isUnder_21 : decode cX11_isUnder 21 = .ok (.if_icmp .ne 5, 3) := by decide +kernel
theorem dX11_isUnder_24 : decode cX11_isUnder 24 = .ok (.iconst 1, 1) := by decide +kernel
theorem dX11_isUnder_25 : decode cX11_isUnder 25 = .ok (.ireturn, 1) := by decide +kernel
theorem dX11_isUnder_26 : decode cX11_isUnder 26 = .ok (.getstatic 370, 3) := by decide +kernel
theorem dX11_isUnder_29 : decode cX11_isUnder 29 = .ok (.iload_n 2, 1) := by decide +kernel
theorem dX11_isUnder_30 : decode cX11_isUnder 30 = .ok (.iaload, 1) := by decide +kernel
theorem dX11_isUnder_31 : decode cX11_isUnder 31 = .ok (.istore_n 2, 1) := by decide +kernel
theorem dX11_isUnder_32 : decode cX11_isUnder 32 = .ok (.iinc 3 1, 3) := by decide +kernel
theorem dX11_isUnder_35 : decode cX11_isUnder 35 = .ok (.goto (-31), 3) := by decide +kernel
theorem dX11_isUnder_38 : decode cX11_isUnder 38 = .ok (.iconst 0, 1) := by decide +kernel
theorem dX11_isUnder_39 : decode cX11_isUnder 39 = .ok (.ireturn, 1) := by decide +kernel
theorem dX11_worthOf_0 : decode cX11_worthOf 0 = .ok (.iload_n 1, 1) := by decide +kernel
theorem dX11_worthOf_1 : decode cX11_worthOf 1 = .ok (.invokestatic 373, 3) := by decide +kernel
theorem dX11_worthOf_4 : decode cX11_worthOf 4 = .ok (.istore_n 3, 1) := by decide +kernel
theorem dX11_worthOf_5 : decode cX11_worthOf 5 = .ok (.iload_n 0, 1) := by decide +kernel
theorem dX11_worthOf_6 : decode cX11_worthOf 6 = .ok (.tableswitch 56 1 5 #[34, 38, 42, 48, 54], 34) := by decide +kernel
theorem dX11_worthOf_40 : decode cX11_worthOf 40 = .ok (.iload_n 3, 1) := by decide +kernel
theorem dX11_worthOf_41 : decode cX11_worthOf 41 = .ok (.iload_n 2, 1) := by decide +kernel
theorem dX11_worthOf_42 : decode cX11_worthOf 42 = .ok (.iadd, 1) := by decide +kernel
theorem dX11_worthOf_43 : decode cX11_worthOf 43 = .ok (.ireturn, 1) := by decide +kernel
theorem dX11_worthOf_44 : decode cX11_worthOf 44 = .ok (.iload_n 3, 1) := by decide +kernel
theorem dX11_worthOf_45 : decode cX11_worthOf 45 = .ok (.iconst 2, 1) := by decide +kernel
theorem dX11_worthOf_46 : decode cX11_worthOf 46 = .ok (.idiv, 1) := by decide +kernel
theorem dX11_worthOf_47 : decode cX11_worthOf 47 = .ok (.ireturn, 1) := by decide +kernel
theorem dX11_worthOf_48 : decode cX11_worthOf 48 = .ok (.iconst 2, 1) := by decide +kernel
theorem dX11_worthOf_49 : decode cX11_worthOf 49 = .ok (.iload_n 3, 1) := by decide +kernel
theorem dX11_worthOf_50 : decode cX11_worthOf 50 = .ok (.iload_n 2, 1) := by decide +kernel
theorem dX11_worthOf_51 : decode cX11_worthOf 51 = .ok (.iadd, 1) := by decide +kernel
theorem dX11_worthOf_52 : decode cX11_worthOf 52 = .ok (.imul, 1) := by decide +kernel
theorem dX11_worthOf_53 : decode cX11_worthOf 53 = .ok (.ireturn, 1) := by decide +kernel
theorem dX11_worthOf_54 : decode cX11_worthOf 54 = .ok (.iload_n 3, 1) := by decide +kernel
theorem dX11_worthOf_55 : decode cX11_worthOf 55 = .ok (.iconst 2, 1) := by decide +kernel
theorem dX11_worthOf_56 : decode cX11_worthOf 56 = .ok (.idiv, 1) := by decide +kernel
theorem dX11_worthOf_57 : decode cX11_worthOf 57 = .ok (.iconst 1, 1) := by decide +kernel
theorem dX11_worthOf_58 : decode cX11_worthOf 58 = .ok (.isub, 1) := by decide +kernel
theorem dX11_worthOf_59 : decode cX11_worthOf 59 = .ok (.ireturn, 1) := by decide +kernel
theorem dX11_worthOf_60 : decode cX11_worthOf 60 = .ok (.iconst 0, 1) := by decide +kernel
theorem dX11_worthOf_61 : decode cX11_worthOf 61 = .ok (.ireturn, 1) := by decide +kernel
theorem dX11_worthOf_62 : decode cX11_worthOf 62 = .ok (.iload_n 3, 1) := by decide +kernel
theorem dX11_worthOf_63 : decode cX11_worthOf 63 = .ok (.ireturn, 1) := by decide +kernel
theorem dX11_heightsAhead_0 : decode cX11_heightsAhead 0 = .ok (.iconst 0, 1) := by decide +kernel
theorem dX11_heightsAhead_1 : decode cX11_heightsAhead 1 = .ok (.istore_n 1, 1) := by decide +kernel
theorem dX11_heightsAhead_2 : decode cX11_heightsAhead 2 = .ok (.iload_n 1, 1) := by decide +kernel
theorem dX11_heightsAhead_3 : decode cX11_heightsAhead 3 = .ok (.aload_n 0, 1) := by decide +kernel
theorem dX11_heightsAhead_4 : decode cX11_heightsAhead 4 = .ok (.getfield 323, 3) := by decide +kernel
theorem dX11_heightsAhead_7 : decode cX11_heightsAhead 7 = .ok (.if_icmp .ge 21, 3) := by decide +kernel
theorem dX11_heightsAhead_10 : decode cX11_heightsAhead 10 = .ok (.aload_n 0, 1) := by decide +kernel
theorem dX11_heightsAhead_11 : decode cX11_heightsAhead 11 = .ok (.getfield 264, 3) := by decide +kernel
theorem dX11_heightsAhead_14 : decode cX11_heightsAhead 14 = .ok (.iload_n 1, 1) := by decide +kernel
theorem dX11_heightsAhead_15 : decode cX11_heightsAhead 15 = .ok (.iaload, 1) := by decide +kernel
theorem dX11_heightsAhead_16 : decode cX11_heightsAhead 16 = .ok (.invokestatic 125, 3) := by decide +kernel
theorem dX11_heightsAhead_19 : decode cX11_heightsAhead 19 = .ok (.ifCond .eq 9, 3) := by decide +kernel
theorem dX11_heightsAhead_22 : decode cX11_heightsAhead 22 = .ok (.iinc 1 1, 3) := by decide +kernel
theorem dX11_heightsAhead_25 : decode cX11_heightsAhead 25 = .ok (.goto (-23), 3) := by decide +kernel
theorem dX11_heightsAhead_28 : decode cX11_heightsAhead 28 = .ok (.iload_n 1, 1) := by decide +kernel
theorem dX11_heightsAhead_29 : decode cX11_heightsAhead 29 = .ok (.ireturn, 1) := by decide +kernel
theorem dX11_sumOf_0 : decode cX11_sumOf 0 = .ok (.iconst 0, 1) := by decide +kernel
theorem dX11_sumOf_1 : decode cX11_sumOf 1 = .ok (.istore_n 2, 1) := by decide +kernel
theorem dX11_sumOf_2 : decode cX11_sumOf 2 = .ok (.iconst 0, 1) := by decide +kernel
theorem dX11_sumOf_3 : decode cX11_sumOf 3 = .ok (.istore_n 3, 1) := by decide +kernel
theorem dX11_sumOf_4 : decode cX11_sumOf 4 = .ok (.iload_n 3, 1) := by decide +kernel
theorem dX11_sumOf_5 : decode cX11_sumOf 5 = .ok (.aload_n 0, 1) := by decide +kernel
theorem dX11_sumOf_6 : decode cX11_sumOf 6 = .ok (.arraylength, 1) := by decide +kernel
theorem dX11_sumOf_7 : decode cX11_sumOf 7 = .ok (.if_icmp .ge 23, 3) := by decide +kernel
theorem dX11_sumOf_10 : decode cX11_sumOf 10 = .ok (.iload_n 1, 1) := by decide +kernel
theorem dX11_sumOf_11 : decode cX11_sumOf 11 = .ok (.iload_n 3, 1) := by decide +kernel
theorem dX11_sumOf_12 : decode cX11_sumOf 12 = .ok (.ishr, 1) := by decide +kernel
theorem dX11_sumOf_13 : decode cX11_sumOf 13 = .ok (.iconst 1, 1) := by decide +kernel
theorem dX11_sumOf_14 : decode cX11_sumOf 14 = .ok (.iand, 1) := by decide +kernel
theorem dX11_sumOf_15 : decode cX11_sumOf 15 = .ok (.ifCond .eq 9, 3) := by decide +kernel
theorem dX11_sumOf_18 : decode cX11_sumOf 18 = .ok (.iload_n 2, 1) := by decide +kernel
theorem dX11_sumOf_19 : decode cX11_sumOf 19 = .ok (.aload_n 0, 1) := by decide +kernel
theorem dX11_sumOf_20 : decode cX11_sumOf 20 = .ok (.iload_n 3, 1) := by decide +kernel
theorem dX11_sumOf_21 : decode cX11_sumOf 21 = .ok (.iaload, 1) := by decide +kernel
theorem dX11_sumOf_22 : decode cX11_sumOf 22 = .ok (.iadd, 1) := by decide +kernel
theorem dX11_sumOf_23 : decode cX11_sumOf 23 = .ok (.istore_n 2, 1) := by decide +kernel
theorem dX11_sumOf_24 : decode cX11_sumOf 24 = .ok (.iinc 3 1, 3) := by decide +kernel
theorem dX11_sumOf_27 : decode cX11_sumOf 27 = .ok (.goto (-23), 3) := by decide +kernel
theorem dX11_sumOf_30 : decode cX11_sumOf 30 = .ok (.iload_n 2, 1) := by decide +kernel
theorem dX11_sumOf_31 : decode cX11_sumOf 31 = .ok (.ireturn, 1) := by decide +kernel
theorem dX11_heldRate_0 : decode cX11_heldRate 0 = .ok (.iconst 0, 1) := by decide +kernel
theorem dX11_heldRate_1 : decode cX11_heldRate 1 = .ok (.sipush 999, 3) := by decide +kernel
theorem dX11_heldRate_4 : decode cX11_heldRate 4 = .ok (.iload_n 0, 1) := by decide +kernel
theorem dX11_heldRate_5 : decode cX11_heldRate 5 = .ok (.invokestatic 378, 3) := by decide +kernel
theorem dX11_heldRate_8 : decode cX11_heldRate 8 = .ok (.invokestatic 381, 3) := by decide +kernel
theorem dX11_heldRate_11 : decode cX11_heldRate 11 = .ok (.ireturn, 1) := by decide +kernel
theorem dX11_believed_0 : decode cX11_believed 0 = .ok (.sipush 10000, 3) := by decide +kernel
theorem dX11_believed_3 : decode cX11_believed 3 = .ok (.iload_n 0, 1) := by decide +kernel
theorem dX11_believed_4 : decode cX11_believed 4 = .ok (.isub, 1) := by decide +kernel
theorem dX11_believed_5 : decode cX11_believed 5 = .ok (.istore 4, 2) := by decide +kernel
theorem dX11_believed_7 : decode cX11_believed 7 = .ok (.iload_n 3, 1) := by decide +kernel
theorem dX11_believed_8 : decode cX11_believed 8 = .ok (.ifCond .eq 11, 3) := by decide +kernel
theorem dX11_believed_11 : decode cX11_believed 11 = .ok (.iload_n 0, 1) := by decide +kernel
theorem dX11_believed_12 : decode cX11_believed 12 = .ok (.i2l, 1) := by decide +kernel
theorem dX11_believed_13 : decode cX11_believed 13 = .ok (.iload_n 1, 1) := by decide +kernel
theorem dX11_believed_14 : decode cX11_believed 14 = .ok (.i2l, 1) := by decide +kernel
theorem dX11_believed_15 : decode cX11_believed 15 = .ok (.lmul, 1) := by decide +kernel
theorem dX11_believed_16 : decode cX11_believed 16 = .ok (.goto 12, 3) := by decide +kernel
theorem dX11_believed_19 : decode cX11_believed 19 = .ok (.iload_n 0, 1) := by decide +kernel
theorem dX11_believed_20 : decode cX11_believed 20 = .ok (.i2l, 1) := by decide +kernel
theorem dX11_believed_21 : decode cX11_believed 21 = .ok (.sipush 1000, 3) := by decide +kernel
theorem dX11_believed_24 : decode cX11_believed 24 = .ok (.iload_n 1, 1) := by decide +kernel
theorem dX11_believed_25 : decode cX11_believed 25 = .ok (.isub, 1) := by decide +kernel
theorem dX11_believed_26 : decode cX11_believed 26 = .ok (.i2l, 1) := by decide +kernel
theorem dX11_believed_27 : decode cX11_believed 27 = .ok (.lmul, 1) := by decide +kernel
theorem dX11_believed_28 : decode cX11_believed 28 = .ok (.lstore 5, 2) := by decide +kernel
theorem dX11_believed_30 : decode cX11_believed 30 = .ok (.iload_n 3, 1) := by decide +kernel
theorem dX11_believed_31 : decode cX11_believed 31 = .ok (.ifCond .eq 12, 3) := by decide +kernel
theorem dX11_believed_34 : decode cX11_believed 34 = .ok (.iload 4, 2) := by decide +kernel
theorem dX11_believed_36 : decode cX11_believed 36 = .ok (.i2l, 1) := by decide +kernel
theorem dX11_believed_37 : decode cX11_believed 37 = .ok (.iload_n 2, 1) := by decide +kernel
theorem dX11_believed_38 : decode cX11_believed 38 = .ok (.i2l, 1) := by decide +kernel
theorem dX11_believed_39 : decode cX11_believed 39 = .ok (.lmul, 1) := by decide +kernel
theorem dX11_believed_40 : decode cX11_believed 40 = .ok (.goto 13, 3) := by decide +kernel
theorem dX11_believed_43 : decode cX11_believed 43 = .ok (.iload 4, 2) := by decide +kernel
theorem dX11_believed_45 : decode cX11_believed 45 = .ok (.i2l, 1) := by decide +kernel
theorem dX11_believed_46 : decode cX11_believed 46 = .ok (.sipush 1000, 3) := by decide +kernel
theorem dX11_believed_49 : decode cX11_believed 49 = .ok (.iload_n 2, 1) := by decide +kernel
theorem dX11_believed_50 : decode cX11_believed 50 = .ok (.isub, 1) := by decide +kernel
theorem dX11_believed_51 : decode cX11_believed 51 = .ok (.i2l, 1) := by decide +kernel
theorem dX11_believed_52 : decode cX11_believed 52 = .ok (.lmul, 1) := by decide +kernel
theorem dX11_believed_53 : decode cX11_believed 53 = .ok (.lstore 7, 2) := by decide +kernel
theorem dX11_believed_55 : decode cX11_believed 55 = .ok (.lload 5, 2) := by decide +kernel
theorem dX11_believed_57 : decode cX11_believed 57 = .ok (.lload 7, 2) := by decide +kernel
theorem dX11_believed_59 : decode cX11_believed 59 = .ok (.ladd, 1) := by decide +kernel
theorem dX11_believed_60 : decode cX11_believed 60 = .ok (.lstore 9, 2) := by decide +kernel
theorem dX11_believed_62 : decode cX11_believed 62 = .ok (.lload 9, 2) := by decide +kernel
theorem dX11_believed_64 : decode cX11_believed 64 = .ok (.lconst 0, 1) := by decide +kernel
theorem dX11_believed_65 : decode cX11_believed 65 = .ok (.lcmp, 1) := by decide +kernel
theorem dX11_believed_66 : decode cX11_believed 66 = .ok (.ifCond .gt 7, 3) := by decide +kernel
theorem dX11_believed_69 : decode cX11_believed 69 = .ok (.iload_n 0, 1) := by decide +kernel
theorem dX11_believed_70 : decode cX11_believed 70 = .ok (.goto 13, 3) := by decide +kernel
theorem dX11_believed_73 : decode cX11_believed 73 = .ok (.ldc2_w 384, 3) := by decide +kernel
theorem dX11_believed_76 : decode cX11_believed 76 = .ok (.lload 5, 2) := by decide +kernel
theorem dX11_believed_78 : decode cX11_believed 78 = .ok (.lmul, 1) := by decide +kernel
theorem dX11_believed_79 : decode cX11_believed 79 = .ok (.lload 9, 2) := by decide +kernel
theorem dX11_believed_81 : decode cX11_believed 81 = .ok (.ldiv, 1) := by decide +kernel
theorem dX11_believed_82 : decode cX11_believed 82 = .ok (.l2i, 1) := by decide +kernel
theorem dX11_believed_83 : decode cX11_believed 83 = .ok (.ireturn, 1) := by decide +kernel
