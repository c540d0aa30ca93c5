theorem dX0_init_0 : decode cX0_init 0 = .ok (.aload_n 0, 1) := by decide +kernel
theorem dX0_init_1 : decode cX0_init 1 = .ok (.invokespecial 3, 3) := by decide +kernel
theorem dX0_init_4 : decode cX0_init 4 = .ok (.aload_n 0, 1) := by decide +kernel
theorem dX0_init_5 : decode cX0_init 5 = .ok (.bipush 11, 2) := by decide +kernel
theorem dX0_init_7 : decode cX0_init 7 = .ok (.bipush 11, 2) := by decide +kernel
theorem dX0_init_9 : decode cX0_init 9 = .ok (.multianewarray 9 2, 4) := by decide +kernel
theorem dX0_init_13 : decode cX0_init 13 = .ok (.putfield 11, 3) := by decide +kernel
theorem dX0_init_16 : decode cX0_init 16 = .ok (.aload_n 0, 1) := by decide +kernel
theorem dX0_init_17 : decode cX0_init 17 = .ok (.invokevirtual 16, 3) := by decide +kernel
theorem dX0_init_20 : decode cX0_init 20 = .ok (.return_, 1) := by decide +kernel
theorem dX0_open_0 : decode cX0_open 0 = .ok (.iconst 0, 1) := by decide +kernel
theorem dX0_open_1 : decode cX0_open 1 = .ok (.istore_n 1, 1) := by decide +kernel
theorem dX0_open_2 : decode cX0_open 2 = .ok (.iload_n 1, 1) := by decide +kernel
theorem dX0_open_3 : decode cX0_open 3 = .ok (.bipush 11, 2) := by decide +kernel
theorem dX0_open_5 : decode cX0_open 5 = .ok (.if_icmp .ge 71, 3) := by decide +kernel
theorem dX0_open_8 : decode cX0_open 8 = .ok (.iconst 0, 1) := by decide +kernel
theorem dX0_open_9 : decode cX0_open 9 = .ok (.istore_n 2, 1) := by decide +kernel
theorem dX0_open_10 : decode cX0_open 10 = .ok (.iload_n 2, 1) := by decide +kernel
theorem dX0_open_11 : decode cX0_open 11 = .ok (.bipush 11, 2) := by decide +kernel
theorem dX0_open_13 : decode cX0_open 13 = .ok (.if_icmp .ge 57, 3) := by decide +kernel
theorem dX0_open_16 : decode cX0_open 16 = .ok (.iload_n 1, 1) := by decide +kernel
theorem dX0_open_17 : decode cX0_open 17 = .ok (.bipush 10, 2) := by decide +kernel
theorem dX0_open_19 : decode cX0_open 19 = .ok (.if_icmp .eq 9, 3) := by decide +kernel
theorem dX0_open_22 : decode cX0_open 22 = .ok (.iload_n 2, 1) := by decide +kernel
theorem dX0_open_23 : decode cX0_open 23 = .ok (.bipush 10, 2) := by decide +kernel
theorem dX0_open_25 : decode cX0_open 25 = .ok (.if_icmp .ne 7, 3) := by decide +kernel
theorem dX0_open_28 : decode cX0_open 28 = .ok (.iconst 1, 1) := by decide +kernel
theorem dX0_open_29 : decode cX0_open 29 = .ok (.goto 4, 3) := by decide +kernel
theorem dX0_open_32 : decode cX0_open 32 = .ok (.iconst 0, 1) := by decide +kernel
theorem dX0_open_33 : decode cX0_open 33 = .ok (.istore_n 3, 1) := by decide +kernel
theorem dX0_open_34 : decode cX0_open 34 = .ok (.aload_n 0, 1) := by decide +kernel
theorem dX0_open_35 : decode cX0_open 35 = .ok (.getfield 11, 3) := by decide +kernel
theorem dX0_open_38 : decode cX0_open 38 = .ok (.iload_n 1, 1) := by decide +kernel
theorem dX0_open_39 : decode cX0_open 39 = .ok (.aaload, 1) := by decide +kernel
theorem dX0_open_40 : decode cX0_open 40 = .ok (.iload_n 2, 1) := by decide +kernel
theorem dX0_open_41 : decode cX0_open 41 = .ok (.iload_n 1, 1) := by decide +kernel
theorem dX0_open_42 : decode cX0_open 42 = .ok (.iload_n 2, 1) := by decide +kernel
theorem dX0_open_43 : decode cX0_open 43 = .ok (.if_icmp .ne 7, 3) := by decide +kernel
theorem dX0_open_46 : decode cX0_open 46 = .ok (.iconst 0, 1) := by decide +kernel
theorem dX0_open_47 : decode cX0_open 47 = .ok (.goto 16, 3) := by decide +kernel
theorem dX0_open_50 : decode cX0_open 50 = .ok (.iload_n 3, 1) := by decide +kernel
theorem dX0_open_51 : decode cX0_open 51 = .ok (.ifCond .eq 9, 3) := by decide +kernel
theorem dX0_open_54 : decode cX0_open 54 = .ok (.sipush 1000, 3) := by decide +kernel
theorem dX0_open_57 : decode cX0_open 57 = .ok (.goto 6, 3) := by decide +kernel
theorem dX0_open_60 : decode cX0_open 60 = .ok (.sipush 2000, 3) := by decide +kernel
theorem dX0_open_63 : decode cX0_open 63 = .ok (.iastore, 1) := by decide +kernel
theorem dX0_open_64 : decode cX0_open 64 = .ok (.iinc 2 1, 3) := by decide +kernel
theorem dX0_open_67 : decode cX0_open 67 = .ok (.goto (-57), 3) := by decide +kernel
theorem dX0_open_70 : decode cX0_open 70 = .ok (.iinc 1 1, 3) := by decide +kernel
theorem dX0_open_73 : decode cX0_open 73 = .ok (.goto (-71), 3) := by decide +kernel
theorem dX0_open_76 : decode cX0_open 76 = .ok (.return_, 1) := by decide +kernel
theorem dX0_copyFrom_0 : decode cX0_copyFrom 0 = .ok (.iconst 0, 1) := by decide +kernel
theorem dX0_copyFrom_1 : decode cX0_copyFrom 1 = .ok (.istore_n 2, 1) := by decide +kernel
theorem dX0_copyFrom_2 : decode cX0_copyFrom 2 = .ok (.iload_n 2, 1) := by decide +kernel
theorem dX0_copyFrom_3 : decode cX0_copyFrom 3 = .ok (.bipush 11, 2) := by decide +kernel
theorem dX0_copyFrom_5 : decode cX0_copyFrom 5 = .ok (.if_icmp .ge 39, 3) := by decide +kernel
theorem dX0_copyFrom_8 : decode cX0_copyFrom 8 = .ok (.iconst 0, 1) := by decide +kernel
theorem dX0_copyFrom_9 : decode cX0_copyFrom 9 = .ok (.istore_n 3, 1) := by decide +kernel
theorem dX0_copyFrom_10 : decode cX0_copyFrom 10 = .ok (.iload_n 3, 1) := by decide +kernel
theorem dX0_copyFrom_11 : decode cX0_copyFrom 11 = .ok (.bipush 11, 2) := by decide +kernel
theorem dX0_copyFrom_13 : decode cX0_copyFrom 13 = .ok (.if_icmp .ge 25, 3) := by decide +kernel
theorem dX0_copyFrom_16 : decode cX0_copyFrom 16 = .ok (.aload_n 0, 1) := by decide +kernel
theorem dX0_copyFrom_17 : decode cX0_copyFrom 17 = .ok (.getfield 11, 3) := by decide +kernel
theorem dX0_copyFrom_20 : decode cX0_copyFrom 20 = .ok (.iload_n 2, 1) := by decide +kernel
theorem dX0_copyFrom_21 : decode cX0_copyFrom 21 = .ok (.aaload, 1) := by decide +kernel
theorem dX0_copyFrom_22 : decode cX0_copyFrom 22 = .ok (.iload_n 3, 1) := by decide +kernel
theorem dX0_copyFrom_23 : decode cX0_copyFrom 23 = .ok (.aload_n 1, 1) := by decide +kernel
theorem dX0_copyFrom_24 : decode cX0_copyFrom 24 = .ok (.getfield 11, 3) := by decide +kernel
theorem dX0_copyFrom_27 : decode cX0_copyFrom 27 = .ok (.iload_n 2, 1) := by decide +kernel
theorem dX0_copyFrom_28 : decode cX0_copyFrom 28 = .ok (.aaload, 1) := by decide +kernel
theorem dX0_copyFrom_29 : decode cX0_copyFrom 29 = .ok (.iload_n 3, 1) := by decide +kernel
theorem dX0_copyFrom_30 : decode cX0_copyFrom 30 = .ok (.iaload, 1) := by decide +kernel
theorem dX0_copyFrom_31 : decode cX0_copyFrom 31 = .ok (.iastore, 1) := by decide +kernel
theorem dX0_copyFrom_32 : decode cX0_copyFrom 32 = .ok (.iinc 3 1, 3) := by decide +kernel
theorem dX0_copyFrom_35 : decode cX0_copyFrom 35 = .ok (.goto (-25), 3) := by decide +kernel
theorem dX0_copyFrom_38 : decode cX0_copyFrom 38 = .ok (.iinc 2 1, 3) := by decide +kernel
theorem dX0_copyFrom_41 : decode cX0_copyFrom 41 = .ok (.goto (-39), 3) := by decide +kernel
theorem dX0_copyFrom_44 : decode cX0_copyFrom 44 = .ok (.return_, 1) := by decide +kernel
theorem dX0_greatest_0 : decode cX0_greatest 0 = .ok (.aload_n 0, 1) := by decide +kernel
theorem dX0_greatest_1 : decode cX0_greatest 1 = .ok (.getfield 11, 3) := by decide +kernel
theorem dX0_greatest_4 : decode cX0_greatest 4 = .ok (.iload_n 1, 1) := by decide +kernel
theorem dX0_greatest_5 : decode cX0_greatest 5 = .ok (.aaload, 1) := by decide +kernel
theorem dX0_greatest_6 : decode cX0_greatest 6 = .ok (.iload_n 2, 1) := by decide +kernel
theorem dX0_greatest_7 : decode cX0_greatest 7 = .ok (.iaload, 1) := by decide +kernel
theorem dX0_greatest_8 : decode cX0_greatest 8 = .ok (.ireturn, 1) := by decide +kernel
theorem dX0_least_0 : decode cX0_least 0 = .ok (.aload_n 0, 1) := by decide +kernel
theorem dX0_least_1 : decode cX0_least 1 = .ok (.getfield 11, 3) := by decide +kernel
theorem dX0_least_4 : decode cX0_least 4 = .ok (.iload_n 2, 1) := by decide +kernel
theorem dX0_least_5 : decode cX0_least 5 = .ok (.aaload, 1) := by decide +kernel
theorem dX0_least_6 : decode cX0_least 6 = .ok (.iload_n 1, 1) := by decide +kernel
theorem dX0_least_7 : decode cX0_least 7 = .ok (.iaload, 1) := by decide +kernel
theorem dX0_least_8 : decode cX0_least 8 = .ok (.ineg, 1) := by decide +kernel
theorem dX0_least_9 : decode cX0_least 9 = .ok (.ireturn, 1) := by decide +kernel
theorem dX0_width_0 : decode cX0_width 0 = .ok (.aload_n 0, 1) := by decide +kernel
theorem dX0_width_1 : decode cX0_width 1 = .ok (.iload_n 1, 1) := by decide +kernel
theorem dX0_width_2 : decode cX0_width 2 = .ok (.bipush 10, 2) := by decide +kernel
theorem dX0_width_4 : decode cX0_width 4 = .ok (.invokevirtual 19, 3) := by decide +kernel
theorem dX0_width_7 : decode cX0_width 7 = .ok (.aload_n 0, 1) := by decide +kernel
theorem dX0_width_8 : decode cX0_width 8 = .ok (.iload_n 1, 1) := by decide +kernel
theorem dX0_width_9 : decode cX0_width 9 = .ok (.bipush 10, 2) := by decide +kernel
theorem dX0_width_11 : decode cX0_width 11 = .ok (.invokevirtual 22, 3) := by decide +kernel
theorem dX0_width_14 : decode cX0_width 14 = .ok (.isub, 1) := by decide +kernel
theorem dX0_width_15 : decode cX0_width 15 = .ok (.ireturn, 1) := by decide +kernel
theorem dX0_limit_0 : decode cX0_limit 0 = .ok (.iload_n 3, 1) := by decide +kernel
theorem dX0_limit_1 : decode cX0_limit 1 = .ok (.aload_n 0, 1) := by decide +kernel
theorem dX0_limit_2 : decode cX0_limit 2 = .ok (.getfield 11, 3) := by decide +kernel
theorem dX0_limit_5 : decode cX0_limit 5 = .ok (.iload_n 1, 1) := by decide +kernel
theorem dX0_limit_6 : decode cX0_limit 6 = .ok (.aaload, 1) := by decide +kernel
theorem dX0_limit_7 : decode cX0_limit 7 = .ok (.iload_n 2, 1) := by decide +kernel
theorem dX0_limit_8 : decode cX0_limit 8 = .ok (.iaload, 1) := by decide +kernel
theorem dX0_limit_9 : decode cX0_limit 9 = .ok (.if_icmp .lt 4, 3) := by decide +kernel
theorem dX0_limit_12 : decode cX0_limit 12 = .ok (.return_, 1) := by decide +kernel
theorem dX0_limit_13 : decode cX0_limit 13 = .ok (.iconst 0, 1) := by decide +kernel
theorem dX0_limit_14 : decode cX0_limit 14 = .ok (.istore 4, 2) := by decide +kernel
theorem dX0_limit_16 : decode cX0_limit 16 = .ok (.iload 4, 2) := by decide +kernel
theorem dX0_limit_18 : decode cX0_limit 18 = .ok (.bipush 11, 2) := by decide +kernel
theorem dX0_limit_20 : decode cX0_limit 20 = .ok (.if_icmp .ge 118, 3) := by decide +kernel
theorem dX0_limit_23 : decode cX0_limit 23 = .ok (.aload_n 0, 1) := by decide +kernel
theorem dX0_limit_24 : decode cX0_limit 24 = .ok (.getfield 11, 3) := by decide +kernel
theorem dX0_limit_27 : decode cX0_limit 27 = .ok (.iload 4, 2) := by decide +kernel
theorem dX0_limit_29 : decode cX0_limit 29 = .ok (.aaload, 1) := by decide +kernel
theorem dX0_limit_30 : decode cX0_limit 30 = .ok (.iload_n 1, 1) := by decide +kernel
theorem dX0_limit_31 : decode cX0_limit 31 = .ok (.iaload, 1) := by decide +kernel
theorem dX0_limit_32 : decode cX0_limit 32 = .ok (.iload_n 3, 1) := by decide +kernel
theorem dX0_limit_33 : decode cX0_limit 33 = .ok (.iadd, 1) := by decide +kernel
theorem dX0_limit_34 : decode cX0_limit 34 = .ok (.istore 5, 2) := by decide +kernel
theorem dX0_limit_36 : decode cX0_limit 36 = .ok (.iload 5, 2) := by decide +kernel
theorem dX0_limit_38 : decode cX0_limit 38 = .ok (.aload_n 0, 1) := by decide +kernel
theorem dX0_limit_39 : decode cX0_limit 39 = .ok (.getfield 11, 3) := by decide +kernel
theorem dX0_limit_42 : decode cX0_limit 42 = .ok (.iload 4, 2) := by decide +kernel
theorem dX0_limit_44 : decode cX0_limit 44 = .ok (.aaload, 1) := by decide +kernel
theorem dX0_limit_45 : decode cX0_limit 45 = .ok (.iload_n 2, 1) := by decide +kernel
theorem dX0_limit_46 : decode cX0_limit 46 = .ok (.iaload, 1) := by decide +kernel
theorem dX0_limit_47 : decode cX0_limit 47 = .ok (.if_icmp .ge 7, 3) := by decide +kernel
theorem dX0_limit_50 : decode cX0_limit 50 = .ok (.iconst 1, 1) := by decide +kernel
theorem dX0_limit_51 : decode cX0_limit 51 = .ok (.goto 4, 3) := by decide +kernel
theorem dX0_limit_54 : decode cX0_limit 54 = .ok (.iconst 0, 1) := by decide +kernel
theorem dX0_limit_55 : decode cX0_limit 55 = .ok (.istore 6, 2) := by decide +kernel
theorem dX0_limit_57 : decode cX0_limit 57 = .ok (.iconst 0, 1) := by decide +kernel
theorem dX0_limit_58 : decode cX0_limit 58 = .ok (.istore 7, 2) := by decide +kernel
theorem dX0_limit_60 : decode cX0_limit 60 = .ok (.iload 6, 2) := by decide +kernel
theorem dX0_limit_62 : decode cX0_limit 62 = .ok (.ifCond .eq 70, 3) := by decide +kernel
theorem dX0_limit_65 : decode cX0_limit 65 = .ok (.iload 7, 2) := by decide +kernel
theorem dX0_limit_67 : decode cX0_limit 67 = .ok (.bipush 11, 2) := by decide +kernel
theorem dX0_limit_69 : decode cX0_limit 69 = .ok (.if_icmp .ge 63, 3) := by decide +kernel
theorem dX0_limit_72 : decode cX0_limit 72 = .ok (.iload 5, 2) := by decide +kernel
theorem dX0_limit_74 : decode cX0_limit 74 = .ok (.aload_n 0, 1) := by decide +kernel
theorem dX0_limit_75 : decode cX0_limit 75 = .ok (.getfield 11, 3) := by decide +kernel
theorem dX0_limit_78 : decode cX0_limit 78 = .ok (.iload_n 2, 1) := by decide +kernel
theorem dX0_limit_79 : decode cX0_limit 79 = .ok (.aaload, 1) := by decide +kernel
theorem dX0_limit_80 : decode cX0_limit 80 = .ok (.iload 7, 2) := by decide +kernel
theorem dX0_limit_82 : decode cX0_limit 82 = .ok (.iaload, 1) := by decide +kernel
theorem dX0_limit_83 : decode cX0_limit 83 = .ok (.iadd, 1) := by decide +kernel
theorem dX0_limit_84 : decode cX0_limit 84 = .ok (.istore 8, 2) := by decide +kernel
theorem dX0_limit_86 : decode cX0_limit 86 = .ok (.aload_n 0, 1) := by decide +kernel
theorem dX0_limit_87 : decode cX0_limit 87 = .ok (.getfield 11, 3) := by decide +kernel
theorem dX0_limit_90 : decode cX0_limit 90 = .ok (.iload 4, 2) := by decide +kernel
theorem dX0_limit_92 : decode cX0_limit 92 = .ok (.aaload, 1) := by decide +kernel
theorem dX0_limit_93 : decode cX0_limit 93 = .ok (.iload 7, 2) := by decide +kernel
theorem dX0_limit_95 : decode cX0_limit 95 = .ok (.iload 8, 2) := by decide +kernel
theorem dX0_limit_97 : decode cX0_limit 97 = .ok (.aload_n 0, 1) := by decide +kernel
theorem dX0_limit_98 : decode cX0_limit 98 = .ok (.getfield 11, 3) := by decide +kernel
theorem dX0_limit_101 : decode cX0_limit 101 = .ok (.iload 4, 2) := by decide +kernel
theorem dX0_limit_103 : decode cX0_limit 103 = .ok (.aaload, 1) := by decide +kernel
theorem dX0_limit_104 : decode cX0_limit 104 = .ok (.iload 7, 2) := by decide +kernel
theorem dX0_limit_106 : decode cX0_limit 106 = .ok (.iaload, 1) := by decide +kernel
theorem dX0_limit_107 : decode cX0_limit 107 = .ok (.if_icmp .ge 8, 3) := by decide +kernel
theorem dX0_limit_110 : decode cX0_limit 110 = .ok (.iload 8, 2) := by decide +kernel
theorem dX0_limit_112 : decode cX0_limit 112 = .ok (.goto 13, 3) := by decide +kernel
theorem dX0_limit_115 : decode cX0_limit 115 = .ok (.aload_n 0, 1) := by decide +kernel
theorem dX0_limit_116 : decode cX0_limit 116 = .ok (.getfield 11, 3) := by decide +kernel
theorem dX0_limit_119 : decode cX0_limit 119 = .ok (.iload 4, 2) := by decide +kernel
theorem dX0_limit_121 : decode cX0_limit 121 = .ok (.aaload, 1) := by decide +kernel
theorem dX0_limit_122 : decode cX0_limit 122 = .ok (.iload 7, 2) := by decide +kernel
theorem dX0_limit_124 : decode cX0_limit 124 = .ok (.iaload, 1) := by decide +kernel
theorem dX0_limit_125 : decode cX0_limit 125 = .ok (.iastore, 1) := by decide +kernel
theorem dX0_limit_126 : decode cX0_limit 126 = .ok (.iinc 7 1, 3) := by decide +kernel
theorem dX0_limit_129 : decode cX0_limit 129 = .ok (.goto (-69), 3) := by decide +kernel
theorem dX0_limit_132 : decode cX0_limit 132 = .ok (.iinc 4 1, 3) := by decide +kernel
theorem dX0_limit_135 : decode cX0_limit 135 = .ok (.goto (-119), 3) := by decide +kernel
theorem dX0_limit_138 : decode cX0_limit 138 = .ok (.return_, 1) := by decide +kernel
theorem dX1_init_0 : decode cX1_init 0 = .ok (.aload_n 0, 1) := by decide +kernel
theorem dX1_init_1 : decode cX1_init 1 = .ok (.invokespecial 3, 3) := by decide +kernel
theorem dX1_init_4 : decode cX1_init 4 = .ok (.aload_n 0, 1) := by decide +kernel
theorem dX1_init_5 : decode cX1_init 5 = .ok (.new 9, 3) := by decide +kernel
theorem dX1_init_8 : decode cX1_init 8 = .ok (.dup, 1) := by decide +kernel
theorem dX1_init_9 : decode cX1_init 9 = .ok (.invokespecial 11, 3) := by decide +kernel
theorem dX1_init_12 : decode cX1_init 12 = .ok (.putfield 12, 3) := by decide +kernel
theorem dX1_init_15 : decode cX1_init 15 = .ok (.aload_n 0, 1) := by decide +kernel
theorem dX1_init_16 : decode cX1_init 16 = .ok (.new 18, 3) := by decide +kernel
theorem dX1_init_19 : decode cX1_init 19 = .ok (.dup, 1) := by decide +kernel
theorem dX1_init_20 : decode cX1_init 20 = .ok (.invokespecial 20, 3) := by decide +kernel
theorem dX1_init_23 : decode cX1_init 23 = .ok (.putfield 21, 3) := by decide +kernel
theorem dX1_init_26 : decode cX1_init 26 = .ok (.aload_n 0, 1) := by decide +kernel
theorem dX1_init_27 : decode cX1_init 27 = .ok (.new 18, 3) := by decide +kernel
theorem dX1_init_30 : decode cX1_init 30 = .ok (.dup, 1) := by decide +kernel
theorem dX1_init_31 : decode cX1_init 31 = .ok (.invokespecial 20, 3) := by decide +kernel
theorem dX1_init_34 : decode cX1_init 34 = .ok (.putfield 25, 3) := by decide +kernel
theorem dX1_init_37 : decode cX1_init 37 = .ok (.aload_n 0, 1) := by decide +kernel
theorem dX1_init_38 : decode cX1_init 38 = .ok (.new 9, 3) := by decide +kernel
theorem dX1_init_41 : decode cX1_init 41 = .ok (.dup, 1) := by decide +kernel
theorem dX1_init_42 : decode cX1_init 42 = .ok (.invokespecial 11, 3) := by decide +kernel
theorem dX1_init_45 : decode cX1_init 45 = .ok (.putfield 28, 3) := by decide +kernel
theorem dX1_init_48 : decode cX1_init 48 = .ok (.return_, 1) := by decide +kernel
theorem dX1_fill_0 : decode cX1_fill 0 = .ok (.aload_n 0, 1) := by decide +kernel
theorem dX1_fill_1 : decode cX1_fill 1 = .ok (.getfield 12, 3) := by decide +kernel
theorem dX1_fill_4 : decode cX1_fill 4 = .ok (.invokevirtual 31, 3) := by decide +kernel
theorem dX1_fill_7 : decode cX1_fill 7 = .ok (.aload_n 0, 1) := by decide +kernel
theorem dX1_fill_8 : decode cX1_fill 8 = .ok (.getfield 21, 3) := by decide +kernel
theorem dX1_fill_11 : decode cX1_fill 11 = .ok (.iconst 0, 1) := by decide +kernel
theorem dX1_fill_12 : decode cX1_fill 12 = .ok (.putfield 34, 3) := by decide +kernel
theorem dX1_fill_15 : decode cX1_fill 15 = .ok (.aload_n 0, 1) := by decide +kernel
theorem dX1_fill_16 : decode cX1_fill 16 = .ok (.getfield 25, 3) := by decide +kernel
theorem dX1_fill_19 : decode cX1_fill 19 = .ok (.iconst 0, 1) := by decide +kernel
theorem dX1_fill_20 : decode cX1_fill 20 = .ok (.putfield 34, 3) := by decide +kernel
theorem dX1_fill_23 : decode cX1_fill 23 = .ok (.aload_n 0, 1) := by decide +kernel
theorem dX1_fill_24 : decode cX1_fill 24 = .ok (.iconst 0, 1) := by decide +kernel
theorem dX1_fill_25 : decode cX1_fill 25 = .ok (.putfield 38, 3) := by decide +kernel
theorem dX1_fill_28 : decode cX1_fill 28 = .ok (.iconst 3, 1) := by decide +kernel
theorem dX1_fill_29 : decode cX1_fill 29 = .ok (.istore_n 3, 1) := by decide +kernel
theorem dX1_fill_30 : decode cX1_fill 30 = .ok (.iload_n 3, 1) := by decide +kernel
theorem dX1_fill_31 : decode cX1_fill 31 = .ok (.ifCond .lt 113, 3) := by decide +kernel
theorem dX1_fill_34 : decode cX1_fill 34 = .ok (.iconst 0, 1) := by decide +kernel
theorem dX1_fill_35 : decode cX1_fill 35 = .ok (.istore 4, 2) := by decide +kernel
theorem dX1_fill_37 : decode cX1_fill 37 = .ok (.iload 4, 2) := by decide +kernel
theorem dX1_fill_39 : decode cX1_fill 39 = .ok (.aload_n 1, 1) := by decide +kernel
theorem dX1_fill_40 : decode cX1_fill 40 = .ok (.getfield 41, 3) := by decide +kernel
theorem dX1_fill_43 : decode cX1_fill 43 = .ok (.getfield 47, 3) := by decide +kernel
theorem dX1_fill_46 : decode cX1_fill 46 = .ok (.if_icmp .ge 37, 3) := by decide +kernel
theorem dX1_fill_49 : decode cX1_fill 49 = .ok (.aload_n 1, 1) := by decide +kernel
theorem dX1_fill_50 : decode cX1_fill 50 = .ok (.getfield 41, 3) := by decide +kernel
theorem dX1_fill_53 : decode cX1_fill 53 = .ok (.getfield 52, 3) := by decide +kernel
theorem dX1_fill_56 : decode cX1_fill 56 = .ok (.iload 4, 2) := by decide +kernel
theorem dX1_fill_58 : decode cX1_fill 58 = .ok (.iaload, 1) := by decide +kernel
theorem dX1_fill_59 : decode cX1_fill 59 = .ok (.iload_n 3, 1) := by decide +kernel
theorem dX1_fill_60 : decode cX1_fill 60 = .ok (.if_icmp .ne 17, 3) := by decide +kernel
theorem dX1_fill_63 : decode cX1_fill 63 = .ok (.aload_n 0, 1) := by decide +kernel
theorem dX1_fill_64 : decode cX1_fill 64 = .ok (.aload_n 1, 1) := by decide +kernel
theorem dX1_fill_65 : decode cX1_fill 65 = .ok (.getfield 41, 3) := by decide +kernel
theorem dX1_fill_68 : decode cX1_fill 68 = .ok (.iload 4, 2) := by decide +kernel
theorem dX1_fill_70 : decode cX1_fill 70 = .ok (.aload_n 0, 1) := by decide +kernel
theorem dX1_fill_71 : decode cX1_fill 71 = .ok (.getfield 25, 3) := by decide +kernel
theorem dX1_fill_74 : decode cX1_fill 74 = .ok (.invokevirtual 56, 3) := by decide +kernel
theorem dX1_fill_77 : decode cX1_fill 77 = .ok (.iinc 4 1, 3) := by decide +kernel
theorem dX1_fill_80 : decode cX1_fill 80 = .ok (.goto (-43), 3) := by decide +kernel
theorem dX1_fill_83 : decode cX1_fill 83 = .ok (.iconst 0, 1) := by decide +kernel
theorem dX1_fill_84 : decode cX1_fill 84 = .ok (.istore 4, 2) := by decide +kernel
theorem dX1_fill_86 : decode cX1_fill 86 = .ok (.iload 4, 2) := by decide +kernel
theorem dX1_fill_88 : decode cX1_fill 88 = .ok (.aload_n 1, 1) := by decide +kernel
theorem dX1_fill_89 : decode cX1_fill 89 = .ok (.getfield 60, 3) := by decide +kernel
theorem dX1_fill_92 : decode cX1_fill 92 = .ok (.getfield 47, 3) := by decide +kernel
theorem dX1_fill_95 : decode cX1_fill 95 = .ok (.if_icmp .ge 43, 3) := by decide +kernel
theorem dX1_fill_98 : decode cX1_fill 98 = .ok (.aload_n 1, 1) := by decide +kernel
theorem dX1_fill_99 : decode cX1_fill 99 = .ok (.getfield 60, 3) := by decide +kernel
theorem dX1_fill_102 : decode cX1_fill 102 = .ok (.getfield 52, 3) := by decide +kernel
theorem dX1_fill_105 : decode cX1_fill 105 = .ok (.iload 4, 2) := by decide +kernel
theorem dX1_fill_107 : decode cX1_fill 107 = .ok (.iaload, 1) := by decide +kernel
theorem dX1_fill_108 : decode cX1_fill 108 = .ok (.iload_n 3, 1) := by decide +kernel
theorem dX1_fill_109 : decode cX1_fill 109 = .ok (.if_icmp .ne 23, 3) := by decide +kernel
theorem dX1_fill_112 : decode cX1_fill 112 = .ok (.iload 4, 2) := by decide +kernel
theorem dX1_fill_114 : decode cX1_fill 114 = .ok (.iload_n 2, 1) := by decide +kernel
theorem dX1_fill_115 : decode cX1_fill 115 = .ok (.if_icmp .eq 17, 3) := by decide +kernel
theorem dX1_fill_118 : decode cX1_fill 118 = .ok (.aload_n 0, 1) := by decide +kernel
theorem dX1_fill_119 : decode cX1_fill 119 = .ok (.aload_n 1, 1) := by decide +kernel
theorem dX1_fill_120 : decode cX1_fill 120 = .ok (.getfield 60, 3) := by decide +kernel
theorem dX1_fill_123 : decode cX1_fill 123 = .ok (.iload 4, 2) := by decide +kernel
theorem dX1_fill_125 : decode cX1_fill 125 = .ok (.aload_n 0, 1) := by decide +kernel
theorem dX1_fill_126 : decode cX1_fill 126 = .ok (.getfield 21, 3) := by decide +kernel
theorem dX1_fill_129 : decode cX1_fill 129 = .ok (.invokevirtual 56, 3) := by decide +kernel
theorem dX1_fill_132 : decode cX1_fill 132 = .ok (.iinc 4 1, 3) := by decide +kernel
theorem dX1_fill_135 : decode cX1_fill 135 = .ok (.goto (-49), 3) := by decide +kernel
theorem dX1_fill_138 : decode cX1_fill 138 = .ok (.iinc 3 (-1), 3) := by decide +kernel
theorem dX1_fill_141 : decode cX1_fill 141 = .ok (.goto (-111), 3) := by decide +kernel
theorem dX1_fill_144 : decode cX1_fill 144 = .ok (.return_, 1) := by decide +kernel
theorem dX1_fillOne_0 : decode cX1_fillOne 0 = .ok (.aload_n 1, 1) := by decide +kernel
theorem dX1_fillOne_1 : decode cX1_fillOne 1 = .ok (.getfield 63, 3) := by decide +kernel
theorem dX1_fillOne_4 : decode cX1_fillOne 4 = .ok (.iload_n 2, 1) := by decide +kernel
theorem dX1_fillOne_5 : decode cX1_fillOne 5 = .ok (.iaload, 1) := by decide +kernel
theorem dX1_fillOne_6 : decode cX1_fillOne 6 = .ok (.istore 4, 2) := by decide +kernel
theorem dX1_fillOne_8 : decode cX1_fillOne 8 = .ok (.aload_n 1, 1) := by decide +kernel
theorem dX1_fillOne_9 : decode cX1_fillOne 9 = .ok (.iload_n 2, 1) := by decide +kernel
theorem dX1_fillOne_10 : decode cX1_fillOne 10 = .ok (.invokevirtual 66, 3) := by decide +kernel
theorem dX1_fillOne_13 : decode cX1_fillOne 13 = .ok (.istore 5, 2) := by decide +kernel
theorem dX1_fillOne_15 : decode cX1_fillOne 15 = .ok (.aload_n 0, 1) := by decide +kernel
theorem dX1_fillOne_16 : decode cX1_fillOne 16 = .ok (.getfield 12, 3) := by decide +kernel
theorem dX1_fillOne_19 : decode cX1_fillOne 19 = .ok (.iload 4, 2) := by decide +kernel
theorem dX1_fillOne_21 : decode cX1_fillOne 21 = .ok (.iload 5, 2) := by decide +kernel
theorem dX1_fillOne_23 : decode cX1_fillOne 23 = .ok (.invokevirtual 70, 3) := by decide +kernel
theorem dX1_fillOne_26 : decode cX1_fillOne 26 = .ok (.istore 6, 2) := by decide +kernel
theorem dX1_fillOne_28 : decode cX1_fillOne 28 = .ok (.aload_n 0, 1) := by decide +kernel
theorem dX1_fillOne_29 : decode cX1_fillOne 29 = .ok (.getfield 12, 3) := by decide +kernel
theorem dX1_fillOne_32 : decode cX1_fillOne 32 = .ok (.iload 4, 2) := by decide +kernel
theorem dX1_fillOne_34 : decode cX1_fillOne 34 = .ok (.iload 5, 2) := by decide +kernel
theorem dX1_fillOne_36 : decode cX1_fillOne 36 = .ok (.invokevirtual 74, 3) := by decide +kernel
theorem dX1_fillOne_39 : decode cX1_fillOne 39 = .ok (.istore 7, 2) := by decide +kernel
theorem dX1_fillOne_41 : decode cX1_fillOne 41 = .ok (.aload_n 3, 1) := by decide +kernel
theorem dX1_fillOne_42 : decode cX1_fillOne 42 = .ok (.getfield 77, 3) := by decide +kernel
theorem dX1_fillOne_45 : decode cX1_fillOne 45 = .ok (.iload_n 2, 1) := by decide +kernel
theorem dX1_fillOne_46 : decode cX1_fillOne 46 = .ok (.aload_n 0, 1) := by decide +kernel
theorem dX1_fillOne_47 : decode cX1_fillOne 47 = .ok (.getfield 38, 3) := by decide +kernel
theorem dX1_fillOne_50 : decode cX1_fillOne 50 = .ok (.iastore, 1) := by decide +kernel
theorem dX1_fillOne_51 : decode cX1_fillOne 51 = .ok (.aload_n 0, 1) := by decide +kernel
theorem dX1_fillOne_52 : decode cX1_fillOne 52 = .ok (.dup, 1) := by decide +kernel
theorem dX1_fillOne_53 : decode cX1_fillOne 53 = .ok (.getfield 38, 3) := by decide +kernel
theorem dX1_fillOne_56 : decode cX1_fillOne 56 = .ok (.iconst 1, 1) := by decide +kernel
theorem dX1_fillOne_57 : decode cX1_fillOne 57 = .ok (.iadd, 1) := by decide +kernel
theorem dX1_fillOne_58 : decode cX1_fillOne 58 = .ok (.putfield 38, 3) := by decide +kernel
theorem dX1_fillOne_61 : decode cX1_fillOne 61 = .ok (.aload_n 1, 1) := by decide +kernel
theorem dX1_fillOne_62 : decode cX1_fillOne 62 = .ok (.iload_n 2, 1) := by decide +kernel
theorem dX1_fillOne_63 : decode cX1_fillOne 63 = .ok (.iload 6, 2) := by decide +kernel
theorem dX1_fillOne_65 : decode cX1_fillOne 65 = .ok (.iload 7, 2) := by decide +kernel
theorem dX1_fillOne_67 : decode cX1_fillOne 67 = .ok (.invokevirtual 80, 3) := by decide +kernel
theorem dX1_fillOne_70 : decode cX1_fillOne 70 = .ok (.ifCond .ne 19, 3) := by decide +kernel
theorem dX1_fillOne_73 : decode cX1_fillOne 73 = .ok (.aload_n 3, 1) := by decide +kernel
theorem dX1_fillOne_74 : decode cX1_fillOne 74 = .ok (.getfield 84, 3) := by decide +kernel
theorem dX1_fillOne_77 : decode cX1_fillOne 77 = .ok (.iload_n 2, 1) := by decide +kernel
theorem dX1_fillOne_78 : decode cX1_fillOne 78 = .ok (.aload_n 1, 1) := by decide +kernel
theorem dX1_fillOne_79 : decode cX1_fillOne 79 = .ok (.iload_n 2, 1) := by decide +kernel
theorem dX1_fillOne_80 : decode cX1_fillOne 80 = .ok (.iload 6, 2) := by decide +kernel
theorem dX1_fillOne_82 : decode cX1_fillOne 82 = .ok (.iload 7, 2) := by decide +kernel
theorem dX1_fillOne_84 : decode cX1_fillOne 84 = .ok (.invokevirtual 87, 3) := by decide +kernel
theorem dX1_fillOne_87 : decode cX1_fillOne 87 = .ok (.iastore, 1) := by decide +kernel
theorem dX1_fillOne_88 : decode cX1_fillOne 88 = .ok (.return_, 1) := by decide +kernel
theorem dX1_fillOne_89 : decode cX1_fillOne 89 = .ok (.aload_n 3, 1) := by decide +kernel
theorem dX1_fillOne_90 : decode cX1_fillOne 90 = .ok (.dup, 1) := by decide +kernel
theorem dX1_fillOne_91 : decode cX1_fillOne 91 = .ok (.getfield 34, 3) := by decide +kernel
theorem dX1_fillOne_94 : decode cX1_fillOne 94 = .ok (.iconst 1, 1) := by decide +kernel
theorem dX1_fillOne_95 : decode cX1_fillOne 95 = .ok (.iload_n 2, 1) := by decide +kernel
theorem dX1_fillOne_96 : decode cX1_fillOne 96 = .ok (.ishl, 1) := by decide +kernel
theorem dX1_fillOne_97 : decode cX1_fillOne 97 = .ok (.ior, 1) := by decide +kernel
theorem dX1_fillOne_98 : decode cX1_fillOne 98 = .ok (.putfield 34, 3) := by decide +kernel
theorem dX1_fillOne_101 : decode cX1_fillOne 101 = .ok (.aload_n 3, 1) := by decide +kernel
theorem dX1_fillOne_102 : decode cX1_fillOne 102 = .ok (.getfield 84, 3) := by decide +kernel
theorem dX1_fillOne_105 : decode cX1_fillOne 105 = .ok (.iload_n 2, 1) := by decide +kernel
theorem dX1_fillOne_106 : decode cX1_fillOne 106 = .ok (.aload_n 1, 1) := by decide +kernel
theorem dX1_fillOne_107 : decode cX1_fillOne 107 = .ok (.iload_n 2, 1) := by decide +kernel
theorem dX1_fillOne_108 : decode cX1_fillOne 108 = .ok (.iload 6, 2) := by decide +kernel
theorem dX1_fillOne_110 : decode cX1_fillOne 110 = .ok (.iload 7, 2) := by decide +kernel
theorem dX1_fillOne_112 : decode cX1_fillOne 112 = .ok (.invokevirtual 91, 3) := by decide +kernel
theorem dX1_fillOne_115 : decode cX1_fillOne 115 = .ok (.iastore, 1) := by decide +kernel
theorem dX1_fillOne_116 : decode cX1_fillOne 116 = .ok (.aload_n 1, 1) := by decide +kernel
theorem dX1_fillOne_117 : decode cX1_fillOne 117 = .ok (.getfield 94, 3) := by decide +kernel
theorem dX1_fillOne_120 : decode cX1_fillOne 120 = .ok (.iload_n 2, 1) := by decide +kernel
theorem dX1_fillOne_121 : decode cX1_fillOne 121 = .ok (.iaload, 1) := by decide +kernel
theorem dX1_fillOne_122 : decode cX1_fillOne 122 = .ok (.iconst 2, 1) := by decide +kernel
theorem dX1_fillOne_123 : decode cX1_fillOne 123 = .ok (.if_icmp .eq 20, 3) := by decide +kernel
theorem dX1_fillOne_126 : decode cX1_fillOne 126 = .ok (.aload_n 0, 1) := by decide +kernel
theorem dX1_fillOne_127 : decode cX1_fillOne 127 = .ok (.getfield 12, 3) := by decide +kernel
theorem dX1_fillOne_130 : decode cX1_fillOne 130 = .ok (.iload 4, 2) := by decide +kernel
theorem dX1_fillOne_132 : decode cX1_fillOne 132 = .ok (.iload 5, 2) := by decide +kernel
theorem dX1_fillOne_134 : decode cX1_fillOne 134 = .ok (.aload_n 1, 1) := by decide +kernel
theorem dX1_fillOne_135 : decode cX1_fillOne 135 = .ok (.getfield 97, 3) := by decide +kernel
theorem dX1_fillOne_138 : decode cX1_fillOne 138 = .ok (.iload_n 2, 1) := by decide +kernel
theorem dX1_fillOne_139 : decode cX1_fillOne 139 = .ok (.iaload, 1) := by decide +kernel
theorem dX1_fillOne_140 : decode cX1_fillOne 140 = .ok (.invokevirtual 100, 3) := by decide +kernel
theorem dX1_fillOne_143 : decode cX1_fillOne 143 = .ok (.aload_n 1, 1) := by decide +kernel
theorem dX1_fillOne_144 : decode cX1_fillOne 144 = .ok (.getfield 94, 3) := by decide +kernel
theorem dX1_fillOne_147 : decode cX1_fillOne 147 = .ok (.iload_n 2, 1) := by decide +kernel
theorem dX1_fillOne_148 : decode cX1_fillOne 148 = .ok (.iaload, 1) := by decide +kernel
theorem dX1_fillOne_149 : decode cX1_fillOne 149 = .ok (.ifCond .eq 21, 3) := by decide +kernel
theorem dX1_fillOne_152 : decode cX1_fillOne 152 = .ok (.aload_n 0, 1) := by decide +kernel
theorem dX1_fillOne_153 : decode cX1_fillOne 153 = .ok (.getfield 12, 3) := by decide +kernel
theorem dX1_fillOne_156 : decode cX1_fillOne 156 = .ok (.iload 5, 2) := by decide +kernel
theorem dX1_fillOne_158 : decode cX1_fillOne 158 = .ok (.iload 4, 2) := by decide +kernel
theorem dX1_fillOne_160 : decode cX1_fillOne 160 = .ok (.aload_n 1, 1) := by decide +kernel
theorem dX1_fillOne_161 : decode cX1_fillOne 161 = .ok (.getfield 97, 3) := by decide +kernel
theorem dX1_fillOne_164 : decode cX1_fillOne 164 = .ok (.iload_n 2, 1) := by decide +kernel
theorem dX1_fillOne_165 : decode cX1_fillOne 165 = .ok (.iaload, 1) := by decide +kernel
theorem dX1_fillOne_166 : decode cX1_fillOne 166 = .ok (.ineg, 1) := by decide +kernel
theorem dX1_fillOne_167 : decode cX1_fillOne 167 = .ok (.invokevirtual 100, 3) := by decide +kernel
theorem dX1_fillOne_170 : decode cX1_fillOne 170 = .ok (.return_, 1) := by decide +kernel
theorem dX1_settle_0 : decode cX1_settle 0 = .ok (.aload_n 0, 1) := by decide +kernel
theorem dX1_settle_1 : decode cX1_settle 1 = .ok (.getfield 28, 3) := by decide +kernel
theorem dX1_settle_4 : decode cX1_settle 4 = .ok (.aload_n 0, 1) := by decide +kernel
theorem dX1_settle_5 : decode cX1_settle 5 = .ok (.getfield 12, 3) := by decide +kernel
theorem dX1_settle_8 : decode cX1_settle 8 = .ok (.invokevirtual 104, 3) := by decide +kernel
theorem dX1_settle_11 : decode cX1_settle 11 = .ok (.bipush 9, 2) := by decide +kernel
theorem dX1_settle_13 : decode cX1_settle 13 = .ok (.istore_n 2, 1) := by decide +kernel
theorem dX1_settle_14 : decode cX1_settle 14 = .ok (.iload_n 2, 1) := by decide +kernel
theorem dX1_settle_15 : decode cX1_settle 15 = .ok (.ifCond .lt 39, 3) := by decide +kernel
theorem dX1_settle_18 : decode cX1_settle 18 = .ok (.iconst 0, 1) := by decide +kernel
theorem dX1_settle_19 : decode cX1_settle 19 = .ok (.istore_n 3, 1) := by decide +kernel
theorem dX1_settle_20 : decode cX1_settle 20 = .ok (.iload_n 3, 1) := by decide +kernel
theorem dX1_settle_21 : decode cX1_settle 21 = .ok (.bipush 10, 2) := by decide +kernel
theorem dX1_settle_23 : decode cX1_settle 23 = .ok (.if_icmp .ge 25, 3) := by decide +kernel
theorem dX1_settle_26 : decode cX1_settle 26 = .ok (.aload_n 1, 1) := by decide +kernel
theorem dX1_settle_27 : decode cX1_settle 27 = .ok (.getfield 108, 3) := by decide +kernel
theorem dX1_settle_30 : decode cX1_settle 30 = .ok (.iload_n 3, 1) := by decide +kernel
theorem dX1_settle_31 : decode cX1_settle 31 = .ok (.iaload, 1) := by decide +kernel
theorem dX1_settle_32 : decode cX1_settle 32 = .ok (.iload_n 2, 1) := by decide +kernel
theorem dX1_settle_33 : decode cX1_settle 33 = .ok (.if_icmp .ne 9, 3) := by decide +kernel
theorem dX1_settle_36 : decode cX1_settle 36 = .ok (.aload_n 0, 1) := by decide +kernel
theorem dX1_settle_37 : decode cX1_settle 37 = .ok (.aload_n 1, 1) := by decide +kernel
theorem dX1_settle_38 : decode cX1_settle 38 = .ok (.iload_n 3, 1) := by decide +kernel
theorem dX1_settle_39 : decode cX1_settle 39 = .ok (.invokevirtual 111, 3) := by decide +kernel
theorem dX1_settle_42 : decode cX1_settle 42 = .ok (.iinc 3 1, 3) := by decide +kernel
theorem dX1_settle_45 : decode cX1_settle 45 = .ok (.goto (-25), 3) := by decide +kernel
theorem dX1_settle_48 : decode cX1_settle 48 = .ok (.iinc 2 (-1), 3) := by decide +kernel
theorem dX1_settle_51 : decode cX1_settle 51 = .ok (.goto (-37), 3) := by decide +kernel
theorem dX1_settle_54 : decode cX1_settle 54 = .ok (.return_, 1) := by decide +kernel
theorem dX1_settleOne_0 : decode cX1_settleOne 0 = .ok (.aload_n 1, 1) := by decide +kernel
theorem dX1_settleOne_1 : decode cX1_settleOne 1 = .ok (.getfield 115, 3) := by decide +kernel
theorem dX1_settleOne_4 : decode cX1_settleOne 4 = .ok (.iload_n 2, 1) := by decide +kernel
theorem dX1_settleOne_5 : decode cX1_settleOne 5 = .ok (.iaload, 1) := by decide +kernel
theorem dX1_settleOne_6 : decode cX1_settleOne 6 = .ok (.aload_n 0, 1) := by decide +kernel
theorem dX1_settleOne_7 : decode cX1_settleOne 7 = .ok (.getfield 28, 3) := by decide +kernel
theorem dX1_settleOne_10 : decode cX1_settleOne 10 = .ok (.iload_n 2, 1) := by decide +kernel
theorem dX1_settleOne_11 : decode cX1_settleOne 11 = .ok (.bipush 10, 2) := by decide +kernel
theorem dX1_settleOne_13 : decode cX1_settleOne 13 = .ok (.invokevirtual 70, 3) := by decide +kernel
theorem dX1_settleOne_16 : decode cX1_settleOne 16 = .ok (.invokestatic 118, 3) := by decide +kernel
theorem dX1_settleOne_19 : decode cX1_settleOne 19 = .ok (.istore_n 3, 1) := by decide +kernel
theorem dX1_settleOne_20 : decode cX1_settleOne 20 = .ok (.iload_n 3, 1) := by decide +kernel
theorem dX1_settleOne_21 : decode cX1_settleOne 21 = .ok (.aload_n 0, 1) := by decide +kernel
theorem dX1_settleOne_22 : decode cX1_settleOne 22 = .ok (.getfield 28, 3) := by decide +kernel
theorem dX1_settleOne_25 : decode cX1_settleOne 25 = .ok (.iload_n 2, 1) := by decide +kernel
theorem dX1_settleOne_26 : decode cX1_settleOne 26 = .ok (.bipush 10, 2) := by decide +kernel
theorem dX1_settleOne_28 : decode cX1_settleOne 28 = .ok (.invokevirtual 74, 3) := by decide +kernel
theorem dX1_settleOne_31 : decode cX1_settleOne 31 = .ok (.invokestatic 123, 3) := by decide +kernel
theorem dX1_settleOne_34 : decode cX1_settleOne 34 = .ok (.istore 4, 2) := by decide +kernel
theorem dX1_settleOne_36 : decode cX1_settleOne 36 = .ok (.aload_n 1, 1) := by decide +kernel
theorem dX1_settleOne_37 : decode cX1_settleOne 37 = .ok (.getfield 115, 3) := by decide +kernel
theorem dX1_settleOne_40 : decode cX1_settleOne 40 = .ok (.iload_n 2, 1) := by decide +kernel
theorem dX1_settleOne_41 : decode cX1_settleOne 41 = .ok (.iload 4, 2) := by decide +kernel
theorem dX1_settleOne_43 : decode cX1_settleOne 43 = .ok (.iastore, 1) := by decide +kernel
theorem dX1_settleOne_44 : decode cX1_settleOne 44 = .ok (.aload_n 0, 1) := by decide +kernel
theorem dX1_settleOne_45 : decode cX1_settleOne 45 = .ok (.getfield 28, 3) := by decide +kernel
theorem dX1_settleOne_48 : decode cX1_settleOne 48 = .ok (.iload_n 2, 1) := by decide +kernel
theorem dX1_settleOne_49 : decode cX1_settleOne 49 = .ok (.bipush 10, 2) := by decide +kernel
theorem dX1_settleOne_51 : decode cX1_settleOne 51 = .ok (.iload 4, 2) := by decide +kernel
theorem dX1_settleOne_53 : decode cX1_settleOne 53 = .ok (.invokevirtual 100, 3) := by decide +kernel
theorem dX1_settleOne_56 : decode cX1_settleOne 56 = .ok (.aload_n 0, 1) := by decide +kernel
theorem dX1_settleOne_57 : decode cX1_settleOne 57 = .ok (.getfield 28, 3) := by decide +kernel
theorem dX1_settleOne_60 : decode cX1_settleOne 60 = .ok (.bipush 10, 2) := by decide +kernel
theorem dX1_settleOne_62 : decode cX1_settleOne 62 = .ok (.iload_n 2, 1) := by decide +kernel
theorem dX1_settleOne_63 : decode cX1_settleOne 63 = .ok (.iload 4, 2) := by decide +kernel
theorem dX1_settleOne_65 : decode cX1_settleOne 65 = .ok (.ineg, 1) := by decide +kernel
theorem dX1_settleOne_66 : decode cX1_settleOne 66 = .ok (.invokevirtual 100, 3) := by decide +kernel
theorem dX1_settleOne_69 : decode cX1_settleOne 69 = .ok (.return_, 1) := by decide +kernel
theorem dX2_init_0 : decode cX2_init 0 = .ok (.aload_n 0, 1) := by decide +kernel
theorem dX2_init_1 : decode cX2_init 1 = .ok (.invokespecial 3, 3) := by decide +kernel
theorem dX2_init_4 : decode cX2_init 4 = .ok (.aload_n 0, 1) := by decide +kernel
theorem dX2_init_5 : decode cX2_init 5 = .ok (.bipush 8, 2) := by decide +kernel
theorem dX2_init_7 : decode cX2_init 7 = .ok (.anewarray 9, 3) := by decide +kernel
theorem dX2_init_10 : decode cX2_init 10 = .ok (.putfield 11, 3) := by decide +kernel
theorem dX2_init_13 : decode cX2_init 13 = .ok (.iconst 0, 1) := by decide +kernel
theorem dX2_init_14 : decode cX2_init 14 = .ok (.istore_n 1, 1) := by decide +kernel
theorem dX2_init_15 : decode cX2_init 15 = .ok (.iload_n 1, 1) := by decide +kernel
theorem dX2_init_16 : decode cX2_init 16 = .ok (.bipush 8, 2) := by decide +kernel
theorem dX2_init_18 : decode cX2_init 18 = .ok (.if_icmp .ge 22, 3) := by decide +kernel
theorem dX2_init_21 : decode cX2_init 21 = .ok (.aload_n 0, 1) := by decide +kernel
theorem dX2_init_22 : decode cX2_init 22 = .ok (.getfield 11, 3) := by decide +kernel
theorem dX2_init_25 : decode cX2_init 25 = .ok (.iload_n 1, 1) := by decide +kernel
theorem dX2_init_26 : decode cX2_init 26 = .ok (.new 9, 3) := by decide +kernel
theorem dX2_init_29 : decode cX2_init 29 = .ok (.dup, 1) := by decide +kernel
theorem dX2_init_30 : decode cX2_init 30 = .ok (.invokespecial 17, 3) := by decide +kernel
theorem dX2_init_33 : decode cX2_init 33 = .ok (.aastore, 1) := by decide +kernel
theorem dX2_init_34 : decode cX2_init 34 = .ok (.iinc 1 1, 3) := by decide +kernel
theorem dX2_init_37 : decode cX2_init 37 = .ok (.goto (-22), 3) := by decide +kernel
theorem dX2_init_40 : decode cX2_init 40 = .ok (.return_, 1) := by decide +kernel
theorem dX2_save_0 : decode cX2_save 0 = .ok (.aload_n 0, 1) := by decide +kernel
theorem dX2_save_1 : decode cX2_save 1 = .ok (.getfield 11, 3) := by decide +kernel
theorem dX2_save_4 : decode cX2_save 4 = .ok (.aload_n 0, 1) := by decide +kernel
theorem dX2_save_5 : decode cX2_save 5 = .ok (.getfield 18, 3) := by decide +kernel
theorem dX2_save_8 : decode cX2_save 8 = .ok (.aaload, 1) := by decide +kernel
theorem dX2_save_9 : decode cX2_save 9 = .ok (.aload_n 1, 1) := by decide +kernel
theorem dX2_save_10 : decode cX2_save 10 = .ok (.invokevirtual 22, 3) := by decide +kernel
theorem dX2_save_13 : decode cX2_save 13 = .ok (.aload_n 0, 1) := by decide +kernel
theorem dX2_save_14 : decode cX2_save 14 = .ok (.aload_n 0, 1) := by decide +kernel
theorem dX2_save_15 : decode cX2_save 15 = .ok (.getfield 18, 3) := by decide +kernel
theorem dX2_save_18 : decode cX2_save 18 = .ok (.iconst 1, 1) := by decide +kernel
theorem dX2_save_19 : decode cX2_save 19 = .ok (.iadd, 1) := by decide +kernel
theorem dX2_save_20 : decode cX2_save 20 = .ok (.bipush 8, 2) := by decide +kernel
theorem dX2_save_22 : decode cX2_save 22 = .ok (.irem, 1) := by decide +kernel
theorem dX2_save_23 : decode cX2_save 23 = .ok (.putfield 18, 3) := by decide +kernel
theorem dX2_save_26 : decode cX2_save 26 = .ok (.aload_n 0, 1) := by decide +kernel
theorem dX2_save_27 : decode cX2_save 27 = .ok (.aload_n 0, 1) := by decide +kernel
theorem dX2_save_28 : decode cX2_save 28 = .ok (.getfield 26, 3) := by decide +kernel
theorem dX2_save_31 : decode cX2_save 31 = .ok (.iconst 1, 1) := by decide +kernel
theorem dX2_save_32 : decode cX2_save 32 = .ok (.iadd, 1) := by decide +kernel
theorem dX2_save_33 : decode cX2_save 33 = .ok (.bipush 8, 2) := by decide +kernel
theorem dX2_save_35 : decode cX2_save 35 = .ok (.invokestatic 29, 3) := by decide +kernel
theorem dX2_save_38 : decode cX2_save 38 = .ok (.putfield 26, 3) := by decide +kernel
theorem dX2_save_41 : decode cX2_save 41 = .ok (.return_, 1) := by decide +kernel
theorem dX3_init_0 : decode cX3_init 0 = .ok (.aload_n 0, 1) := by decide +kernel
theorem dX3_init_1 : decode cX3_init 1 = .ok (.invokespecial 3, 3) := by decide +kernel
theorem dX3_init_4 : decode cX3_init 4 = .ok (.aload_n 0, 1) := by decide +kernel
theorem dX3_init_5 : decode cX3_init 5 = .ok (.bipush 10, 2) := by decide +kernel
theorem dX3_init_7 : decode cX3_init 7 = .ok (.newarray .int, 2) := by decide +kernel
theorem dX3_init_9 : decode cX3_init 9 = .ok (.putfield 9, 3) := by decide +kernel
theorem dX3_init_12 : decode cX3_init 12 = .ok (.aload_n 0, 1) := by decide +kernel
theorem dX3_init_13 : decode cX3_init 13 = .ok (.bipush 10, 2) := by decide +kernel
theorem dX3_init_15 : decode cX3_init 15 = .ok (.newarray .int, 2) := by decide +kernel
theorem dX3_init_17 : decode cX3_init 17 = .ok (.putfield 15, 3) := by decide +kernel
theorem dX3_init_20 : decode cX3_init 20 = .ok (.aload_n 0, 1) := by decide +kernel
theorem dX3_init_21 : decode cX3_init 21 = .ok (.new 18, 3) := by decide +kernel
theorem dX3_init_24 : decode cX3_init 24 = .ok (.dup, 1) := by decide +kernel
theorem dX3_init_25 : decode cX3_init 25 = .ok (.invokespecial 20, 3) := by decide +kernel
theorem dX3_init_28 : decode cX3_init 28 = .ok (.putfield 21, 3) := by decide +kernel
theorem dX3_init_31 : decode cX3_init 31 = .ok (.aload_n 0, 1) := by decide +kernel
theorem dX3_init_32 : decode cX3_init 32 = .ok (.new 18, 3) := by decide +kernel
theorem dX3_init_35 : decode cX3_init 35 = .ok (.dup, 1) := by decide +kernel
theorem dX3_init_36 : decode cX3_init 36 = .ok (.invokespecial 20, 3) := by decide +kernel
theorem dX3_init_39 : decode cX3_init 39 = .ok (.putfield 25, 3) := by decide +kernel
theorem dX3_init_42 : decode cX3_init 42 = .ok (.iconst 0, 1) := by decide +kernel
theorem dX3_init_43 : decode cX3_init 43 = .ok (.istore_n 1, 1) := by decide +kernel
theorem dX3_init_44 : decode cX3_init 44 = .ok (.iload_n 1, 1) := by decide +kernel
theorem dX3_init_45 : decode cX3_init 45 = .ok (.bipush 10, 2) := by decide +kernel
theorem dX3_init_47 : decode cX3_init 47 = .ok (.if_icmp .ge 16, 3) := by decide +kernel
theorem dX3_init_50 : decode cX3_init 50 = .ok (.aload_n 0, 1) := by decide +kernel
theorem dX3_init_51 : decode cX3_init 51 = .ok (.getfield 15, 3) := by decide +kernel
theorem dX3_init_54 : decode cX3_init 54 = .ok (.iload_n 1, 1) := by decide +kernel
theorem dX3_init_55 : decode cX3_init 55 = .ok (.iconst 5, 1) := by decide +kernel
theorem dX3_init_56 : decode cX3_init 56 = .ok (.iastore, 1) := by decide +kernel
theorem dX3_init_57 : decode cX3_init 57 = .ok (.iinc 1 1, 3) := by decide +kernel
theorem dX3_init_60 : decode cX3_init 60 = .ok (.goto (-16), 3) := by decide +kernel
theorem dX3_init_63 : decode cX3_init 63 = .ok (.return_, 1) := by decide +kernel
theorem dX3_copyFrom_0 : decode cX3_copyFrom 0 = .ok (.iconst 0, 1) := by decide +kernel
theorem dX3_copyFrom_1 : decode cX3_copyFrom 1 = .ok (.istore_n 2, 1) := by decide +kernel
theorem dX3_copyFrom_2 : decode cX3_copyFrom 2 = .ok (.iload_n 2, 1) := by decide +kernel
theorem dX3_copyFrom_3 : decode cX3_copyFrom 3 = .ok (.bipush 10, 2) := by decide +kernel
theorem dX3_copyFrom_5 : decode cX3_copyFrom 5 = .ok (.if_icmp .ge 33, 3) := by decide +kernel
theorem dX3_copyFrom_8 : decode cX3_copyFrom 8 = .ok (.aload_n 0, 1) := by decide +kernel
theorem dX3_copyFrom_9 : decode cX3_copyFrom 9 = .ok (.getfield 9, 3) := by decide +kernel
theorem dX3_copyFrom_12 : decode cX3_copyFrom 12 = .ok (.iload_n 2, 1) := by decide +kernel
theorem dX3_copyFrom_13 : decode cX3_copyFrom 13 = .ok (.aload_n 1, 1) := by decide +kernel
theorem dX3_copyFrom_14 : decode cX3_copyFrom 14 = .ok (.getfield 9, 3) := by decide +kernel
theorem dX3_copyFrom_17 : decode cX3_copyFrom 17 = .ok (.iload_n 2, 1) := by decide +kernel
theorem dX3_copyFrom_18 : decode cX3_copyFrom 18 = .ok (.iaload, 1) := by decide +kernel
theorem dX3_copyFrom_19 : decode cX3_copyFrom 19 = .ok (.iastore, 1) := by decide +kernel
theorem dX3_copyFrom_20 : decode cX3_copyFrom 20 = .ok (.aload_n 0, 1) := by decide +kernel
theorem dX3_copyFrom_21 : decode cX3_copyFrom 21 = .ok (.getfield 15, 3) := by decide +kernel
theorem dX3_copyFrom_24 : decode cX3_copyFrom 24 = .ok (.iload_n 2, 1) := by decide +kernel
theorem dX3_copyFrom_25 : decode cX3_copyFrom 25 = .ok (.aload_n 1, 1) := by decide +kernel
theorem dX3_copyFrom_26 : decode cX3_copyFrom 26 = .ok (.getfield 15, 3) := by decide +kernel
theorem dX3_copyFrom_29 : decode cX3_copyFrom 29 = .ok (.iload_n 2, 1) := by decide +kernel
theorem dX3_copyFrom_30 : decode cX3_copyFrom 30 = .ok (.iaload, 1) := by decide +kernel
theorem dX3_copyFrom_31 : decode cX3_copyFrom 31 = .ok (.iastore, 1) := by decide +kernel
theorem dX3_copyFrom_32 : decode cX3_copyFrom 32 = .ok (.iinc 2 1, 3) := by decide +kernel
theorem dX3_copyFrom_35 : decode cX3_copyFrom 35 = .ok (.goto (-33), 3) := by decide +kernel
theorem dX3_copyFrom_38 : decode cX3_copyFrom 38 = .ok (.aload_n 0, 1) := by decide +kernel
theorem dX3_copyFrom_39 : decode cX3_copyFrom 39 = .ok (.getfield 21, 3) := by decide +kernel
theorem dX3_copyFrom_42 : decode cX3_copyFrom 42 = .ok (.aload_n 1, 1) := by decide +kernel
theorem dX3_copyFrom_43 : decode cX3_copyFrom 43 = .ok (.getfield 21, 3) := by decide +kernel
theorem dX3_copyFrom_46 : decode cX3_copyFrom 46 = .ok (.invokevirtual 28, 3) := by decide +kernel
theorem dX3_copyFrom_49 : decode cX3_copyFrom 49 = .ok (.aload_n 0, 1) := by decide +kernel
theorem dX3_copyFrom_50 : decode cX3_copyFrom 50 = .ok (.getfield 25, 3) := by decide +kernel
theorem dX3_copyFrom_53 : decode cX3_copyFrom 53 = .ok (.aload_n 1, 1) := by decide +kernel
theorem dX3_copyFrom_54 : decode cX3_copyFrom 54 = .ok (.getfield 25, 3) := by decide +kernel
theorem dX3_copyFrom_57 : decode cX3_copyFrom 57 = .ok (.invokevirtual 28, 3) := by decide +kernel
theorem dX3_copyFrom_60 : decode cX3_copyFrom 60 = .ok (.return_, 1) := by decide +kernel
theorem dX3_editOf_0 : decode cX3_editOf 0 = .ok (.iconst 0, 1) := by decide +kernel
theorem dX3_editOf_1 : decode cX3_editOf 1 = .ok (.istore_n 2, 1) := by decide +kernel
theorem dX3_editOf_2 : decode cX3_editOf 2 = .ok (.iload_n 2, 1) := by decide +kernel
theorem dX3_editOf_3 : decode cX3_editOf 3 = .ok (.aload_n 0, 1) := by decide +kernel
theorem dX3_editOf_4 : decode cX3_editOf 4 = .ok (.getfield 25, 3) := by decide +kernel
theorem dX3_editOf_7 : decode cX3_editOf 7 = .ok (.getfield 32, 3) := by decide +kernel
theorem dX3_editOf_10 : decode cX3_editOf 10 = .ok (.if_icmp .ge 24, 3) := by decide +kernel
theorem dX3_editOf_13 : decode cX3_editOf 13 = .ok (.aload_n 0, 1) := by decide +kernel
theorem dX3_editOf_14 : decode cX3_editOf 14 = .ok (.getfield 25, 3) := by decide +kernel
theorem dX3_editOf_17 : decode cX3_editOf 17 = .ok (.getfield 36, 3) := by decide +kernel
theorem dX3_editOf_20 : decode cX3_editOf 20 = .ok (.iload_n 2, 1) := by decide +kernel
theorem dX3_editOf_21 : decode cX3_editOf 21 = .ok (.iaload, 1) := by decide +kernel
theorem dX3_editOf_22 : decode cX3_editOf 22 = .ok (.iload_n 1, 1) := by decide +kernel
theorem dX3_editOf_23 : decode cX3_editOf 23 = .ok (.if_icmp .ne 5, 3) := by decide +kernel
theorem dX3_editOf_26 : decode cX3_editOf 26 = .ok (.iload_n 2, 1) := by decide +kernel
theorem dX3_editOf_27 : decode cX3_editOf 27 = .ok (.ireturn, 1) := by decide +kernel
theorem dX3_editOf_28 : decode cX3_editOf 28 = .ok (.iinc 2 1, 3) := by decide +kernel
theorem dX3_editOf_31 : decode cX3_editOf 31 = .ok (.goto (-29), 3) := by decide +kernel
theorem dX3_editOf_34 : decode cX3_editOf 34 = .ok (.iconst (-1), 1) := by decide +kernel
theorem dX3_editOf_35 : decode cX3_editOf 35 = .ok (.ireturn, 1) := by decide +kernel
theorem dX3_wishFor_0 : decode cX3_wishFor 0 = .ok (.aload_n 0, 1) := by decide +kernel
theorem dX3_wishFor_1 : decode cX3_wishFor 1 = .ok (.iload_n 1, 1) := by decide +kernel
theorem dX3_wishFor_2 : decode cX3_wishFor 2 = .ok (.invokevirtual 39, 3) := by decide +kernel
theorem dX3_wishFor_5 : decode cX3_wishFor 5 = .ok (.istore 4, 2) := by decide +kernel
theorem dX3_wishFor_7 : decode cX3_wishFor 7 = .ok (.iload 4, 2) := by decide +kernel
theorem dX3_wishFor_9 : decode cX3_wishFor 9 = .ok (.iconst (-1), 1) := by decide +kernel
theorem dX3_wishFor_10 : decode cX3_wishFor 10 = .ok (.if_icmp .ne 18, 3) := by decide +kernel
theorem dX3_wishFor_13 : decode cX3_wishFor 13 = .ok (.aload_n 0, 1) := by decide +kernel
theorem dX3_wishFor_14 : decode cX3_wishFor 14 = .ok (.getfield 25, 3) := by decide +kernel
theorem dX3_wishFor_17 : decode cX3_wishFor 17 = .ok (.iload_n 1, 1) := by decide +kernel
theorem dX3_wishFor_18 : decode cX3_wishFor 18 = .ok (.iconst (-1), 1) := by decide +kernel
theorem dX3_wishFor_19 : decode cX3_wishFor 19 = .ok (.iconst 1, 1) := by decide +kernel
theorem dX3_wishFor_20 : decode cX3_wishFor 20 = .ok (.iload_n 2, 1) := by decide +kernel
theorem dX3_wishFor_21 : decode cX3_wishFor 21 = .ok (.iload_n 3, 1) := by decide +kernel
theorem dX3_wishFor_22 : decode cX3_wishFor 22 = .ok (.invokevirtual 43, 3) := by decide +kernel
theorem dX3_wishFor_25 : decode cX3_wishFor 25 = .ok (.goto 25, 3) := by decide +kernel
theorem dX3_wishFor_28 : decode cX3_wishFor 28 = .ok (.aload_n 0, 1) := by decide +kernel
theorem dX3_wishFor_29 : decode cX3_wishFor 29 = .ok (.getfield 25, 3) := by decide +kernel
theorem dX3_wishFor_32 : decode cX3_wishFor 32 = .ok (.getfield 47, 3) := by decide +kernel
theorem dX3_wishFor_35 : decode cX3_wishFor 35 = .ok (.iload 4, 2) := by decide +kernel
theorem dX3_wishFor_37 : decode cX3_wishFor 37 = .ok (.iload_n 2, 1) := by decide +kernel
theorem dX3_wishFor_38 : decode cX3_wishFor 38 = .ok (.iastore, 1) := by decide +kernel
theorem dX3_wishFor_39 : decode cX3_wishFor 39 = .ok (.aload_n 0, 1) := by decide +kernel
theorem dX3_wishFor_40 : decode cX3_wishFor 40 = .ok (.getfield 25, 3) := by decide +kernel
theorem dX3_wishFor_43 : decode cX3_wishFor 43 = .ok (.getfield 50, 3) := by decide +kernel
theorem dX3_wishFor_46 : decode cX3_wishFor 46 = .ok (.iload 4, 2) := by decide +kernel
theorem dX3_wishFor_48 : decode cX3_wishFor 48 = .ok (.iload_n 3, 1) := by decide +kernel
theorem dX3_wishFor_49 : decode cX3_wishFor 49 = .ok (.iastore, 1) := by decide +kernel
theorem dX3_wishFor_50 : decode cX3_wishFor 50 = .ok (.return_, 1) := by decide +kernel
theorem dX3_holds_0 : decode cX3_holds 0 = .ok (.aload_n 0, 1) := by decide +kernel
theorem dX3_holds_1 : decode cX3_holds 1 = .ok (.getfield 21, 3) := by decide +kernel
theorem dX3_holds_4 : decode cX3_holds 4 = .ok (.getfield 53, 3) := by decide +kernel
theorem dX3_holds_7 : decode cX3_holds 7 = .ok (.iload_n 1, 1) := by decide +kernel
theorem dX3_holds_8 : decode cX3_holds 8 = .ok (.iaload, 1) := by decide +kernel
theorem dX3_holds_9 : decode cX3_holds 9 = .ok (.istore_n 2, 1) := by decide +kernel
theorem dX3_holds_10 : decode cX3_holds 10 = .ok (.aload_n 0, 1) := by decide +kernel
theorem dX3_holds_11 : decode cX3_holds 11 = .ok (.getfield 9, 3) := by decide +kernel
theorem dX3_holds_14 : decode cX3_holds 14 = .ok (.aload_n 0, 1) := by decide +kernel
theorem dX3_holds_15 : decode cX3_holds 15 = .ok (.getfield 21, 3) := by decide +kernel
theorem dX3_holds_18 : decode cX3_holds 18 = .ok (.getfield 36, 3) := by decide +kernel
theorem dX3_holds_21 : decode cX3_holds 21 = .ok (.iload_n 1, 1) := by decide +kernel
theorem dX3_holds_22 : decode cX3_holds 22 = .ok (.iaload, 1) := by decide +kernel
theorem dX3_holds_23 : decode cX3_holds 23 = .ok (.iaload, 1) := by decide +kernel
theorem dX3_holds_24 : decode cX3_holds 24 = .ok (.iload_n 2, 1) := by decide +kernel
theorem dX3_holds_25 : decode cX3_holds 25 = .ok (.iconst (-1), 1) := by decide +kernel
theorem dX3_holds_26 : decode cX3_holds 26 = .ok (.if_icmp .ne 7, 3) := by decide +kernel
theorem dX3_holds_29 : decode cX3_holds 29 = .ok (.iconst 0, 1) := by decide +kernel
theorem dX3_holds_30 : decode cX3_holds 30 = .ok (.goto 9, 3) := by decide +kernel
theorem dX3_holds_33 : decode cX3_holds 33 = .ok (.aload_n 0, 1) := by decide +kernel
theorem dX3_holds_34 : decode cX3_holds 34 = .ok (.getfield 9, 3) := by decide +kernel
theorem dX3_holds_37 : decode cX3_holds 37 = .ok (.iload_n 2, 1) := by decide +kernel
theorem dX3_holds_38 : decode cX3_holds 38 = .ok (.iaload, 1) := by decide +kernel
theorem dX3_holds_39 : decode cX3_holds 39 = .ok (.isub, 1) := by decide +kernel
theorem dX3_holds_40 : decode cX3_holds 40 = .ok (.istore_n 3, 1) := by decide +kernel
theorem dX3_holds_41 : decode cX3_holds 41 = .ok (.aload_n 0, 1) := by decide +kernel
theorem dX3_holds_42 : decode cX3_holds 42 = .ok (.getfield 21, 3) := by decide +kernel
theorem dX3_holds_45 : decode cX3_holds 45 = .ok (.iload_n 1, 1) := by decide +kernel
theorem dX3_holds_46 : decode cX3_holds 46 = .ok (.iload_n 3, 1) := by decide +kernel
theorem dX3_holds_47 : decode cX3_holds 47 = .ok (.iload_n 3, 1) := by decide +kernel
theorem dX3_holds_48 : decode cX3_holds 48 = .ok (.invokevirtual 56, 3) := by decide +kernel
theorem dX3_holds_51 : decode cX3_holds 51 = .ok (.ireturn, 1) := by decide +kernel
theorem dX4_init_0 : decode cX4_init 0 = .ok (.aload_n 0, 1) := by decide +kernel
theorem dX4_init_1 : decode cX4_init 1 = .ok (.invokespecial 3, 3) := by decide +kernel
theorem dX4_init_4 : decode cX4_init 4 = .ok (.aload_n 0, 1) := by decide +kernel
theorem dX4_init_5 : decode cX4_init 5 = .ok (.bipush 16, 2) := by decide +kernel
theorem dX4_init_7 : decode cX4_init 7 = .ok (.newarray .int, 2) := by decide +kernel
theorem dX4_init_9 : decode cX4_init 9 = .ok (.putfield 9, 3) := by decide +kernel
theorem dX4_init_12 : decode cX4_init 12 = .ok (.aload_n 0, 1) := by decide +kernel
theorem dX4_init_13 : decode cX4_init 13 = .ok (.bipush 16, 2) := by decide +kernel
theorem dX4_init_15 : decode cX4_init 15 = .ok (.newarray .int, 2) := by decide +kernel
theorem dX4_init_17 : decode cX4_init 17 = .ok (.putfield 15, 3) := by decide +kernel
theorem dX4_init_20 : decode cX4_init 20 = .ok (.return_, 1) := by decide +kernel
theorem dX4_filledOne_0 : decode cX4_filledOne 0 = .ok (.aload_n 0, 1) := by decide +kernel
theorem dX4_filledOne_1 : decode cX4_filledOne 1 = .ok (.getfield 18, 3) := by decide +kernel
theorem dX4_filledOne_4 : decode cX4_filledOne 4 = .ok (.iload_n 1, 1) := by decide +kernel
theorem dX4_filledOne_5 : decode cX4_filledOne 5 = .ok (.ishr, 1) := by decide +kernel
theorem dX4_filledOne_6 : decode cX4_filledOne 6 = .ok (.iconst 1, 1) := by decide +kernel
theorem dX4_filledOne_7 : decode cX4_filledOne 7 = .ok (.iand, 1) := by decide +kernel
theorem dX4_filledOne_8 : decode cX4_filledOne 8 = .ok (.ireturn, 1) := by decide +kernel
theorem dX5_init_0 : decode cX5_init 0 = .ok (.aload_n 0, 1) := by decide +kernel
theorem dX5_init_1 : decode cX5_init 1 = .ok (.invokespecial 3, 3) := by decide +kernel
theorem dX5_init_4 : decode cX5_init 4 = .ok (.aload_n 0, 1) := by decide +kernel
theorem dX5_init_5 : decode cX5_init 5 = .ok (.bipush 16, 2) := by decide +kernel
theorem dX5_init_7 : decode cX5_init 7 = .ok (.newarray .int, 2) := by decide +kernel
theorem dX5_init_9 : decode cX5_init 9 = .ok (.putfield 9, 3) := by decide +kernel
theorem dX5_init_12 : decode cX5_init 12 = .ok (.aload_n 0, 1) := by decide +kernel
theorem dX5_init_13 : decode cX5_init 13 = .ok (.bipush 16, 2) := by decide +kernel
theorem dX5_init_15 : decode cX5_init 15 = .ok (.newarray .int, 2) := by decide +kernel
theorem dX5_init_17 : decode cX5_init 17 = .ok (.putfield 15, 3) := by decide +kernel
theorem dX5_init_20 : decode cX5_init 20 = .ok (.aload_n 0, 1) := by decide +kernel
theorem dX5_init_21 : decode cX5_init 21 = .ok (.bipush 16, 2) := by decide +kernel
theorem dX5_init_23 : decode cX5_init 23 = .ok (.newarray .int, 2) := by decide +kernel
theorem dX5_init_25 : decode cX5_init 25 = .ok (.putfield 18, 3) := by decide +kernel
theorem dX5_init_28 : decode cX5_init 28 = .ok (.aload_n 0, 1) := by decide +kernel
theorem dX5_init_29 : decode cX5_init 29 = .ok (.bipush 16, 2) := by decide +kernel
theorem dX5_init_31 : decode cX5_init 31 = .ok (.newarray .int, 2) := by decide +kernel
theorem dX5_init_33 : decode cX5_init 33 = .ok (.putfield 21, 3) := by decide +kernel
theorem dX5_init_36 : decode cX5_init 36 = .ok (.aload_n 0, 1) := by decide +kernel
theorem dX5_init_37 : decode cX5_init 37 = .ok (.bipush 16, 2) := by decide +kernel
theorem dX5_init_39 : decode cX5_init 39 = .ok (.newarray .int, 2) := by decide +kernel
theorem dX5_init_41 : decode cX5_init 41 = .ok (.putfield 24, 3) := by decide +kernel
theorem dX5_init_44 : decode cX5_init 44 = .ok (.return_, 1) := by decide +kernel
theorem dX5_push_0 : decode cX5_push 0 = .ok (.aload_n 0, 1) := by decide +kernel
theorem dX5_push_1 : decode cX5_push 1 = .ok (.getfield 27, 3) := by decide +kernel
theorem dX5_push_4 : decode cX5_push 4 = .ok (.bipush 16, 2) := by decide +kernel
theorem dX5_push_6 : decode cX5_push 6 = .ok (.if_icmp .lt 4, 3) := by decide +kernel
theorem dX5_push_9 : decode cX5_push 9 = .ok (.return_, 1) := by decide +kernel
theorem dX5_push_10 : decode cX5_push 10 = .ok (.aload_n 0, 1) := by decide +kernel
theorem dX5_push_11 : decode cX5_push 11 = .ok (.getfield 9, 3) := by decide +kernel
theorem dX5_push_14 : decode cX5_push 14 = .ok (.aload_n 0, 1) := by decide +kernel
theorem dX5_push_15 : decode cX5_push 15 = .ok (.getfield 27, 3) := by decide +kernel
theorem dX5_push_18 : decode cX5_push 18 = .ok (.iload_n 1, 1) := by decide +kernel
theorem dX5_push_19 : decode cX5_push 19 = .ok (.iastore, 1) := by decide +kernel
theorem dX5_push_20 : decode cX5_push 20 = .ok (.aload_n 0, 1) := by decide +kernel
theorem dX5_push_21 : decode cX5_push 21 = .ok (.getfield 15, 3) := by decide +kernel
theorem dX5_push_24 : decode cX5_push 24 = .ok (.aload_n 0, 1) := by decide +kernel
theorem dX5_push_25 : decode cX5_push 25 = .ok (.getfield 27, 3) := by decide +kernel
theorem dX5_push_28 : decode cX5_push 28 = .ok (.iload_n 2, 1) := by decide +kernel
theorem dX5_push_29 : decode cX5_push 29 = .ok (.iastore, 1) := by decide +kernel
theorem dX5_push_30 : decode cX5_push 30 = .ok (.aload_n 0, 1) := by decide +kernel
theorem dX5_push_31 : decode cX5_push 31 = .ok (.getfield 18, 3) := by decide +kernel
theorem dX5_push_34 : decode cX5_push 34 = .ok (.aload_n 0, 1) := by decide +kernel
theorem dX5_push_35 : decode cX5_push 35 = .ok (.getfield 27, 3) := by decide +kernel
theorem dX5_push_38 : decode cX5_push 38 = .ok (.iload_n 3, 1) := by decide +kernel
theorem dX5_push_39 : decode cX5_push 39 = .ok (.iastore, 1) := by decide +kernel
theorem dX5_push_40 : decode cX5_push 40 = .ok (.aload_n 0, 1) := by decide +kernel
theorem dX5_push_41 : decode cX5_push 41 = .ok (.getfield 21, 3) := by decide +kernel
theorem dX5_push_44 : decode cX5_push 44 = .ok (.aload_n 0, 1) := by decide +kernel
theorem dX5_push_45 : decode cX5_push 45 = .ok (.getfield 27, 3) := by decide +kernel
theorem dX5_push_48 : decode cX5_push 48 = .ok (.iload 4, 2) := by decide +kernel
theorem dX5_push_50 : decode cX5_push 50 = .ok (.iastore, 1) := by decide +kernel
theorem dX5_push_51 : decode cX5_push 51 = .ok (.aload_n 0, 1) := by decide +kernel
theorem dX5_push_52 : decode cX5_push 52 = .ok (.getfield 24, 3) := by decide +kernel
theorem dX5_push_55 : decode cX5_push 55 = .ok (.aload_n 0, 1) := by decide +kernel
theorem dX5_push_56 : decode cX5_push 56 = .ok (.getfield 27, 3) := by decide +kernel
theorem dX5_push_59 : decode cX5_push 59 = .ok (.iload 5, 2) := by decide +kernel
theorem dX5_push_61 : decode cX5_push 61 = .ok (.iastore, 1) := by decide +kernel
theorem dX5_push_62 : decode cX5_push 62 = .ok (.aload_n 0, 1) := by decide +kernel
theorem dX5_push_63 : decode cX5_push 63 = .ok (.dup, 1) := by decide +kernel
theorem dX5_push_64 : decode cX5_push 64 = .ok (.getfield 27, 3) := by decide +kernel
theorem dX5_push_67 : decode cX5_push 67 = .ok (.iconst 1, 1) := by decide +kernel
theorem dX5_push_68 : decode cX5_push 68 = .ok (.iadd, 1) := by decide +kernel
theorem dX5_push_69 : decode cX5_push 69 = .ok (.putfield 27, 3) := by decide +kernel
theorem dX5_push_72 : decode cX5_push 72 = .ok (.return_, 1) := by decide +kernel
theorem dX5_pushRowOf_0 : decode cX5_pushRowOf 0 = .ok (.aload_n 0, 1) := by decide +kernel
theorem dX5_pushRowOf_1 : decode cX5_pushRowOf 1 = .ok (.aload_n 1, 1) := by decide +kernel
theorem dX5_pushRowOf_2 : decode cX5_pushRowOf 2 = .ok (.getfield 9, 3) := by decide +kernel
theorem dX5_pushRowOf_5 : decode cX5_pushRowOf 5 = .ok (.iload_n 2, 1) := by decide +kernel
theorem dX5_pushRowOf_6 : decode cX5_pushRowOf 6 = .ok (.iaload, 1) := by decide +kernel
theorem dX5_pushRowOf_7 : decode cX5_pushRowOf 7 = .ok (.aload_n 1, 1) := by decide +kernel
theorem dX5_pushRowOf_8 : decode cX5_pushRowOf 8 = .ok (.getfield 15, 3) := by decide +kernel
theorem dX5_pushRowOf_11 : decode cX5_pushRowOf 11 = .ok (.iload_n 2, 1) := by decide +kernel
theorem dX5_pushRowOf_12 : decode cX5_pushRowOf 12 = .ok (.iaload, 1) := by decide +kernel
theorem dX5_pushRowOf_13 : decode cX5_pushRowOf 13 = .ok (.aload_n 1, 1) := by decide +kernel
theorem dX5_pushRowOf_14 : decode cX5_pushRowOf 14 = .ok (.getfield 18, 3) := by decide +kernel
theorem dX5_pushRowOf_17 : decode cX5_pushRowOf 17 = .ok (.iload_n 2, 1) := by decide +kernel
theorem dX5_pushRowOf_18 : decode cX5_pushRowOf 18 = .ok (.iaload, 1) := by decide +kernel
theorem dX5_pushRowOf_19 : decode cX5_pushRowOf 19 = .ok (.aload_n 1, 1) := by decide +kernel
theorem dX5_pushRowOf_20 : decode cX5_pushRowOf 20 = .ok (.getfield 21, 3) := by decide +kernel
theorem dX5_pushRowOf_23 : decode cX5_pushRowOf 23 = .ok (.iload_n 2, 1) := by decide +kernel
theorem dX5_pushRowOf_24 : decode cX5_pushRowOf 24 = .ok (.iaload, 1) := by decide +kernel
theorem dX5_pushRowOf_25 : decode cX5_pushRowOf 25 = .ok (.aload_n 1, 1) := by decide +kernel
theorem dX5_pushRowOf_26 : decode cX5_pushRowOf 26 = .ok (.getfield 24, 3) := by decide +kernel
theorem dX5_pushRowOf_29 : decode cX5_pushRowOf 29 = .ok (.iload_n 2, 1) := by decide +kernel
theorem dX5_pushRowOf_30 : decode cX5_pushRowOf 30 = .ok (.iaload, 1) := by decide +kernel
theorem dX5_pushRowOf_31 : decode cX5_pushRowOf 31 = .ok (.invokevirtual 31, 3) := by decide +kernel
theorem dX5_pushRowOf_34 : decode cX5_pushRowOf 34 = .ok (.return_, 1) := by decide +kernel
theorem dX5_drop_0 : decode cX5_drop 0 = .ok (.aload_n 0, 1) := by decide +kernel
theorem dX5_drop_1 : decode cX5_drop 1 = .ok (.getfield 27, 3) := by decide +kernel
theorem dX5_drop_4 : decode cX5_drop 4 = .ok (.istore_n 2, 1) := by decide +kernel
theorem dX5_drop_5 : decode cX5_drop 5 = .ok (.aload_n 0, 1) := by decide +kernel
theorem dX5_drop_6 : decode cX5_drop 6 = .ok (.iload_n 1, 1) := by decide +kernel
theorem dX5_drop_7 : decode cX5_drop 7 = .ok (.putfield 27, 3) := by decide +kernel
theorem dX5_drop_10 : decode cX5_drop 10 = .ok (.iload_n 1, 1) := by decide +kernel
theorem dX5_drop_11 : decode cX5_drop 11 = .ok (.iconst 1, 1) := by decide +kernel
theorem dX5_drop_12 : decode cX5_drop 12 = .ok (.iadd, 1) := by decide +kernel
theorem dX5_drop_13 : decode cX5_drop 13 = .ok (.istore_n 3, 1) := by decide +kernel
theorem dX5_drop_14 : decode cX5_drop 14 = .ok (.iload_n 3, 1) := by decide +kernel
theorem dX5_drop_15 : decode cX5_drop 15 = .ok (.iload_n 2, 1) := by decide +kernel
theorem dX5_drop_16 : decode cX5_drop 16 = .ok (.if_icmp .ge 15, 3) := by decide +kernel
theorem dX5_drop_19 : decode cX5_drop 19 = .ok (.aload_n 0, 1) := by decide +kernel
theorem dX5_drop_20 : decode cX5_drop 20 = .ok (.aload_n 0, 1) := by decide +kernel
theorem dX5_drop_21 : decode cX5_drop 21 = .ok (.iload_n 3, 1) := by decide +kernel
theorem dX5_drop_22 : decode cX5_drop 22 = .ok (.invokevirtual 35, 3) := by decide +kernel
theorem dX5_drop_25 : decode cX5_drop 25 = .ok (.iinc 3 1, 3) := by decide +kernel
theorem dX5_drop_28 : decode cX5_drop 28 = .ok (.goto (-14), 3) := by decide +kernel
theorem dX5_drop_31 : decode cX5_drop 31 = .ok (.return_, 1) := by decide +kernel
theorem dX5_copyFrom_0 : decode cX5_copyFrom 0 = .ok (.aload_n 0, 1) := by decide +kernel
theorem dX5_copyFrom_1 : decode cX5_copyFrom 1 = .ok (.iconst 0, 1) := by decide +kernel
theorem dX5_copyFrom_2 : decode cX5_copyFrom 2 = .ok (.putfield 27, 3) := by decide +kernel
theorem dX5_copyFrom_5 : decode cX5_copyFrom 5 = .ok (.iconst 0, 1) := by decide +kernel
theorem dX5_copyFrom_6 : decode cX5_copyFrom 6 = .ok (.istore_n 2, 1) := by decide +kernel
theorem dX5_copyFrom_7 : decode cX5_copyFrom 7 = .ok (.iload_n 2, 1) := by decide +kernel
theorem dX5_copyFrom_8 : decode cX5_copyFrom 8 = .ok (.aload_n 1, 1) := by decide +kernel
theorem dX5_copyFrom_9 : decode cX5_copyFrom 9 = .ok (.getfield 27, 3) := by decide +kernel
theorem dX5_copyFrom_12 : decode cX5_copyFrom 12 = .ok (.if_icmp .ge 15, 3) := by decide +kernel
theorem dX5_copyFrom_15 : decode cX5_copyFrom 15 = .ok (.aload_n 0, 1) := by decide +kernel
theorem dX5_copyFrom_16 : decode cX5_copyFrom 16 = .ok (.aload_n 1, 1) := by decide +kernel
theorem dX5_copyFrom_17 : decode cX5_copyFrom 17 = .ok (.iload_n 2, 1) := by decide +kernel
theorem dX5_copyFrom_18 : decode cX5_copyFrom 18 = .ok (.invokevirtual 35, 3) := by decide +kernel
theorem dX5_copyFrom_21 : decode cX5_copyFrom 21 = .ok (.iinc 2 1, 3) := by decide +kernel
theorem dX5_copyFrom_24 : decode cX5_copyFrom 24 = .ok (.goto (-17), 3) := by decide +kernel
theorem dX5_copyFrom_27 : decode cX5_copyFrom 27 = .ok (.return_, 1) := by decide +kernel
theorem dX5_rowsWith_0 : decode cX5_rowsWith 0 = .ok (.iconst 0, 1) := by decide +kernel
theorem dX5_rowsWith_1 : decode cX5_rowsWith 1 = .ok (.istore_n 2, 1) := by decide +kernel
theorem dX5_rowsWith_2 : decode cX5_rowsWith 2 = .ok (.iconst 0, 1) := by decide +kernel
theorem dX5_rowsWith_3 : decode cX5_rowsWith 3 = .ok (.istore_n 3, 1) := by decide +kernel
theorem dX5_rowsWith_4 : decode cX5_rowsWith 4 = .ok (.iload_n 3, 1) := by decide +kernel
theorem dX5_rowsWith_5 : decode cX5_rowsWith 5 = .ok (.aload_n 0, 1) := by decide +kernel
theorem dX5_rowsWith_6 : decode cX5_rowsWith 6 = .ok (.getfield 27, 3) := by decide +kernel
theorem dX5_rowsWith_9 : decode cX5_rowsWith 9 = .ok (.if_icmp .ge 32, 3) := by decide +kernel
theorem dX5_rowsWith_12 : decode cX5_rowsWith 12 = .ok (.aload_n 0, 1) := by decide +kernel
theorem dX5_rowsWith_13 : decode cX5_rowsWith 13 = .ok (.getfield 9, 3) := by decide +kernel
theorem dX5_rowsWith_16 : decode cX5_rowsWith 16 = .ok (.iload_n 3, 1) := by decide +kernel
theorem dX5_rowsWith_17 : decode cX5_rowsWith 17 = .ok (.iaload, 1) := by decide +kernel
theorem dX5_rowsWith_18 : decode cX5_rowsWith 18 = .ok (.iload_n 1, 1) := by decide +kernel
theorem dX5_rowsWith_19 : decode cX5_rowsWith 19 = .ok (.if_icmp .eq 13, 3) := by decide +kernel
theorem dX5_rowsWith_22 : decode cX5_rowsWith 22 = .ok (.aload_n 0, 1) := by decide +kernel
theorem dX5_rowsWith_23 : decode cX5_rowsWith 23 = .ok (.getfield 15, 3) := by decide +kernel
theorem dX5_rowsWith_26 : decode cX5_rowsWith 26 = .ok (.iload_n 3, 1) := by decide +kernel
theorem dX5_rowsWith_27 : decode cX5_rowsWith 27 = .ok (.iaload, 1) := by decide +kernel
theorem dX5_rowsWith_28 : decode cX5_rowsWith 28 = .ok (.iload_n 1, 1) := by decide +kernel
theorem dX5_rowsWith_29 : decode cX5_rowsWith 29 = .ok (.if_icmp .ne 6, 3) := by decide +kernel
theorem dX5_rowsWith_32 : decode cX5_rowsWith 32 = .ok (.iinc 2 1, 3) := by decide +kernel
theorem dX5_rowsWith_35 : decode cX5_rowsWith 35 = .ok (.iinc 3 1, 3) := by decide +kernel
theorem dX5_rowsWith_38 : decode cX5_rowsWith 38 = .ok (.goto (-34), 3) := by decide +kernel
theorem dX5_rowsWith_41 : decode cX5_rowsWith 41 = .ok (.iload_n 2, 1) := by decide +kernel
theorem dX5_rowsWith_42 : decode cX5_rowsWith 42 = .ok (.ireturn, 1) := by decide +kernel
theorem dX5_rightNode_0 : decode cX5_rightNode 0 = .ok (.aload_n 0, 1) := by decide +kernel
theorem dX5_rightNode_1 : decode cX5_rightNode 1 = .ok (.getfield 15, 3) := by decide +kernel
theorem dX5_rightNode_4 : decode cX5_rightNode 4 = .ok (.iload_n 1, 1) := by decide +kernel
theorem dX5_rightNode_5 : decode cX5_rightNode 5 = .ok (.iaload, 1) := by decide +kernel
theorem dX5_rightNode_6 : decode cX5_rightNode 6 = .ok (.iconst (-1), 1) := by decide +kernel
theorem dX5_rightNode_7 : decode cX5_rightNode 7 = .ok (.if_icmp .ne 8, 3) := by decide +kernel
theorem dX5_rightNode_10 : decode cX5_rightNode 10 = .ok (.bipush 10, 2) := by decide +kernel
theorem dX5_rightNode_12 : decode cX5_rightNode 12 = .ok (.goto 9, 3) := by decide +kernel
theorem dX5_rightNode_15 : decode cX5_rightNode 15 = .ok (.aload_n 0, 1) := by decide +kernel
theorem dX5_rightNode_16 : decode cX5_rightNode 16 = .ok (.getfield 15, 3) := by decide +kernel
theorem dX5_rightNode_19 : decode cX5_rightNode 19 = .ok (.iload_n 1, 1) := by decide +kernel
theorem dX5_rightNode_20 : decode cX5_rightNode 20 = .ok (.iaload, 1) := by decide +kernel
theorem dX5_rightNode_21 : decode cX5_rightNode 21 = .ok (.ireturn, 1) := by decide +kernel
theorem dX5_canHold_0 : decode cX5_canHold 0 = .ok (.aload_n 0, 1) := by decide +kernel
theorem dX5_canHold_1 : decode cX5_canHold 1 = .ok (.getfield 18, 3) := by decide +kernel
theorem dX5_canHold_4 : decode cX5_canHold 4 = .ok (.iload_n 1, 1) := by decide +kernel
theorem dX5_canHold_5 : decode cX5_canHold 5 = .ok (.iaload, 1) := by decide +kernel
theorem dX5_canHold_6 : decode cX5_canHold 6 = .ok (.iconst 2, 1) := by decide +kernel
theorem dX5_canHold_7 : decode cX5_canHold 7 = .ok (.if_icmp .eq 13, 3) := by decide +kernel
theorem dX5_canHold_10 : decode cX5_canHold 10 = .ok (.iload_n 2, 1) := by decide +kernel
theorem dX5_canHold_11 : decode cX5_canHold 11 = .ok (.aload_n 0, 1) := by decide +kernel
theorem dX5_canHold_12 : decode cX5_canHold 12 = .ok (.getfield 21, 3) := by decide +kernel
theorem dX5_canHold_15 : decode cX5_canHold 15 = .ok (.iload_n 1, 1) := by decide +kernel
theorem dX5_canHold_16 : decode cX5_canHold 16 = .ok (.iaload, 1) := by decide +kernel
theorem dX5_canHold_17 : decode cX5_canHold 17 = .ok (.if_icmp .gt 7, 3) := by decide +kernel
theorem dX5_canHold_20 : decode cX5_canHold 20 = .ok (.iconst 1, 1) := by decide +kernel
theorem dX5_canHold_21 : decode cX5_canHold 21 = .ok (.goto 4, 3) := by decide +kernel
theorem dX5_canHold_24 : decode cX5_canHold 24 = .ok (.iconst 0, 1) := by decide +kernel
theorem dX5_canHold_25 : decode cX5_canHold 25 = .ok (.istore 4, 2) := by decide +kernel
theorem dX5_canHold_27 : decode cX5_canHold 27 = .ok (.aload_n 0, 1) := by decide +kernel
theorem dX5_canHold_28 : decode cX5_canHold 28 = .ok (.getfield 18, 3) := by decide +kernel
theorem dX5_canHold_31 : decode cX5_canHold 31 = .ok (.iload_n 1, 1) := by decide +kernel
theorem dX5_canHold_32 : decode cX5_canHold 32 = .ok (.iaload, 1) := by decide +kernel
theorem dX5_canHold_33 : decode cX5_canHold 33 = .ok (.ifCond .eq 13, 3) := by decide +kernel
theorem dX5_canHold_36 : decode cX5_canHold 36 = .ok (.iload_n 3, 1) := by decide +kernel
theorem dX5_canHold_37 : decode cX5_canHold 37 = .ok (.aload_n 0, 1) := by decide +kernel
theorem dX5_canHold_38 : decode cX5_canHold 38 = .ok (.getfield 21, 3) := by decide +kernel
theorem dX5_canHold_41 : decode cX5_canHold 41 = .ok (.iload_n 1, 1) := by decide +kernel
theorem dX5_canHold_42 : decode cX5_canHold 42 = .ok (.iaload, 1) := by decide +kernel
theorem dX5_canHold_43 : decode cX5_canHold 43 = .ok (.if_icmp .lt 7, 3) := by decide +kernel
theorem dX5_canHold_46 : decode cX5_canHold 46 = .ok (.iconst 1, 1) := by decide +kernel
theorem dX5_canHold_47 : decode cX5_canHold 47 = .ok (.goto 4, 3) := by decide +kernel
theorem dX5_canHold_50 : decode cX5_canHold 50 = .ok (.iconst 0, 1) := by decide +kernel
theorem dX5_canHold_51 : decode cX5_canHold 51 = .ok (.istore 5, 2) := by decide +kernel
theorem dX5_canHold_53 : decode cX5_canHold 53 = .ok (.iload 4, 2) := by decide +kernel
theorem dX5_canHold_55 : decode cX5_canHold 55 = .ok (.ifCond .eq 12, 3) := by decide +kernel
theorem dX5_canHold_58 : decode cX5_canHold 58 = .ok (.iload 5, 2) := by decide +kernel
theorem dX5_canHold_60 : decode cX5_canHold 60 = .ok (.ifCond .eq 7, 3) := by decide +kernel
theorem dX5_canHold_63 : decode cX5_canHold 63 = .ok (.iconst 1, 1) := by decide +kernel
theorem dX5_canHold_64 : decode cX5_canHold 64 = .ok (.goto 4, 3) := by decide +kernel
theorem dX5_canHold_67 : decode cX5_canHold 67 = .ok (.iconst 0, 1) := by decide +kernel
theorem dX5_canHold_68 : decode cX5_canHold 68 = .ok (.ireturn, 1) := by decide +kernel
theorem dX5_narrowing_0 : decode cX5_narrowing 0 = .ok (.aload_n 0, 1) := by decide +kernel
theorem dX5_narrowing_1 : decode cX5_narrowing 1 = .ok (.getfield 18, 3) := by decide +kernel
theorem dX5_narrowing_4 : decode cX5_narrowing 4 = .ok (.iload_n 1, 1) := by decide +kernel
theorem dX5_narrowing_5 : decode cX5_narrowing 5 = .ok (.iaload, 1) := by decide +kernel
theorem dX5_narrowing_6 : decode cX5_narrowing 6 = .ok (.lookupswitch 53 #[(0, 26), (1, 49)], 26) := by decide +kernel
theorem dX5_narrowing_32 : decode cX5_narrowing 32 = .ok (.iload_n 3, 1) := by decide +kernel
theorem dX5_narrowing_33 : decode cX5_narrowing 33 = .ok (.aload_n 0, 1) := by decide +kernel
theorem dX5_narrowing_34 : decode cX5_narrowing 34 = .ok (.getfield 21, 3) := by decide +kernel
theorem dX5_narrowing_37 : decode cX5_narrowing 37 = .ok (.iload_n 1, 1) := by decide +kernel
theorem dX5_narrowing_38 : decode cX5_narrowing 38 = .ok (.iaload, 1) := by decide +kernel
theorem dX5_narrowing_39 : decode cX5_narrowing 39 = .ok (.if_icmp .le 14, 3) := by decide +kernel
theorem dX5_narrowing_42 : decode cX5_narrowing 42 = .ok (.iload_n 3, 1) := by decide +kernel
theorem dX5_narrowing_43 : decode cX5_narrowing 43 = .ok (.aload_n 0, 1) := by decide +kernel
theorem dX5_narrowing_44 : decode cX5_narrowing 44 = .ok (.getfield 21, 3) := by decide +kernel
theorem dX5_narrowing_47 : decode cX5_narrowing 47 = .ok (.iload_n 1, 1) := by decide +kernel
theorem dX5_narrowing_48 : decode cX5_narrowing 48 = .ok (.iaload, 1) := by decide +kernel
theorem dX5_narrowing_49 : decode cX5_narrowing 49 = .ok (.isub, 1) := by decide +kernel
theorem dX5_narrowing_50 : decode cX5_narrowing 50 = .ok (.goto 4, 3) := by decide +kernel
theorem dX5_narrowing_53 : decode cX5_narrowing 53 = .ok (.iconst 0, 1) := by decide +kernel
theorem dX5_narrowing_54 : decode cX5_narrowing 54 = .ok (.ireturn, 1) := by decide +kernel
theorem dX5_narrowing_55 : decode cX5_narrowing 55 = .ok (.iload_n 3, 1) := by decide +kernel
theorem dX5_narrowing_56 : decode cX5_narrowing 56 = .ok (.iload_n 2, 1) := by decide +kernel
theorem dX5_narrowing_57 : decode cX5_narrowing 57 = .ok (.isub, 1) := by decide +kernel
theorem dX5_narrowing_58 : decode cX5_narrowing 58 = .ok (.ireturn, 1) := by decide +kernel
theorem dX5_narrowing_59 : decode cX5_narrowing 59 = .ok (.aload_n 0, 1) := by decide +kernel
theorem dX5_narrowing_60 : decode cX5_narrowing 60 = .ok (.getfield 21, 3) := by decide +kernel
theorem dX5_narrowing_63 : decode cX5_narrowing 63 = .ok (.iload_n 1, 1) := by decide +kernel
theorem dX5_narrowing_64 : decode cX5_narrowing 64 = .ok (.iaload, 1) := by decide +kernel
theorem dX5_narrowing_65 : decode cX5_narrowing 65 = .ok (.iload_n 2, 1) := by decide +kernel
theorem dX5_narrowing_66 : decode cX5_narrowing 66 = .ok (.if_icmp .le 14, 3) := by decide +kernel
theorem dX5_narrowing_69 : decode cX5_narrowing 69 = .ok (.aload_n 0, 1) := by decide +kernel
theorem dX5_narrowing_70 : decode cX5_narrowing 70 = .ok (.getfield 21, 3) := by decide +kernel
theorem dX5_narrowing_73 : decode cX5_narrowing 73 = .ok (.iload_n 1, 1) := by decide +kernel
theorem dX5_narrowing_74 : decode cX5_narrowing 74 = .ok (.iaload, 1) := by decide +kernel
theorem dX5_narrowing_75 : decode cX5_narrowing 75 = .ok (.iload_n 2, 1) := by decide +kernel
theorem dX5_narrowing_76 : decode cX5_narrowing 76 = .ok (.isub, 1) := by decide +kernel
theorem dX5_narrowing_77 : decode cX5_narrowing 77 = .ok (.goto 4, 3) := by decide +kernel
theorem dX5_narrowing_80 : decode cX5_narrowing 80 = .ok (.iconst 0, 1) := by decide +kernel
theorem dX5_narrowing_81 : decode cX5_narrowing 81 = .ok (.ireturn, 1) := by decide +kernel
theorem dX5_missing_0 : decode cX5_missing 0 = .ok (.aload_n 0, 1) := by decide +kernel
theorem dX5_missing_1 : decode cX5_missing 1 = .ok (.getfield 21, 3) := by decide +kernel
theorem dX5_missing_4 : decode cX5_missing 4 = .ok (.iload_n 1, 1) := by decide +kernel
theorem dX5_missing_5 : decode cX5_missing 5 = .ok (.iaload, 1) := by decide +kernel
theorem dX5_missing_6 : decode cX5_missing 6 = .ok (.iload_n 2, 1) := by decide +kernel
theorem dX5_missing_7 : decode cX5_missing 7 = .ok (.if_icmp .ge 14, 3) := by decide +kernel
theorem dX5_missing_10 : decode cX5_missing 10 = .ok (.iload_n 2, 1) := by decide +kernel
theorem dX5_missing_11 : decode cX5_missing 11 = .ok (.aload_n 0, 1) := by decide +kernel
theorem dX5_missing_12 : decode cX5_missing 12 = .ok (.getfield 21, 3) := by decide +kernel
theorem dX5_missing_15 : decode cX5_missing 15 = .ok (.iload_n 1, 1) := by decide +kernel
theorem dX5_missing_16 : decode cX5_missing 16 = .ok (.iaload, 1) := by decide +kernel
theorem dX5_missing_17 : decode cX5_missing 17 = .ok (.isub, 1) := by decide +kernel
theorem dX5_missing_18 : decode cX5_missing 18 = .ok (.goto 11, 3) := by decide +kernel
theorem dX5_missing_21 : decode cX5_missing 21 = .ok (.iload_n 3, 1) := by decide +kernel
theorem dX5_missing_22 : decode cX5_missing 22 = .ok (.aload_n 0, 1) := by decide +kernel
theorem dX5_missing_23 : decode cX5_missing 23 = .ok (.getfield 21, 3) := by decide +kernel
theorem dX5_missing_26 : decode cX5_missing 26 = .ok (.iload_n 1, 1) := by decide +kernel
theorem dX5_missing_27 : decode cX5_missing 27 = .ok (.iaload, 1) := by decide +kernel
theorem dX5_missing_28 : decode cX5_missing 28 = .ok (.isub, 1) := by decide +kernel
theorem dX5_missing_29 : decode cX5_missing 29 = .ok (.ireturn, 1) := by decide +kernel
theorem dX6_init_0 : decode cX6_init 0 = .ok (.aload_n 0, 1) := by decide +kernel
theorem dX6_init_1 : decode cX6_init 1 = .ok (.invokespecial 3, 3) := by decide +kernel
theorem dX6_init_4 : decode cX6_init 4 = .ok (.aload_n 0, 1) := by decide +kernel
theorem dX6_init_5 : decode cX6_init 5 = .ok (.new 9, 3) := by decide +kernel
theorem dX6_init_8 : decode cX6_init 8 = .ok (.dup, 1) := by decide +kernel
theorem dX6_init_9 : decode cX6_init 9 = .ok (.invokespecial 11, 3) := by decide +kernel
theorem dX6_init_12 : decode cX6_init 12 = .ok (.putfield 12, 3) := by decide +kernel
theorem dX6_init_15 : decode cX6_init 15 = .ok (.return_, 1) := by decide +kernel
theorem dX7_init_0 : decode cX7_init 0 = .ok (.aload_n 0, 1) := by decide +kernel
theorem dX7_init_1 : decode cX7_init 1 = .ok (.invokespecial 3, 3) := by decide +kernel
theorem dX7_init_4 : decode cX7_init 4 = .ok (.aload_n 0, 1) := by decide +kernel
theorem dX7_init_5 : decode cX7_init 5 = .ok (.new 9, 3) := by decide +kernel
theorem dX7_init_8 : decode cX7_init 8 = .ok (.dup, 1) := by decide +kernel
theorem dX7_init_9 : decode cX7_init 9 = .ok (.invokespecial 11, 3) := by decide +kernel
theorem dX7_init_12 : decode cX7_init 12 = .ok (.putfield 12, 3) := by decide +kernel
theorem dX7_init_15 : decode cX7_init 15 = .ok (.aload_n 0, 1) := by decide +kernel
theorem dX7_init_16 : decode cX7_init 16 = .ok (.new 16, 3) := by decide +kernel
theorem dX7_init_19 : decode cX7_init 19 = .ok (.dup, 1) := by decide +kernel
theorem dX7_init_20 : decode cX7_init 20 = .ok (.invokespecial 18, 3) := by decide +kernel
theorem dX7_init_23 : decode cX7_init 23 = .ok (.putfield 19, 3) := by decide +kernel
theorem dX7_init_26 : decode cX7_init 26 = .ok (.aload_n 0, 1) := by decide +kernel
theorem dX7_init_27 : decode cX7_init 27 = .ok (.new 23, 3) := by decide +kernel
theorem dX7_init_30 : decode cX7_init 30 = .ok (.dup, 1) := by decide +kernel
theorem dX7_init_31 : decode cX7_init 31 = .ok (.invokespecial 25, 3) := by decide +kernel
theorem dX7_init_34 : decode cX7_init 34 = .ok (.putfield 26, 3) := by decide +kernel
theorem dX7_init_37 : decode cX7_init 37 = .ok (.aload_n 0, 1) := by decide +kernel
theorem dX7_init_38 : decode cX7_init 38 = .ok (.new 9, 3) := by decide +kernel
theorem dX7_init_41 : decode cX7_init 41 = .ok (.dup, 1) := by decide +kernel
theorem dX7_init_42 : decode cX7_init 42 = .ok (.invokespecial 11, 3) := by decide +kernel
theorem dX7_init_45 : decode cX7_init 45 = .ok (.putfield 30, 3) := by decide +kernel
theorem dX7_init_48 : decode cX7_init 48 = .ok (.aload_n 0, 1) := by decide +kernel
theorem dX7_init_49 : decode cX7_init 49 = .ok (.new 16, 3) := by decide +kernel
theorem dX7_init_52 : decode cX7_init 52 = .ok (.dup, 1) := by decide +kernel
theorem dX7_init_53 : decode cX7_init 53 = .ok (.invokespecial 18, 3) := by decide +kernel
theorem dX7_init_56 : decode cX7_init 56 = .ok (.putfield 33, 3) := by decide +kernel
theorem dX7_init_59 : decode cX7_init 59 = .ok (.aload_n 0, 1) := by decide +kernel
theorem dX7_init_60 : decode cX7_init 60 = .ok (.bipush 16, 2) := by decide +kernel
theorem dX7_init_62 : decode cX7_init 62 = .ok (.newarray .int, 2) := by decide +kernel
theorem dX7_init_64 : decode cX7_init 64 = .ok (.putfield 36, 3) := by decide +kernel
theorem dX7_init_67 : decode cX7_init 67 = .ok (.aload_n 0, 1) := by decide +kernel
theorem dX7_init_68 : decode cX7_init 68 = .ok (.bipush 60, 2) := by decide +kernel
theorem dX7_init_70 : decode cX7_init 70 = .ok (.newarray .int, 2) := by decide +kernel
theorem dX7_init_72 : decode cX7_init 72 = .ok (.putfield 40, 3) := by decide +kernel
theorem dX7_init_75 : decode cX7_init 75 = .ok (.aload_n 0, 1) := by decide +kernel
theorem dX7_init_76 : decode cX7_init 76 = .ok (.new 43, 3) := by decide +kernel
theorem dX7_init_79 : decode cX7_init 79 = .ok (.dup, 1) := by decide +kernel
theorem dX7_init_80 : decode cX7_init 80 = .ok (.invokespecial 45, 3) := by decide +kernel
theorem dX7_init_83 : decode cX7_init 83 = .ok (.putfield 46, 3) := by decide +kernel
theorem dX7_init_86 : decode cX7_init 86 = .ok (.return_, 1) := by decide +kernel
theorem dX7_add_0 : decode cX7_add 0 = .ok (.iload_n 1, 1) := by decide +kernel
theorem dX7_add_1 : decode cX7_add 1 = .ok (.invokestatic 50, 3) := by decide +kernel
theorem dX7_add_4 : decode cX7_add 4 = .ok (.ifCond .eq 24, 3) := by decide +kernel
theorem dX7_add_7 : decode cX7_add 7 = .ok (.iload_n 2, 1) := by decide +kernel
theorem dX7_add_8 : decode cX7_add 8 = .ok (.iconst (-1), 1) := by decide +kernel
theorem dX7_add_9 : decode cX7_add 9 = .ok (.if_icmp .eq 15, 3) := by decide +kernel
theorem dX7_add_12 : decode cX7_add 12 = .ok (.iload_n 2, 1) := by decide +kernel
theorem dX7_add_13 : decode cX7_add 13 = .ok (.invokestatic 50, 3) := by decide +kernel
theorem dX7_add_16 : decode cX7_add 16 = .ok (.ifCond .eq 12, 3) := by decide +kernel
theorem dX7_add_19 : decode cX7_add 19 = .ok (.iload_n 2, 1) := by decide +kernel
theorem dX7_add_20 : decode cX7_add 20 = .ok (.iload_n 1, 1) := by decide +kernel
theorem dX7_add_21 : decode cX7_add 21 = .ok (.if_icmp .eq 7, 3) := by decide +kernel
theorem dX7_add_24 : decode cX7_add 24 = .ok (.iconst 1, 1) := by decide +kernel
theorem dX7_add_25 : decode cX7_add 25 = .ok (.goto 4, 3) := by decide +kernel
theorem dX7_add_28 : decode cX7_add 28 = .ok (.iconst 0, 1) := by decide +kernel
theorem dX7_add_29 : decode cX7_add 29 = .ok (.invokestatic 54, 3) := by decide +kernel
theorem dX7_add_32 : decode cX7_add 32 = .ok (.iload_n 3, 1) := by decide +kernel
theorem dX7_add_33 : decode cX7_add 33 = .ok (.iconst 0, 1) := by decide +kernel
theorem dX7_add_34 : decode cX7_add 34 = .ok (.iconst 2, 1) := by decide +kernel
theorem dX7_add_35 : decode cX7_add 35 = .ok (.invokestatic 58, 3) := by decide +kernel
theorem dX7_add_38 : decode cX7_add 38 = .ok (.ifCond .eq 23, 3) := by decide +kernel
theorem dX7_add_41 : decode cX7_add 41 = .ok (.iload 4, 2) := by decide +kernel
theorem dX7_add_43 : decode cX7_add 43 = .ok (.invokestatic 62, 3) := by decide +kernel
theorem dX7_add_46 : decode cX7_add 46 = .ok (.ifCond .eq 15, 3) := by decide +kernel
theorem dX7_add_49 : decode cX7_add 49 = .ok (.iload 5, 2) := by decide +kernel
theorem dX7_add_51 : decode cX7_add 51 = .ok (.invokestatic 65, 3) := by decide +kernel
theorem dX7_add_54 : decode cX7_add 54 = .ok (.ifCond .eq 7, 3) := by decide +kernel
theorem dX7_add_57 : decode cX7_add 57 = .ok (.iconst 1, 1) := by decide +kernel
theorem dX7_add_58 : decode cX7_add 58 = .ok (.goto 4, 3) := by decide +kernel
theorem dX7_add_61 : decode cX7_add 61 = .ok (.iconst 0, 1) := by decide +kernel
theorem dX7_add_62 : decode cX7_add 62 = .ok (.invokestatic 68, 3) := by decide +kernel
theorem dX7_add_65 : decode cX7_add 65 = .ok (.aload_n 0, 1) := by decide +kernel
theorem dX7_add_66 : decode cX7_add 66 = .ok (.getfield 12, 3) := by decide +kernel
theorem dX7_add_69 : decode cX7_add 69 = .ok (.getfield 71, 3) := by decide +kernel
theorem dX7_add_72 : decode cX7_add 72 = .ok (.getfield 75, 3) := by decide +kernel
theorem dX7_add_75 : decode cX7_add 75 = .ok (.bipush 16, 2) := by decide +kernel
theorem dX7_add_77 : decode cX7_add 77 = .ok (.if_icmp .ge 7, 3) := by decide +kernel
theorem dX7_add_80 : decode cX7_add 80 = .ok (.iconst 1, 1) := by decide +kernel
theorem dX7_add_81 : decode cX7_add 81 = .ok (.goto 4, 3) := by decide +kernel
theorem dX7_add_84 : decode cX7_add 84 = .ok (.iconst 0, 1) := by decide +kernel
theorem dX7_add_85 : decode cX7_add 85 = .ok (.invokestatic 81, 3) := by decide +kernel
theorem dX7_add_88 : decode cX7_add 88 = .ok (.aload_n 0, 1) := by decide +kernel
theorem dX7_add_89 : decode cX7_add 89 = .ok (.getfield 26, 3) := by decide +kernel
theorem dX7_add_92 : decode cX7_add 92 = .ok (.aload_n 0, 1) := by decide +kernel
theorem dX7_add_93 : decode cX7_add 93 = .ok (.getfield 12, 3) := by decide +kernel
theorem dX7_add_96 : decode cX7_add 96 = .ok (.invokevirtual 84, 3) := by decide +kernel
theorem dX7_add_99 : decode cX7_add 99 = .ok (.aload_n 0, 1) := by decide +kernel
theorem dX7_add_100 : decode cX7_add 100 = .ok (.getfield 12, 3) := by decide +kernel
theorem dX7_add_103 : decode cX7_add 103 = .ok (.getfield 71, 3) := by decide +kernel
theorem dX7_add_106 : decode cX7_add 106 = .ok (.iload_n 1, 1) := by decide +kernel
theorem dX7_add_107 : decode cX7_add 107 = .ok (.iload_n 2, 1) := by decide +kernel
theorem dX7_add_108 : decode cX7_add 108 = .ok (.iload_n 3, 1) := by decide +kernel
theorem dX7_add_109 : decode cX7_add 109 = .ok (.iload 4, 2) := by decide +kernel
theorem dX7_add_111 : decode cX7_add 111 = .ok (.iload 5, 2) := by decide +kernel
theorem dX7_add_113 : decode cX7_add 113 = .ok (.invokevirtual 88, 3) := by decide +kernel
theorem dX7_add_116 : decode cX7_add 116 = .ok (.aload_n 0, 1) := by decide +kernel
theorem dX7_add_117 : decode cX7_add 117 = .ok (.invokevirtual 92, 3) := by decide +kernel
theorem dX7_add_120 : decode cX7_add 120 = .ok (.aload_n 0, 1) := by decide +kernel
theorem dX7_add_121 : decode cX7_add 121 = .ok (.getfield 12, 3) := by decide +kernel
theorem dX7_add_124 : decode cX7_add 124 = .ok (.getfield 71, 3) := by decide +kernel
theorem dX7_add_127 : decode cX7_add 127 = .ok (.getfield 75, 3) := by decide +kernel
theorem dX7_add_130 : decode cX7_add 130 = .ok (.iconst 1, 1) := by decide +kernel
theorem dX7_add_131 : decode cX7_add 131 = .ok (.isub, 1) := by decide +kernel
theorem dX7_add_132 : decode cX7_add 132 = .ok (.ireturn, 1) := by decide +kernel
theorem dX7_remove_0 : decode cX7_remove 0 = .ok (.aload_n 0, 1) := by decide +kernel
theorem dX7_remove_1 : decode cX7_remove 1 = .ok (.iload_n 1, 1) := by decide +kernel
theorem dX7_remove_2 : decode cX7_remove 2 = .ok (.invokevirtual 95, 3) := by decide +kernel
theorem dX7_remove_5 : decode cX7_remove 5 = .ok (.invokestatic 54, 3) := by decide +kernel
theorem dX7_remove_8 : decode cX7_remove 8 = .ok (.aload_n 0, 1) := by decide +kernel
theorem dX7_remove_9 : decode cX7_remove 9 = .ok (.getfield 19, 3) := by decide +kernel
theorem dX7_remove_12 : decode cX7_remove 12 = .ok (.getfield 98, 3) := by decide +kernel
theorem dX7_remove_15 : decode cX7_remove 15 = .ok (.iload_n 1, 1) := by decide +kernel
theorem dX7_remove_16 : decode cX7_remove 16 = .ok (.invokevirtual 102, 3) := by decide +kernel
theorem dX7_remove_19 : decode cX7_remove 19 = .ok (.istore_n 2, 1) := by decide +kernel
theorem dX7_remove_20 : decode cX7_remove 20 = .ok (.aload_n 0, 1) := by decide +kernel
theorem dX7_remove_21 : decode cX7_remove 21 = .ok (.getfield 26, 3) := by decide +kernel
theorem dX7_remove_24 : decode cX7_remove 24 = .ok (.aload_n 0, 1) := by decide +kernel
theorem dX7_remove_25 : decode cX7_remove 25 = .ok (.getfield 12, 3) := by decide +kernel
theorem dX7_remove_28 : decode cX7_remove 28 = .ok (.invokevirtual 84, 3) := by decide +kernel
theorem dX7_remove_31 : decode cX7_remove 31 = .ok (.aload_n 0, 1) := by decide +kernel
theorem dX7_remove_32 : decode cX7_remove 32 = .ok (.getfield 12, 3) := by decide +kernel
theorem dX7_remove_35 : decode cX7_remove 35 = .ok (.getfield 71, 3) := by decide +kernel
theorem dX7_remove_38 : decode cX7_remove 38 = .ok (.iload_n 1, 1) := by decide +kernel
theorem dX7_remove_39 : decode cX7_remove 39 = .ok (.invokevirtual 108, 3) := by decide +kernel
theorem dX7_remove_42 : decode cX7_remove 42 = .ok (.aload_n 0, 1) := by decide +kernel
theorem dX7_remove_43 : decode cX7_remove 43 = .ok (.invokevirtual 92, 3) := by decide +kernel
theorem dX7_remove_46 : decode cX7_remove 46 = .ok (.iload_n 2, 1) := by decide +kernel
theorem dX7_remove_47 : decode cX7_remove 47 = .ok (.ireturn, 1) := by decide +kernel
theorem dX7_setStrength_0 : decode cX7_setStrength 0 = .ok (.aload_n 0, 1) := by decide +kernel
theorem dX7_setStrength_1 : decode cX7_setStrength 1 = .ok (.iload_n 1, 1) := by decide +kernel
theorem dX7_setStrength_2 : decode cX7_setStrength 2 = .ok (.invokevirtual 95, 3) := by decide +kernel
theorem dX7_setStrength_5 : decode cX7_setStrength 5 = .ok (.invokestatic 54, 3) := by decide +kernel
theorem dX7_setStrength_8 : decode cX7_setStrength 8 = .ok (.iload_n 2, 1) := by decide +kernel
theorem dX7_setStrength_9 : decode cX7_setStrength 9 = .ok (.invokestatic 65, 3) := by decide +kernel
theorem dX7_setStrength_12 : decode cX7_setStrength 12 = .ok (.invokestatic 68, 3) := by decide +kernel
theorem dX7_setStrength_15 : decode cX7_setStrength 15 = .ok (.aload_n 0, 1) := by decide +kernel
theorem dX7_setStrength_16 : decode cX7_setStrength 16 = .ok (.aload_n 0, 1) := by decide +kernel
theorem dX7_setStrength_17 : decode cX7_setStrength 17 = .ok (.getfield 12, 3) := by decide +kernel
theorem dX7_setStrength_20 : decode cX7_setStrength 20 = .ok (.getfield 71, 3) := by decide +kernel
theorem dX7_setStrength_23 : decode cX7_setStrength 23 = .ok (.getfield 112, 3) := by decide +kernel
theorem dX7_setStrength_26 : decode cX7_setStrength 26 = .ok (.iload_n 1, 1) := by decide +kernel
theorem dX7_setStrength_27 : decode cX7_setStrength 27 = .ok (.iload_n 2, 1) := by decide +kernel
theorem dX7_setStrength_28 : decode cX7_setStrength 28 = .ok (.invokevirtual 115, 3) := by decide +kernel
theorem dX7_setStrength_31 : decode cX7_setStrength 31 = .ok (.ireturn, 1) := by decide +kernel
theorem dX7_setNumber_0 : decode cX7_setNumber 0 = .ok (.aload_n 0, 1) := by decide +kernel
theorem dX7_setNumber_1 : decode cX7_setNumber 1 = .ok (.iload_n 1, 1) := by decide +kernel
theorem dX7_setNumber_2 : decode cX7_setNumber 2 = .ok (.invokevirtual 95, 3) := by decide +kernel
theorem dX7_setNumber_5 : decode cX7_setNumber 5 = .ok (.invokestatic 54, 3) := by decide +kernel
theorem dX7_setNumber_8 : decode cX7_setNumber 8 = .ok (.iload_n 2, 1) := by decide +kernel
theorem dX7_setNumber_9 : decode cX7_setNumber 9 = .ok (.invokestatic 62, 3) := by decide +kernel
theorem dX7_setNumber_12 : decode cX7_setNumber 12 = .ok (.invokestatic 68, 3) := by decide +kernel
theorem dX7_setNumber_15 : decode cX7_setNumber 15 = .ok (.aload_n 0, 1) := by decide +kernel
theorem dX7_setNumber_16 : decode cX7_setNumber 16 = .ok (.aload_n 0, 1) := by decide +kernel
theorem dX7_setNumber_17 : decode cX7_setNumber 17 = .ok (.getfield 12, 3) := by decide +kernel
theorem dX7_setNumber_20 : decode cX7_setNumber 20 = .ok (.getfield 71, 3) := by decide +kernel
theorem dX7_setNumber_23 : decode cX7_setNumber 23 = .ok (.getfield 119, 3) := by decide +kernel
theorem dX7_setNumber_26 : decode cX7_setNumber 26 = .ok (.iload_n 1, 1) := by decide +kernel
theorem dX7_setNumber_27 : decode cX7_setNumber 27 = .ok (.iload_n 2, 1) := by decide +kernel
theorem dX7_setNumber_28 : decode cX7_setNumber 28 = .ok (.invokevirtual 115, 3) := by decide +kernel
theorem dX7_setNumber_31 : decode cX7_setNumber 31 = .ok (.ireturn, 1) := by decide +kernel
theorem dX7_setStay_0 : decode cX7_setStay 0 = .ok (.iload_n 1, 1) := by decide +kernel
theorem dX7_setStay_1 : decode cX7_setStay 1 = .ok (.invokestatic 50, 3) := by decide +kernel
theorem dX7_setStay_4 : decode cX7_setStay 4 = .ok (.invokestatic 54, 3) := by decide +kernel
theorem dX7_setStay_7 : decode cX7_setStay 7 = .ok (.iload_n 2, 1) := by decide +kernel
theorem dX7_setStay_8 : decode cX7_setStay 8 = .ok (.iconst 0, 1) := by decide +kernel
theorem dX7_setStay_9 : decode cX7_setStay 9 = .ok (.bipush 9, 2) := by decide +kernel
theorem dX7_setStay_11 : decode cX7_setStay 11 = .ok (.invokestatic 58, 3) := by decide +kernel
theorem dX7_setStay_14 : decode cX7_setStay 14 = .ok (.invokestatic 68, 3) := by decide +kernel
theorem dX7_setStay_17 : decode cX7_setStay 17 = .ok (.aload_n 0, 1) := by decide +kernel
theorem dX7_setStay_18 : decode cX7_setStay 18 = .ok (.aload_n 0, 1) := by decide +kernel
theorem dX7_setStay_19 : decode cX7_setStay 19 = .ok (.getfield 12, 3) := by decide +kernel
theorem dX7_setStay_22 : decode cX7_setStay 22 = .ok (.getfield 122, 3) := by decide +kernel
theorem dX7_setStay_25 : decode cX7_setStay 25 = .ok (.iload_n 1, 1) := by decide +kernel
theorem dX7_setStay_26 : decode cX7_setStay 26 = .ok (.iload_n 2, 1) := by decide +kernel
theorem dX7_setStay_27 : decode cX7_setStay 27 = .ok (.invokevirtual 115, 3) := by decide +kernel
theorem dX7_setStay_30 : decode cX7_setStay 30 = .ok (.ireturn, 1) := by decide +kernel
theorem dX7_edit_0 : decode cX7_edit 0 = .ok (.iload_n 1, 1) := by decide +kernel
theorem dX7_edit_1 : decode cX7_edit 1 = .ok (.invokestatic 50, 3) := by decide +kernel
theorem dX7_edit_4 : decode cX7_edit 4 = .ok (.invokestatic 54, 3) := by decide +kernel
theorem dX7_edit_7 : decode cX7_edit 7 = .ok (.iload_n 2, 1) := by decide +kernel
theorem dX7_edit_8 : decode cX7_edit 8 = .ok (.invokestatic 125, 3) := by decide +kernel
theorem dX7_edit_11 : decode cX7_edit 11 = .ok (.ifCond .eq 14, 3) := by decide +kernel
theorem dX7_edit_14 : decode cX7_edit 14 = .ok (.iload_n 3, 1) := by decide +kernel
theorem dX7_edit_15 : decode cX7_edit 15 = .ok (.invokestatic 65, 3) := by decide +kernel
theorem dX7_edit_18 : decode cX7_edit 18 = .ok (.ifCond .eq 7, 3) := by decide +kernel
theorem dX7_edit_21 : decode cX7_edit 21 = .ok (.iconst 1, 1) := by decide +kernel
theorem dX7_edit_22 : decode cX7_edit 22 = .ok (.goto 4, 3) := by decide +kernel
theorem dX7_edit_25 : decode cX7_edit 25 = .ok (.iconst 0, 1) := by decide +kernel
theorem dX7_edit_26 : decode cX7_edit 26 = .ok (.invokestatic 68, 3) := by decide +kernel
theorem dX7_edit_29 : decode cX7_edit 29 = .ok (.aload_n 0, 1) := by decide +kernel
theorem dX7_edit_30 : decode cX7_edit 30 = .ok (.getfield 12, 3) := by decide +kernel
theorem dX7_edit_33 : decode cX7_edit 33 = .ok (.iload_n 1, 1) := by decide +kernel
theorem dX7_edit_34 : decode cX7_edit 34 = .ok (.invokevirtual 128, 3) := by decide +kernel
theorem dX7_edit_37 : decode cX7_edit 37 = .ok (.iconst (-1), 1) := by decide +kernel
theorem dX7_edit_38 : decode cX7_edit 38 = .ok (.if_icmp .ne 17, 3) := by decide +kernel
theorem dX7_edit_41 : decode cX7_edit 41 = .ok (.aload_n 0, 1) := by decide +kernel
theorem dX7_edit_42 : decode cX7_edit 42 = .ok (.getfield 12, 3) := by decide +kernel
theorem dX7_edit_45 : decode cX7_edit 45 = .ok (.getfield 131, 3) := by decide +kernel
theorem dX7_edit_48 : decode cX7_edit 48 = .ok (.getfield 75, 3) := by decide +kernel
theorem dX7_edit_51 : decode cX7_edit 51 = .ok (.iconst 3, 1) := by decide +kernel
theorem dX7_edit_52 : decode cX7_edit 52 = .ok (.if_icmp .ge 7, 3) := by decide +kernel
theorem dX7_edit_55 : decode cX7_edit 55 = .ok (.iconst 1, 1) := by decide +kernel
theorem dX7_edit_56 : decode cX7_edit 56 = .ok (.goto 4, 3) := by decide +kernel
theorem dX7_edit_59 : decode cX7_edit 59 = .ok (.iconst 0, 1) := by decide +kernel
theorem dX7_edit_60 : decode cX7_edit 60 = .ok (.invokestatic 81, 3) := by decide +kernel
theorem dX7_edit_63 : decode cX7_edit 63 = .ok (.aload_n 0, 1) := by decide +kernel
theorem dX7_edit_64 : decode cX7_edit 64 = .ok (.getfield 26, 3) := by decide +kernel
theorem dX7_edit_67 : decode cX7_edit 67 = .ok (.aload_n 0, 1) := by decide +kernel
theorem dX7_edit_68 : decode cX7_edit 68 = .ok (.getfield 12, 3) := by decide +kernel
theorem dX7_edit_71 : decode cX7_edit 71 = .ok (.invokevirtual 84, 3) := by decide +kernel
theorem dX7_edit_74 : decode cX7_edit 74 = .ok (.aload_n 0, 1) := by decide +kernel
theorem dX7_edit_75 : decode cX7_edit 75 = .ok (.getfield 12, 3) := by decide +kernel
theorem dX7_edit_78 : decode cX7_edit 78 = .ok (.iload_n 1, 1) := by decide +kernel
theorem dX7_edit_79 : decode cX7_edit 79 = .ok (.iload_n 2, 1) := by decide +kernel
theorem dX7_edit_80 : decode cX7_edit 80 = .ok (.iload_n 3, 1) := by decide +kernel
theorem dX7_edit_81 : decode cX7_edit 81 = .ok (.invokevirtual 134, 3) := by decide +kernel
theorem dX7_edit_84 : decode cX7_edit 84 = .ok (.aload_n 0, 1) := by decide +kernel
theorem dX7_edit_85 : decode cX7_edit 85 = .ok (.invokevirtual 92, 3) := by decide +kernel
theorem dX7_edit_88 : decode cX7_edit 88 = .ok (.aload_n 0, 1) := by decide +kernel
theorem dX7_edit_89 : decode cX7_edit 89 = .ok (.getfield 12, 3) := by decide +kernel
theorem dX7_edit_92 : decode cX7_edit 92 = .ok (.getfield 138, 3) := by decide +kernel
theorem dX7_edit_95 : decode cX7_edit 95 = .ok (.iload_n 1, 1) := by decide +kernel
theorem dX7_edit_96 : decode cX7_edit 96 = .ok (.iaload, 1) := by decide +kernel
theorem dX7_edit_97 : decode cX7_edit 97 = .ok (.ireturn, 1) := by decide +kernel
theorem dX7_endEdits_0 : decode cX7_endEdits 0 = .ok (.aload_n 0, 1) := by decide +kernel
theorem dX7_endEdits_1 : decode cX7_endEdits 1 = .ok (.getfield 12, 3) := by decide +kernel
theorem dX7_endEdits_4 : decode cX7_endEdits 4 = .ok (.getfield 131, 3) := by decide +kernel
theorem dX7_endEdits_7 : decode cX7_endEdits 7 = .ok (.getfield 75, 3) := by decide +kernel
theorem dX7_endEdits_10 : decode cX7_endEdits 10 = .ok (.istore_n 1, 1) := by decide +kernel
theorem dX7_endEdits_11 : decode cX7_endEdits 11 = .ok (.aload_n 0, 1) := by decide +kernel
theorem dX7_endEdits_12 : decode cX7_endEdits 12 = .ok (.getfield 26, 3) := by decide +kernel
theorem dX7_endEdits_15 : decode cX7_endEdits 15 = .ok (.aload_n 0, 1) := by decide +kernel
theorem dX7_endEdits_16 : decode cX7_endEdits 16 = .ok (.getfield 12, 3) := by decide +kernel
theorem dX7_endEdits_19 : decode cX7_endEdits 19 = .ok (.invokevirtual 84, 3) := by decide +kernel
theorem dX7_endEdits_22 : decode cX7_endEdits 22 = .ok (.aload_n 0, 1) := by decide +kernel
theorem dX7_endEdits_23 : decode cX7_endEdits 23 = .ok (.getfield 12, 3) := by decide +kernel
theorem dX7_endEdits_26 : decode cX7_endEdits 26 = .ok (.getfield 131, 3) := by decide +kernel
theorem dX7_endEdits_29 : decode cX7_endEdits 29 = .ok (.iconst 0, 1) := by decide +kernel
theorem dX7_endEdits_30 : decode cX7_endEdits 30 = .ok (.putfield 75, 3) := by decide +kernel
theorem dX7_endEdits_33 : decode cX7_endEdits 33 = .ok (.aload_n 0, 1) := by decide +kernel
theorem dX7_endEdits_34 : decode cX7_endEdits 34 = .ok (.invokevirtual 141, 3) := by decide +kernel
theorem dX7_endEdits_37 : decode cX7_endEdits 37 = .ok (.iload_n 1, 1) := by decide +kernel
theorem dX7_endEdits_38 : decode cX7_endEdits 38 = .ok (.ireturn, 1) := by decide +kernel
theorem dX7_settleFrom_0 : decode cX7_settleFrom 0 = .ok (.iload_n 1, 1) := by decide +kernel
theorem dX7_settleFrom_1 : decode cX7_settleFrom 1 = .ok (.invokestatic 125, 3) := by decide +kernel
theorem dX7_settleFrom_4 : decode cX7_settleFrom 4 = .ok (.invokestatic 68, 3) := by decide +kernel
theorem dX7_settleFrom_7 : decode cX7_settleFrom 7 = .ok (.aload_n 0, 1) := by decide +kernel
theorem dX7_settleFrom_8 : decode cX7_settleFrom 8 = .ok (.getfield 26, 3) := by decide +kernel
theorem dX7_settleFrom_11 : decode cX7_settleFrom 11 = .ok (.aload_n 0, 1) := by decide +kernel
theorem dX7_settleFrom_12 : decode cX7_settleFrom 12 = .ok (.getfield 12, 3) := by decide +kernel
theorem dX7_settleFrom_15 : decode cX7_settleFrom 15 = .ok (.invokevirtual 84, 3) := by decide +kernel
theorem dX7_settleFrom_18 : decode cX7_settleFrom 18 = .ok (.iconst 0, 1) := by decide +kernel
theorem dX7_settleFrom_19 : decode cX7_settleFrom 19 = .ok (.istore_n 2, 1) := by decide +kernel
theorem dX7_settleFrom_20 : decode cX7_settleFrom 20 = .ok (.iload_n 2, 1) := by decide +kernel
theorem dX7_settleFrom_21 : decode cX7_settleFrom 21 = .ok (.bipush 10, 2) := by decide +kernel
theorem dX7_settleFrom_23 : decode cX7_settleFrom 23 = .ok (.if_icmp .ge 19, 3) := by decide +kernel
theorem dX7_settleFrom_26 : decode cX7_settleFrom 26 = .ok (.aload_n 0, 1) := by decide +kernel
theorem dX7_settleFrom_27 : decode cX7_settleFrom 27 = .ok (.getfield 12, 3) := by decide +kernel
theorem dX7_settleFrom_30 : decode cX7_settleFrom 30 = .ok (.getfield 138, 3) := by decide +kernel
theorem dX7_settleFrom_33 : decode cX7_settleFrom 33 = .ok (.iload_n 2, 1) := by decide +kernel
theorem dX7_settleFrom_34 : decode cX7_settleFrom 34 = .ok (.iload_n 1, 1) := by decide +kernel
theorem dX7_settleFrom_35 : decode cX7_settleFrom 35 = .ok (.iastore, 1) := by decide +kernel
theorem dX7_settleFrom_36 : decode cX7_settleFrom 36 = .ok (.iinc 2 1, 3) := by decide +kernel
theorem dX7_settleFrom_39 : decode cX7_settleFrom 39 = .ok (.goto (-19), 3) := by decide +kernel
theorem dX7_settleFrom_42 : decode cX7_settleFrom 42 = .ok (.aload_n 0, 1) := by decide +kernel
theorem dX7_settleFrom_43 : decode cX7_settleFrom 43 = .ok (.invokevirtual 92, 3) := by decide +kernel
theorem dX7_settleFrom_46 : decode cX7_settleFrom 46 = .ok (.aload_n 0, 1) := by decide +kernel
theorem dX7_settleFrom_47 : decode cX7_settleFrom 47 = .ok (.iload_n 1, 1) := by decide +kernel
theorem dX7_settleFrom_48 : decode cX7_settleFrom 48 = .ok (.invokevirtual 144, 3) := by decide +kernel
theorem dX7_settleFrom_51 : decode cX7_settleFrom 51 = .ok (.ireturn, 1) := by decide +kernel
theorem dX7_place_0 : decode cX7_place 0 = .ok (.iload_n 1, 1) := by decide +kernel
theorem dX7_place_1 : decode cX7_place 1 = .ok (.invokestatic 50, 3) := by decide +kernel
theorem dX7_place_4 : decode cX7_place 4 = .ok (.invokestatic 54, 3) := by decide +kernel
theorem dX7_place_7 : decode cX7_place 7 = .ok (.iload_n 2, 1) := by decide +kernel
theorem dX7_place_8 : decode cX7_place 8 = .ok (.iconst 0, 1) := by decide +kernel
theorem dX7_place_9 : decode cX7_place 9 = .ok (.iconst 5, 1) := by decide +kernel
theorem dX7_place_10 : decode cX7_place 10 = .ok (.invokestatic 58, 3) := by decide +kernel
theorem dX7_place_13 : decode cX7_place 13 = .ok (.invokestatic 68, 3) := by decide +kernel
theorem dX7_place_16 : decode cX7_place 16 = .ok (.aload_n 0, 1) := by decide +kernel
theorem dX7_place_17 : decode cX7_place 17 = .ok (.iload_n 1, 1) := by decide +kernel
theorem dX7_place_18 : decode cX7_place 18 = .ok (.iload_n 2, 1) := by decide +kernel
theorem dX7_place_19 : decode cX7_place 19 = .ok (.invokevirtual 169, 3) := by decide +kernel
theorem dX7_place_22 : decode cX7_place 22 = .ok (.ireturn, 1) := by decide +kernel
theorem dX7_condition_0 : decode cX7_condition 0 = .ok (.aload_n 0, 1) := by decide +kernel
theorem dX7_condition_1 : decode cX7_condition 1 = .ok (.iload_n 1, 1) := by decide +kernel
theorem dX7_condition_2 : decode cX7_condition 2 = .ok (.invokevirtual 95, 3) := by decide +kernel
theorem dX7_condition_5 : decode cX7_condition 5 = .ok (.invokestatic 54, 3) := by decide +kernel
theorem dX7_condition_8 : decode cX7_condition 8 = .ok (.iload_n 2, 1) := by decide +kernel
theorem dX7_condition_9 : decode cX7_condition 9 = .ok (.iconst 0, 1) := by decide +kernel
theorem dX7_condition_10 : decode cX7_condition 10 = .ok (.bipush 9, 2) := by decide +kernel
theorem dX7_condition_12 : decode cX7_condition 12 = .ok (.invokestatic 58, 3) := by decide +kernel
theorem dX7_condition_15 : decode cX7_condition 15 = .ok (.invokestatic 68, 3) := by decide +kernel
theorem dX7_condition_18 : decode cX7_condition 18 = .ok (.iload_n 2, 1) := by decide +kernel
theorem dX7_condition_19 : decode cX7_condition 19 = .ok (.bipush 8, 2) := by decide +kernel
theorem dX7_condition_21 : decode cX7_condition 21 = .ok (.if_icmp .ne 7, 3) := by decide +kernel
theorem dX7_condition_24 : decode cX7_condition 24 = .ok (.aload_n 0, 1) := by decide +kernel
theorem dX7_condition_25 : decode cX7_condition 25 = .ok (.invokevirtual 173, 3) := by decide +kernel
theorem dX7_condition_28 : decode cX7_condition 28 = .ok (.aload_n 0, 1) := by decide +kernel
theorem dX7_condition_29 : decode cX7_condition 29 = .ok (.iload_n 1, 1) := by decide +kernel
theorem dX7_condition_30 : decode cX7_condition 30 = .ok (.iload_n 2, 1) := by decide +kernel
theorem dX7_condition_31 : decode cX7_condition 31 = .ok (.invokevirtual 176, 3) := by decide +kernel
theorem dX7_condition_34 : decode cX7_condition 34 = .ok (.ireturn, 1) := by decide +kernel
theorem dX7_edited_0 : decode cX7_edited 0 = .ok (.iload_n 1, 1) := by decide +kernel
theorem dX7_edited_1 : decode cX7_edited 1 = .ok (.iconst 0, 1) := by decide +kernel
theorem dX7_edited_2 : decode cX7_edited 2 = .ok (.aload_n 0, 1) := by decide +kernel
theorem dX7_edited_3 : decode cX7_edited 3 = .ok (.getfield 12, 3) := by decide +kernel
theorem dX7_edited_6 : decode cX7_edited 6 = .ok (.getfield 131, 3) := by decide +kernel
theorem dX7_edited_9 : decode cX7_edited 9 = .ok (.getfield 75, 3) := by decide +kernel
theorem dX7_edited_12 : decode cX7_edited 12 = .ok (.iconst 1, 1) := by decide +kernel
theorem dX7_edited_13 : decode cX7_edited 13 = .ok (.isub, 1) := by decide +kernel
theorem dX7_edited_14 : decode cX7_edited 14 = .ok (.invokestatic 58, 3) := by decide +kernel
theorem dX7_edited_17 : decode cX7_edited 17 = .ok (.invokestatic 54, 3) := by decide +kernel
theorem dX7_edited_20 : decode cX7_edited 20 = .ok (.iload_n 2, 1) := by decide +kernel
theorem dX7_edited_21 : decode cX7_edited 21 = .ok (.iconst 0, 1) := by decide +kernel
theorem dX7_edited_22 : decode cX7_edited 22 = .ok (.iconst 4, 1) := by decide +kernel
theorem dX7_edited_23 : decode cX7_edited 23 = .ok (.invokestatic 58, 3) := by decide +kernel
theorem dX7_edited_26 : decode cX7_edited 26 = .ok (.invokestatic 68, 3) := by decide +kernel
theorem dX7_edited_29 : decode cX7_edited 29 = .ok (.aload_n 0, 1) := by decide +kernel
theorem dX7_edited_30 : decode cX7_edited 30 = .ok (.iload_n 1, 1) := by decide +kernel
theorem dX7_edited_31 : decode cX7_edited 31 = .ok (.iload_n 2, 1) := by decide +kernel
theorem dX7_edited_32 : decode cX7_edited 32 = .ok (.invokevirtual 179, 3) := by decide +kernel
theorem dX7_edited_35 : decode cX7_edited 35 = .ok (.ireturn, 1) := by decide +kernel
theorem dX7_widest_0 : decode cX7_widest 0 = .ok (.iload_n 1, 1) := by decide +kernel
theorem dX7_widest_1 : decode cX7_widest 1 = .ok (.invokestatic 50, 3) := by decide +kernel
theorem dX7_widest_4 : decode cX7_widest 4 = .ok (.ifCond .eq 14, 3) := by decide +kernel
theorem dX7_widest_7 : decode cX7_widest 7 = .ok (.iload_n 2, 1) := by decide +kernel
theorem dX7_widest_8 : decode cX7_widest 8 = .ok (.invokestatic 50, 3) := by decide +kernel
theorem dX7_widest_11 : decode cX7_widest 11 = .ok (.ifCond .eq 7, 3) := by decide +kernel
theorem dX7_widest_14 : decode cX7_widest 14 = .ok (.iconst 1, 1) := by decide +kernel
theorem dX7_widest_15 : decode cX7_widest 15 = .ok (.goto 4, 3) := by decide +kernel
theorem dX7_widest_18 : decode cX7_widest 18 = .ok (.iconst 0, 1) := by decide +kernel
theorem dX7_widest_19 : decode cX7_widest 19 = .ok (.invokestatic 54, 3) := by decide +kernel
theorem dX7_widest_22 : decode cX7_widest 22 = .ok (.aload_n 0, 1) := by decide +kernel
theorem dX7_widest_23 : decode cX7_widest 23 = .ok (.getfield 19, 3) := by decide +kernel
theorem dX7_widest_26 : decode cX7_widest 26 = .ok (.getfield 182, 3) := by decide +kernel
theorem dX7_widest_29 : decode cX7_widest 29 = .ok (.iload_n 1, 1) := by decide +kernel
theorem dX7_widest_30 : decode cX7_widest 30 = .ok (.iload_n 2, 1) := by decide +kernel
theorem dX7_widest_31 : decode cX7_widest 31 = .ok (.invokevirtual 186, 3) := by decide +kernel
theorem dX7_widest_34 : decode cX7_widest 34 = .ok (.ireturn, 1) := by decide +kernel
theorem dX7_count_0 : decode cX7_count 0 = .ok (.iload_n 1, 1) := by decide +kernel
theorem dX7_count_1 : decode cX7_count 1 = .ok (.iconst 0, 1) := by decide +kernel
theorem dX7_count_2 : decode cX7_count 2 = .ok (.bipush 7, 2) := by decide +kernel
theorem dX7_count_4 : decode cX7_count 4 = .ok (.invokestatic 58, 3) := by decide +kernel
theorem dX7_count_7 : decode cX7_count 7 = .ok (.invokestatic 68, 3) := by decide +kernel
theorem dX7_count_10 : decode cX7_count 10 = .ok (.aload_n 0, 1) := by decide +kernel
theorem dX7_count_11 : decode cX7_count 11 = .ok (.iload_n 1, 1) := by decide +kernel
theorem dX7_count_12 : decode cX7_count 12 = .ok (.invokevirtual 191, 3) := by decide +kernel
theorem dX7_count_15 : decode cX7_count 15 = .ok (.ireturn, 1) := by decide +kernel
theorem dX7_ifEdited_0 : decode cX7_ifEdited 0 = .ok (.iload_n 1, 1) := by decide +kernel
theorem dX7_ifEdited_1 : decode cX7_ifEdited 1 = .ok (.invokestatic 50, 3) := by decide +kernel
theorem dX7_ifEdited_4 : decode cX7_ifEdited 4 = .ok (.ifCond .eq 15, 3) := by decide +kernel
theorem dX7_ifEdited_7 : decode cX7_ifEdited 7 = .ok (.iload 4, 2) := by decide +kernel
theorem dX7_ifEdited_9 : decode cX7_ifEdited 9 = .ok (.invokestatic 50, 3) := by decide +kernel
theorem dX7_ifEdited_12 : decode cX7_ifEdited 12 = .ok (.ifCond .eq 7, 3) := by decide +kernel
theorem dX7_ifEdited_15 : decode cX7_ifEdited 15 = .ok (.iconst 1, 1) := by decide +kernel
theorem dX7_ifEdited_16 : decode cX7_ifEdited 16 = .ok (.goto 4, 3) := by decide +kernel
theorem dX7_ifEdited_19 : decode cX7_ifEdited 19 = .ok (.iconst 0, 1) := by decide +kernel
theorem dX7_ifEdited_20 : decode cX7_ifEdited 20 = .ok (.invokestatic 54, 3) := by decide +kernel
theorem dX7_ifEdited_23 : decode cX7_ifEdited 23 = .ok (.iload_n 2, 1) := by decide +kernel
theorem dX7_ifEdited_24 : decode cX7_ifEdited 24 = .ok (.invokestatic 125, 3) := by decide +kernel
theorem dX7_ifEdited_27 : decode cX7_ifEdited 27 = .ok (.ifCond .eq 14, 3) := by decide +kernel
theorem dX7_ifEdited_30 : decode cX7_ifEdited 30 = .ok (.iload_n 3, 1) := by decide +kernel
theorem dX7_ifEdited_31 : decode cX7_ifEdited 31 = .ok (.invokestatic 65, 3) := by decide +kernel
theorem dX7_ifEdited_34 : decode cX7_ifEdited 34 = .ok (.ifCond .eq 7, 3) := by decide +kernel
theorem dX7_ifEdited_37 : decode cX7_ifEdited 37 = .ok (.iconst 1, 1) := by decide +kernel
theorem dX7_ifEdited_38 : decode cX7_ifEdited 38 = .ok (.goto 4, 3) := by decide +kernel
theorem dX7_ifEdited_41 : decode cX7_ifEdited 41 = .ok (.iconst 0, 1) := by decide +kernel
theorem dX7_ifEdited_42 : decode cX7_ifEdited 42 = .ok (.invokestatic 68, 3) := by decide +kernel
theorem dX7_ifEdited_45 : decode cX7_ifEdited 45 = .ok (.aload_n 0, 1) := by decide +kernel
theorem dX7_ifEdited_46 : decode cX7_ifEdited 46 = .ok (.getfield 30, 3) := by decide +kernel
theorem dX7_ifEdited_49 : decode cX7_ifEdited 49 = .ok (.aload_n 0, 1) := by decide +kernel
theorem dX7_ifEdited_50 : decode cX7_ifEdited 50 = .ok (.getfield 12, 3) := by decide +kernel
theorem dX7_ifEdited_53 : decode cX7_ifEdited 53 = .ok (.invokevirtual 194, 3) := by decide +kernel
theorem dX7_ifEdited_56 : decode cX7_ifEdited 56 = .ok (.aload_n 0, 1) := by decide +kernel
theorem dX7_ifEdited_57 : decode cX7_ifEdited 57 = .ok (.getfield 30, 3) := by decide +kernel
theorem dX7_ifEdited_60 : decode cX7_ifEdited 60 = .ok (.iload_n 1, 1) := by decide +kernel
theorem dX7_ifEdited_61 : decode cX7_ifEdited 61 = .ok (.iload_n 2, 1) := by decide +kernel
theorem dX7_ifEdited_62 : decode cX7_ifEdited 62 = .ok (.iload_n 3, 1) := by decide +kernel
theorem dX7_ifEdited_63 : decode cX7_ifEdited 63 = .ok (.invokevirtual 134, 3) := by decide +kernel
theorem dX7_ifEdited_66 : decode cX7_ifEdited 66 = .ok (.aload_n 0, 1) := by decide +kernel
theorem dX7_ifEdited_67 : decode cX7_ifEdited 67 = .ok (.getfield 33, 3) := by decide +kernel
theorem dX7_ifEdited_70 : decode cX7_ifEdited 70 = .ok (.aload_n 0, 1) := by decide +kernel
theorem dX7_ifEdited_71 : decode cX7_ifEdited 71 = .ok (.getfield 30, 3) := by decide +kernel
theorem dX7_ifEdited_74 : decode cX7_ifEdited 74 = .ok (.iconst (-1), 1) := by decide +kernel
theorem dX7_ifEdited_75 : decode cX7_ifEdited 75 = .ok (.invokevirtual 197, 3) := by decide +kernel
theorem dX7_ifEdited_78 : decode cX7_ifEdited 78 = .ok (.aload_n 0, 1) := by decide +kernel
theorem dX7_ifEdited_79 : decode cX7_ifEdited 79 = .ok (.getfield 33, 3) := by decide +kernel
theorem dX7_ifEdited_82 : decode cX7_ifEdited 82 = .ok (.aload_n 0, 1) := by decide +kernel
theorem dX7_ifEdited_83 : decode cX7_ifEdited 83 = .ok (.getfield 30, 3) := by decide +kernel
theorem dX7_ifEdited_86 : decode cX7_ifEdited 86 = .ok (.invokevirtual 201, 3) := by decide +kernel
theorem dX7_ifEdited_89 : decode cX7_ifEdited 89 = .ok (.aload_n 0, 1) := by decide +kernel
theorem dX7_ifEdited_90 : decode cX7_ifEdited 90 = .ok (.getfield 30, 3) := by decide +kernel
theorem dX7_ifEdited_93 : decode cX7_ifEdited 93 = .ok (.getfield 138, 3) := by decide +kernel
theorem dX7_ifEdited_96 : decode cX7_ifEdited 96 = .ok (.iload 4, 2) := by decide +kernel
theorem dX7_ifEdited_98 : decode cX7_ifEdited 98 = .ok (.iaload, 1) := by decide +kernel
theorem dX7_ifEdited_99 : decode cX7_ifEdited 99 = .ok (.ireturn, 1) := by decide +kernel
theorem dX7_ifRemoved_0 : decode cX7_ifRemoved 0 = .ok (.aload_n 0, 1) := by decide +kernel
theorem dX7_ifRemoved_1 : decode cX7_ifRemoved 1 = .ok (.iload_n 1, 1) := by decide +kernel
theorem dX7_ifRemoved_2 : decode cX7_ifRemoved 2 = .ok (.invokevirtual 95, 3) := by decide +kernel
theorem dX7_ifRemoved_5 : decode cX7_ifRemoved 5 = .ok (.invokestatic 54, 3) := by decide +kernel
theorem dX7_ifRemoved_8 : decode cX7_ifRemoved 8 = .ok (.aload_n 0, 1) := by decide +kernel
theorem dX7_ifRemoved_9 : decode cX7_ifRemoved 9 = .ok (.invokevirtual 173, 3) := by decide +kernel
theorem dX7_ifRemoved_12 : decode cX7_ifRemoved 12 = .ok (.aload_n 0, 1) := by decide +kernel
theorem dX7_ifRemoved_13 : decode cX7_ifRemoved 13 = .ok (.getfield 36, 3) := by decide +kernel
theorem dX7_ifRemoved_16 : decode cX7_ifRemoved 16 = .ok (.iload_n 1, 1) := by decide +kernel
theorem dX7_ifRemoved_17 : decode cX7_ifRemoved 17 = .ok (.iaload, 1) := by decide +kernel
theorem dX7_ifRemoved_18 : decode cX7_ifRemoved 18 = .ok (.invokestatic 204, 3) := by decide +kernel
theorem dX7_ifRemoved_21 : decode cX7_ifRemoved 21 = .ok (.ireturn, 1) := by decide +kernel
theorem dX7_neededStrength_0 : decode cX7_neededStrength 0 = .ok (.aload_n 0, 1) := by decide +kernel
theorem dX7_neededStrength_1 : decode cX7_neededStrength 1 = .ok (.iload_n 1, 1) := by decide +kernel
theorem dX7_neededStrength_2 : decode cX7_neededStrength 2 = .ok (.invokevirtual 95, 3) := by decide +kernel
theorem dX7_neededStrength_5 : decode cX7_neededStrength 5 = .ok (.invokestatic 54, 3) := by decide +kernel
theorem dX7_neededStrength_8 : decode cX7_neededStrength 8 = .ok (.aload_n 0, 1) := by decide +kernel
theorem dX7_neededStrength_9 : decode cX7_neededStrength 9 = .ok (.iload_n 1, 1) := by decide +kernel
theorem dX7_neededStrength_10 : decode cX7_neededStrength 10 = .ok (.invokevirtual 209, 3) := by decide +kernel
theorem dX7_neededStrength_13 : decode cX7_neededStrength 13 = .ok (.ireturn, 1) := by decide +kernel
theorem dX7_freedom_0 : decode cX7_freedom 0 = .ok (.iconst 0, 1) := by decide +kernel
theorem dX7_freedom_1 : decode cX7_freedom 1 = .ok (.istore_n 1, 1) := by decide +kernel
theorem dX7_freedom_2 : decode cX7_freedom 2 = .ok (.iconst 0, 1) := by decide +kernel
theorem dX7_freedom_3 : decode cX7_freedom 3 = .ok (.istore_n 2, 1) := by decide +kernel
theorem dX7_freedom_4 : decode cX7_freedom 4 = .ok (.iload_n 2, 1) := by decide +kernel
theorem dX7_freedom_5 : decode cX7_freedom 5 = .ok (.bipush 10, 2) := by decide +kernel
theorem dX7_freedom_7 : decode cX7_freedom 7 = .ok (.if_icmp .ge 23, 3) := by decide +kernel
theorem dX7_freedom_10 : decode cX7_freedom 10 = .ok (.iload_n 1, 1) := by decide +kernel
theorem dX7_freedom_11 : decode cX7_freedom 11 = .ok (.aload_n 0, 1) := by decide +kernel
theorem dX7_freedom_12 : decode cX7_freedom 12 = .ok (.getfield 19, 3) := by decide +kernel
theorem dX7_freedom_15 : decode cX7_freedom 15 = .ok (.getfield 182, 3) := by decide +kernel
theorem dX7_freedom_18 : decode cX7_freedom 18 = .ok (.iload_n 2, 1) := by decide +kernel
theorem dX7_freedom_19 : decode cX7_freedom 19 = .ok (.invokevirtual 212, 3) := by decide +kernel
theorem dX7_freedom_22 : decode cX7_freedom 22 = .ok (.iadd, 1) := by decide +kernel
theorem dX7_freedom_23 : decode cX7_freedom 23 = .ok (.istore_n 1, 1) := by decide +kernel
theorem dX7_freedom_24 : decode cX7_freedom 24 = .ok (.iinc 2 1, 3) := by decide +kernel
theorem dX7_freedom_27 : decode cX7_freedom 27 = .ok (.goto (-23), 3) := by decide +kernel
theorem dX7_freedom_30 : decode cX7_freedom 30 = .ok (.iload_n 1, 1) := by decide +kernel
theorem dX7_freedom_31 : decode cX7_freedom 31 = .ok (.i2f, 1) := by decide +kernel
theorem dX7_freedom_32 : decode cX7_freedom 32 = .ok (.ldc 215, 2) := by decide +kernel
theorem dX7_freedom_34 : decode cX7_freedom 34 = .ok (.fdiv, 1) := by decide +kernel
theorem dX7_freedom_35 : decode cX7_freedom 35 = .ok (.freturn, 1) := by decide +kernel
theorem dX7_needIndex_0 : decode cX7_needIndex 0 = .ok (.iload_n 0, 1) := by decide +kernel
theorem dX7_needIndex_1 : decode cX7_needIndex 1 = .ok (.ifCond .ne 13, 3) := by decide +kernel
theorem dX7_needIndex_4 : decode cX7_needIndex 4 = .ok (.new 246, 3) := by decide +kernel
theorem dX7_needIndex_7 : decode cX7_needIndex 7 = .ok (.dup, 1) := by decide +kernel
theorem dX7_needIndex_8 : decode cX7_needIndex 8 = .ok (.ldc 248, 2) := by decide +kernel
theorem dX7_needIndex_10 : decode cX7_needIndex 10 = .ok (.invokespecial 250, 3) := by decide +kernel
theorem dX7_needIndex_13 : decode cX7_needIndex 13 = .ok (.athrow, 1) := by decide +kernel
theorem dX7_needIndex_14 : decode cX7_needIndex 14 = .ok (.return_, 1) := by decide +kernel
theorem dX7_needArgument_0 : decode cX7_needArgument 0 = .ok (.iload_n 0, 1) := by decide +kernel
theorem dX7_needArgument_1 : decode cX7_needArgument 1 = .ok (.ifCond .ne 13, 3) := by decide +kernel
theorem dX7_needArgument_4 : decode cX7_needArgument 4 = .ok (.new 253, 3) := by decide +kernel
theorem dX7_needArgument_7 : decode cX7_needArgument 7 = .ok (.dup, 1) := by decide +kernel
theorem dX7_needArgument_8 : decode cX7_needArgument 8 = .ok (.ldc 255, 2) := by decide +kernel
theorem dX7_needArgument_10 : decode cX7_needArgument 10 = .ok (.invokespecial 257, 3) := by decide +kernel
theorem dX7_needArgument_13 : decode cX7_needArgument 13 = .ok (.athrow, 1) := by decide +kernel
theorem dX7_needArgument_14 : decode cX7_needArgument 14 = .ok (.return_, 1) := by decide +kernel
theorem dX7_needState_0 : decode cX7_needState 0 = .ok (.iload_n 0, 1) := by decide +kernel
theorem dX7_needState_1 : decode cX7_needState 1 = .ok (.ifCond .ne 14, 3) := by decide +kernel
theorem dX7_needState_4 : decode cX7_needState 4 = .ok (.new 258, 3) := by decide +kernel
theorem dX7_needState_7 : decode cX7_needState 7 = .ok (.dup, 1) := by decide +kernel
theorem dX7_needState_8 : decode cX7_needState 8 = .ok (.ldc_w 260, 3) := by decide +kernel
theorem dX7_needState_11 : decode cX7_needState 11 = .ok (.invokespecial 262, 3) := by decide +kernel
theorem dX7_needState_14 : decode cX7_needState 14 = .ok (.athrow, 1) := by decide +kernel
theorem dX7_needState_15 : decode cX7_needState 15 = .ok (.return_, 1) := by decide +kernel
theorem dX7_isWithin_0 : decode cX7_isWithin 0 = .ok (.iload_n 1, 1) := by decide +kernel
theorem dX7_isWithin_1 : decode cX7_isWithin 1 = .ok (.iload_n 0, 1) := by decide +kernel
theorem dX7_isWithin_2 : decode cX7_isWithin 2 = .ok (.if_icmp .gt 12, 3) := by decide +kernel
theorem dX7_isWithin_5 : decode cX7_isWithin 5 = .ok (.iload_n 0, 1) := by decide +kernel
theorem dX7_isWithin_6 : decode cX7_isWithin 6 = .ok (.iload_n 2, 1) := by decide +kernel
theorem dX7_isWithin_7 : decode cX7_isWithin 7 = .ok (.if_icmp .gt 7, 3) := by decide +kernel
theorem dX7_isWithin_10 : decode cX7_isWithin 10 = .ok (.iconst 1, 1) := by decide +kernel
theorem dX7_isWithin_11 : decode cX7_isWithin 11 = .ok (.goto 4, 3) := by decide +kernel
theorem dX7_isWithin_14 : decode cX7_isWithin 14 = .ok (.iconst 0, 1) := by decide +kernel
theorem dX7_isWithin_15 : decode cX7_isWithin 15 = .ok (.ireturn, 1) := by decide +kernel
theorem dX7_isPlace_0 : decode cX7_isPlace 0 = .ok (.iload_n 0, 1) := by decide +kernel
theorem dX7_isPlace_1 : decode cX7_isPlace 1 = .ok (.iconst 0, 1) := by decide +kernel
theorem dX7_isPlace_2 : decode cX7_isPlace 2 = .ok (.bipush 9, 2) := by decide +kernel
theorem dX7_isPlace_4 : decode cX7_isPlace 4 = .ok (.invokestatic 58, 3) := by decide +kernel
theorem dX7_isPlace_7 : decode cX7_isPlace 7 = .ok (.ireturn, 1) := by decide +kernel
theorem dX7_isValue_0 : decode cX7_isValue 0 = .ok (.iload_n 0, 1) := by decide +kernel
theorem dX7_isValue_1 : decode cX7_isValue 1 = .ok (.sipush (-1000), 3) := by decide +kernel
theorem dX7_isValue_4 : decode cX7_isValue 4 = .ok (.sipush 1000, 3) := by decide +kernel
theorem dX7_isValue_7 : decode cX7_isValue 7 = .ok (.invokestatic 58, 3) := by decide +kernel
theorem dX7_isValue_10 : decode cX7_isValue 10 = .ok (.ireturn, 1) := by decide +kernel
theorem dX7_isNumber_0 : decode cX7_isNumber 0 = .ok (.iload_n 0, 1) := by decide +kernel
theorem dX7_isNumber_1 : decode cX7_isNumber 1 = .ok (.sipush (-2000), 3) := by decide +kernel
theorem dX7_isNumber_4 : decode cX7_isNumber 4 = .ok (.sipush 2000, 3) := by decide +kernel
theorem dX7_isNumber_7 : decode cX7_isNumber 7 = .ok (.invokestatic 58, 3) := by decide +kernel
theorem dX7_isNumber_10 : decode cX7_isNumber 10 = .ok (.ireturn, 1) := by decide +kernel
theorem dX7_isStrength_0 : decode cX7_isStrength 0 = .ok (.iload_n 0, 1) := by decide +kernel
theorem dX7_isStrength_1 : decode cX7_isStrength 1 = .ok (.iconst 0, 1) := by decide +kernel
theorem dX7_isStrength_2 : decode cX7_isStrength 2 = .ok (.iconst 3, 1) := by decide +kernel
theorem dX7_isStrength_3 : decode cX7_isStrength 3 = .ok (.invokestatic 58, 3) := by decide +kernel
theorem dX7_isStrength_6 : decode cX7_isStrength 6 = .ok (.ireturn, 1) := by decide +kernel
theorem dX7_isCondition_0 : decode cX7_isCondition 0 = .ok (.iload_n 1, 1) := by decide +kernel
theorem dX7_isCondition_1 : decode cX7_isCondition 1 = .ok (.iconst 0, 1) := by decide +kernel
theorem dX7_isCondition_2 : decode cX7_isCondition 2 = .ok (.aload_n 0, 1) := by decide +kernel
theorem dX7_isCondition_3 : decode cX7_isCondition 3 = .ok (.getfield 12, 3) := by decide +kernel
theorem dX7_isCondition_6 : decode cX7_isCondition 6 = .ok (.getfield 71, 3) := by decide +kernel
theorem dX7_isCondition_9 : decode cX7_isCondition 9 = .ok (.getfield 75, 3) := by decide +kernel
theorem dX7_isCondition_12 : decode cX7_isCondition 12 = .ok (.iconst 1, 1) := by decide +kernel
theorem dX7_isCondition_13 : decode cX7_isCondition 13 = .ok (.isub, 1) := by decide +kernel
theorem dX7_isCondition_14 : decode cX7_isCondition 14 = .ok (.invokestatic 58, 3) := by decide +kernel
theorem dX7_isCondition_17 : decode cX7_isCondition 17 = .ok (.ireturn, 1) := by decide +kernel
theorem dX7_change_0 : decode cX7_change 0 = .ok (.aload_n 1, 1) := by decide +kernel
theorem dX7_change_1 : decode cX7_change 1 = .ok (.iload_n 2, 1) := by decide +kernel
theorem dX7_change_2 : decode cX7_change 2 = .ok (.iaload, 1) := by decide +kernel
theorem dX7_change_3 : decode cX7_change 3 = .ok (.istore 4, 2) := by decide +kernel
theorem dX7_change_5 : decode cX7_change 5 = .ok (.aload_n 0, 1) := by decide +kernel
theorem dX7_change_6 : decode cX7_change 6 = .ok (.getfield 26, 3) := by decide +kernel
theorem dX7_change_9 : decode cX7_change 9 = .ok (.aload_n 0, 1) := by decide +kernel
theorem dX7_change_10 : decode cX7_change 10 = .ok (.getfield 12, 3) := by decide +kernel
theorem dX7_change_13 : decode cX7_change 13 = .ok (.invokevirtual 84, 3) := by decide +kernel
theorem dX7_change_16 : decode cX7_change 16 = .ok (.aload_n 1, 1) := by decide +kernel
theorem dX7_change_17 : decode cX7_change 17 = .ok (.iload_n 2, 1) := by decide +kernel
theorem dX7_change_18 : decode cX7_change 18 = .ok (.iload_n 3, 1) := by decide +kernel
theorem dX7_change_19 : decode cX7_change 19 = .ok (.iastore, 1) := by decide +kernel
theorem dX7_change_20 : decode cX7_change 20 = .ok (.aload_n 0, 1) := by decide +kernel
theorem dX7_change_21 : decode cX7_change 21 = .ok (.invokevirtual 92, 3) := by decide +kernel
theorem dX7_change_24 : decode cX7_change 24 = .ok (.iload 4, 2) := by decide +kernel
theorem dX7_change_26 : decode cX7_change 26 = .ok (.ireturn, 1) := by decide +kernel
theorem dX7_fillAndSettle_0 : decode cX7_fillAndSettle 0 = .ok (.aload_n 0, 1) := by decide +kernel
theorem dX7_fillAndSettle_1 : decode cX7_fillAndSettle 1 = .ok (.invokevirtual 141, 3) := by decide +kernel
theorem dX7_fillAndSettle_4 : decode cX7_fillAndSettle 4 = .ok (.aload_n 0, 1) := by decide +kernel
theorem dX7_fillAndSettle_5 : decode cX7_fillAndSettle 5 = .ok (.getfield 19, 3) := by decide +kernel
theorem dX7_fillAndSettle_8 : decode cX7_fillAndSettle 8 = .ok (.aload_n 0, 1) := by decide +kernel
theorem dX7_fillAndSettle_9 : decode cX7_fillAndSettle 9 = .ok (.getfield 12, 3) := by decide +kernel
theorem dX7_fillAndSettle_12 : decode cX7_fillAndSettle 12 = .ok (.invokevirtual 201, 3) := by decide +kernel
theorem dX7_fillAndSettle_15 : decode cX7_fillAndSettle 15 = .ok (.return_, 1) := by decide +kernel
theorem dX7_fillAnew_0 : decode cX7_fillAnew 0 = .ok (.aload_n 0, 1) := by decide +kernel
theorem dX7_fillAnew_1 : decode cX7_fillAnew 1 = .ok (.getfield 19, 3) := by decide +kernel
theorem dX7_fillAnew_4 : decode cX7_fillAnew 4 = .ok (.aload_n 0, 1) := by decide +kernel
theorem dX7_fillAnew_5 : decode cX7_fillAnew 5 = .ok (.getfield 12, 3) := by decide +kernel
theorem dX7_fillAnew_8 : decode cX7_fillAnew 8 = .ok (.iconst (-1), 1) := by decide +kernel
theorem dX7_fillAnew_9 : decode cX7_fillAnew 9 = .ok (.invokevirtual 197, 3) := by decide +kernel
theorem dX7_fillAnew_12 : decode cX7_fillAnew 12 = .ok (.aload_n 0, 1) := by decide +kernel
theorem dX7_fillAnew_13 : decode cX7_fillAnew 13 = .ok (.iconst 0, 1) := by decide +kernel
theorem dX7_fillAnew_14 : decode cX7_fillAnew 14 = .ok (.putfield 263, 3) := by decide +kernel
theorem dX7_fillAnew_17 : decode cX7_fillAnew 17 = .ok (.return_, 1) := by decide +kernel
theorem dX7_knowWithout_0 : decode cX7_knowWithout 0 = .ok (.aload_n 0, 1) := by decide +kernel
theorem dX7_knowWithout_1 : decode cX7_knowWithout 1 = .ok (.getfield 263, 3) := by decide +kernel
theorem dX7_knowWithout_4 : decode cX7_knowWithout 4 = .ok (.ifCond .eq 4, 3) := by decide +kernel
theorem dX7_knowWithout_7 : decode cX7_knowWithout 7 = .ok (.return_, 1) := by decide +kernel
theorem dX7_knowWithout_8 : decode cX7_knowWithout 8 = .ok (.iconst 0, 1) := by decide +kernel
theorem dX7_knowWithout_9 : decode cX7_knowWithout 9 = .ok (.istore_n 1, 1) := by decide +kernel
theorem dX7_knowWithout_10 : decode cX7_knowWithout 10 = .ok (.iload_n 1, 1) := by decide +kernel
theorem dX7_knowWithout_11 : decode cX7_knowWithout 11 = .ok (.aload_n 0, 1) := by decide +kernel
theorem dX7_knowWithout_12 : decode cX7_knowWithout 12 = .ok (.getfield 12, 3) := by decide +kernel
theorem dX7_knowWithout_15 : decode cX7_knowWithout 15 = .ok (.getfield 71, 3) := by decide +kernel
theorem dX7_knowWithout_18 : decode cX7_knowWithout 18 = .ok (.getfield 75, 3) := by decide +kernel
theorem dX7_knowWithout_21 : decode cX7_knowWithout 21 = .ok (.if_icmp .ge 37, 3) := by decide +kernel
theorem dX7_knowWithout_24 : decode cX7_knowWithout 24 = .ok (.aload_n 0, 1) := by decide +kernel
theorem dX7_knowWithout_25 : decode cX7_knowWithout 25 = .ok (.getfield 33, 3) := by decide +kernel
theorem dX7_knowWithout_28 : decode cX7_knowWithout 28 = .ok (.aload_n 0, 1) := by decide +kernel
theorem dX7_knowWithout_29 : decode cX7_knowWithout 29 = .ok (.getfield 12, 3) := by decide +kernel
theorem dX7_knowWithout_32 : decode cX7_knowWithout 32 = .ok (.iload_n 1, 1) := by decide +kernel
theorem dX7_knowWithout_33 : decode cX7_knowWithout 33 = .ok (.invokevirtual 197, 3) := by decide +kernel
theorem dX7_knowWithout_36 : decode cX7_knowWithout 36 = .ok (.aload_n 0, 1) := by decide +kernel
theorem dX7_knowWithout_37 : decode cX7_knowWithout 37 = .ok (.getfield 36, 3) := by decide +kernel
theorem dX7_knowWithout_40 : decode cX7_knowWithout 40 = .ok (.iload_n 1, 1) := by decide +kernel
theorem dX7_knowWithout_41 : decode cX7_knowWithout 41 = .ok (.aload_n 0, 1) := by decide +kernel
theorem dX7_knowWithout_42 : decode cX7_knowWithout 42 = .ok (.getfield 33, 3) := by decide +kernel
theorem dX7_knowWithout_45 : decode cX7_knowWithout 45 = .ok (.getfield 98, 3) := by decide +kernel
theorem dX7_knowWithout_48 : decode cX7_knowWithout 48 = .ok (.getfield 267, 3) := by decide +kernel
theorem dX7_knowWithout_51 : decode cX7_knowWithout 51 = .ok (.iastore, 1) := by decide +kernel
theorem dX7_knowWithout_52 : decode cX7_knowWithout 52 = .ok (.iinc 1 1, 3) := by decide +kernel
theorem dX7_knowWithout_55 : decode cX7_knowWithout 55 = .ok (.goto (-45), 3) := by decide +kernel
theorem dX7_knowWithout_58 : decode cX7_knowWithout 58 = .ok (.aload_n 0, 1) := by decide +kernel
theorem dX7_knowWithout_59 : decode cX7_knowWithout 59 = .ok (.iconst 1, 1) := by decide +kernel
theorem dX7_knowWithout_60 : decode cX7_knowWithout 60 = .ok (.putfield 263, 3) := by decide +kernel
theorem dX7_knowWithout_63 : decode cX7_knowWithout 63 = .ok (.return_, 1) := by decide +kernel
theorem dX7_placeProperty_0 : decode cX7_placeProperty 0 = .ok (.iload_n 2, 1) := by decide +kernel
theorem dX7_placeProperty_1 : decode cX7_placeProperty 1 = .ok (.tableswitch 95 0 4 #[35, 45, 55, 69, 83], 35) := by decide +kernel
theorem dX7_placeProperty_36 : decode cX7_placeProperty 36 = .ok (.aload_n 0, 1) := by decide +kernel
theorem dX7_placeProperty_37 : decode cX7_placeProperty 37 = .ok (.getfield 12, 3) := by decide +kernel
theorem dX7_placeProperty_40 : decode cX7_placeProperty 40 = .ok (.getfield 138, 3) := by decide +kernel
theorem dX7_placeProperty_43 : decode cX7_placeProperty 43 = .ok (.iload_n 1, 1) := by decide +kernel
theorem dX7_placeProperty_44 : decode cX7_placeProperty 44 = .ok (.iaload, 1) := by decide +kernel
theorem dX7_placeProperty_45 : decode cX7_placeProperty 45 = .ok (.ireturn, 1) := by decide +kernel
theorem dX7_placeProperty_46 : decode cX7_placeProperty 46 = .ok (.aload_n 0, 1) := by decide +kernel
theorem dX7_placeProperty_47 : decode cX7_placeProperty 47 = .ok (.getfield 12, 3) := by decide +kernel
theorem dX7_placeProperty_50 : decode cX7_placeProperty 50 = .ok (.getfield 122, 3) := by decide +kernel
theorem dX7_placeProperty_53 : decode cX7_placeProperty 53 = .ok (.iload_n 1, 1) := by decide +kernel
theorem dX7_placeProperty_54 : decode cX7_placeProperty 54 = .ok (.iaload, 1) := by decide +kernel
theorem dX7_placeProperty_55 : decode cX7_placeProperty 55 = .ok (.ireturn, 1) := by decide +kernel
theorem dX7_placeProperty_56 : decode cX7_placeProperty 56 = .ok (.aload_n 0, 1) := by decide +kernel
theorem dX7_placeProperty_57 : decode cX7_placeProperty 57 = .ok (.getfield 19, 3) := by decide +kernel
theorem dX7_placeProperty_60 : decode cX7_placeProperty 60 = .ok (.getfield 182, 3) := by decide +kernel
theorem dX7_placeProperty_63 : decode cX7_placeProperty 63 = .ok (.iload_n 1, 1) := by decide +kernel
theorem dX7_placeProperty_64 : decode cX7_placeProperty 64 = .ok (.bipush 10, 2) := by decide +kernel
theorem dX7_placeProperty_66 : decode cX7_placeProperty 66 = .ok (.invokevirtual 276, 3) := by decide +kernel
theorem dX7_placeProperty_69 : decode cX7_placeProperty 69 = .ok (.ireturn, 1) := by decide +kernel
theorem dX7_placeProperty_70 : decode cX7_placeProperty 70 = .ok (.aload_n 0, 1) := by decide +kernel
theorem dX7_placeProperty_71 : decode cX7_placeProperty 71 = .ok (.getfield 19, 3) := by decide +kernel
theorem dX7_placeProperty_74 : decode cX7_placeProperty 74 = .ok (.getfield 182, 3) := by decide +kernel
theorem dX7_placeProperty_77 : decode cX7_placeProperty 77 = .ok (.iload_n 1, 1) := by decide +kernel
theorem dX7_placeProperty_78 : decode cX7_placeProperty 78 = .ok (.bipush 10, 2) := by decide +kernel
theorem dX7_placeProperty_80 : decode cX7_placeProperty 80 = .ok (.invokevirtual 186, 3) := by decide +kernel
theorem dX7_placeProperty_83 : decode cX7_placeProperty 83 = .ok (.ireturn, 1) := by decide +kernel
theorem dX7_placeProperty_84 : decode cX7_placeProperty 84 = .ok (.aload_n 0, 1) := by decide +kernel
theorem dX7_placeProperty_85 : decode cX7_placeProperty 85 = .ok (.getfield 12, 3) := by decide +kernel
theorem dX7_placeProperty_88 : decode cX7_placeProperty 88 = .ok (.getfield 71, 3) := by decide +kernel
theorem dX7_placeProperty_91 : decode cX7_placeProperty 91 = .ok (.iload_n 1, 1) := by decide +kernel
theorem dX7_placeProperty_92 : decode cX7_placeProperty 92 = .ok (.invokevirtual 279, 3) := by decide +kernel
theorem dX7_placeProperty_95 : decode cX7_placeProperty 95 = .ok (.ireturn, 1) := by decide +kernel
theorem dX7_placeProperty_96 : decode cX7_placeProperty 96 = .ok (.aload_n 0, 1) := by decide +kernel
theorem dX7_placeProperty_97 : decode cX7_placeProperty 97 = .ok (.getfield 12, 3) := by decide +kernel
theorem dX7_placeProperty_100 : decode cX7_placeProperty 100 = .ok (.iload_n 1, 1) := by decide +kernel
theorem dX7_placeProperty_101 : decode cX7_placeProperty 101 = .ok (.invokevirtual 128, 3) := by decide +kernel
theorem dX7_placeProperty_104 : decode cX7_placeProperty 104 = .ok (.ireturn, 1) := by decide +kernel
theorem dX7_conditionProperty_0 : decode cX7_conditionProperty 0 = .ok (.iload_n 2, 1) := by decide +kernel
theorem dX7_conditionProperty_1 : decode cX7_conditionProperty 1 = .ok (.tableswitch 160 0 8 #[51, 64, 77, 90, 103, 116, 128, 141, 154], 51) := by decide +kernel
theorem dX7_conditionProperty_52 : decode cX7_conditionProperty 52 = .ok (.aload_n 0, 1) := by decide +kernel
theorem dX7_conditionProperty_53 : decode cX7_conditionProperty 53 = .ok (.getfield 12, 3) := by decide +kernel
theorem dX7_conditionProperty_56 : decode cX7_conditionProperty 56 = .ok (.getfield 71, 3) := by decide +kernel
theorem dX7_conditionProperty_59 : decode cX7_conditionProperty 59 = .ok (.getfield 282, 3) := by decide +kernel
theorem dX7_conditionProperty_62 : decode cX7_conditionProperty 62 = .ok (.iload_n 1, 1) := by decide +kernel
theorem dX7_conditionProperty_63 : decode cX7_conditionProperty 63 = .ok (.iaload, 1) := by decide +kernel
theorem dX7_conditionProperty_64 : decode cX7_conditionProperty 64 = .ok (.ireturn, 1) := by decide +kernel
theorem dX7_conditionProperty_65 : decode cX7_conditionProperty 65 = .ok (.aload_n 0, 1) := by decide +kernel
theorem dX7_conditionProperty_66 : decode cX7_conditionProperty 66 = .ok (.getfield 12, 3) := by decide +kernel
theorem dX7_conditionProperty_69 : decode cX7_conditionProperty 69 = .ok (.getfield 71, 3) := by decide +kernel
theorem dX7_conditionProperty_72 : decode cX7_conditionProperty 72 = .ok (.getfield 285, 3) := by decide +kernel
theorem dX7_conditionProperty_75 : decode cX7_conditionProperty 75 = .ok (.iload_n 1, 1) := by decide +kernel
theorem dX7_conditionProperty_76 : decode cX7_conditionProperty 76 = .ok (.iaload, 1) := by decide +kernel
theorem dX7_conditionProperty_77 : decode cX7_conditionProperty 77 = .ok (.ireturn, 1) := by decide +kernel
theorem dX7_conditionProperty_78 : decode cX7_conditionProperty 78 = .ok (.aload_n 0, 1) := by decide +kernel
theorem dX7_conditionProperty_79 : decode cX7_conditionProperty 79 = .ok (.getfield 12, 3) := by decide +kernel
theorem dX7_conditionProperty_82 : decode cX7_conditionProperty 82 = .ok (.getfield 71, 3) := by decide +kernel
theorem dX7_conditionProperty_85 : decode cX7_conditionProperty 85 = .ok (.getfield 288, 3) := by decide +kernel
theorem dX7_conditionProperty_88 : decode cX7_conditionProperty 88 = .ok (.iload_n 1, 1) := by decide +kernel
theorem dX7_conditionProperty_89 : decode cX7_conditionProperty 89 = .ok (.iaload, 1) := by decide +kernel
theorem dX7_conditionProperty_90 : decode cX7_conditionProperty 90 = .ok (.ireturn, 1) := by decide +kernel
theorem dX7_conditionProperty_91 : decode cX7_conditionProperty 91 = .ok (.aload_n 0, 1) := by decide +kernel
theorem dX7_conditionProperty_92 : decode cX7_conditionProperty 92 = .ok (.getfield 12, 3) := by decide +kernel
theorem dX7_conditionProperty_95 : decode cX7_conditionProperty 95 = .ok (.getfield 71, 3) := by decide +kernel
theorem dX7_conditionProperty_98 : decode cX7_conditionProperty 98 = .ok (.getfield 119, 3) := by decide +kernel
theorem dX7_conditionProperty_101 : decode cX7_conditionProperty 101 = .ok (.iload_n 1, 1) := by decide +kernel
theorem dX7_conditionProperty_102 : decode cX7_conditionProperty 102 = .ok (.iaload, 1) := by decide +kernel
theorem dX7_conditionProperty_103 : decode cX7_conditionProperty 103 = .ok (.ireturn, 1) := by decide +kernel
theorem dX7_conditionProperty_104 : decode cX7_conditionProperty 104 = .ok (.aload_n 0, 1) := by decide +kernel
theorem dX7_conditionProperty_105 : decode cX7_conditionProperty 105 = .ok (.getfield 12, 3) := by decide +kernel
theorem dX7_conditionProperty_108 : decode cX7_conditionProperty 108 = .ok (.getfield 71, 3) := by decide +kernel
theorem dX7_conditionProperty_111 : decode cX7_conditionProperty 111 = .ok (.getfield 112, 3) := by decide +kernel
theorem dX7_conditionProperty_114 : decode cX7_conditionProperty 114 = .ok (.iload_n 1, 1) := by decide +kernel
theorem dX7_conditionProperty_115 : decode cX7_conditionProperty 115 = .ok (.iaload, 1) := by decide +kernel
theorem dX7_conditionProperty_116 : decode cX7_conditionProperty 116 = .ok (.ireturn, 1) := by decide +kernel
theorem dX7_conditionProperty_117 : decode cX7_conditionProperty 117 = .ok (.aload_n 0, 1) := by decide +kernel
theorem dX7_conditionProperty_118 : decode cX7_conditionProperty 118 = .ok (.getfield 19, 3) := by decide +kernel
theorem dX7_conditionProperty_121 : decode cX7_conditionProperty 121 = .ok (.getfield 98, 3) := by decide +kernel
theorem dX7_conditionProperty_124 : decode cX7_conditionProperty 124 = .ok (.iload_n 1, 1) := by decide +kernel
theorem dX7_conditionProperty_125 : decode cX7_conditionProperty 125 = .ok (.invokevirtual 102, 3) := by decide +kernel
theorem dX7_conditionProperty_128 : decode cX7_conditionProperty 128 = .ok (.ireturn, 1) := by decide +kernel
theorem dX7_conditionProperty_129 : decode cX7_conditionProperty 129 = .ok (.aload_n 0, 1) := by decide +kernel
theorem dX7_conditionProperty_130 : decode cX7_conditionProperty 130 = .ok (.getfield 19, 3) := by decide +kernel
theorem dX7_conditionProperty_133 : decode cX7_conditionProperty 133 = .ok (.getfield 98, 3) := by decide +kernel
theorem dX7_conditionProperty_136 : decode cX7_conditionProperty 136 = .ok (.getfield 291, 3) := by decide +kernel
theorem dX7_conditionProperty_139 : decode cX7_conditionProperty 139 = .ok (.iload_n 1, 1) := by decide +kernel
theorem dX7_conditionProperty_140 : decode cX7_conditionProperty 140 = .ok (.iaload, 1) := by decide +kernel
theorem dX7_conditionProperty_141 : decode cX7_conditionProperty 141 = .ok (.ireturn, 1) := by decide +kernel
theorem dX7_conditionProperty_142 : decode cX7_conditionProperty 142 = .ok (.aload_n 0, 1) := by decide +kernel
theorem dX7_conditionProperty_143 : decode cX7_conditionProperty 143 = .ok (.getfield 19, 3) := by decide +kernel
theorem dX7_conditionProperty_146 : decode cX7_conditionProperty 146 = .ok (.getfield 98, 3) := by decide +kernel
theorem dX7_conditionProperty_149 : decode cX7_conditionProperty 149 = .ok (.getfield 294, 3) := by decide +kernel
theorem dX7_conditionProperty_152 : decode cX7_conditionProperty 152 = .ok (.iload_n 1, 1) := by decide +kernel
theorem dX7_conditionProperty_153 : decode cX7_conditionProperty 153 = .ok (.iaload, 1) := by decide +kernel
theorem dX7_conditionProperty_154 : decode cX7_conditionProperty 154 = .ok (.ireturn, 1) := by decide +kernel
theorem dX7_conditionProperty_155 : decode cX7_conditionProperty 155 = .ok (.aload_n 0, 1) := by decide +kernel
theorem dX7_conditionProperty_156 : decode cX7_conditionProperty 156 = .ok (.iload_n 1, 1) := by decide +kernel
theorem dX7_conditionProperty_157 : decode cX7_conditionProperty 157 = .ok (.invokevirtual 297, 3) := by decide +kernel
theorem dX7_conditionProperty_160 : decode cX7_conditionProperty 160 = .ok (.ireturn, 1) := by decide +kernel
theorem dX7_conditionProperty_161 : decode cX7_conditionProperty 161 = .ok (.aload_n 0, 1) := by decide +kernel
theorem dX7_conditionProperty_162 : decode cX7_conditionProperty 162 = .ok (.getfield 12, 3) := by decide +kernel
theorem dX7_conditionProperty_165 : decode cX7_conditionProperty 165 = .ok (.iload_n 1, 1) := by decide +kernel
theorem dX7_conditionProperty_166 : decode cX7_conditionProperty 166 = .ok (.invokevirtual 300, 3) := by decide +kernel
theorem dX7_conditionProperty_169 : decode cX7_conditionProperty 169 = .ok (.ifCond .eq 7, 3) := by decide +kernel
theorem dX7_conditionProperty_172 : decode cX7_conditionProperty 172 = .ok (.iconst 1, 1) := by decide +kernel
theorem dX7_conditionProperty_173 : decode cX7_conditionProperty 173 = .ok (.goto 4, 3) := by decide +kernel
theorem dX7_conditionProperty_176 : decode cX7_conditionProperty 176 = .ok (.iconst 0, 1) := by decide +kernel
theorem dX7_conditionProperty_177 : decode cX7_conditionProperty 177 = .ok (.ireturn, 1) := by decide +kernel
theorem dX7_editProperty_0 : decode cX7_editProperty 0 = .ok (.iload_n 2, 1) := by decide +kernel
theorem dX7_editProperty_1 : decode cX7_editProperty 1 = .ok (.tableswitch 82 0 3 #[31, 44, 57, 70], 31) := by decide +kernel
theorem dX7_editProperty_32 : decode cX7_editProperty 32 = .ok (.aload_n 0, 1) := by decide +kernel
theorem dX7_editProperty_33 : decode cX7_editProperty 33 = .ok (.getfield 12, 3) := by decide +kernel
theorem dX7_editProperty_36 : decode cX7_editProperty 36 = .ok (.getfield 131, 3) := by decide +kernel
theorem dX7_editProperty_39 : decode cX7_editProperty 39 = .ok (.getfield 282, 3) := by decide +kernel
theorem dX7_editProperty_42 : decode cX7_editProperty 42 = .ok (.iload_n 1, 1) := by decide +kernel
theorem dX7_editProperty_43 : decode cX7_editProperty 43 = .ok (.iaload, 1) := by decide +kernel
theorem dX7_editProperty_44 : decode cX7_editProperty 44 = .ok (.ireturn, 1) := by decide +kernel
theorem dX7_editProperty_45 : decode cX7_editProperty 45 = .ok (.aload_n 0, 1) := by decide +kernel
theorem dX7_editProperty_46 : decode cX7_editProperty 46 = .ok (.getfield 12, 3) := by decide +kernel
theorem dX7_editProperty_49 : decode cX7_editProperty 49 = .ok (.getfield 131, 3) := by decide +kernel
theorem dX7_editProperty_52 : decode cX7_editProperty 52 = .ok (.getfield 119, 3) := by decide +kernel
theorem dX7_editProperty_55 : decode cX7_editProperty 55 = .ok (.iload_n 1, 1) := by decide +kernel
theorem dX7_editProperty_56 : decode cX7_editProperty 56 = .ok (.iaload, 1) := by decide +kernel
theorem dX7_editProperty_57 : decode cX7_editProperty 57 = .ok (.ireturn, 1) := by decide +kernel
theorem dX7_editProperty_58 : decode cX7_editProperty 58 = .ok (.aload_n 0, 1) := by decide +kernel
theorem dX7_editProperty_59 : decode cX7_editProperty 59 = .ok (.getfield 12, 3) := by decide +kernel
theorem dX7_editProperty_62 : decode cX7_editProperty 62 = .ok (.getfield 131, 3) := by decide +kernel
theorem dX7_editProperty_65 : decode cX7_editProperty 65 = .ok (.getfield 112, 3) := by decide +kernel
theorem dX7_editProperty_68 : decode cX7_editProperty 68 = .ok (.iload_n 1, 1) := by decide +kernel
theorem dX7_editProperty_69 : decode cX7_editProperty 69 = .ok (.iaload, 1) := by decide +kernel
theorem dX7_editProperty_70 : decode cX7_editProperty 70 = .ok (.ireturn, 1) := by decide +kernel
theorem dX7_editProperty_71 : decode cX7_editProperty 71 = .ok (.aload_n 0, 1) := by decide +kernel
theorem dX7_editProperty_72 : decode cX7_editProperty 72 = .ok (.getfield 19, 3) := by decide +kernel
theorem dX7_editProperty_75 : decode cX7_editProperty 75 = .ok (.getfield 303, 3) := by decide +kernel
theorem dX7_editProperty_78 : decode cX7_editProperty 78 = .ok (.iload_n 1, 1) := by decide +kernel
theorem dX7_editProperty_79 : decode cX7_editProperty 79 = .ok (.invokevirtual 102, 3) := by decide +kernel
theorem dX7_editProperty_82 : decode cX7_editProperty 82 = .ok (.ireturn, 1) := by decide +kernel
theorem dX7_editProperty_83 : decode cX7_editProperty 83 = .ok (.aload_n 0, 1) := by decide +kernel
theorem dX7_editProperty_84 : decode cX7_editProperty 84 = .ok (.getfield 19, 3) := by decide +kernel
theorem dX7_editProperty_87 : decode cX7_editProperty 87 = .ok (.getfield 303, 3) := by decide +kernel
theorem dX7_editProperty_90 : decode cX7_editProperty 90 = .ok (.getfield 291, 3) := by decide +kernel
theorem dX7_editProperty_93 : decode cX7_editProperty 93 = .ok (.iload_n 1, 1) := by decide +kernel
theorem dX7_editProperty_94 : decode cX7_editProperty 94 = .ok (.iaload, 1) := by decide +kernel
theorem dX7_editProperty_95 : decode cX7_editProperty 95 = .ok (.ireturn, 1) := by decide +kernel
theorem dX7_countOf_0 : decode cX7_countOf 0 = .ok (.iload_n 1, 1) := by decide +kernel
theorem dX7_countOf_1 : decode cX7_countOf 1 = .ok (.tableswitch 111 0 6 #[43, 54, 68, 79, 93, 101, 106], 43) := by decide +kernel
theorem dX7_countOf_44 : decode cX7_countOf 44 = .ok (.aload_n 0, 1) := by decide +kernel
theorem dX7_countOf_45 : decode cX7_countOf 45 = .ok (.getfield 12, 3) := by decide +kernel
theorem dX7_countOf_48 : decode cX7_countOf 48 = .ok (.getfield 71, 3) := by decide +kernel
theorem dX7_countOf_51 : decode cX7_countOf 51 = .ok (.getfield 75, 3) := by decide +kernel
theorem dX7_countOf_54 : decode cX7_countOf 54 = .ok (.ireturn, 1) := by decide +kernel
theorem dX7_countOf_55 : decode cX7_countOf 55 = .ok (.aload_n 0, 1) := by decide +kernel
theorem dX7_countOf_56 : decode cX7_countOf 56 = .ok (.getfield 19, 3) := by decide +kernel
theorem dX7_countOf_59 : decode cX7_countOf 59 = .ok (.getfield 98, 3) := by decide +kernel
theorem dX7_countOf_62 : decode cX7_countOf 62 = .ok (.getfield 267, 3) := by decide +kernel
theorem dX7_countOf_65 : decode cX7_countOf 65 = .ok (.invokestatic 204, 3) := by decide +kernel
theorem dX7_countOf_68 : decode cX7_countOf 68 = .ok (.ireturn, 1) := by decide +kernel
theorem dX7_countOf_69 : decode cX7_countOf 69 = .ok (.aload_n 0, 1) := by decide +kernel
theorem dX7_countOf_70 : decode cX7_countOf 70 = .ok (.getfield 12, 3) := by decide +kernel
theorem dX7_countOf_73 : decode cX7_countOf 73 = .ok (.getfield 131, 3) := by decide +kernel
theorem dX7_countOf_76 : decode cX7_countOf 76 = .ok (.getfield 75, 3) := by decide +kernel
theorem dX7_countOf_79 : decode cX7_countOf 79 = .ok (.ireturn, 1) := by decide +kernel
theorem dX7_countOf_80 : decode cX7_countOf 80 = .ok (.aload_n 0, 1) := by decide +kernel
theorem dX7_countOf_81 : decode cX7_countOf 81 = .ok (.getfield 19, 3) := by decide +kernel
theorem dX7_countOf_84 : decode cX7_countOf 84 = .ok (.getfield 303, 3) := by decide +kernel
theorem dX7_countOf_87 : decode cX7_countOf 87 = .ok (.getfield 267, 3) := by decide +kernel
theorem dX7_countOf_90 : decode cX7_countOf 90 = .ok (.invokestatic 204, 3) := by decide +kernel
theorem dX7_countOf_93 : decode cX7_countOf 93 = .ok (.ireturn, 1) := by decide +kernel
theorem dX7_countOf_94 : decode cX7_countOf 94 = .ok (.aload_n 0, 1) := by decide +kernel
theorem dX7_countOf_95 : decode cX7_countOf 95 = .ok (.getfield 26, 3) := by decide +kernel
theorem dX7_countOf_98 : decode cX7_countOf 98 = .ok (.getfield 165, 3) := by decide +kernel
theorem dX7_countOf_101 : decode cX7_countOf 101 = .ok (.ireturn, 1) := by decide +kernel
theorem dX7_countOf_102 : decode cX7_countOf 102 = .ok (.aload_n 0, 1) := by decide +kernel
theorem dX7_countOf_103 : decode cX7_countOf 103 = .ok (.invokevirtual 306, 3) := by decide +kernel
theorem dX7_countOf_106 : decode cX7_countOf 106 = .ok (.ireturn, 1) := by decide +kernel
theorem dX7_countOf_107 : decode cX7_countOf 107 = .ok (.aload_n 0, 1) := by decide +kernel
theorem dX7_countOf_108 : decode cX7_countOf 108 = .ok (.invokevirtual 309, 3) := by decide +kernel
theorem dX7_countOf_111 : decode cX7_countOf 111 = .ok (.ireturn, 1) := by decide +kernel
theorem dX7_countOf_112 : decode cX7_countOf 112 = .ok (.aload_n 0, 1) := by decide +kernel
theorem dX7_countOf_113 : decode cX7_countOf 113 = .ok (.invokevirtual 312, 3) := by decide +kernel
theorem dX7_countOf_116 : decode cX7_countOf 116 = .ok (.ireturn, 1) := by decide +kernel
theorem dX7_fixedPlaces_0 : decode cX7_fixedPlaces 0 = .ok (.iconst 0, 1) := by decide +kernel
theorem dX7_fixedPlaces_1 : decode cX7_fixedPlaces 1 = .ok (.istore_n 1, 1) := by decide +kernel
theorem dX7_fixedPlaces_2 : decode cX7_fixedPlaces 2 = .ok (.iconst 0, 1) := by decide +kernel
theorem dX7_fixedPlaces_3 : decode cX7_fixedPlaces 3 = .ok (.istore_n 2, 1) := by decide +kernel
theorem dX7_fixedPlaces_4 : decode cX7_fixedPlaces 4 = .ok (.iload_n 2, 1) := by decide +kernel
theorem dX7_fixedPlaces_5 : decode cX7_fixedPlaces 5 = .ok (.bipush 10, 2) := by decide +kernel
theorem dX7_fixedPlaces_7 : decode cX7_fixedPlaces 7 = .ok (.if_icmp .ge 26, 3) := by decide +kernel
theorem dX7_fixedPlaces_10 : decode cX7_fixedPlaces 10 = .ok (.aload_n 0, 1) := by decide +kernel
theorem dX7_fixedPlaces_11 : decode cX7_fixedPlaces 11 = .ok (.getfield 19, 3) := by decide +kernel
theorem dX7_fixedPlaces_14 : decode cX7_fixedPlaces 14 = .ok (.getfield 182, 3) := by decide +kernel
theorem dX7_fixedPlaces_17 : decode cX7_fixedPlaces 17 = .ok (.iload_n 2, 1) := by decide +kernel
theorem dX7_fixedPlaces_18 : decode cX7_fixedPlaces 18 = .ok (.invokevirtual 212, 3) := by decide +kernel
theorem dX7_fixedPlaces_21 : decode cX7_fixedPlaces 21 = .ok (.ifCond .ne 6, 3) := by decide +kernel
theorem dX7_fixedPlaces_24 : decode cX7_fixedPlaces 24 = .ok (.iinc 1 1, 3) := by decide +kernel
theorem dX7_fixedPlaces_27 : decode cX7_fixedPlaces 27 = .ok (.iinc 2 1, 3) := by decide +kernel
theorem dX7_fixedPlaces_30 : decode cX7_fixedPlaces 30 = .ok (.goto (-26), 3) := by decide +kernel
theorem dX7_fixedPlaces_33 : decode cX7_fixedPlaces 33 = .ok (.iload_n 1, 1) := by decide +kernel
theorem dX7_fixedPlaces_34 : decode cX7_fixedPlaces 34 = .ok (.ireturn, 1) := by decide +kernel
theorem dX7_conditionsThatHold_0 : decode cX7_conditionsThatHold 0 = .ok (.iconst 0, 1) := by decide +kernel
theorem dX7_conditionsThatHold_1 : decode cX7_conditionsThatHold 1 = .ok (.istore_n 1, 1) := by decide +kernel
theorem dX7_conditionsThatHold_2 : decode cX7_conditionsThatHold 2 = .ok (.iconst 0, 1) := by decide +kernel
theorem dX7_conditionsThatHold_3 : decode cX7_conditionsThatHold 3 = .ok (.istore_n 2, 1) := by decide +kernel
theorem dX7_conditionsThatHold_4 : decode cX7_conditionsThatHold 4 = .ok (.iload_n 2, 1) := by decide +kernel
theorem dX7_conditionsThatHold_5 : decode cX7_conditionsThatHold 5 = .ok (.aload_n 0, 1) := by decide +kernel
theorem dX7_conditionsThatHold_6 : decode cX7_conditionsThatHold 6 = .ok (.getfield 12, 3) := by decide +kernel
theorem dX7_conditionsThatHold_9 : decode cX7_conditionsThatHold 9 = .ok (.getfield 71, 3) := by decide +kernel
theorem dX7_conditionsThatHold_12 : decode cX7_conditionsThatHold 12 = .ok (.getfield 75, 3) := by decide +kernel
theorem dX7_conditionsThatHold_15 : decode cX7_conditionsThatHold 15 = .ok (.if_icmp .ge 23, 3) := by decide +kernel
theorem dX7_conditionsThatHold_18 : decode cX7_conditionsThatHold 18 = .ok (.aload_n 0, 1) := by decide +kernel
theorem dX7_conditionsThatHold_19 : decode cX7_conditionsThatHold 19 = .ok (.getfield 12, 3) := by decide +kernel
theorem dX7_conditionsThatHold_22 : decode cX7_conditionsThatHold 22 = .ok (.iload_n 2, 1) := by decide +kernel
theorem dX7_conditionsThatHold_23 : decode cX7_conditionsThatHold 23 = .ok (.invokevirtual 300, 3) := by decide +kernel
theorem dX7_conditionsThatHold_26 : decode cX7_conditionsThatHold 26 = .ok (.ifCond .eq 6, 3) := by decide +kernel
theorem dX7_conditionsThatHold_29 : decode cX7_conditionsThatHold 29 = .ok (.iinc 1 1, 3) := by decide +kernel
theorem dX7_conditionsThatHold_32 : decode cX7_conditionsThatHold 32 = .ok (.iinc 2 1, 3) := by decide +kernel
theorem dX7_conditionsThatHold_35 : decode cX7_conditionsThatHold 35 = .ok (.goto (-31), 3) := by decide +kernel
theorem dX7_conditionsThatHold_38 : decode cX7_conditionsThatHold 38 = .ok (.iload_n 1, 1) := by decide +kernel
theorem dX7_conditionsThatHold_39 : decode cX7_conditionsThatHold 39 = .ok (.ireturn, 1) := by decide +kernel
theorem dX7_sumOfValues_0 : decode cX7_sumOfValues 0 = .ok (.iconst 0, 1) := by decide +kernel
theorem dX7_sumOfValues_1 : decode cX7_sumOfValues 1 = .ok (.istore_n 1, 1) := by decide +kernel
theorem dX7_sumOfValues_2 : decode cX7_sumOfValues 2 = .ok (.iconst 0, 1) := by decide +kernel
theorem dX7_sumOfValues_3 : decode cX7_sumOfValues 3 = .ok (.istore_n 2, 1) := by decide +kernel
theorem dX7_sumOfValues_4 : decode cX7_sumOfValues 4 = .ok (.iload_n 2, 1) := by decide +kernel
theorem dX7_sumOfValues_5 : decode cX7_sumOfValues 5 = .ok (.bipush 10, 2) := by decide +kernel
theorem dX7_sumOfValues_7 : decode cX7_sumOfValues 7 = .ok (.if_icmp .ge 21, 3) := by decide +kernel
theorem dX7_sumOfValues_10 : decode cX7_sumOfValues 10 = .ok (.iload_n 1, 1) := by decide +kernel
theorem dX7_sumOfValues_11 : decode cX7_sumOfValues 11 = .ok (.aload_n 0, 1) := by decide +kernel
theorem dX7_sumOfValues_12 : decode cX7_sumOfValues 12 = .ok (.getfield 12, 3) := by decide +kernel
theorem dX7_sumOfValues_15 : decode cX7_sumOfValues 15 = .ok (.getfield 138, 3) := by decide +kernel
theorem dX7_sumOfValues_18 : decode cX7_sumOfValues 18 = .ok (.iload_n 2, 1) := by decide +kernel
theorem dX7_sumOfValues_19 : decode cX7_sumOfValues 19 = .ok (.iaload, 1) := by decide +kernel
theorem dX7_sumOfValues_20 : decode cX7_sumOfValues 20 = .ok (.iadd, 1) := by decide +kernel
theorem dX7_sumOfValues_21 : decode cX7_sumOfValues 21 = .ok (.istore_n 1, 1) := by decide +kernel
theorem dX7_sumOfValues_22 : decode cX7_sumOfValues 22 = .ok (.iinc 2 1, 3) := by decide +kernel
theorem dX7_sumOfValues_25 : decode cX7_sumOfValues 25 = .ok (.goto (-21), 3) := by decide +kernel
theorem dX7_sumOfValues_28 : decode cX7_sumOfValues 28 = .ok (.iload_n 1, 1) := by decide +kernel
theorem dX7_sumOfValues_29 : decode cX7_sumOfValues 29 = .ok (.ireturn, 1) := by decide +kernel
theorem dX7_placesNotAt_0 : decode cX7_placesNotAt 0 = .ok (.iconst 0, 1) := by decide +kernel
theorem dX7_placesNotAt_1 : decode cX7_placesNotAt 1 = .ok (.istore_n 2, 1) := by decide +kernel
theorem dX7_placesNotAt_2 : decode cX7_placesNotAt 2 = .ok (.iconst 0, 1) := by decide +kernel
theorem dX7_placesNotAt_3 : decode cX7_placesNotAt 3 = .ok (.istore_n 3, 1) := by decide +kernel
theorem dX7_placesNotAt_4 : decode cX7_placesNotAt 4 = .ok (.iload_n 3, 1) := by decide +kernel
theorem dX7_placesNotAt_5 : decode cX7_placesNotAt 5 = .ok (.bipush 10, 2) := by decide +kernel
theorem dX7_placesNotAt_7 : decode cX7_placesNotAt 7 = .ok (.if_icmp .ge 25, 3) := by decide +kernel
theorem dX7_placesNotAt_10 : decode cX7_placesNotAt 10 = .ok (.aload_n 0, 1) := by decide +kernel
theorem dX7_placesNotAt_11 : decode cX7_placesNotAt 11 = .ok (.getfield 12, 3) := by decide +kernel
theorem dX7_placesNotAt_14 : decode cX7_placesNotAt 14 = .ok (.getfield 138, 3) := by decide +kernel
theorem dX7_placesNotAt_17 : decode cX7_placesNotAt 17 = .ok (.iload_n 3, 1) := by decide +kernel
theorem dX7_placesNotAt_18 : decode cX7_placesNotAt 18 = .ok (.iaload, 1) := by decide +kernel
theorem dX7_placesNotAt_19 : decode cX7_placesNotAt 19 = .ok (.iload_n 1, 1) := by decide +kernel
theorem dX7_placesNotAt_20 : decode cX7_placesNotAt 20 = .ok (.if_icmp .eq 6, 3) := by decide +kernel
theorem dX7_placesNotAt_23 : decode cX7_placesNotAt 23 = .ok (.iinc 2 1, 3) := by decide +kernel
theorem dX7_placesNotAt_26 : decode cX7_placesNotAt 26 = .ok (.iinc 3 1, 3) := by decide +kernel
theorem dX7_placesNotAt_29 : decode cX7_placesNotAt 29 = .ok (.goto (-25), 3) := by decide +kernel
theorem dX7_placesNotAt_32 : decode cX7_placesNotAt 32 = .ok (.iload_n 2, 1) := by decide +kernel
theorem dX7_placesNotAt_33 : decode cX7_placesNotAt 33 = .ok (.ireturn, 1) := by decide +kernel
theorem dX7_culpritsOf_0 : decode cX7_culpritsOf 0 = .ok (.aload_n 0, 1) := by decide +kernel
theorem dX7_culpritsOf_1 : decode cX7_culpritsOf 1 = .ok (.getfield 19, 3) := by decide +kernel
theorem dX7_culpritsOf_4 : decode cX7_culpritsOf 4 = .ok (.getfield 98, 3) := by decide +kernel
theorem dX7_culpritsOf_7 : decode cX7_culpritsOf 7 = .ok (.astore_n 2, 1) := by decide +kernel
theorem dX7_culpritsOf_8 : decode cX7_culpritsOf 8 = .ok (.aload_n 2, 1) := by decide +kernel
theorem dX7_culpritsOf_9 : decode cX7_culpritsOf 9 = .ok (.iload_n 1, 1) := by decide +kernel
theorem dX7_culpritsOf_10 : decode cX7_culpritsOf 10 = .ok (.invokevirtual 102, 3) := by decide +kernel
theorem dX7_culpritsOf_13 : decode cX7_culpritsOf 13 = .ok (.iconst 1, 1) := by decide +kernel
theorem dX7_culpritsOf_14 : decode cX7_culpritsOf 14 = .ok (.if_icmp .ne 5, 3) := by decide +kernel
theorem dX7_culpritsOf_17 : decode cX7_culpritsOf 17 = .ok (.iconst 0, 1) := by decide +kernel
theorem dX7_culpritsOf_18 : decode cX7_culpritsOf 18 = .ok (.ireturn, 1) := by decide +kernel
theorem dX7_culpritsOf_19 : decode cX7_culpritsOf 19 = .ok (.iconst 0, 1) := by decide +kernel
theorem dX7_culpritsOf_20 : decode cX7_culpritsOf 20 = .ok (.istore_n 3, 1) := by decide +kernel
theorem dX7_culpritsOf_21 : decode cX7_culpritsOf 21 = .ok (.iconst 0, 1) := by decide +kernel
theorem dX7_culpritsOf_22 : decode cX7_culpritsOf 22 = .ok (.istore 4, 2) := by decide +kernel
theorem dX7_culpritsOf_24 : decode cX7_culpritsOf 24 = .ok (.iload 4, 2) := by decide +kernel
theorem dX7_culpritsOf_26 : decode cX7_culpritsOf 26 = .ok (.aload_n 0, 1) := by decide +kernel
theorem dX7_culpritsOf_27 : decode cX7_culpritsOf 27 = .ok (.getfield 12, 3) := by decide +kernel
theorem dX7_culpritsOf_30 : decode cX7_culpritsOf 30 = .ok (.getfield 71, 3) := by decide +kernel
theorem dX7_culpritsOf_33 : decode cX7_culpritsOf 33 = .ok (.getfield 75, 3) := by decide +kernel
theorem dX7_culpritsOf_36 : decode cX7_culpritsOf 36 = .ok (.if_icmp .ge 69, 3) := by decide +kernel
theorem dX7_culpritsOf_39 : decode cX7_culpritsOf 39 = .ok (.aload_n 2, 1) := by decide +kernel
theorem dX7_culpritsOf_40 : decode cX7_culpritsOf 40 = .ok (.iload 4, 2) := by decide +kernel
theorem dX7_culpritsOf_42 : decode cX7_culpritsOf 42 = .ok (.invokevirtual 102, 3) := by decide +kernel
theorem dX7_culpritsOf_45 : decode cX7_culpritsOf 45 = .ok (.iconst 1, 1) := by decide +kernel
theorem dX7_culpritsOf_46 : decode cX7_culpritsOf 46 = .ok (.if_icmp .ne 23, 3) := by decide +kernel
theorem dX7_culpritsOf_49 : decode cX7_culpritsOf 49 = .ok (.aload_n 2, 1) := by decide +kernel
theorem dX7_culpritsOf_50 : decode cX7_culpritsOf 50 = .ok (.getfield 294, 3) := by decide +kernel
theorem dX7_culpritsOf_53 : decode cX7_culpritsOf 53 = .ok (.iload 4, 2) := by decide +kernel
theorem dX7_culpritsOf_55 : decode cX7_culpritsOf 55 = .ok (.iaload, 1) := by decide +kernel
theorem dX7_culpritsOf_56 : decode cX7_culpritsOf 56 = .ok (.aload_n 2, 1) := by decide +kernel
theorem dX7_culpritsOf_57 : decode cX7_culpritsOf 57 = .ok (.getfield 294, 3) := by decide +kernel
theorem dX7_culpritsOf_60 : decode cX7_culpritsOf 60 = .ok (.iload_n 1, 1) := by decide +kernel
theorem dX7_culpritsOf_61 : decode cX7_culpritsOf 61 = .ok (.iaload, 1) := by decide +kernel
theorem dX7_culpritsOf_62 : decode cX7_culpritsOf 62 = .ok (.if_icmp .ge 7, 3) := by decide +kernel
theorem dX7_culpritsOf_65 : decode cX7_culpritsOf 65 = .ok (.iconst 1, 1) := by decide +kernel
theorem dX7_culpritsOf_66 : decode cX7_culpritsOf 66 = .ok (.goto 4, 3) := by decide +kernel
theorem dX7_culpritsOf_69 : decode cX7_culpritsOf 69 = .ok (.iconst 0, 1) := by decide +kernel
theorem dX7_culpritsOf_70 : decode cX7_culpritsOf 70 = .ok (.istore 5, 2) := by decide +kernel
theorem dX7_culpritsOf_72 : decode cX7_culpritsOf 72 = .ok (.iload 5, 2) := by decide +kernel
theorem dX7_culpritsOf_74 : decode cX7_culpritsOf 74 = .ok (.ifCond .eq 25, 3) := by decide +kernel
theorem dX7_culpritsOf_77 : decode cX7_culpritsOf 77 = .ok (.aload_n 0, 1) := by decide +kernel
theorem dX7_culpritsOf_78 : decode cX7_culpritsOf 78 = .ok (.getfield 36, 3) := by decide +kernel
theorem dX7_culpritsOf_81 : decode cX7_culpritsOf 81 = .ok (.iload 4, 2) := by decide +kernel
theorem dX7_culpritsOf_83 : decode cX7_culpritsOf 83 = .ok (.iaload, 1) := by decide +kernel
theorem dX7_culpritsOf_84 : decode cX7_culpritsOf 84 = .ok (.iload_n 1, 1) := by decide +kernel
theorem dX7_culpritsOf_85 : decode cX7_culpritsOf 85 = .ok (.ishr, 1) := by decide +kernel
theorem dX7_culpritsOf_86 : decode cX7_culpritsOf 86 = .ok (.iconst 1, 1) := by decide +kernel
theorem dX7_culpritsOf_87 : decode cX7_culpritsOf 87 = .ok (.iand, 1) := by decide +kernel
theorem dX7_culpritsOf_88 : decode cX7_culpritsOf 88 = .ok (.iconst 1, 1) := by decide +kernel
theorem dX7_culpritsOf_89 : decode cX7_culpritsOf 89 = .ok (.if_icmp .ne 10, 3) := by decide +kernel
theorem dX7_culpritsOf_92 : decode cX7_culpritsOf 92 = .ok (.iload_n 3, 1) := by decide +kernel
theorem dX7_culpritsOf_93 : decode cX7_culpritsOf 93 = .ok (.iconst 1, 1) := by decide +kernel
theorem dX7_culpritsOf_94 : decode cX7_culpritsOf 94 = .ok (.iload 4, 2) := by decide +kernel
theorem dX7_culpritsOf_96 : decode cX7_culpritsOf 96 = .ok (.ishl, 1) := by decide +kernel
theorem dX7_culpritsOf_97 : decode cX7_culpritsOf 97 = .ok (.ior, 1) := by decide +kernel
theorem dX7_culpritsOf_98 : decode cX7_culpritsOf 98 = .ok (.istore_n 3, 1) := by decide +kernel
theorem dX7_culpritsOf_99 : decode cX7_culpritsOf 99 = .ok (.iinc 4 1, 3) := by decide +kernel
theorem dX7_culpritsOf_102 : decode cX7_culpritsOf 102 = .ok (.goto (-78), 3) := by decide +kernel
theorem dX7_culpritsOf_105 : decode cX7_culpritsOf 105 = .ok (.iload_n 3, 1) := by decide +kernel
theorem dX7_culpritsOf_106 : decode cX7_culpritsOf 106 = .ok (.ireturn, 1) := by decide +kernel
theorem dX7_leastFillingStrength_0 : decode cX7_leastFillingStrength 0 = .ok (.aload_n 0, 1) := by decide +kernel
theorem dX7_leastFillingStrength_1 : decode cX7_leastFillingStrength 1 = .ok (.getfield 30, 3) := by decide +kernel
theorem dX7_leastFillingStrength_4 : decode cX7_leastFillingStrength 4 = .ok (.aload_n 0, 1) := by decide +kernel
theorem dX7_leastFillingStrength_5 : decode cX7_leastFillingStrength 5 = .ok (.getfield 12, 3) := by decide +kernel
theorem dX7_leastFillingStrength_8 : decode cX7_leastFillingStrength 8 = .ok (.invokevirtual 194, 3) := by decide +kernel
theorem dX7_leastFillingStrength_11 : decode cX7_leastFillingStrength 11 = .ok (.iconst 0, 1) := by decide +kernel
theorem dX7_leastFillingStrength_12 : decode cX7_leastFillingStrength 12 = .ok (.istore_n 2, 1) := by decide +kernel
theorem dX7_leastFillingStrength_13 : decode cX7_leastFillingStrength 13 = .ok (.iload_n 2, 1) := by decide +kernel
theorem dX7_leastFillingStrength_14 : decode cX7_leastFillingStrength 14 = .ok (.iconst 3, 1) := by decide +kernel
theorem dX7_leastFillingStrength_15 : decode cX7_leastFillingStrength 15 = .ok (.if_icmp .gt 51, 3) := by decide +kernel
theorem dX7_leastFillingStrength_18 : decode cX7_leastFillingStrength 18 = .ok (.aload_n 0, 1) := by decide +kernel
theorem dX7_leastFillingStrength_19 : decode cX7_leastFillingStrength 19 = .ok (.getfield 30, 3) := by decide +kernel
theorem dX7_leastFillingStrength_22 : decode cX7_leastFillingStrength 22 = .ok (.getfield 71, 3) := by decide +kernel
theorem dX7_leastFillingStrength_25 : decode cX7_leastFillingStrength 25 = .ok (.getfield 112, 3) := by decide +kernel
theorem dX7_leastFillingStrength_28 : decode cX7_leastFillingStrength 28 = .ok (.iload_n 1, 1) := by decide +kernel
theorem dX7_leastFillingStrength_29 : decode cX7_leastFillingStrength 29 = .ok (.iload_n 2, 1) := by decide +kernel
theorem dX7_leastFillingStrength_30 : decode cX7_leastFillingStrength 30 = .ok (.iastore, 1) := by decide +kernel
theorem dX7_leastFillingStrength_31 : decode cX7_leastFillingStrength 31 = .ok (.aload_n 0, 1) := by decide +kernel
theorem dX7_leastFillingStrength_32 : decode cX7_leastFillingStrength 32 = .ok (.getfield 33, 3) := by decide +kernel
theorem dX7_leastFillingStrength_35 : decode cX7_leastFillingStrength 35 = .ok (.aload_n 0, 1) := by decide +kernel
theorem dX7_leastFillingStrength_36 : decode cX7_leastFillingStrength 36 = .ok (.getfield 30, 3) := by decide +kernel
theorem dX7_leastFillingStrength_39 : decode cX7_leastFillingStrength 39 = .ok (.iconst (-1), 1) := by decide +kernel
theorem dX7_leastFillingStrength_40 : decode cX7_leastFillingStrength 40 = .ok (.invokevirtual 197, 3) := by decide +kernel
theorem dX7_leastFillingStrength_43 : decode cX7_leastFillingStrength 43 = .ok (.aload_n 0, 1) := by decide +kernel
theorem dX7_leastFillingStrength_44 : decode cX7_leastFillingStrength 44 = .ok (.getfield 33, 3) := by decide +kernel
theorem dX7_leastFillingStrength_47 : decode cX7_leastFillingStrength 47 = .ok (.getfield 98, 3) := by decide +kernel
theorem dX7_leastFillingStrength_50 : decode cX7_leastFillingStrength 50 = .ok (.iload_n 1, 1) := by decide +kernel
theorem dX7_leastFillingStrength_51 : decode cX7_leastFillingStrength 51 = .ok (.invokevirtual 102, 3) := by decide +kernel
theorem dX7_leastFillingStrength_54 : decode cX7_leastFillingStrength 54 = .ok (.iconst 1, 1) := by decide +kernel
theorem dX7_leastFillingStrength_55 : decode cX7_leastFillingStrength 55 = .ok (.if_icmp .ne 5, 3) := by decide +kernel
theorem dX7_leastFillingStrength_58 : decode cX7_leastFillingStrength 58 = .ok (.iload_n 2, 1) := by decide +kernel
theorem dX7_leastFillingStrength_59 : decode cX7_leastFillingStrength 59 = .ok (.ireturn, 1) := by decide +kernel
theorem dX7_leastFillingStrength_60 : decode cX7_leastFillingStrength 60 = .ok (.iinc 2 1, 3) := by decide +kernel
theorem dX7_leastFillingStrength_63 : decode cX7_leastFillingStrength 63 = .ok (.goto (-50), 3) := by decide +kernel
theorem dX7_leastFillingStrength_66 : decode cX7_leastFillingStrength 66 = .ok (.iconst (-1), 1) := by decide +kernel
theorem dX7_leastFillingStrength_67 : decode cX7_leastFillingStrength 67 = .ok (.ireturn, 1) := by decide +kernel
