theorem dX8_init_0 : decode cX8_init 0 = .ok (.aload_n 0, 1) := by decide +kernel
theorem dX8_init_1 : decode cX8_init 1 = .ok (.invokespecial 1, 3) := by decide +kernel
theorem dX8_init_4 : decode cX8_init 4 = .ok (.aload_n 0, 1) := by decide +kernel
theorem dX8_init_5 : decode cX8_init 5 = .ok (.bipush 115, 2) := by decide +kernel
theorem dX8_init_7 : decode cX8_init 7 = .ok (.newarray .int, 2) := by decide +kernel
theorem dX8_init_9 : decode cX8_init 9 = .ok (.putfield 7, 3) := by decide +kernel
theorem dX8_init_12 : decode cX8_init 12 = .ok (.aload_n 0, 1) := by decide +kernel
theorem dX8_init_13 : decode cX8_init 13 = .ok (.sipush 920, 3) := by decide +kernel
theorem dX8_init_16 : decode cX8_init 16 = .ok (.newarray .int, 2) := by decide +kernel
theorem dX8_init_18 : decode cX8_init 18 = .ok (.putfield 13, 3) := by decide +kernel
theorem dX8_init_21 : decode cX8_init 21 = .ok (.aload_n 0, 1) := by decide +kernel
theorem dX8_init_22 : decode cX8_init 22 = .ok (.bipush 60, 2) := by decide +kernel
theorem dX8_init_24 : decode cX8_init 24 = .ok (.newarray .int, 2) := by decide +kernel
theorem dX8_init_26 : decode cX8_init 26 = .ok (.putfield 16, 3) := by decide +kernel
theorem dX8_init_29 : decode cX8_init 29 = .ok (.aload_n 0, 1) := by decide +kernel
theorem dX8_init_30 : decode cX8_init 30 = .ok (.bipush 121, 2) := by decide +kernel
theorem dX8_init_32 : decode cX8_init 32 = .ok (.newarray .int, 2) := by decide +kernel
theorem dX8_init_34 : decode cX8_init 34 = .ok (.putfield 19, 3) := by decide +kernel
theorem dX8_init_37 : decode cX8_init 37 = .ok (.aload_n 0, 1) := by decide +kernel
theorem dX8_init_38 : decode cX8_init 38 = .ok (.bipush 16, 2) := by decide +kernel
theorem dX8_init_40 : decode cX8_init 40 = .ok (.newarray .boolean, 2) := by decide +kernel
theorem dX8_init_42 : decode cX8_init 42 = .ok (.putfield 22, 3) := by decide +kernel
theorem dX8_init_45 : decode cX8_init 45 = .ok (.aload_n 0, 1) := by decide +kernel
theorem dX8_init_46 : decode cX8_init 46 = .ok (.bipush 16, 2) := by decide +kernel
theorem dX8_init_48 : decode cX8_init 48 = .ok (.newarray .int, 2) := by decide +kernel
theorem dX8_init_50 : decode cX8_init 50 = .ok (.putfield 26, 3) := by decide +kernel
theorem dX8_init_53 : decode cX8_init 53 = .ok (.aload_n 0, 1) := by decide +kernel
theorem dX8_init_54 : decode cX8_init 54 = .ok (.bipush 16, 2) := by decide +kernel
theorem dX8_init_56 : decode cX8_init 56 = .ok (.newarray .int, 2) := by decide +kernel
theorem dX8_init_58 : decode cX8_init 58 = .ok (.putfield 29, 3) := by decide +kernel
theorem dX8_init_61 : decode cX8_init 61 = .ok (.aload_n 0, 1) := by decide +kernel
theorem dX8_init_62 : decode cX8_init 62 = .ok (.iconst 4, 1) := by decide +kernel
theorem dX8_init_63 : decode cX8_init 63 = .ok (.newarray .boolean, 2) := by decide +kernel
theorem dX8_init_65 : decode cX8_init 65 = .ok (.putfield 32, 3) := by decide +kernel
theorem dX8_init_68 : decode cX8_init 68 = .ok (.aload_n 0, 1) := by decide +kernel
theorem dX8_init_69 : decode cX8_init 69 = .ok (.iconst 4, 1) := by decide +kernel
theorem dX8_init_70 : decode cX8_init 70 = .ok (.newarray .int, 2) := by decide +kernel
theorem dX8_init_72 : decode cX8_init 72 = .ok (.putfield 35, 3) := by decide +kernel
theorem dX8_init_75 : decode cX8_init 75 = .ok (.aload_n 0, 1) := by decide +kernel
theorem dX8_init_76 : decode cX8_init 76 = .ok (.bipush 100, 2) := by decide +kernel
theorem dX8_init_78 : decode cX8_init 78 = .ok (.newarray .int, 2) := by decide +kernel
theorem dX8_init_80 : decode cX8_init 80 = .ok (.putfield 38, 3) := by decide +kernel
theorem dX8_init_83 : decode cX8_init 83 = .ok (.aload_n 0, 1) := by decide +kernel
theorem dX8_init_84 : decode cX8_init 84 = .ok (.bipush 115, 2) := by decide +kernel
theorem dX8_init_86 : decode cX8_init 86 = .ok (.newarray .int, 2) := by decide +kernel
theorem dX8_init_88 : decode cX8_init 88 = .ok (.putfield 41, 3) := by decide +kernel
theorem dX8_init_91 : decode cX8_init 91 = .ok (.iconst 0, 1) := by decide +kernel
theorem dX8_init_92 : decode cX8_init 92 = .ok (.istore_n 1, 1) := by decide +kernel
theorem dX8_init_93 : decode cX8_init 93 = .ok (.iload_n 1, 1) := by decide +kernel
theorem dX8_init_94 : decode cX8_init 94 = .ok (.bipush 10, 2) := by decide +kernel
theorem dX8_init_96 : decode cX8_init 96 = .ok (.if_icmp .ge 19, 3) := by decide +kernel
theorem dX8_init_99 : decode cX8_init 99 = .ok (.aload_n 0, 1) := by decide +kernel
theorem dX8_init_100 : decode cX8_init 100 = .ok (.getfield 7, 3) := by decide +kernel
theorem dX8_init_103 : decode cX8_init 103 = .ok (.bipush 10, 2) := by decide +kernel
theorem dX8_init_105 : decode cX8_init 105 = .ok (.iload_n 1, 1) := by decide +kernel
theorem dX8_init_106 : decode cX8_init 106 = .ok (.iadd, 1) := by decide +kernel
theorem dX8_init_107 : decode cX8_init 107 = .ok (.iconst 5, 1) := by decide +kernel
theorem dX8_init_108 : decode cX8_init 108 = .ok (.iastore, 1) := by decide +kernel
theorem dX8_init_109 : decode cX8_init 109 = .ok (.iinc 1 1, 3) := by decide +kernel
theorem dX8_init_112 : decode cX8_init 112 = .ok (.goto (-19), 3) := by decide +kernel
theorem dX8_init_115 : decode cX8_init 115 = .ok (.return_, 1) := by decide +kernel
theorem dX8_thrown_0 : decode cX8_thrown 0 = .ok (.aload_n 0, 1) := by decide +kernel
theorem dX8_thrown_1 : decode cX8_thrown 1 = .ok (.getfield 44, 3) := by decide +kernel
theorem dX8_thrown_4 : decode cX8_thrown 4 = .ok (.ireturn, 1) := by decide +kernel
theorem dX8_within_0 : decode cX8_within 0 = .ok (.iload_n 0, 1) := by decide +kernel
theorem dX8_within_1 : decode cX8_within 1 = .ok (.iload_n 1, 1) := by decide +kernel
theorem dX8_within_2 : decode cX8_within 2 = .ok (.if_icmp .lt 12, 3) := by decide +kernel
theorem dX8_within_5 : decode cX8_within 5 = .ok (.iload_n 0, 1) := by decide +kernel
theorem dX8_within_6 : decode cX8_within 6 = .ok (.iload_n 2, 1) := by decide +kernel
theorem dX8_within_7 : decode cX8_within 7 = .ok (.if_icmp .gt 7, 3) := by decide +kernel
theorem dX8_within_10 : decode cX8_within 10 = .ok (.iconst 1, 1) := by decide +kernel
theorem dX8_within_11 : decode cX8_within 11 = .ok (.goto 4, 3) := by decide +kernel
theorem dX8_within_14 : decode cX8_within 14 = .ok (.iconst 0, 1) := by decide +kernel
theorem dX8_within_15 : decode cX8_within 15 = .ok (.ireturn, 1) := by decide +kernel
theorem dX8_of_0 : decode cX8_of 0 = .ok (.aload_n 0, 1) := by decide +kernel
theorem dX8_of_1 : decode cX8_of 1 = .ok (.getfield 7, 3) := by decide +kernel
theorem dX8_of_4 : decode cX8_of 4 = .ok (.bipush 21, 2) := by decide +kernel
theorem dX8_of_6 : decode cX8_of 6 = .ok (.iconst 5, 1) := by decide +kernel
theorem dX8_of_7 : decode cX8_of 7 = .ok (.iload_n 1, 1) := by decide +kernel
theorem dX8_of_8 : decode cX8_of 8 = .ok (.imul, 1) := by decide +kernel
theorem dX8_of_9 : decode cX8_of 9 = .ok (.iadd, 1) := by decide +kernel
theorem dX8_of_10 : decode cX8_of 10 = .ok (.iload_n 2, 1) := by decide +kernel
theorem dX8_of_11 : decode cX8_of 11 = .ok (.iadd, 1) := by decide +kernel
theorem dX8_of_12 : decode cX8_of 12 = .ok (.iaload, 1) := by decide +kernel
theorem dX8_of_13 : decode cX8_of 13 = .ok (.ireturn, 1) := by decide +kernel
theorem dX8_ofEdit_0 : decode cX8_ofEdit 0 = .ok (.aload_n 0, 1) := by decide +kernel
theorem dX8_ofEdit_1 : decode cX8_ofEdit 1 = .ok (.getfield 7, 3) := by decide +kernel
theorem dX8_ofEdit_4 : decode cX8_ofEdit 4 = .ok (.bipush 102, 2) := by decide +kernel
theorem dX8_ofEdit_6 : decode cX8_ofEdit 6 = .ok (.iconst 3, 1) := by decide +kernel
theorem dX8_ofEdit_7 : decode cX8_ofEdit 7 = .ok (.iload_n 1, 1) := by decide +kernel
theorem dX8_ofEdit_8 : decode cX8_ofEdit 8 = .ok (.imul, 1) := by decide +kernel
theorem dX8_ofEdit_9 : decode cX8_ofEdit 9 = .ok (.iadd, 1) := by decide +kernel
theorem dX8_ofEdit_10 : decode cX8_ofEdit 10 = .ok (.iload_n 2, 1) := by decide +kernel
theorem dX8_ofEdit_11 : decode cX8_ofEdit 11 = .ok (.iadd, 1) := by decide +kernel
theorem dX8_ofEdit_12 : decode cX8_ofEdit 12 = .ok (.iaload, 1) := by decide +kernel
theorem dX8_ofEdit_13 : decode cX8_ofEdit 13 = .ok (.ireturn, 1) := by decide +kernel
theorem dX8_isPlace_0 : decode cX8_isPlace 0 = .ok (.iload_n 0, 1) := by decide +kernel
theorem dX8_isPlace_1 : decode cX8_isPlace 1 = .ok (.iconst 0, 1) := by decide +kernel
theorem dX8_isPlace_2 : decode cX8_isPlace 2 = .ok (.bipush 9, 2) := by decide +kernel
theorem dX8_isPlace_4 : decode cX8_isPlace 4 = .ok (.invokestatic 48, 3) := by decide +kernel
theorem dX8_isPlace_7 : decode cX8_isPlace 7 = .ok (.ireturn, 1) := by decide +kernel
theorem dX8_isCondition_0 : decode cX8_isCondition 0 = .ok (.iload_n 1, 1) := by decide +kernel
theorem dX8_isCondition_1 : decode cX8_isCondition 1 = .ok (.iconst 0, 1) := by decide +kernel
theorem dX8_isCondition_2 : decode cX8_isCondition 2 = .ok (.aload_n 0, 1) := by decide +kernel
theorem dX8_isCondition_3 : decode cX8_isCondition 3 = .ok (.getfield 7, 3) := by decide +kernel
theorem dX8_isCondition_6 : decode cX8_isCondition 6 = .ok (.bipush 20, 2) := by decide +kernel
theorem dX8_isCondition_8 : decode cX8_isCondition 8 = .ok (.iaload, 1) := by decide +kernel
theorem dX8_isCondition_9 : decode cX8_isCondition 9 = .ok (.iconst 1, 1) := by decide +kernel
theorem dX8_isCondition_10 : decode cX8_isCondition 10 = .ok (.isub, 1) := by decide +kernel
theorem dX8_isCondition_11 : decode cX8_isCondition 11 = .ok (.invokestatic 48, 3) := by decide +kernel
theorem dX8_isCondition_14 : decode cX8_isCondition 14 = .ok (.ireturn, 1) := by decide +kernel
theorem dX8_bind_0 : decode cX8_bind 0 = .ok (.iconst 0, 1) := by decide +kernel
theorem dX8_bind_1 : decode cX8_bind 1 = .ok (.istore 4, 2) := by decide +kernel
theorem dX8_bind_3 : decode cX8_bind 3 = .ok (.iload 4, 2) := by decide +kernel
theorem dX8_bind_5 : decode cX8_bind 5 = .ok (.bipush 11, 2) := by decide +kernel
theorem dX8_bind_7 : decode cX8_bind 7 = .ok (.if_icmp .ge 103, 3) := by decide +kernel
theorem dX8_bind_10 : decode cX8_bind 10 = .ok (.iconst 0, 1) := by decide +kernel
theorem dX8_bind_11 : decode cX8_bind 11 = .ok (.istore 5, 2) := by decide +kernel
theorem dX8_bind_13 : decode cX8_bind 13 = .ok (.iload 5, 2) := by decide +kernel
theorem dX8_bind_15 : decode cX8_bind 15 = .ok (.bipush 11, 2) := by decide +kernel
theorem dX8_bind_17 : decode cX8_bind 17 = .ok (.if_icmp .ge 87, 3) := by decide +kernel
theorem dX8_bind_20 : decode cX8_bind 20 = .ok (.aload_n 0, 1) := by decide +kernel
theorem dX8_bind_21 : decode cX8_bind 21 = .ok (.getfield 19, 3) := by decide +kernel
theorem dX8_bind_24 : decode cX8_bind 24 = .ok (.bipush 11, 2) := by decide +kernel
theorem dX8_bind_26 : decode cX8_bind 26 = .ok (.iload 4, 2) := by decide +kernel
theorem dX8_bind_28 : decode cX8_bind 28 = .ok (.imul, 1) := by decide +kernel
theorem dX8_bind_29 : decode cX8_bind 29 = .ok (.iload_n 1, 1) := by decide +kernel
theorem dX8_bind_30 : decode cX8_bind 30 = .ok (.iadd, 1) := by decide +kernel
theorem dX8_bind_31 : decode cX8_bind 31 = .ok (.iaload, 1) := by decide +kernel
theorem dX8_bind_32 : decode cX8_bind 32 = .ok (.iload_n 3, 1) := by decide +kernel
theorem dX8_bind_33 : decode cX8_bind 33 = .ok (.iadd, 1) := by decide +kernel
theorem dX8_bind_34 : decode cX8_bind 34 = .ok (.aload_n 0, 1) := by decide +kernel
theorem dX8_bind_35 : decode cX8_bind 35 = .ok (.getfield 19, 3) := by decide +kernel
theorem dX8_bind_38 : decode cX8_bind 38 = .ok (.bipush 11, 2) := by decide +kernel
theorem dX8_bind_40 : decode cX8_bind 40 = .ok (.iload_n 2, 1) := by decide +kernel
theorem dX8_bind_41 : decode cX8_bind 41 = .ok (.imul, 1) := by decide +kernel
theorem dX8_bind_42 : decode cX8_bind 42 = .ok (.iload 5, 2) := by decide +kernel
theorem dX8_bind_44 : decode cX8_bind 44 = .ok (.iadd, 1) := by decide +kernel
theorem dX8_bind_45 : decode cX8_bind 45 = .ok (.iaload, 1) := by decide +kernel
theorem dX8_bind_46 : decode cX8_bind 46 = .ok (.iadd, 1) := by decide +kernel
theorem dX8_bind_47 : decode cX8_bind 47 = .ok (.istore 6, 2) := by decide +kernel
theorem dX8_bind_49 : decode cX8_bind 49 = .ok (.aload_n 0, 1) := by decide +kernel
theorem dX8_bind_50 : decode cX8_bind 50 = .ok (.getfield 19, 3) := by decide +kernel
theorem dX8_bind_53 : decode cX8_bind 53 = .ok (.bipush 11, 2) := by decide +kernel
theorem dX8_bind_55 : decode cX8_bind 55 = .ok (.iload 4, 2) := by decide +kernel
theorem dX8_bind_57 : decode cX8_bind 57 = .ok (.imul, 1) := by decide +kernel
theorem dX8_bind_58 : decode cX8_bind 58 = .ok (.iload 5, 2) := by decide +kernel
theorem dX8_bind_60 : decode cX8_bind 60 = .ok (.iadd, 1) := by decide +kernel
theorem dX8_bind_61 : decode cX8_bind 61 = .ok (.iload 6, 2) := by decide +kernel
theorem dX8_bind_63 : decode cX8_bind 63 = .ok (.aload_n 0, 1) := by decide +kernel
theorem dX8_bind_64 : decode cX8_bind 64 = .ok (.getfield 19, 3) := by decide +kernel
theorem dX8_bind_67 : decode cX8_bind 67 = .ok (.bipush 11, 2) := by decide +kernel
theorem dX8_bind_69 : decode cX8_bind 69 = .ok (.iload 4, 2) := by decide +kernel
theorem dX8_bind_71 : decode cX8_bind 71 = .ok (.imul, 1) := by decide +kernel
theorem dX8_bind_72 : decode cX8_bind 72 = .ok (.iload 5, 2) := by decide +kernel
theorem dX8_bind_74 : decode cX8_bind 74 = .ok (.iadd, 1) := by decide +kernel
theorem dX8_bind_75 : decode cX8_bind 75 = .ok (.iaload, 1) := by decide +kernel
theorem dX8_bind_76 : decode cX8_bind 76 = .ok (.if_icmp .ge 8, 3) := by decide +kernel
theorem dX8_bind_79 : decode cX8_bind 79 = .ok (.iload 6, 2) := by decide +kernel
theorem dX8_bind_81 : decode cX8_bind 81 = .ok (.goto 16, 3) := by decide +kernel
theorem dX8_bind_84 : decode cX8_bind 84 = .ok (.aload_n 0, 1) := by decide +kernel
theorem dX8_bind_85 : decode cX8_bind 85 = .ok (.getfield 19, 3) := by decide +kernel
theorem dX8_bind_88 : decode cX8_bind 88 = .ok (.bipush 11, 2) := by decide +kernel
theorem dX8_bind_90 : decode cX8_bind 90 = .ok (.iload 4, 2) := by decide +kernel
theorem dX8_bind_92 : decode cX8_bind 92 = .ok (.imul, 1) := by decide +kernel
theorem dX8_bind_93 : decode cX8_bind 93 = .ok (.iload 5, 2) := by decide +kernel
theorem dX8_bind_95 : decode cX8_bind 95 = .ok (.iadd, 1) := by decide +kernel
theorem dX8_bind_96 : decode cX8_bind 96 = .ok (.iaload, 1) := by decide +kernel
theorem dX8_bind_97 : decode cX8_bind 97 = .ok (.iastore, 1) := by decide +kernel
theorem dX8_bind_98 : decode cX8_bind 98 = .ok (.iinc 5 1, 3) := by decide +kernel
theorem dX8_bind_101 : decode cX8_bind 101 = .ok (.goto (-88), 3) := by decide +kernel
theorem dX8_bind_104 : decode cX8_bind 104 = .ok (.iinc 4 1, 3) := by decide +kernel
theorem dX8_bind_107 : decode cX8_bind 107 = .ok (.goto (-104), 3) := by decide +kernel
theorem dX8_bind_110 : decode cX8_bind 110 = .ok (.return_, 1) := by decide +kernel
theorem dX8_fillOne_0 : decode cX8_fillOne 0 = .ok (.iload_n 2, 1) := by decide +kernel
theorem dX8_fillOne_1 : decode cX8_fillOne 1 = .ok (.iconst (-1), 1) := by decide +kernel
theorem dX8_fillOne_2 : decode cX8_fillOne 2 = .ok (.if_icmp .ne 8, 3) := by decide +kernel
theorem dX8_fillOne_5 : decode cX8_fillOne 5 = .ok (.bipush 10, 2) := by decide +kernel
theorem dX8_fillOne_7 : decode cX8_fillOne 7 = .ok (.goto 4, 3) := by decide +kernel
theorem dX8_fillOne_10 : decode cX8_fillOne 10 = .ok (.iload_n 2, 1) := by decide +kernel
theorem dX8_fillOne_11 : decode cX8_fillOne 11 = .ok (.istore 5, 2) := by decide +kernel
theorem dX8_fillOne_13 : decode cX8_fillOne 13 = .ok (.aload_n 0, 1) := by decide +kernel
theorem dX8_fillOne_14 : decode cX8_fillOne 14 = .ok (.getfield 19, 3) := by decide +kernel
theorem dX8_fillOne_17 : decode cX8_fillOne 17 = .ok (.bipush 11, 2) := by decide +kernel
theorem dX8_fillOne_19 : decode cX8_fillOne 19 = .ok (.iload_n 1, 1) := by decide +kernel
theorem dX8_fillOne_20 : decode cX8_fillOne 20 = .ok (.imul, 1) := by decide +kernel
theorem dX8_fillOne_21 : decode cX8_fillOne 21 = .ok (.iload 5, 2) := by decide +kernel
theorem dX8_fillOne_23 : decode cX8_fillOne 23 = .ok (.iadd, 1) := by decide +kernel
theorem dX8_fillOne_24 : decode cX8_fillOne 24 = .ok (.iaload, 1) := by decide +kernel
theorem dX8_fillOne_25 : decode cX8_fillOne 25 = .ok (.istore 6, 2) := by decide +kernel
theorem dX8_fillOne_27 : decode cX8_fillOne 27 = .ok (.aload_n 0, 1) := by decide +kernel
theorem dX8_fillOne_28 : decode cX8_fillOne 28 = .ok (.getfield 19, 3) := by decide +kernel
theorem dX8_fillOne_31 : decode cX8_fillOne 31 = .ok (.bipush 11, 2) := by decide +kernel
theorem dX8_fillOne_33 : decode cX8_fillOne 33 = .ok (.iload 5, 2) := by decide +kernel
theorem dX8_fillOne_35 : decode cX8_fillOne 35 = .ok (.imul, 1) := by decide +kernel
theorem dX8_fillOne_36 : decode cX8_fillOne 36 = .ok (.iload_n 1, 1) := by decide +kernel
theorem dX8_fillOne_37 : decode cX8_fillOne 37 = .ok (.iadd, 1) := by decide +kernel
theorem dX8_fillOne_38 : decode cX8_fillOne 38 = .ok (.iaload, 1) := by decide +kernel
theorem dX8_fillOne_39 : decode cX8_fillOne 39 = .ok (.ineg, 1) := by decide +kernel
theorem dX8_fillOne_40 : decode cX8_fillOne 40 = .ok (.istore 7, 2) := by decide +kernel
theorem dX8_fillOne_42 : decode cX8_fillOne 42 = .ok (.iload_n 3, 1) := by decide +kernel
theorem dX8_fillOne_43 : decode cX8_fillOne 43 = .ok (.ifCond .eq 14, 3) := by decide +kernel
theorem dX8_fillOne_46 : decode cX8_fillOne 46 = .ok (.iload 4, 2) := by decide +kernel
theorem dX8_fillOne_48 : decode cX8_fillOne 48 = .ok (.iload 6, 2) := by decide +kernel
theorem dX8_fillOne_50 : decode cX8_fillOne 50 = .ok (.if_icmp .le 7, 3) := by decide +kernel
theorem dX8_fillOne_53 : decode cX8_fillOne 53 = .ok (.iconst 1, 1) := by decide +kernel
theorem dX8_fillOne_54 : decode cX8_fillOne 54 = .ok (.goto 4, 3) := by decide +kernel
theorem dX8_fillOne_57 : decode cX8_fillOne 57 = .ok (.iconst 0, 1) := by decide +kernel
theorem dX8_fillOne_58 : decode cX8_fillOne 58 = .ok (.istore 8, 2) := by decide +kernel
theorem dX8_fillOne_60 : decode cX8_fillOne 60 = .ok (.iload_n 3, 1) := by decide +kernel
theorem dX8_fillOne_61 : decode cX8_fillOne 61 = .ok (.iconst 2, 1) := by decide +kernel
theorem dX8_fillOne_62 : decode cX8_fillOne 62 = .ok (.if_icmp .eq 14, 3) := by decide +kernel
theorem dX8_fillOne_65 : decode cX8_fillOne 65 = .ok (.iload 4, 2) := by decide +kernel
theorem dX8_fillOne_67 : decode cX8_fillOne 67 = .ok (.iload 7, 2) := by decide +kernel
theorem dX8_fillOne_69 : decode cX8_fillOne 69 = .ok (.if_icmp .ge 7, 3) := by decide +kernel
theorem dX8_fillOne_72 : decode cX8_fillOne 72 = .ok (.iconst 1, 1) := by decide +kernel
theorem dX8_fillOne_73 : decode cX8_fillOne 73 = .ok (.goto 4, 3) := by decide +kernel
theorem dX8_fillOne_76 : decode cX8_fillOne 76 = .ok (.iconst 0, 1) := by decide +kernel
theorem dX8_fillOne_77 : decode cX8_fillOne 77 = .ok (.istore 9, 2) := by decide +kernel
theorem dX8_fillOne_79 : decode cX8_fillOne 79 = .ok (.aload_n 0, 1) := by decide +kernel
theorem dX8_fillOne_80 : decode cX8_fillOne 80 = .ok (.iload 8, 2) := by decide +kernel
theorem dX8_fillOne_82 : decode cX8_fillOne 82 = .ok (.ifCond .ne 12, 3) := by decide +kernel
theorem dX8_fillOne_85 : decode cX8_fillOne 85 = .ok (.iload 9, 2) := by decide +kernel
theorem dX8_fillOne_87 : decode cX8_fillOne 87 = .ok (.ifCond .ne 7, 3) := by decide +kernel
theorem dX8_fillOne_90 : decode cX8_fillOne 90 = .ok (.iconst 1, 1) := by decide +kernel
theorem dX8_fillOne_91 : decode cX8_fillOne 91 = .ok (.goto 4, 3) := by decide +kernel
theorem dX8_fillOne_94 : decode cX8_fillOne 94 = .ok (.iconst 0, 1) := by decide +kernel
theorem dX8_fillOne_95 : decode cX8_fillOne 95 = .ok (.putfield 52, 3) := by decide +kernel
theorem dX8_fillOne_98 : decode cX8_fillOne 98 = .ok (.aload_n 0, 1) := by decide +kernel
theorem dX8_fillOne_99 : decode cX8_fillOne 99 = .ok (.getfield 52, 3) := by decide +kernel
theorem dX8_fillOne_102 : decode cX8_fillOne 102 = .ok (.ifCond .ne 28, 3) := by decide +kernel
theorem dX8_fillOne_105 : decode cX8_fillOne 105 = .ok (.aload_n 0, 1) := by decide +kernel
theorem dX8_fillOne_106 : decode cX8_fillOne 106 = .ok (.iload 4, 2) := by decide +kernel
theorem dX8_fillOne_108 : decode cX8_fillOne 108 = .ok (.iload 7, 2) := by decide +kernel
theorem dX8_fillOne_110 : decode cX8_fillOne 110 = .ok (.if_icmp .ge 11, 3) := by decide +kernel
theorem dX8_fillOne_113 : decode cX8_fillOne 113 = .ok (.iload 7, 2) := by decide +kernel
theorem dX8_fillOne_115 : decode cX8_fillOne 115 = .ok (.iload 4, 2) := by decide +kernel
theorem dX8_fillOne_117 : decode cX8_fillOne 117 = .ok (.isub, 1) := by decide +kernel
theorem dX8_fillOne_118 : decode cX8_fillOne 118 = .ok (.goto 8, 3) := by decide +kernel
theorem dX8_fillOne_121 : decode cX8_fillOne 121 = .ok (.iload 6, 2) := by decide +kernel
theorem dX8_fillOne_123 : decode cX8_fillOne 123 = .ok (.iload 4, 2) := by decide +kernel
theorem dX8_fillOne_125 : decode cX8_fillOne 125 = .ok (.isub, 1) := by decide +kernel
theorem dX8_fillOne_126 : decode cX8_fillOne 126 = .ok (.putfield 56, 3) := by decide +kernel
theorem dX8_fillOne_129 : decode cX8_fillOne 129 = .ok (.return_, 1) := by decide +kernel
theorem dX8_fillOne_130 : decode cX8_fillOne 130 = .ok (.iload 6, 2) := by decide +kernel
theorem dX8_fillOne_132 : decode cX8_fillOne 132 = .ok (.iload 4, 2) := by decide +kernel
theorem dX8_fillOne_134 : decode cX8_fillOne 134 = .ok (.isub, 1) := by decide +kernel
theorem dX8_fillOne_135 : decode cX8_fillOne 135 = .ok (.ifCond .le 11, 3) := by decide +kernel
theorem dX8_fillOne_138 : decode cX8_fillOne 138 = .ok (.iload 6, 2) := by decide +kernel
theorem dX8_fillOne_140 : decode cX8_fillOne 140 = .ok (.iload 4, 2) := by decide +kernel
theorem dX8_fillOne_142 : decode cX8_fillOne 142 = .ok (.isub, 1) := by decide +kernel
theorem dX8_fillOne_143 : decode cX8_fillOne 143 = .ok (.goto 4, 3) := by decide +kernel
theorem dX8_fillOne_146 : decode cX8_fillOne 146 = .ok (.iconst 0, 1) := by decide +kernel
theorem dX8_fillOne_147 : decode cX8_fillOne 147 = .ok (.istore 10, 2) := by decide +kernel
theorem dX8_fillOne_149 : decode cX8_fillOne 149 = .ok (.iload 4, 2) := by decide +kernel
theorem dX8_fillOne_151 : decode cX8_fillOne 151 = .ok (.iload 7, 2) := by decide +kernel
theorem dX8_fillOne_153 : decode cX8_fillOne 153 = .ok (.isub, 1) := by decide +kernel
theorem dX8_fillOne_154 : decode cX8_fillOne 154 = .ok (.ifCond .le 11, 3) := by decide +kernel
theorem dX8_fillOne_157 : decode cX8_fillOne 157 = .ok (.iload 4, 2) := by decide +kernel
theorem dX8_fillOne_159 : decode cX8_fillOne 159 = .ok (.iload 7, 2) := by decide +kernel
theorem dX8_fillOne_161 : decode cX8_fillOne 161 = .ok (.isub, 1) := by decide +kernel
theorem dX8_fillOne_162 : decode cX8_fillOne 162 = .ok (.goto 4, 3) := by decide +kernel
theorem dX8_fillOne_165 : decode cX8_fillOne 165 = .ok (.iconst 0, 1) := by decide +kernel
theorem dX8_fillOne_166 : decode cX8_fillOne 166 = .ok (.istore 11, 2) := by decide +kernel
theorem dX8_fillOne_168 : decode cX8_fillOne 168 = .ok (.aload_n 0, 1) := by decide +kernel
theorem dX8_fillOne_169 : decode cX8_fillOne 169 = .ok (.iload_n 3, 1) := by decide +kernel
theorem dX8_fillOne_170 : decode cX8_fillOne 170 = .ok (.iconst 1, 1) := by decide +kernel
theorem dX8_fillOne_171 : decode cX8_fillOne 171 = .ok (.if_icmp .ne 11, 3) := by decide +kernel
theorem dX8_fillOne_174 : decode cX8_fillOne 174 = .ok (.iload 6, 2) := by decide +kernel
theorem dX8_fillOne_176 : decode cX8_fillOne 176 = .ok (.iload 7, 2) := by decide +kernel
theorem dX8_fillOne_178 : decode cX8_fillOne 178 = .ok (.isub, 1) := by decide +kernel
theorem dX8_fillOne_179 : decode cX8_fillOne 179 = .ok (.goto 14, 3) := by decide +kernel
theorem dX8_fillOne_182 : decode cX8_fillOne 182 = .ok (.iload_n 3, 1) := by decide +kernel
theorem dX8_fillOne_183 : decode cX8_fillOne 183 = .ok (.ifCond .ne 8, 3) := by decide +kernel
theorem dX8_fillOne_186 : decode cX8_fillOne 186 = .ok (.iload 10, 2) := by decide +kernel
theorem dX8_fillOne_188 : decode cX8_fillOne 188 = .ok (.goto 5, 3) := by decide +kernel
theorem dX8_fillOne_191 : decode cX8_fillOne 191 = .ok (.iload 11, 2) := by decide +kernel
theorem dX8_fillOne_193 : decode cX8_fillOne 193 = .ok (.putfield 56, 3) := by decide +kernel
theorem dX8_fillOne_196 : decode cX8_fillOne 196 = .ok (.iload_n 3, 1) := by decide +kernel
theorem dX8_fillOne_197 : decode cX8_fillOne 197 = .ok (.iconst 2, 1) := by decide +kernel
theorem dX8_fillOne_198 : decode cX8_fillOne 198 = .ok (.if_icmp .eq 12, 3) := by decide +kernel
theorem dX8_fillOne_201 : decode cX8_fillOne 201 = .ok (.aload_n 0, 1) := by decide +kernel
theorem dX8_fillOne_202 : decode cX8_fillOne 202 = .ok (.iload_n 1, 1) := by decide +kernel
theorem dX8_fillOne_203 : decode cX8_fillOne 203 = .ok (.iload 5, 2) := by decide +kernel
theorem dX8_fillOne_205 : decode cX8_fillOne 205 = .ok (.iload 4, 2) := by decide +kernel
theorem dX8_fillOne_207 : decode cX8_fillOne 207 = .ok (.invokevirtual 59, 3) := by decide +kernel
theorem dX8_fillOne_210 : decode cX8_fillOne 210 = .ok (.iload_n 3, 1) := by decide +kernel
theorem dX8_fillOne_211 : decode cX8_fillOne 211 = .ok (.ifCond .eq 13, 3) := by decide +kernel
theorem dX8_fillOne_214 : decode cX8_fillOne 214 = .ok (.aload_n 0, 1) := by decide +kernel
theorem dX8_fillOne_215 : decode cX8_fillOne 215 = .ok (.iload 5, 2) := by decide +kernel
theorem dX8_fillOne_217 : decode cX8_fillOne 217 = .ok (.iload_n 1, 1) := by decide +kernel
theorem dX8_fillOne_218 : decode cX8_fillOne 218 = .ok (.iload 4, 2) := by decide +kernel
theorem dX8_fillOne_220 : decode cX8_fillOne 220 = .ok (.ineg, 1) := by decide +kernel
theorem dX8_fillOne_221 : decode cX8_fillOne 221 = .ok (.invokevirtual 59, 3) := by decide +kernel
theorem dX8_fillOne_224 : decode cX8_fillOne 224 = .ok (.return_, 1) := by decide +kernel
theorem dX8_fill_0 : decode cX8_fill 0 = .ok (.iconst 0, 1) := by decide +kernel
theorem dX8_fill_1 : decode cX8_fill 1 = .ok (.istore_n 2, 1) := by decide +kernel
theorem dX8_fill_2 : decode cX8_fill 2 = .ok (.iload_n 2, 1) := by decide +kernel
theorem dX8_fill_3 : decode cX8_fill 3 = .ok (.bipush 121, 2) := by decide +kernel
theorem dX8_fill_5 : decode cX8_fill 5 = .ok (.if_icmp .ge 58, 3) := by decide +kernel
theorem dX8_fill_8 : decode cX8_fill 8 = .ok (.iload_n 2, 1) := by decide +kernel
theorem dX8_fill_9 : decode cX8_fill 9 = .ok (.bipush 11, 2) := by decide +kernel
theorem dX8_fill_11 : decode cX8_fill 11 = .ok (.idiv, 1) := by decide +kernel
theorem dX8_fill_12 : decode cX8_fill 12 = .ok (.istore_n 3, 1) := by decide +kernel
theorem dX8_fill_13 : decode cX8_fill 13 = .ok (.iload_n 2, 1) := by decide +kernel
theorem dX8_fill_14 : decode cX8_fill 14 = .ok (.bipush 11, 2) := by decide +kernel
theorem dX8_fill_16 : decode cX8_fill 16 = .ok (.irem, 1) := by decide +kernel
theorem dX8_fill_17 : decode cX8_fill 17 = .ok (.istore 4, 2) := by decide +kernel
theorem dX8_fill_19 : decode cX8_fill 19 = .ok (.aload_n 0, 1) := by decide +kernel
theorem dX8_fill_20 : decode cX8_fill 20 = .ok (.getfield 19, 3) := by decide +kernel
theorem dX8_fill_23 : decode cX8_fill 23 = .ok (.iload_n 2, 1) := by decide +kernel
theorem dX8_fill_24 : decode cX8_fill 24 = .ok (.iload_n 3, 1) := by decide +kernel
theorem dX8_fill_25 : decode cX8_fill 25 = .ok (.iload 4, 2) := by decide +kernel
theorem dX8_fill_27 : decode cX8_fill 27 = .ok (.if_icmp .ne 7, 3) := by decide +kernel
theorem dX8_fill_30 : decode cX8_fill 30 = .ok (.iconst 0, 1) := by decide +kernel
theorem dX8_fill_31 : decode cX8_fill 31 = .ok (.goto 25, 3) := by decide +kernel
theorem dX8_fill_34 : decode cX8_fill 34 = .ok (.iload_n 3, 1) := by decide +kernel
theorem dX8_fill_35 : decode cX8_fill 35 = .ok (.bipush 10, 2) := by decide +kernel
theorem dX8_fill_37 : decode cX8_fill 37 = .ok (.if_icmp .eq 10, 3) := by decide +kernel
theorem dX8_fill_40 : decode cX8_fill 40 = .ok (.iload 4, 2) := by decide +kernel
theorem dX8_fill_42 : decode cX8_fill 42 = .ok (.bipush 10, 2) := by decide +kernel
theorem dX8_fill_44 : decode cX8_fill 44 = .ok (.if_icmp .ne 9, 3) := by decide +kernel
theorem dX8_fill_47 : decode cX8_fill 47 = .ok (.sipush 1000, 3) := by decide +kernel
theorem dX8_fill_50 : decode cX8_fill 50 = .ok (.goto 6, 3) := by decide +kernel
theorem dX8_fill_53 : decode cX8_fill 53 = .ok (.sipush 2000, 3) := by decide +kernel
theorem dX8_fill_56 : decode cX8_fill 56 = .ok (.iastore, 1) := by decide +kernel
theorem dX8_fill_57 : decode cX8_fill 57 = .ok (.iinc 2 1, 3) := by decide +kernel
theorem dX8_fill_60 : decode cX8_fill 60 = .ok (.goto (-58), 3) := by decide +kernel
theorem dX8_fill_63 : decode cX8_fill 63 = .ok (.aload_n 0, 1) := by decide +kernel
theorem dX8_fill_64 : decode cX8_fill 64 = .ok (.iconst 0, 1) := by decide +kernel
theorem dX8_fill_65 : decode cX8_fill 65 = .ok (.putfield 63, 3) := by decide +kernel
theorem dX8_fill_68 : decode cX8_fill 68 = .ok (.iconst 3, 1) := by decide +kernel
theorem dX8_fill_69 : decode cX8_fill 69 = .ok (.istore_n 2, 1) := by decide +kernel
theorem dX8_fill_70 : decode cX8_fill 70 = .ok (.iload_n 2, 1) := by decide +kernel
theorem dX8_fill_71 : decode cX8_fill 71 = .ok (.ifCond .lt 188, 3) := by decide +kernel
theorem dX8_fill_74 : decode cX8_fill 74 = .ok (.iconst 0, 1) := by decide +kernel
theorem dX8_fill_75 : decode cX8_fill 75 = .ok (.istore_n 3, 1) := by decide +kernel
theorem dX8_fill_76 : decode cX8_fill 76 = .ok (.iload_n 3, 1) := by decide +kernel
theorem dX8_fill_77 : decode cX8_fill 77 = .ok (.aload_n 0, 1) := by decide +kernel
theorem dX8_fill_78 : decode cX8_fill 78 = .ok (.getfield 7, 3) := by decide +kernel
theorem dX8_fill_81 : decode cX8_fill 81 = .ok (.bipush 101, 2) := by decide +kernel
theorem dX8_fill_83 : decode cX8_fill 83 = .ok (.iaload, 1) := by decide +kernel
theorem dX8_fill_84 : decode cX8_fill 84 = .ok (.if_icmp .ge 67, 3) := by decide +kernel
theorem dX8_fill_87 : decode cX8_fill 87 = .ok (.aload_n 0, 1) := by decide +kernel
theorem dX8_fill_88 : decode cX8_fill 88 = .ok (.iload_n 3, 1) := by decide +kernel
theorem dX8_fill_89 : decode cX8_fill 89 = .ok (.iconst 2, 1) := by decide +kernel
theorem dX8_fill_90 : decode cX8_fill 90 = .ok (.invokevirtual 66, 3) := by decide +kernel
theorem dX8_fill_93 : decode cX8_fill 93 = .ok (.iload_n 2, 1) := by decide +kernel
theorem dX8_fill_94 : decode cX8_fill 94 = .ok (.if_icmp .ne 51, 3) := by decide +kernel
theorem dX8_fill_97 : decode cX8_fill 97 = .ok (.aload_n 0, 1) := by decide +kernel
theorem dX8_fill_98 : decode cX8_fill 98 = .ok (.aload_n 0, 1) := by decide +kernel
theorem dX8_fill_99 : decode cX8_fill 99 = .ok (.iload_n 3, 1) := by decide +kernel
theorem dX8_fill_100 : decode cX8_fill 100 = .ok (.iconst 0, 1) := by decide +kernel
theorem dX8_fill_101 : decode cX8_fill 101 = .ok (.invokevirtual 66, 3) := by decide +kernel
theorem dX8_fill_104 : decode cX8_fill 104 = .ok (.iconst (-1), 1) := by decide +kernel
theorem dX8_fill_105 : decode cX8_fill 105 = .ok (.iconst 1, 1) := by decide +kernel
theorem dX8_fill_106 : decode cX8_fill 106 = .ok (.aload_n 0, 1) := by decide +kernel
theorem dX8_fill_107 : decode cX8_fill 107 = .ok (.iload_n 3, 1) := by decide +kernel
theorem dX8_fill_108 : decode cX8_fill 108 = .ok (.iconst 1, 1) := by decide +kernel
theorem dX8_fill_109 : decode cX8_fill 109 = .ok (.invokevirtual 66, 3) := by decide +kernel
theorem dX8_fill_112 : decode cX8_fill 112 = .ok (.invokevirtual 70, 3) := by decide +kernel
theorem dX8_fill_115 : decode cX8_fill 115 = .ok (.aload_n 0, 1) := by decide +kernel
theorem dX8_fill_116 : decode cX8_fill 116 = .ok (.getfield 32, 3) := by decide +kernel
theorem dX8_fill_119 : decode cX8_fill 119 = .ok (.iload_n 3, 1) := by decide +kernel
theorem dX8_fill_120 : decode cX8_fill 120 = .ok (.aload_n 0, 1) := by decide +kernel
theorem dX8_fill_121 : decode cX8_fill 121 = .ok (.getfield 52, 3) := by decide +kernel
theorem dX8_fill_124 : decode cX8_fill 124 = .ok (.bastore, 1) := by decide +kernel
theorem dX8_fill_125 : decode cX8_fill 125 = .ok (.aload_n 0, 1) := by decide +kernel
theorem dX8_fill_126 : decode cX8_fill 126 = .ok (.getfield 35, 3) := by decide +kernel
theorem dX8_fill_129 : decode cX8_fill 129 = .ok (.iload_n 3, 1) := by decide +kernel
theorem dX8_fill_130 : decode cX8_fill 130 = .ok (.aload_n 0, 1) := by decide +kernel
theorem dX8_fill_131 : decode cX8_fill 131 = .ok (.getfield 56, 3) := by decide +kernel
theorem dX8_fill_134 : decode cX8_fill 134 = .ok (.iastore, 1) := by decide +kernel
theorem dX8_fill_135 : decode cX8_fill 135 = .ok (.aload_n 0, 1) := by decide +kernel
theorem dX8_fill_136 : decode cX8_fill 136 = .ok (.dup, 1) := by decide +kernel
theorem dX8_fill_137 : decode cX8_fill 137 = .ok (.getfield 63, 3) := by decide +kernel
theorem dX8_fill_140 : decode cX8_fill 140 = .ok (.iconst 1, 1) := by decide +kernel
theorem dX8_fill_141 : decode cX8_fill 141 = .ok (.iadd, 1) := by decide +kernel
theorem dX8_fill_142 : decode cX8_fill 142 = .ok (.putfield 63, 3) := by decide +kernel
theorem dX8_fill_145 : decode cX8_fill 145 = .ok (.iinc 3 1, 3) := by decide +kernel
theorem dX8_fill_148 : decode cX8_fill 148 = .ok (.goto (-72), 3) := by decide +kernel
theorem dX8_fill_151 : decode cX8_fill 151 = .ok (.iconst 0, 1) := by decide +kernel
theorem dX8_fill_152 : decode cX8_fill 152 = .ok (.istore_n 3, 1) := by decide +kernel
theorem dX8_fill_153 : decode cX8_fill 153 = .ok (.iload_n 3, 1) := by decide +kernel
theorem dX8_fill_154 : decode cX8_fill 154 = .ok (.aload_n 0, 1) := by decide +kernel
theorem dX8_fill_155 : decode cX8_fill 155 = .ok (.getfield 7, 3) := by decide +kernel
theorem dX8_fill_158 : decode cX8_fill 158 = .ok (.bipush 20, 2) := by decide +kernel
theorem dX8_fill_160 : decode cX8_fill 160 = .ok (.iaload, 1) := by decide +kernel
theorem dX8_fill_161 : decode cX8_fill 161 = .ok (.if_icmp .ge 92, 3) := by decide +kernel
theorem dX8_fill_164 : decode cX8_fill 164 = .ok (.iload_n 3, 1) := by decide +kernel
theorem dX8_fill_165 : decode cX8_fill 165 = .ok (.iload_n 1, 1) := by decide +kernel
theorem dX8_fill_166 : decode cX8_fill 166 = .ok (.if_icmp .eq 81, 3) := by decide +kernel
theorem dX8_fill_169 : decode cX8_fill 169 = .ok (.aload_n 0, 1) := by decide +kernel
theorem dX8_fill_170 : decode cX8_fill 170 = .ok (.iload_n 3, 1) := by decide +kernel
theorem dX8_fill_171 : decode cX8_fill 171 = .ok (.iconst 4, 1) := by decide +kernel
theorem dX8_fill_172 : decode cX8_fill 172 = .ok (.invokevirtual 74, 3) := by decide +kernel
theorem dX8_fill_175 : decode cX8_fill 175 = .ok (.iload_n 2, 1) := by decide +kernel
theorem dX8_fill_176 : decode cX8_fill 176 = .ok (.if_icmp .ne 71, 3) := by decide +kernel
theorem dX8_fill_179 : decode cX8_fill 179 = .ok (.aload_n 0, 1) := by decide +kernel
theorem dX8_fill_180 : decode cX8_fill 180 = .ok (.aload_n 0, 1) := by decide +kernel
theorem dX8_fill_181 : decode cX8_fill 181 = .ok (.iload_n 3, 1) := by decide +kernel
theorem dX8_fill_182 : decode cX8_fill 182 = .ok (.iconst 0, 1) := by decide +kernel
theorem dX8_fill_183 : decode cX8_fill 183 = .ok (.invokevirtual 74, 3) := by decide +kernel
theorem dX8_fill_186 : decode cX8_fill 186 = .ok (.aload_n 0, 1) := by decide +kernel
theorem dX8_fill_187 : decode cX8_fill 187 = .ok (.iload_n 3, 1) := by decide +kernel
theorem dX8_fill_188 : decode cX8_fill 188 = .ok (.iconst 1, 1) := by decide +kernel
theorem dX8_fill_189 : decode cX8_fill 189 = .ok (.invokevirtual 74, 3) := by decide +kernel
theorem dX8_fill_192 : decode cX8_fill 192 = .ok (.aload_n 0, 1) := by decide +kernel
theorem dX8_fill_193 : decode cX8_fill 193 = .ok (.iload_n 3, 1) := by decide +kernel
theorem dX8_fill_194 : decode cX8_fill 194 = .ok (.iconst 2, 1) := by decide +kernel
theorem dX8_fill_195 : decode cX8_fill 195 = .ok (.invokevirtual 74, 3) := by decide +kernel
theorem dX8_fill_198 : decode cX8_fill 198 = .ok (.aload_n 0, 1) := by decide +kernel
theorem dX8_fill_199 : decode cX8_fill 199 = .ok (.iload_n 3, 1) := by decide +kernel
theorem dX8_fill_200 : decode cX8_fill 200 = .ok (.iconst 3, 1) := by decide +kernel
theorem dX8_fill_201 : decode cX8_fill 201 = .ok (.invokevirtual 74, 3) := by decide +kernel
theorem dX8_fill_204 : decode cX8_fill 204 = .ok (.invokevirtual 70, 3) := by decide +kernel
theorem dX8_fill_207 : decode cX8_fill 207 = .ok (.aload_n 0, 1) := by decide +kernel
theorem dX8_fill_208 : decode cX8_fill 208 = .ok (.getfield 22, 3) := by decide +kernel
theorem dX8_fill_211 : decode cX8_fill 211 = .ok (.iload_n 3, 1) := by decide +kernel
theorem dX8_fill_212 : decode cX8_fill 212 = .ok (.aload_n 0, 1) := by decide +kernel
theorem dX8_fill_213 : decode cX8_fill 213 = .ok (.getfield 52, 3) := by decide +kernel
theorem dX8_fill_216 : decode cX8_fill 216 = .ok (.bastore, 1) := by decide +kernel
theorem dX8_fill_217 : decode cX8_fill 217 = .ok (.aload_n 0, 1) := by decide +kernel
theorem dX8_fill_218 : decode cX8_fill 218 = .ok (.getfield 26, 3) := by decide +kernel
theorem dX8_fill_221 : decode cX8_fill 221 = .ok (.iload_n 3, 1) := by decide +kernel
theorem dX8_fill_222 : decode cX8_fill 222 = .ok (.aload_n 0, 1) := by decide +kernel
theorem dX8_fill_223 : decode cX8_fill 223 = .ok (.getfield 56, 3) := by decide +kernel
theorem dX8_fill_226 : decode cX8_fill 226 = .ok (.iastore, 1) := by decide +kernel
theorem dX8_fill_227 : decode cX8_fill 227 = .ok (.aload_n 0, 1) := by decide +kernel
theorem dX8_fill_228 : decode cX8_fill 228 = .ok (.getfield 29, 3) := by decide +kernel
theorem dX8_fill_231 : decode cX8_fill 231 = .ok (.iload_n 3, 1) := by decide +kernel
theorem dX8_fill_232 : decode cX8_fill 232 = .ok (.aload_n 0, 1) := by decide +kernel
theorem dX8_fill_233 : decode cX8_fill 233 = .ok (.getfield 63, 3) := by decide +kernel
theorem dX8_fill_236 : decode cX8_fill 236 = .ok (.iastore, 1) := by decide +kernel
theorem dX8_fill_237 : decode cX8_fill 237 = .ok (.aload_n 0, 1) := by decide +kernel
theorem dX8_fill_238 : decode cX8_fill 238 = .ok (.dup, 1) := by decide +kernel
theorem dX8_fill_239 : decode cX8_fill 239 = .ok (.getfield 63, 3) := by decide +kernel
theorem dX8_fill_242 : decode cX8_fill 242 = .ok (.iconst 1, 1) := by decide +kernel
theorem dX8_fill_243 : decode cX8_fill 243 = .ok (.iadd, 1) := by decide +kernel
theorem dX8_fill_244 : decode cX8_fill 244 = .ok (.putfield 63, 3) := by decide +kernel
theorem dX8_fill_247 : decode cX8_fill 247 = .ok (.iinc 3 1, 3) := by decide +kernel
theorem dX8_fill_250 : decode cX8_fill 250 = .ok (.goto (-97), 3) := by decide +kernel
theorem dX8_fill_253 : decode cX8_fill 253 = .ok (.iinc 2 (-1), 3) := by decide +kernel
theorem dX8_fill_256 : decode cX8_fill 256 = .ok (.goto (-186), 3) := by decide +kernel
theorem dX8_fill_259 : decode cX8_fill 259 = .ok (.return_, 1) := by decide +kernel
theorem dX8_least_0 : decode cX8_least 0 = .ok (.aload_n 0, 1) := by decide +kernel
theorem dX8_least_1 : decode cX8_least 1 = .ok (.getfield 19, 3) := by decide +kernel
theorem dX8_least_4 : decode cX8_least 4 = .ok (.bipush 110, 2) := by decide +kernel
theorem dX8_least_6 : decode cX8_least 6 = .ok (.iload_n 1, 1) := by decide +kernel
theorem dX8_least_7 : decode cX8_least 7 = .ok (.iadd, 1) := by decide +kernel
theorem dX8_least_8 : decode cX8_least 8 = .ok (.iaload, 1) := by decide +kernel
theorem dX8_least_9 : decode cX8_least 9 = .ok (.ineg, 1) := by decide +kernel
theorem dX8_least_10 : decode cX8_least 10 = .ok (.ireturn, 1) := by decide +kernel
theorem dX8_greatest_0 : decode cX8_greatest 0 = .ok (.aload_n 0, 1) := by decide +kernel
theorem dX8_greatest_1 : decode cX8_greatest 1 = .ok (.getfield 19, 3) := by decide +kernel
theorem dX8_greatest_4 : decode cX8_greatest 4 = .ok (.bipush 11, 2) := by decide +kernel
theorem dX8_greatest_6 : decode cX8_greatest 6 = .ok (.iload_n 1, 1) := by decide +kernel
theorem dX8_greatest_7 : decode cX8_greatest 7 = .ok (.imul, 1) := by decide +kernel
theorem dX8_greatest_8 : decode cX8_greatest 8 = .ok (.bipush 10, 2) := by decide +kernel
theorem dX8_greatest_10 : decode cX8_greatest 10 = .ok (.iadd, 1) := by decide +kernel
theorem dX8_greatest_11 : decode cX8_greatest 11 = .ok (.iaload, 1) := by decide +kernel
theorem dX8_greatest_12 : decode cX8_greatest 12 = .ok (.ireturn, 1) := by decide +kernel
theorem dX8_settle_0 : decode cX8_settle 0 = .ok (.aload_n 0, 1) := by decide +kernel
theorem dX8_settle_1 : decode cX8_settle 1 = .ok (.iconst (-1), 1) := by decide +kernel
theorem dX8_settle_2 : decode cX8_settle 2 = .ok (.invokevirtual 77, 3) := by decide +kernel
theorem dX8_settle_5 : decode cX8_settle 5 = .ok (.bipush 9, 2) := by decide +kernel
theorem dX8_settle_7 : decode cX8_settle 7 = .ok (.istore_n 1, 1) := by decide +kernel
theorem dX8_settle_8 : decode cX8_settle 8 = .ok (.iload_n 1, 1) := by decide +kernel
theorem dX8_settle_9 : decode cX8_settle 9 = .ok (.ifCond .lt 111, 3) := by decide +kernel
theorem dX8_settle_12 : decode cX8_settle 12 = .ok (.iconst 0, 1) := by decide +kernel
theorem dX8_settle_13 : decode cX8_settle 13 = .ok (.istore_n 2, 1) := by decide +kernel
theorem dX8_settle_14 : decode cX8_settle 14 = .ok (.iload_n 2, 1) := by decide +kernel
theorem dX8_settle_15 : decode cX8_settle 15 = .ok (.bipush 10, 2) := by decide +kernel
theorem dX8_settle_17 : decode cX8_settle 17 = .ok (.if_icmp .ge 97, 3) := by decide +kernel
theorem dX8_settle_20 : decode cX8_settle 20 = .ok (.aload_n 0, 1) := by decide +kernel
theorem dX8_settle_21 : decode cX8_settle 21 = .ok (.getfield 7, 3) := by decide +kernel
theorem dX8_settle_24 : decode cX8_settle 24 = .ok (.bipush 10, 2) := by decide +kernel
theorem dX8_settle_26 : decode cX8_settle 26 = .ok (.iload_n 2, 1) := by decide +kernel
theorem dX8_settle_27 : decode cX8_settle 27 = .ok (.iadd, 1) := by decide +kernel
theorem dX8_settle_28 : decode cX8_settle 28 = .ok (.iaload, 1) := by decide +kernel
theorem dX8_settle_29 : decode cX8_settle 29 = .ok (.iload_n 1, 1) := by decide +kernel
theorem dX8_settle_30 : decode cX8_settle 30 = .ok (.if_icmp .ne 78, 3) := by decide +kernel
theorem dX8_settle_33 : decode cX8_settle 33 = .ok (.aload_n 0, 1) := by decide +kernel
theorem dX8_settle_34 : decode cX8_settle 34 = .ok (.getfield 7, 3) := by decide +kernel
theorem dX8_settle_37 : decode cX8_settle 37 = .ok (.iload_n 2, 1) := by decide +kernel
theorem dX8_settle_38 : decode cX8_settle 38 = .ok (.iaload, 1) := by decide +kernel
theorem dX8_settle_39 : decode cX8_settle 39 = .ok (.aload_n 0, 1) := by decide +kernel
theorem dX8_settle_40 : decode cX8_settle 40 = .ok (.iload_n 2, 1) := by decide +kernel
theorem dX8_settle_41 : decode cX8_settle 41 = .ok (.invokevirtual 81, 3) := by decide +kernel
theorem dX8_settle_44 : decode cX8_settle 44 = .ok (.if_icmp .ge 11, 3) := by decide +kernel
theorem dX8_settle_47 : decode cX8_settle 47 = .ok (.aload_n 0, 1) := by decide +kernel
theorem dX8_settle_48 : decode cX8_settle 48 = .ok (.iload_n 2, 1) := by decide +kernel
theorem dX8_settle_49 : decode cX8_settle 49 = .ok (.invokevirtual 81, 3) := by decide +kernel
theorem dX8_settle_52 : decode cX8_settle 52 = .ok (.goto 31, 3) := by decide +kernel
theorem dX8_settle_55 : decode cX8_settle 55 = .ok (.aload_n 0, 1) := by decide +kernel
theorem dX8_settle_56 : decode cX8_settle 56 = .ok (.getfield 7, 3) := by decide +kernel
theorem dX8_settle_59 : decode cX8_settle 59 = .ok (.iload_n 2, 1) := by decide +kernel
theorem dX8_settle_60 : decode cX8_settle 60 = .ok (.iaload, 1) := by decide +kernel
theorem dX8_settle_61 : decode cX8_settle 61 = .ok (.aload_n 0, 1) := by decide +kernel
theorem dX8_settle_62 : decode cX8_settle 62 = .ok (.iload_n 2, 1) := by decide +kernel
theorem dX8_settle_63 : decode cX8_settle 63 = .ok (.invokevirtual 85, 3) := by decide +kernel
theorem dX8_settle_66 : decode cX8_settle 66 = .ok (.if_icmp .le 11, 3) := by decide +kernel
theorem dX8_settle_69 : decode cX8_settle 69 = .ok (.aload_n 0, 1) := by decide +kernel
theorem dX8_settle_70 : decode cX8_settle 70 = .ok (.iload_n 2, 1) := by decide +kernel
theorem dX8_settle_71 : decode cX8_settle 71 = .ok (.invokevirtual 85, 3) := by decide +kernel
theorem dX8_settle_74 : decode cX8_settle 74 = .ok (.goto 9, 3) := by decide +kernel
theorem dX8_settle_77 : decode cX8_settle 77 = .ok (.aload_n 0, 1) := by decide +kernel
theorem dX8_settle_78 : decode cX8_settle 78 = .ok (.getfield 7, 3) := by decide +kernel
theorem dX8_settle_81 : decode cX8_settle 81 = .ok (.iload_n 2, 1) := by decide +kernel
theorem dX8_settle_82 : decode cX8_settle 82 = .ok (.iaload, 1) := by decide +kernel
theorem dX8_settle_83 : decode cX8_settle 83 = .ok (.istore_n 3, 1) := by decide +kernel
theorem dX8_settle_84 : decode cX8_settle 84 = .ok (.aload_n 0, 1) := by decide +kernel
theorem dX8_settle_85 : decode cX8_settle 85 = .ok (.iload_n 2, 1) := by decide +kernel
theorem dX8_settle_86 : decode cX8_settle 86 = .ok (.bipush 10, 2) := by decide +kernel
theorem dX8_settle_88 : decode cX8_settle 88 = .ok (.iload_n 3, 1) := by decide +kernel
theorem dX8_settle_89 : decode cX8_settle 89 = .ok (.invokevirtual 59, 3) := by decide +kernel
theorem dX8_settle_92 : decode cX8_settle 92 = .ok (.aload_n 0, 1) := by decide +kernel
theorem dX8_settle_93 : decode cX8_settle 93 = .ok (.bipush 10, 2) := by decide +kernel
theorem dX8_settle_95 : decode cX8_settle 95 = .ok (.iload_n 2, 1) := by decide +kernel
theorem dX8_settle_96 : decode cX8_settle 96 = .ok (.iload_n 3, 1) := by decide +kernel
theorem dX8_settle_97 : decode cX8_settle 97 = .ok (.ineg, 1) := by decide +kernel
theorem dX8_settle_98 : decode cX8_settle 98 = .ok (.invokevirtual 59, 3) := by decide +kernel
theorem dX8_settle_101 : decode cX8_settle 101 = .ok (.aload_n 0, 1) := by decide +kernel
theorem dX8_settle_102 : decode cX8_settle 102 = .ok (.getfield 7, 3) := by decide +kernel
theorem dX8_settle_105 : decode cX8_settle 105 = .ok (.iload_n 2, 1) := by decide +kernel
theorem dX8_settle_106 : decode cX8_settle 106 = .ok (.iload_n 3, 1) := by decide +kernel
theorem dX8_settle_107 : decode cX8_settle 107 = .ok (.iastore, 1) := by decide +kernel
theorem dX8_settle_108 : decode cX8_settle 108 = .ok (.iinc 2 1, 3) := by decide +kernel
theorem dX8_settle_111 : decode cX8_settle 111 = .ok (.goto (-97), 3) := by decide +kernel
theorem dX8_settle_114 : decode cX8_settle 114 = .ok (.iinc 1 (-1), 3) := by decide +kernel
theorem dX8_settle_117 : decode cX8_settle 117 = .ok (.goto (-109), 3) := by decide +kernel
theorem dX8_settle_120 : decode cX8_settle 120 = .ok (.return_, 1) := by decide +kernel
theorem dX8_save_0 : decode cX8_save 0 = .ok (.aload_n 0, 1) := by decide +kernel
theorem dX8_save_1 : decode cX8_save 1 = .ok (.getfield 88, 3) := by decide +kernel
theorem dX8_save_4 : decode cX8_save 4 = .ok (.bipush 8, 2) := by decide +kernel
theorem dX8_save_6 : decode cX8_save 6 = .ok (.if_icmp .ne 44, 3) := by decide +kernel
theorem dX8_save_9 : decode cX8_save 9 = .ok (.bipush 115, 2) := by decide +kernel
theorem dX8_save_11 : decode cX8_save 11 = .ok (.istore_n 1, 1) := by decide +kernel
theorem dX8_save_12 : decode cX8_save 12 = .ok (.iload_n 1, 1) := by decide +kernel
theorem dX8_save_13 : decode cX8_save 13 = .ok (.sipush 920, 3) := by decide +kernel
theorem dX8_save_16 : decode cX8_save 16 = .ok (.if_icmp .ge 24, 3) := by decide +kernel
theorem dX8_save_19 : decode cX8_save 19 = .ok (.aload_n 0, 1) := by decide +kernel
theorem dX8_save_20 : decode cX8_save 20 = .ok (.getfield 13, 3) := by decide +kernel
theorem dX8_save_23 : decode cX8_save 23 = .ok (.iload_n 1, 1) := by decide +kernel
theorem dX8_save_24 : decode cX8_save 24 = .ok (.bipush 115, 2) := by decide +kernel
theorem dX8_save_26 : decode cX8_save 26 = .ok (.isub, 1) := by decide +kernel
theorem dX8_save_27 : decode cX8_save 27 = .ok (.aload_n 0, 1) := by decide +kernel
theorem dX8_save_28 : decode cX8_save 28 = .ok (.getfield 13, 3) := by decide +kernel
theorem dX8_save_31 : decode cX8_save 31 = .ok (.iload_n 1, 1) := by decide +kernel
theorem dX8_save_32 : decode cX8_save 32 = .ok (.iaload, 1) := by decide +kernel
theorem dX8_save_33 : decode cX8_save 33 = .ok (.iastore, 1) := by decide +kernel
theorem dX8_save_34 : decode cX8_save 34 = .ok (.iinc 1 1, 3) := by decide +kernel
theorem dX8_save_37 : decode cX8_save 37 = .ok (.goto (-25), 3) := by decide +kernel
theorem dX8_save_40 : decode cX8_save 40 = .ok (.aload_n 0, 1) := by decide +kernel
theorem dX8_save_41 : decode cX8_save 41 = .ok (.dup, 1) := by decide +kernel
theorem dX8_save_42 : decode cX8_save 42 = .ok (.getfield 88, 3) := by decide +kernel
theorem dX8_save_45 : decode cX8_save 45 = .ok (.iconst 1, 1) := by decide +kernel
theorem dX8_save_46 : decode cX8_save 46 = .ok (.isub, 1) := by decide +kernel
theorem dX8_save_47 : decode cX8_save 47 = .ok (.putfield 88, 3) := by decide +kernel
theorem dX8_save_50 : decode cX8_save 50 = .ok (.iconst 0, 1) := by decide +kernel
theorem dX8_save_51 : decode cX8_save 51 = .ok (.istore_n 1, 1) := by decide +kernel
theorem dX8_save_52 : decode cX8_save 52 = .ok (.iload_n 1, 1) := by decide +kernel
theorem dX8_save_53 : decode cX8_save 53 = .ok (.bipush 115, 2) := by decide +kernel
theorem dX8_save_55 : decode cX8_save 55 = .ok (.if_icmp .ge 29, 3) := by decide +kernel
theorem dX8_save_58 : decode cX8_save 58 = .ok (.aload_n 0, 1) := by decide +kernel
theorem dX8_save_59 : decode cX8_save 59 = .ok (.getfield 13, 3) := by decide +kernel
theorem dX8_save_62 : decode cX8_save 62 = .ok (.bipush 115, 2) := by decide +kernel
theorem dX8_save_64 : decode cX8_save 64 = .ok (.aload_n 0, 1) := by decide +kernel
theorem dX8_save_65 : decode cX8_save 65 = .ok (.getfield 88, 3) := by decide +kernel
theorem dX8_save_68 : decode cX8_save 68 = .ok (.imul, 1) := by decide +kernel
theorem dX8_save_69 : decode cX8_save 69 = .ok (.iload_n 1, 1) := by decide +kernel
theorem dX8_save_70 : decode cX8_save 70 = .ok (.iadd, 1) := by decide +kernel
theorem dX8_save_71 : decode cX8_save 71 = .ok (.aload_n 0, 1) := by decide +kernel
theorem dX8_save_72 : decode cX8_save 72 = .ok (.getfield 7, 3) := by decide +kernel
theorem dX8_save_75 : decode cX8_save 75 = .ok (.iload_n 1, 1) := by decide +kernel
theorem dX8_save_76 : decode cX8_save 76 = .ok (.iaload, 1) := by decide +kernel
theorem dX8_save_77 : decode cX8_save 77 = .ok (.iastore, 1) := by decide +kernel
theorem dX8_save_78 : decode cX8_save 78 = .ok (.iinc 1 1, 3) := by decide +kernel
theorem dX8_save_81 : decode cX8_save 81 = .ok (.goto (-29), 3) := by decide +kernel
theorem dX8_save_84 : decode cX8_save 84 = .ok (.aload_n 0, 1) := by decide +kernel
theorem dX8_save_85 : decode cX8_save 85 = .ok (.dup, 1) := by decide +kernel
theorem dX8_save_86 : decode cX8_save 86 = .ok (.getfield 88, 3) := by decide +kernel
theorem dX8_save_89 : decode cX8_save 89 = .ok (.iconst 1, 1) := by decide +kernel
theorem dX8_save_90 : decode cX8_save 90 = .ok (.iadd, 1) := by decide +kernel
theorem dX8_save_91 : decode cX8_save 91 = .ok (.putfield 88, 3) := by decide +kernel
theorem dX8_save_94 : decode cX8_save 94 = .ok (.return_, 1) := by decide +kernel
theorem dX8_restore_0 : decode cX8_restore 0 = .ok (.iconst 0, 1) := by decide +kernel
theorem dX8_restore_1 : decode cX8_restore 1 = .ok (.istore_n 2, 1) := by decide +kernel
theorem dX8_restore_2 : decode cX8_restore 2 = .ok (.iload_n 2, 1) := by decide +kernel
theorem dX8_restore_3 : decode cX8_restore 3 = .ok (.bipush 115, 2) := by decide +kernel
theorem dX8_restore_5 : decode cX8_restore 5 = .ok (.if_icmp .ge 26, 3) := by decide +kernel
theorem dX8_restore_8 : decode cX8_restore 8 = .ok (.aload_n 0, 1) := by decide +kernel
theorem dX8_restore_9 : decode cX8_restore 9 = .ok (.getfield 7, 3) := by decide +kernel
theorem dX8_restore_12 : decode cX8_restore 12 = .ok (.iload_n 2, 1) := by decide +kernel
theorem dX8_restore_13 : decode cX8_restore 13 = .ok (.aload_n 0, 1) := by decide +kernel
theorem dX8_restore_14 : decode cX8_restore 14 = .ok (.getfield 13, 3) := by decide +kernel
theorem dX8_restore_17 : decode cX8_restore 17 = .ok (.bipush 115, 2) := by decide +kernel
theorem dX8_restore_19 : decode cX8_restore 19 = .ok (.iload_n 1, 1) := by decide +kernel
theorem dX8_restore_20 : decode cX8_restore 20 = .ok (.imul, 1) := by decide +kernel
theorem dX8_restore_21 : decode cX8_restore 21 = .ok (.iload_n 2, 1) := by decide +kernel
theorem dX8_restore_22 : decode cX8_restore 22 = .ok (.iadd, 1) := by decide +kernel
theorem dX8_restore_23 : decode cX8_restore 23 = .ok (.iaload, 1) := by decide +kernel
theorem dX8_restore_24 : decode cX8_restore 24 = .ok (.iastore, 1) := by decide +kernel
theorem dX8_restore_25 : decode cX8_restore 25 = .ok (.iinc 2 1, 3) := by decide +kernel
theorem dX8_restore_28 : decode cX8_restore 28 = .ok (.goto (-26), 3) := by decide +kernel
theorem dX8_restore_31 : decode cX8_restore 31 = .ok (.return_, 1) := by decide +kernel
theorem dX8_undo_0 : decode cX8_undo 0 = .ok (.aload_n 0, 1) := by decide +kernel
theorem dX8_undo_1 : decode cX8_undo 1 = .ok (.aload_n 0, 1) := by decide +kernel
theorem dX8_undo_2 : decode cX8_undo 2 = .ok (.getfield 88, 3) := by decide +kernel
theorem dX8_undo_5 : decode cX8_undo 5 = .ok (.ifCond .le 7, 3) := by decide +kernel
theorem dX8_undo_8 : decode cX8_undo 8 = .ok (.iconst 0, 1) := by decide +kernel
theorem dX8_undo_9 : decode cX8_undo 9 = .ok (.goto 4, 3) := by decide +kernel
theorem dX8_undo_12 : decode cX8_undo 12 = .ok (.iconst 1, 1) := by decide +kernel
theorem dX8_undo_13 : decode cX8_undo 13 = .ok (.putfield 44, 3) := by decide +kernel
theorem dX8_undo_16 : decode cX8_undo 16 = .ok (.aload_n 0, 1) := by decide +kernel
theorem dX8_undo_17 : decode cX8_undo 17 = .ok (.getfield 44, 3) := by decide +kernel
theorem dX8_undo_20 : decode cX8_undo 20 = .ok (.ifCond .le 5, 3) := by decide +kernel
theorem dX8_undo_23 : decode cX8_undo 23 = .ok (.iconst 0, 1) := by decide +kernel
theorem dX8_undo_24 : decode cX8_undo 24 = .ok (.ireturn, 1) := by decide +kernel
theorem dX8_undo_25 : decode cX8_undo 25 = .ok (.aload_n 0, 1) := by decide +kernel
theorem dX8_undo_26 : decode cX8_undo 26 = .ok (.dup, 1) := by decide +kernel
theorem dX8_undo_27 : decode cX8_undo 27 = .ok (.getfield 88, 3) := by decide +kernel
theorem dX8_undo_30 : decode cX8_undo 30 = .ok (.iconst 1, 1) := by decide +kernel
theorem dX8_undo_31 : decode cX8_undo 31 = .ok (.isub, 1) := by decide +kernel
theorem dX8_undo_32 : decode cX8_undo 32 = .ok (.putfield 88, 3) := by decide +kernel
theorem dX8_undo_35 : decode cX8_undo 35 = .ok (.aload_n 0, 1) := by decide +kernel
theorem dX8_undo_36 : decode cX8_undo 36 = .ok (.aload_n 0, 1) := by decide +kernel
theorem dX8_undo_37 : decode cX8_undo 37 = .ok (.getfield 88, 3) := by decide +kernel
theorem dX8_undo_40 : decode cX8_undo 40 = .ok (.invokevirtual 91, 3) := by decide +kernel
theorem dX8_undo_43 : decode cX8_undo 43 = .ok (.aload_n 0, 1) := by decide +kernel
theorem dX8_undo_44 : decode cX8_undo 44 = .ok (.getfield 88, 3) := by decide +kernel
theorem dX8_undo_47 : decode cX8_undo 47 = .ok (.ireturn, 1) := by decide +kernel
theorem dX8_isNumber_0 : decode cX8_isNumber 0 = .ok (.iload_n 0, 1) := by decide +kernel
theorem dX8_isNumber_1 : decode cX8_isNumber 1 = .ok (.sipush (-2000), 3) := by decide +kernel
theorem dX8_isNumber_4 : decode cX8_isNumber 4 = .ok (.sipush 2000, 3) := by decide +kernel
theorem dX8_isNumber_7 : decode cX8_isNumber 7 = .ok (.invokestatic 48, 3) := by decide +kernel
theorem dX8_isNumber_10 : decode cX8_isNumber 10 = .ok (.ireturn, 1) := by decide +kernel
theorem dX8_isStrength_0 : decode cX8_isStrength 0 = .ok (.iload_n 0, 1) := by decide +kernel
theorem dX8_isStrength_1 : decode cX8_isStrength 1 = .ok (.iconst 0, 1) := by decide +kernel
theorem dX8_isStrength_2 : decode cX8_isStrength 2 = .ok (.iconst 3, 1) := by decide +kernel
theorem dX8_isStrength_3 : decode cX8_isStrength 3 = .ok (.invokestatic 48, 3) := by decide +kernel
theorem dX8_isStrength_6 : decode cX8_isStrength 6 = .ok (.ireturn, 1) := by decide +kernel
theorem dX8_lay_0 : decode cX8_lay 0 = .ok (.bipush 21, 2) := by decide +kernel
theorem dX8_lay_2 : decode cX8_lay 2 = .ok (.iconst 5, 1) := by decide +kernel
theorem dX8_lay_3 : decode cX8_lay 3 = .ok (.aload_n 0, 1) := by decide +kernel
theorem dX8_lay_4 : decode cX8_lay 4 = .ok (.getfield 7, 3) := by decide +kernel
theorem dX8_lay_7 : decode cX8_lay 7 = .ok (.bipush 20, 2) := by decide +kernel
theorem dX8_lay_9 : decode cX8_lay 9 = .ok (.iaload, 1) := by decide +kernel
theorem dX8_lay_10 : decode cX8_lay 10 = .ok (.imul, 1) := by decide +kernel
theorem dX8_lay_11 : decode cX8_lay 11 = .ok (.iadd, 1) := by decide +kernel
theorem dX8_lay_12 : decode cX8_lay 12 = .ok (.istore 6, 2) := by decide +kernel
theorem dX8_lay_14 : decode cX8_lay 14 = .ok (.aload_n 0, 1) := by decide +kernel
theorem dX8_lay_15 : decode cX8_lay 15 = .ok (.getfield 7, 3) := by decide +kernel
theorem dX8_lay_18 : decode cX8_lay 18 = .ok (.iload 6, 2) := by decide +kernel
theorem dX8_lay_20 : decode cX8_lay 20 = .ok (.iconst 0, 1) := by decide +kernel
theorem dX8_lay_21 : decode cX8_lay 21 = .ok (.iadd, 1) := by decide +kernel
theorem dX8_lay_22 : decode cX8_lay 22 = .ok (.iload_n 1, 1) := by decide +kernel
theorem dX8_lay_23 : decode cX8_lay 23 = .ok (.iastore, 1) := by decide +kernel
theorem dX8_lay_24 : decode cX8_lay 24 = .ok (.aload_n 0, 1) := by decide +kernel
theorem dX8_lay_25 : decode cX8_lay 25 = .ok (.getfield 7, 3) := by decide +kernel
theorem dX8_lay_28 : decode cX8_lay 28 = .ok (.iload 6, 2) := by decide +kernel
theorem dX8_lay_30 : decode cX8_lay 30 = .ok (.iconst 1, 1) := by decide +kernel
theorem dX8_lay_31 : decode cX8_lay 31 = .ok (.iadd, 1) := by decide +kernel
theorem dX8_lay_32 : decode cX8_lay 32 = .ok (.iload_n 2, 1) := by decide +kernel
theorem dX8_lay_33 : decode cX8_lay 33 = .ok (.iastore, 1) := by decide +kernel
theorem dX8_lay_34 : decode cX8_lay 34 = .ok (.aload_n 0, 1) := by decide +kernel
theorem dX8_lay_35 : decode cX8_lay 35 = .ok (.getfield 7, 3) := by decide +kernel
theorem dX8_lay_38 : decode cX8_lay 38 = .ok (.iload 6, 2) := by decide +kernel
theorem dX8_lay_40 : decode cX8_lay 40 = .ok (.iconst 2, 1) := by decide +kernel
theorem dX8_lay_41 : decode cX8_lay 41 = .ok (.iadd, 1) := by decide +kernel
theorem dX8_lay_42 : decode cX8_lay 42 = .ok (.iload_n 3, 1) := by decide +kernel
theorem dX8_lay_43 : decode cX8_lay 43 = .ok (.iastore, 1) := by decide +kernel
theorem dX8_lay_44 : decode cX8_lay 44 = .ok (.aload_n 0, 1) := by decide +kernel
theorem dX8_lay_45 : decode cX8_lay 45 = .ok (.getfield 7, 3) := by decide +kernel
theorem dX8_lay_48 : decode cX8_lay 48 = .ok (.iload 6, 2) := by decide +kernel
theorem dX8_lay_50 : decode cX8_lay 50 = .ok (.iconst 3, 1) := by decide +kernel
theorem dX8_lay_51 : decode cX8_lay 51 = .ok (.iadd, 1) := by decide +kernel
theorem dX8_lay_52 : decode cX8_lay 52 = .ok (.iload 4, 2) := by decide +kernel
theorem dX8_lay_54 : decode cX8_lay 54 = .ok (.iastore, 1) := by decide +kernel
theorem dX8_lay_55 : decode cX8_lay 55 = .ok (.aload_n 0, 1) := by decide +kernel
theorem dX8_lay_56 : decode cX8_lay 56 = .ok (.getfield 7, 3) := by decide +kernel
theorem dX8_lay_59 : decode cX8_lay 59 = .ok (.iload 6, 2) := by decide +kernel
theorem dX8_lay_61 : decode cX8_lay 61 = .ok (.iconst 4, 1) := by decide +kernel
theorem dX8_lay_62 : decode cX8_lay 62 = .ok (.iadd, 1) := by decide +kernel
theorem dX8_lay_63 : decode cX8_lay 63 = .ok (.iload 5, 2) := by decide +kernel
theorem dX8_lay_65 : decode cX8_lay 65 = .ok (.iastore, 1) := by decide +kernel
theorem dX8_lay_66 : decode cX8_lay 66 = .ok (.aload_n 0, 1) := by decide +kernel
theorem dX8_lay_67 : decode cX8_lay 67 = .ok (.getfield 7, 3) := by decide +kernel
theorem dX8_lay_70 : decode cX8_lay 70 = .ok (.bipush 20, 2) := by decide +kernel
theorem dX8_lay_72 : decode cX8_lay 72 = .ok (.dup2, 1) := by decide +kernel
theorem dX8_lay_73 : decode cX8_lay 73 = .ok (.iaload, 1) := by decide +kernel
theorem dX8_lay_74 : decode cX8_lay 74 = .ok (.iconst 1, 1) := by decide +kernel
theorem dX8_lay_75 : decode cX8_lay 75 = .ok (.iadd, 1) := by decide +kernel
theorem dX8_lay_76 : decode cX8_lay 76 = .ok (.iastore, 1) := by decide +kernel
theorem dX8_lay_77 : decode cX8_lay 77 = .ok (.return_, 1) := by decide +kernel
theorem dX8_add_0 : decode cX8_add 0 = .ok (.iload_n 1, 1) := by decide +kernel
theorem dX8_add_1 : decode cX8_add 1 = .ok (.invokestatic 94, 3) := by decide +kernel
theorem dX8_add_4 : decode cX8_add 4 = .ok (.ifCond .eq 22, 3) := by decide +kernel
theorem dX8_add_7 : decode cX8_add 7 = .ok (.iload_n 2, 1) := by decide +kernel
theorem dX8_add_8 : decode cX8_add 8 = .ok (.iconst (-1), 1) := by decide +kernel
theorem dX8_add_9 : decode cX8_add 9 = .ok (.bipush 9, 2) := by decide +kernel
theorem dX8_add_11 : decode cX8_add 11 = .ok (.invokestatic 48, 3) := by decide +kernel
theorem dX8_add_14 : decode cX8_add 14 = .ok (.ifCond .eq 12, 3) := by decide +kernel
theorem dX8_add_17 : decode cX8_add 17 = .ok (.iload_n 1, 1) := by decide +kernel
theorem dX8_add_18 : decode cX8_add 18 = .ok (.iload_n 2, 1) := by decide +kernel
theorem dX8_add_19 : decode cX8_add 19 = .ok (.if_icmp .eq 7, 3) := by decide +kernel
theorem dX8_add_22 : decode cX8_add 22 = .ok (.iconst 1, 1) := by decide +kernel
theorem dX8_add_23 : decode cX8_add 23 = .ok (.goto 4, 3) := by decide +kernel
theorem dX8_add_26 : decode cX8_add 26 = .ok (.iconst 0, 1) := by decide +kernel
theorem dX8_add_27 : decode cX8_add 27 = .ok (.istore 6, 2) := by decide +kernel
theorem dX8_add_29 : decode cX8_add 29 = .ok (.iload_n 3, 1) := by decide +kernel
theorem dX8_add_30 : decode cX8_add 30 = .ok (.iconst 0, 1) := by decide +kernel
theorem dX8_add_31 : decode cX8_add 31 = .ok (.iconst 2, 1) := by decide +kernel
theorem dX8_add_32 : decode cX8_add 32 = .ok (.invokestatic 48, 3) := by decide +kernel
theorem dX8_add_35 : decode cX8_add 35 = .ok (.ifCond .eq 23, 3) := by decide +kernel
theorem dX8_add_38 : decode cX8_add 38 = .ok (.iload 4, 2) := by decide +kernel
theorem dX8_add_40 : decode cX8_add 40 = .ok (.invokestatic 98, 3) := by decide +kernel
theorem dX8_add_43 : decode cX8_add 43 = .ok (.ifCond .eq 15, 3) := by decide +kernel
theorem dX8_add_46 : decode cX8_add 46 = .ok (.iload 5, 2) := by decide +kernel
theorem dX8_add_48 : decode cX8_add 48 = .ok (.invokestatic 101, 3) := by decide +kernel
theorem dX8_add_51 : decode cX8_add 51 = .ok (.ifCond .eq 7, 3) := by decide +kernel
theorem dX8_add_54 : decode cX8_add 54 = .ok (.iconst 1, 1) := by decide +kernel
theorem dX8_add_55 : decode cX8_add 55 = .ok (.goto 4, 3) := by decide +kernel
theorem dX8_add_58 : decode cX8_add 58 = .ok (.iconst 0, 1) := by decide +kernel
theorem dX8_add_59 : decode cX8_add 59 = .ok (.istore 7, 2) := by decide +kernel
theorem dX8_add_61 : decode cX8_add 61 = .ok (.aload_n 0, 1) := by decide +kernel
theorem dX8_add_62 : decode cX8_add 62 = .ok (.iload 6, 2) := by decide +kernel
theorem dX8_add_64 : decode cX8_add 64 = .ok (.ifCond .ne 7, 3) := by decide +kernel
theorem dX8_add_67 : decode cX8_add 67 = .ok (.iconst 1, 1) := by decide +kernel
theorem dX8_add_68 : decode cX8_add 68 = .ok (.goto 29, 3) := by decide +kernel
theorem dX8_add_71 : decode cX8_add 71 = .ok (.iload 7, 2) := by decide +kernel
theorem dX8_add_73 : decode cX8_add 73 = .ok (.ifCond .ne 7, 3) := by decide +kernel
theorem dX8_add_76 : decode cX8_add 76 = .ok (.iconst 2, 1) := by decide +kernel
theorem dX8_add_77 : decode cX8_add 77 = .ok (.goto 20, 3) := by decide +kernel
theorem dX8_add_80 : decode cX8_add 80 = .ok (.aload_n 0, 1) := by decide +kernel
theorem dX8_add_81 : decode cX8_add 81 = .ok (.getfield 7, 3) := by decide +kernel
theorem dX8_add_84 : decode cX8_add 84 = .ok (.bipush 20, 2) := by decide +kernel
theorem dX8_add_86 : decode cX8_add 86 = .ok (.iaload, 1) := by decide +kernel
theorem dX8_add_87 : decode cX8_add 87 = .ok (.bipush 16, 2) := by decide +kernel
theorem dX8_add_89 : decode cX8_add 89 = .ok (.if_icmp .ne 7, 3) := by decide +kernel
theorem dX8_add_92 : decode cX8_add 92 = .ok (.iconst 3, 1) := by decide +kernel
theorem dX8_add_93 : decode cX8_add 93 = .ok (.goto 4, 3) := by decide +kernel
theorem dX8_add_96 : decode cX8_add 96 = .ok (.iconst 0, 1) := by decide +kernel
theorem dX8_add_97 : decode cX8_add 97 = .ok (.putfield 44, 3) := by decide +kernel
theorem dX8_add_100 : decode cX8_add 100 = .ok (.aload_n 0, 1) := by decide +kernel
theorem dX8_add_101 : decode cX8_add 101 = .ok (.getfield 44, 3) := by decide +kernel
theorem dX8_add_104 : decode cX8_add 104 = .ok (.ifCond .le 5, 3) := by decide +kernel
theorem dX8_add_107 : decode cX8_add 107 = .ok (.iconst 0, 1) := by decide +kernel
theorem dX8_add_108 : decode cX8_add 108 = .ok (.ireturn, 1) := by decide +kernel
theorem dX8_add_109 : decode cX8_add 109 = .ok (.aload_n 0, 1) := by decide +kernel
theorem dX8_add_110 : decode cX8_add 110 = .ok (.invokevirtual 104, 3) := by decide +kernel
theorem dX8_add_113 : decode cX8_add 113 = .ok (.aload_n 0, 1) := by decide +kernel
theorem dX8_add_114 : decode cX8_add 114 = .ok (.iload_n 1, 1) := by decide +kernel
theorem dX8_add_115 : decode cX8_add 115 = .ok (.iload_n 2, 1) := by decide +kernel
theorem dX8_add_116 : decode cX8_add 116 = .ok (.iload_n 3, 1) := by decide +kernel
theorem dX8_add_117 : decode cX8_add 117 = .ok (.iload 4, 2) := by decide +kernel
theorem dX8_add_119 : decode cX8_add 119 = .ok (.iload 5, 2) := by decide +kernel
theorem dX8_add_121 : decode cX8_add 121 = .ok (.invokevirtual 107, 3) := by decide +kernel
theorem dX8_add_124 : decode cX8_add 124 = .ok (.aload_n 0, 1) := by decide +kernel
theorem dX8_add_125 : decode cX8_add 125 = .ok (.invokevirtual 111, 3) := by decide +kernel
theorem dX8_add_128 : decode cX8_add 128 = .ok (.aload_n 0, 1) := by decide +kernel
theorem dX8_add_129 : decode cX8_add 129 = .ok (.getfield 7, 3) := by decide +kernel
theorem dX8_add_132 : decode cX8_add 132 = .ok (.bipush 20, 2) := by decide +kernel
theorem dX8_add_134 : decode cX8_add 134 = .ok (.iaload, 1) := by decide +kernel
theorem dX8_add_135 : decode cX8_add 135 = .ok (.iconst 1, 1) := by decide +kernel
theorem dX8_add_136 : decode cX8_add 136 = .ok (.isub, 1) := by decide +kernel
theorem dX8_add_137 : decode cX8_add 137 = .ok (.ireturn, 1) := by decide +kernel
theorem dX8_remove_0 : decode cX8_remove 0 = .ok (.aload_n 0, 1) := by decide +kernel
theorem dX8_remove_1 : decode cX8_remove 1 = .ok (.aload_n 0, 1) := by decide +kernel
theorem dX8_remove_2 : decode cX8_remove 2 = .ok (.iload_n 1, 1) := by decide +kernel
theorem dX8_remove_3 : decode cX8_remove 3 = .ok (.invokevirtual 114, 3) := by decide +kernel
theorem dX8_remove_6 : decode cX8_remove 6 = .ok (.ifCond .eq 7, 3) := by decide +kernel
theorem dX8_remove_9 : decode cX8_remove 9 = .ok (.iconst 0, 1) := by decide +kernel
theorem dX8_remove_10 : decode cX8_remove 10 = .ok (.goto 4, 3) := by decide +kernel
theorem dX8_remove_13 : decode cX8_remove 13 = .ok (.iconst 1, 1) := by decide +kernel
theorem dX8_remove_14 : decode cX8_remove 14 = .ok (.putfield 44, 3) := by decide +kernel
theorem dX8_remove_17 : decode cX8_remove 17 = .ok (.aload_n 0, 1) := by decide +kernel
theorem dX8_remove_18 : decode cX8_remove 18 = .ok (.getfield 44, 3) := by decide +kernel
theorem dX8_remove_21 : decode cX8_remove 21 = .ok (.ifCond .le 5, 3) := by decide +kernel
theorem dX8_remove_24 : decode cX8_remove 24 = .ok (.iconst 0, 1) := by decide +kernel
theorem dX8_remove_25 : decode cX8_remove 25 = .ok (.ireturn, 1) := by decide +kernel
theorem dX8_remove_26 : decode cX8_remove 26 = .ok (.aload_n 0, 1) := by decide +kernel
theorem dX8_remove_27 : decode cX8_remove 27 = .ok (.invokevirtual 104, 3) := by decide +kernel
theorem dX8_remove_30 : decode cX8_remove 30 = .ok (.aload_n 0, 1) := by decide +kernel
theorem dX8_remove_31 : decode cX8_remove 31 = .ok (.iconst (-1), 1) := by decide +kernel
theorem dX8_remove_32 : decode cX8_remove 32 = .ok (.invokevirtual 77, 3) := by decide +kernel
theorem dX8_remove_35 : decode cX8_remove 35 = .ok (.aload_n 0, 1) := by decide +kernel
theorem dX8_remove_36 : decode cX8_remove 36 = .ok (.getfield 22, 3) := by decide +kernel
theorem dX8_remove_39 : decode cX8_remove 39 = .ok (.iload_n 1, 1) := by decide +kernel
theorem dX8_remove_40 : decode cX8_remove 40 = .ok (.baload, 1) := by decide +kernel
theorem dX8_remove_41 : decode cX8_remove 41 = .ok (.ifCond .eq 7, 3) := by decide +kernel
theorem dX8_remove_44 : decode cX8_remove 44 = .ok (.iconst 1, 1) := by decide +kernel
theorem dX8_remove_45 : decode cX8_remove 45 = .ok (.goto 4, 3) := by decide +kernel
theorem dX8_remove_48 : decode cX8_remove 48 = .ok (.iconst 0, 1) := by decide +kernel
theorem dX8_remove_49 : decode cX8_remove 49 = .ok (.istore_n 2, 1) := by decide +kernel
theorem dX8_remove_50 : decode cX8_remove 50 = .ok (.aload_n 0, 1) := by decide +kernel
theorem dX8_remove_51 : decode cX8_remove 51 = .ok (.getfield 7, 3) := by decide +kernel
theorem dX8_remove_54 : decode cX8_remove 54 = .ok (.bipush 20, 2) := by decide +kernel
theorem dX8_remove_56 : decode cX8_remove 56 = .ok (.dup2, 1) := by decide +kernel
theorem dX8_remove_57 : decode cX8_remove 57 = .ok (.iaload, 1) := by decide +kernel
theorem dX8_remove_58 : decode cX8_remove 58 = .ok (.iconst 1, 1) := by decide +kernel
theorem dX8_remove_59 : decode cX8_remove 59 = .ok (.isub, 1) := by decide +kernel
theorem dX8_remove_60 : decode cX8_remove 60 = .ok (.iastore, 1) := by decide +kernel
theorem dX8_remove_61 : decode cX8_remove 61 = .ok (.bipush 21, 2) := by decide +kernel
theorem dX8_remove_63 : decode cX8_remove 63 = .ok (.iconst 5, 1) := by decide +kernel
theorem dX8_remove_64 : decode cX8_remove 64 = .ok (.iload_n 1, 1) := by decide +kernel
theorem dX8_remove_65 : decode cX8_remove 65 = .ok (.imul, 1) := by decide +kernel
theorem dX8_remove_66 : decode cX8_remove 66 = .ok (.iadd, 1) := by decide +kernel
theorem dX8_remove_67 : decode cX8_remove 67 = .ok (.istore_n 3, 1) := by decide +kernel
theorem dX8_remove_68 : decode cX8_remove 68 = .ok (.iload_n 3, 1) := by decide +kernel
theorem dX8_remove_69 : decode cX8_remove 69 = .ok (.bipush 21, 2) := by decide +kernel
theorem dX8_remove_71 : decode cX8_remove 71 = .ok (.iconst 5, 1) := by decide +kernel
theorem dX8_remove_72 : decode cX8_remove 72 = .ok (.aload_n 0, 1) := by decide +kernel
theorem dX8_remove_73 : decode cX8_remove 73 = .ok (.getfield 7, 3) := by decide +kernel
theorem dX8_remove_76 : decode cX8_remove 76 = .ok (.bipush 20, 2) := by decide +kernel
theorem dX8_remove_78 : decode cX8_remove 78 = .ok (.iaload, 1) := by decide +kernel
theorem dX8_remove_79 : decode cX8_remove 79 = .ok (.imul, 1) := by decide +kernel
theorem dX8_remove_80 : decode cX8_remove 80 = .ok (.iadd, 1) := by decide +kernel
theorem dX8_remove_81 : decode cX8_remove 81 = .ok (.if_icmp .ge 23, 3) := by decide +kernel
theorem dX8_remove_84 : decode cX8_remove 84 = .ok (.aload_n 0, 1) := by decide +kernel
theorem dX8_remove_85 : decode cX8_remove 85 = .ok (.getfield 7, 3) := by decide +kernel
theorem dX8_remove_88 : decode cX8_remove 88 = .ok (.iload_n 3, 1) := by decide +kernel
theorem dX8_remove_89 : decode cX8_remove 89 = .ok (.aload_n 0, 1) := by decide +kernel
theorem dX8_remove_90 : decode cX8_remove 90 = .ok (.getfield 7, 3) := by decide +kernel
theorem dX8_remove_93 : decode cX8_remove 93 = .ok (.iload_n 3, 1) := by decide +kernel
theorem dX8_remove_94 : decode cX8_remove 94 = .ok (.iconst 5, 1) := by decide +kernel
theorem dX8_remove_95 : decode cX8_remove 95 = .ok (.iadd, 1) := by decide +kernel
theorem dX8_remove_96 : decode cX8_remove 96 = .ok (.iaload, 1) := by decide +kernel
theorem dX8_remove_97 : decode cX8_remove 97 = .ok (.iastore, 1) := by decide +kernel
theorem dX8_remove_98 : decode cX8_remove 98 = .ok (.iinc 3 1, 3) := by decide +kernel
theorem dX8_remove_101 : decode cX8_remove 101 = .ok (.goto (-33), 3) := by decide +kernel
theorem dX8_remove_104 : decode cX8_remove 104 = .ok (.aload_n 0, 1) := by decide +kernel
theorem dX8_remove_105 : decode cX8_remove 105 = .ok (.invokevirtual 111, 3) := by decide +kernel
theorem dX8_remove_108 : decode cX8_remove 108 = .ok (.iload_n 2, 1) := by decide +kernel
theorem dX8_remove_109 : decode cX8_remove 109 = .ok (.ireturn, 1) := by decide +kernel
theorem dX8_replaced_0 : decode cX8_replaced 0 = .ok (.aload_n 0, 1) := by decide +kernel
theorem dX8_replaced_1 : decode cX8_replaced 1 = .ok (.invokevirtual 104, 3) := by decide +kernel
theorem dX8_replaced_4 : decode cX8_replaced 4 = .ok (.aload_n 0, 1) := by decide +kernel
theorem dX8_replaced_5 : decode cX8_replaced 5 = .ok (.getfield 7, 3) := by decide +kernel
theorem dX8_replaced_8 : decode cX8_replaced 8 = .ok (.iload_n 1, 1) := by decide +kernel
theorem dX8_replaced_9 : decode cX8_replaced 9 = .ok (.iaload, 1) := by decide +kernel
theorem dX8_replaced_10 : decode cX8_replaced 10 = .ok (.istore_n 3, 1) := by decide +kernel
theorem dX8_replaced_11 : decode cX8_replaced 11 = .ok (.aload_n 0, 1) := by decide +kernel
theorem dX8_replaced_12 : decode cX8_replaced 12 = .ok (.getfield 7, 3) := by decide +kernel
theorem dX8_replaced_15 : decode cX8_replaced 15 = .ok (.iload_n 1, 1) := by decide +kernel
theorem dX8_replaced_16 : decode cX8_replaced 16 = .ok (.iload_n 2, 1) := by decide +kernel
theorem dX8_replaced_17 : decode cX8_replaced 17 = .ok (.iastore, 1) := by decide +kernel
theorem dX8_replaced_18 : decode cX8_replaced 18 = .ok (.aload_n 0, 1) := by decide +kernel
theorem dX8_replaced_19 : decode cX8_replaced 19 = .ok (.invokevirtual 111, 3) := by decide +kernel
theorem dX8_replaced_22 : decode cX8_replaced 22 = .ok (.iload_n 3, 1) := by decide +kernel
theorem dX8_replaced_23 : decode cX8_replaced 23 = .ok (.ireturn, 1) := by decide +kernel
theorem dX8_setStrength_0 : decode cX8_setStrength 0 = .ok (.aload_n 0, 1) := by decide +kernel
theorem dX8_setStrength_1 : decode cX8_setStrength 1 = .ok (.aload_n 0, 1) := by decide +kernel
theorem dX8_setStrength_2 : decode cX8_setStrength 2 = .ok (.iload_n 1, 1) := by decide +kernel
theorem dX8_setStrength_3 : decode cX8_setStrength 3 = .ok (.invokevirtual 114, 3) := by decide +kernel
theorem dX8_setStrength_6 : decode cX8_setStrength 6 = .ok (.ifCond .ne 7, 3) := by decide +kernel
theorem dX8_setStrength_9 : decode cX8_setStrength 9 = .ok (.iconst 1, 1) := by decide +kernel
theorem dX8_setStrength_10 : decode cX8_setStrength 10 = .ok (.goto 15, 3) := by decide +kernel
theorem dX8_setStrength_13 : decode cX8_setStrength 13 = .ok (.iload_n 2, 1) := by decide +kernel
theorem dX8_setStrength_14 : decode cX8_setStrength 14 = .ok (.invokestatic 101, 3) := by decide +kernel
theorem dX8_setStrength_17 : decode cX8_setStrength 17 = .ok (.ifCond .eq 7, 3) := by decide +kernel
theorem dX8_setStrength_20 : decode cX8_setStrength 20 = .ok (.iconst 0, 1) := by decide +kernel
theorem dX8_setStrength_21 : decode cX8_setStrength 21 = .ok (.goto 4, 3) := by decide +kernel
theorem dX8_setStrength_24 : decode cX8_setStrength 24 = .ok (.iconst 2, 1) := by decide +kernel
theorem dX8_setStrength_25 : decode cX8_setStrength 25 = .ok (.putfield 44, 3) := by decide +kernel
theorem dX8_setStrength_28 : decode cX8_setStrength 28 = .ok (.aload_n 0, 1) := by decide +kernel
theorem dX8_setStrength_29 : decode cX8_setStrength 29 = .ok (.getfield 44, 3) := by decide +kernel
theorem dX8_setStrength_32 : decode cX8_setStrength 32 = .ok (.ifCond .le 7, 3) := by decide +kernel
theorem dX8_setStrength_35 : decode cX8_setStrength 35 = .ok (.iconst 0, 1) := by decide +kernel
theorem dX8_setStrength_36 : decode cX8_setStrength 36 = .ok (.goto 16, 3) := by decide +kernel
theorem dX8_setStrength_39 : decode cX8_setStrength 39 = .ok (.aload_n 0, 1) := by decide +kernel
theorem dX8_setStrength_40 : decode cX8_setStrength 40 = .ok (.bipush 21, 2) := by decide +kernel
theorem dX8_setStrength_42 : decode cX8_setStrength 42 = .ok (.iconst 5, 1) := by decide +kernel
theorem dX8_setStrength_43 : decode cX8_setStrength 43 = .ok (.iload_n 1, 1) := by decide +kernel
theorem dX8_setStrength_44 : decode cX8_setStrength 44 = .ok (.imul, 1) := by decide +kernel
theorem dX8_setStrength_45 : decode cX8_setStrength 45 = .ok (.iadd, 1) := by decide +kernel
theorem dX8_setStrength_46 : decode cX8_setStrength 46 = .ok (.iconst 4, 1) := by decide +kernel
theorem dX8_setStrength_47 : decode cX8_setStrength 47 = .ok (.iadd, 1) := by decide +kernel
theorem dX8_setStrength_48 : decode cX8_setStrength 48 = .ok (.iload_n 2, 1) := by decide +kernel
theorem dX8_setStrength_49 : decode cX8_setStrength 49 = .ok (.invokevirtual 117, 3) := by decide +kernel
theorem dX8_setStrength_52 : decode cX8_setStrength 52 = .ok (.ireturn, 1) := by decide +kernel
theorem dX8_setNumber_0 : decode cX8_setNumber 0 = .ok (.aload_n 0, 1) := by decide +kernel
theorem dX8_setNumber_1 : decode cX8_setNumber 1 = .ok (.aload_n 0, 1) := by decide +kernel
theorem dX8_setNumber_2 : decode cX8_setNumber 2 = .ok (.iload_n 1, 1) := by decide +kernel
theorem dX8_setNumber_3 : decode cX8_setNumber 3 = .ok (.invokevirtual 114, 3) := by decide +kernel
theorem dX8_setNumber_6 : decode cX8_setNumber 6 = .ok (.ifCond .ne 7, 3) := by decide +kernel
theorem dX8_setNumber_9 : decode cX8_setNumber 9 = .ok (.iconst 1, 1) := by decide +kernel
theorem dX8_setNumber_10 : decode cX8_setNumber 10 = .ok (.goto 15, 3) := by decide +kernel
theorem dX8_setNumber_13 : decode cX8_setNumber 13 = .ok (.iload_n 2, 1) := by decide +kernel
theorem dX8_setNumber_14 : decode cX8_setNumber 14 = .ok (.invokestatic 98, 3) := by decide +kernel
theorem dX8_setNumber_17 : decode cX8_setNumber 17 = .ok (.ifCond .eq 7, 3) := by decide +kernel
theorem dX8_setNumber_20 : decode cX8_setNumber 20 = .ok (.iconst 0, 1) := by decide +kernel
theorem dX8_setNumber_21 : decode cX8_setNumber 21 = .ok (.goto 4, 3) := by decide +kernel
theorem dX8_setNumber_24 : decode cX8_setNumber 24 = .ok (.iconst 2, 1) := by decide +kernel
theorem dX8_setNumber_25 : decode cX8_setNumber 25 = .ok (.putfield 44, 3) := by decide +kernel
theorem dX8_setNumber_28 : decode cX8_setNumber 28 = .ok (.aload_n 0, 1) := by decide +kernel
theorem dX8_setNumber_29 : decode cX8_setNumber 29 = .ok (.getfield 44, 3) := by decide +kernel
theorem dX8_setNumber_32 : decode cX8_setNumber 32 = .ok (.ifCond .le 7, 3) := by decide +kernel
theorem dX8_setNumber_35 : decode cX8_setNumber 35 = .ok (.iconst 0, 1) := by decide +kernel
theorem dX8_setNumber_36 : decode cX8_setNumber 36 = .ok (.goto 16, 3) := by decide +kernel
theorem dX8_setNumber_39 : decode cX8_setNumber 39 = .ok (.aload_n 0, 1) := by decide +kernel
theorem dX8_setNumber_40 : decode cX8_setNumber 40 = .ok (.bipush 21, 2) := by decide +kernel
theorem dX8_setNumber_42 : decode cX8_setNumber 42 = .ok (.iconst 5, 1) := by decide +kernel
theorem dX8_setNumber_43 : decode cX8_setNumber 43 = .ok (.iload_n 1, 1) := by decide +kernel
theorem dX8_setNumber_44 : decode cX8_setNumber 44 = .ok (.imul, 1) := by decide +kernel
theorem dX8_setNumber_45 : decode cX8_setNumber 45 = .ok (.iadd, 1) := by decide +kernel
theorem dX8_setNumber_46 : decode cX8_setNumber 46 = .ok (.iconst 3, 1) := by decide +kernel
theorem dX8_setNumber_47 : decode cX8_setNumber 47 = .ok (.iadd, 1) := by decide +kernel
theorem dX8_setNumber_48 : decode cX8_setNumber 48 = .ok (.iload_n 2, 1) := by decide +kernel
theorem dX8_setNumber_49 : decode cX8_setNumber 49 = .ok (.invokevirtual 117, 3) := by decide +kernel
theorem dX8_setNumber_52 : decode cX8_setNumber 52 = .ok (.ireturn, 1) := by decide +kernel
theorem dX8_setStay_0 : decode cX8_setStay 0 = .ok (.aload_n 0, 1) := by decide +kernel
theorem dX8_setStay_1 : decode cX8_setStay 1 = .ok (.iload_n 1, 1) := by decide +kernel
theorem dX8_setStay_2 : decode cX8_setStay 2 = .ok (.invokestatic 94, 3) := by decide +kernel
theorem dX8_setStay_5 : decode cX8_setStay 5 = .ok (.ifCond .ne 7, 3) := by decide +kernel
theorem dX8_setStay_8 : decode cX8_setStay 8 = .ok (.iconst 1, 1) := by decide +kernel
theorem dX8_setStay_9 : decode cX8_setStay 9 = .ok (.goto 18, 3) := by decide +kernel
theorem dX8_setStay_12 : decode cX8_setStay 12 = .ok (.iload_n 2, 1) := by decide +kernel
theorem dX8_setStay_13 : decode cX8_setStay 13 = .ok (.iconst 0, 1) := by decide +kernel
theorem dX8_setStay_14 : decode cX8_setStay 14 = .ok (.bipush 9, 2) := by decide +kernel
theorem dX8_setStay_16 : decode cX8_setStay 16 = .ok (.invokestatic 48, 3) := by decide +kernel
theorem dX8_setStay_19 : decode cX8_setStay 19 = .ok (.ifCond .eq 7, 3) := by decide +kernel
theorem dX8_setStay_22 : decode cX8_setStay 22 = .ok (.iconst 0, 1) := by decide +kernel
theorem dX8_setStay_23 : decode cX8_setStay 23 = .ok (.goto 4, 3) := by decide +kernel
theorem dX8_setStay_26 : decode cX8_setStay 26 = .ok (.iconst 2, 1) := by decide +kernel
theorem dX8_setStay_27 : decode cX8_setStay 27 = .ok (.putfield 44, 3) := by decide +kernel
theorem dX8_setStay_30 : decode cX8_setStay 30 = .ok (.aload_n 0, 1) := by decide +kernel
theorem dX8_setStay_31 : decode cX8_setStay 31 = .ok (.getfield 44, 3) := by decide +kernel
theorem dX8_setStay_34 : decode cX8_setStay 34 = .ok (.ifCond .le 7, 3) := by decide +kernel
theorem dX8_setStay_37 : decode cX8_setStay 37 = .ok (.iconst 0, 1) := by decide +kernel
theorem dX8_setStay_38 : decode cX8_setStay 38 = .ok (.goto 12, 3) := by decide +kernel
theorem dX8_setStay_41 : decode cX8_setStay 41 = .ok (.aload_n 0, 1) := by decide +kernel
theorem dX8_setStay_42 : decode cX8_setStay 42 = .ok (.bipush 10, 2) := by decide +kernel
theorem dX8_setStay_44 : decode cX8_setStay 44 = .ok (.iload_n 1, 1) := by decide +kernel
theorem dX8_setStay_45 : decode cX8_setStay 45 = .ok (.iadd, 1) := by decide +kernel
theorem dX8_setStay_46 : decode cX8_setStay 46 = .ok (.iload_n 2, 1) := by decide +kernel
theorem dX8_setStay_47 : decode cX8_setStay 47 = .ok (.invokevirtual 117, 3) := by decide +kernel
theorem dX8_setStay_50 : decode cX8_setStay 50 = .ok (.ireturn, 1) := by decide +kernel
theorem dX8_editOf_0 : decode cX8_editOf 0 = .ok (.iconst (-1), 1) := by decide +kernel
theorem dX8_editOf_1 : decode cX8_editOf 1 = .ok (.istore_n 2, 1) := by decide +kernel
theorem dX8_editOf_2 : decode cX8_editOf 2 = .ok (.iconst 0, 1) := by decide +kernel
theorem dX8_editOf_3 : decode cX8_editOf 3 = .ok (.istore_n 3, 1) := by decide +kernel
theorem dX8_editOf_4 : decode cX8_editOf 4 = .ok (.iload_n 3, 1) := by decide +kernel
theorem dX8_editOf_5 : decode cX8_editOf 5 = .ok (.aload_n 0, 1) := by decide +kernel
theorem dX8_editOf_6 : decode cX8_editOf 6 = .ok (.getfield 7, 3) := by decide +kernel
theorem dX8_editOf_9 : decode cX8_editOf 9 = .ok (.bipush 101, 2) := by decide +kernel
theorem dX8_editOf_11 : decode cX8_editOf 11 = .ok (.iaload, 1) := by decide +kernel
theorem dX8_editOf_12 : decode cX8_editOf 12 = .ok (.if_icmp .ge 25, 3) := by decide +kernel
theorem dX8_editOf_15 : decode cX8_editOf 15 = .ok (.aload_n 0, 1) := by decide +kernel
theorem dX8_editOf_16 : decode cX8_editOf 16 = .ok (.iload_n 3, 1) := by decide +kernel
theorem dX8_editOf_17 : decode cX8_editOf 17 = .ok (.iconst 0, 1) := by decide +kernel
theorem dX8_editOf_18 : decode cX8_editOf 18 = .ok (.invokevirtual 66, 3) := by decide +kernel
theorem dX8_editOf_21 : decode cX8_editOf 21 = .ok (.iload_n 1, 1) := by decide +kernel
theorem dX8_editOf_22 : decode cX8_editOf 22 = .ok (.if_icmp .ne 7, 3) := by decide +kernel
theorem dX8_editOf_25 : decode cX8_editOf 25 = .ok (.iload_n 3, 1) := by decide +kernel
theorem dX8_editOf_26 : decode cX8_editOf 26 = .ok (.goto 4, 3) := by decide +kernel
theorem dX8_editOf_29 : decode cX8_editOf 29 = .ok (.iload_n 2, 1) := by decide +kernel
theorem dX8_editOf_30 : decode cX8_editOf 30 = .ok (.istore_n 2, 1) := by decide +kernel
theorem dX8_editOf_31 : decode cX8_editOf 31 = .ok (.iinc 3 1, 3) := by decide +kernel
theorem dX8_editOf_34 : decode cX8_editOf 34 = .ok (.goto (-30), 3) := by decide +kernel
theorem dX8_editOf_37 : decode cX8_editOf 37 = .ok (.iload_n 2, 1) := by decide +kernel
theorem dX8_editOf_38 : decode cX8_editOf 38 = .ok (.ireturn, 1) := by decide +kernel
theorem dX8_isWish_0 : decode cX8_isWish 0 = .ok (.iload_n 0, 1) := by decide +kernel
theorem dX8_isWish_1 : decode cX8_isWish 1 = .ok (.sipush (-1000), 3) := by decide +kernel
theorem dX8_isWish_4 : decode cX8_isWish 4 = .ok (.sipush 1000, 3) := by decide +kernel
theorem dX8_isWish_7 : decode cX8_isWish 7 = .ok (.invokestatic 48, 3) := by decide +kernel
theorem dX8_isWish_10 : decode cX8_isWish 10 = .ok (.ireturn, 1) := by decide +kernel
theorem dX8_layEdit_0 : decode cX8_layEdit 0 = .ok (.aload_n 0, 1) := by decide +kernel
theorem dX8_layEdit_1 : decode cX8_layEdit 1 = .ok (.iload_n 1, 1) := by decide +kernel
theorem dX8_layEdit_2 : decode cX8_layEdit 2 = .ok (.invokevirtual 120, 3) := by decide +kernel
theorem dX8_layEdit_5 : decode cX8_layEdit 5 = .ok (.istore 4, 2) := by decide +kernel
theorem dX8_layEdit_7 : decode cX8_layEdit 7 = .ok (.iload 4, 2) := by decide +kernel
theorem dX8_layEdit_9 : decode cX8_layEdit 9 = .ok (.iconst (-1), 1) := by decide +kernel
theorem dX8_layEdit_10 : decode cX8_layEdit 10 = .ok (.if_icmp .ne 23, 3) := by decide +kernel
theorem dX8_layEdit_13 : decode cX8_layEdit 13 = .ok (.aload_n 0, 1) := by decide +kernel
theorem dX8_layEdit_14 : decode cX8_layEdit 14 = .ok (.getfield 7, 3) := by decide +kernel
theorem dX8_layEdit_17 : decode cX8_layEdit 17 = .ok (.bipush 101, 2) := by decide +kernel
theorem dX8_layEdit_19 : decode cX8_layEdit 19 = .ok (.iaload, 1) := by decide +kernel
theorem dX8_layEdit_20 : decode cX8_layEdit 20 = .ok (.istore 4, 2) := by decide +kernel
theorem dX8_layEdit_22 : decode cX8_layEdit 22 = .ok (.aload_n 0, 1) := by decide +kernel
theorem dX8_layEdit_23 : decode cX8_layEdit 23 = .ok (.getfield 7, 3) := by decide +kernel
theorem dX8_layEdit_26 : decode cX8_layEdit 26 = .ok (.bipush 101, 2) := by decide +kernel
theorem dX8_layEdit_28 : decode cX8_layEdit 28 = .ok (.dup2, 1) := by decide +kernel
theorem dX8_layEdit_29 : decode cX8_layEdit 29 = .ok (.iaload, 1) := by decide +kernel
theorem dX8_layEdit_30 : decode cX8_layEdit 30 = .ok (.iconst 1, 1) := by decide +kernel
theorem dX8_layEdit_31 : decode cX8_layEdit 31 = .ok (.iadd, 1) := by decide +kernel
theorem dX8_layEdit_32 : decode cX8_layEdit 32 = .ok (.iastore, 1) := by decide +kernel
theorem dX8_layEdit_33 : decode cX8_layEdit 33 = .ok (.aload_n 0, 1) := by decide +kernel
theorem dX8_layEdit_34 : decode cX8_layEdit 34 = .ok (.getfield 7, 3) := by decide +kernel
theorem dX8_layEdit_37 : decode cX8_layEdit 37 = .ok (.bipush 102, 2) := by decide +kernel
theorem dX8_layEdit_39 : decode cX8_layEdit 39 = .ok (.iconst 3, 1) := by decide +kernel
theorem dX8_layEdit_40 : decode cX8_layEdit 40 = .ok (.iload 4, 2) := by decide +kernel
theorem dX8_layEdit_42 : decode cX8_layEdit 42 = .ok (.imul, 1) := by decide +kernel
theorem dX8_layEdit_43 : decode cX8_layEdit 43 = .ok (.iadd, 1) := by decide +kernel
theorem dX8_layEdit_44 : decode cX8_layEdit 44 = .ok (.iload_n 1, 1) := by decide +kernel
theorem dX8_layEdit_45 : decode cX8_layEdit 45 = .ok (.iastore, 1) := by decide +kernel
theorem dX8_layEdit_46 : decode cX8_layEdit 46 = .ok (.aload_n 0, 1) := by decide +kernel
theorem dX8_layEdit_47 : decode cX8_layEdit 47 = .ok (.getfield 7, 3) := by decide +kernel
theorem dX8_layEdit_50 : decode cX8_layEdit 50 = .ok (.bipush 102, 2) := by decide +kernel
theorem dX8_layEdit_52 : decode cX8_layEdit 52 = .ok (.iconst 3, 1) := by decide +kernel
theorem dX8_layEdit_53 : decode cX8_layEdit 53 = .ok (.iload 4, 2) := by decide +kernel
theorem dX8_layEdit_55 : decode cX8_layEdit 55 = .ok (.imul, 1) := by decide +kernel
theorem dX8_layEdit_56 : decode cX8_layEdit 56 = .ok (.iadd, 1) := by decide +kernel
theorem dX8_layEdit_57 : decode cX8_layEdit 57 = .ok (.iconst 1, 1) := by decide +kernel
theorem dX8_layEdit_58 : decode cX8_layEdit 58 = .ok (.iadd, 1) := by decide +kernel
theorem dX8_layEdit_59 : decode cX8_layEdit 59 = .ok (.iload_n 2, 1) := by decide +kernel
theorem dX8_layEdit_60 : decode cX8_layEdit 60 = .ok (.iastore, 1) := by decide +kernel
theorem dX8_layEdit_61 : decode cX8_layEdit 61 = .ok (.aload_n 0, 1) := by decide +kernel
theorem dX8_layEdit_62 : decode cX8_layEdit 62 = .ok (.getfield 7, 3) := by decide +kernel
theorem dX8_layEdit_65 : decode cX8_layEdit 65 = .ok (.bipush 102, 2) := by decide +kernel
theorem dX8_layEdit_67 : decode cX8_layEdit 67 = .ok (.iconst 3, 1) := by decide +kernel
theorem dX8_layEdit_68 : decode cX8_layEdit 68 = .ok (.iload 4, 2) := by decide +kernel
theorem dX8_layEdit_70 : decode cX8_layEdit 70 = .ok (.imul, 1) := by decide +kernel
theorem dX8_layEdit_71 : decode cX8_layEdit 71 = .ok (.iadd, 1) := by decide +kernel
theorem dX8_layEdit_72 : decode cX8_layEdit 72 = .ok (.iconst 2, 1) := by decide +kernel
theorem dX8_layEdit_73 : decode cX8_layEdit 73 = .ok (.iadd, 1) := by decide +kernel
theorem dX8_layEdit_74 : decode cX8_layEdit 74 = .ok (.iload_n 3, 1) := by decide +kernel
theorem dX8_layEdit_75 : decode cX8_layEdit 75 = .ok (.iastore, 1) := by decide +kernel
theorem dX8_layEdit_76 : decode cX8_layEdit 76 = .ok (.aload_n 0, 1) := by decide +kernel
theorem dX8_layEdit_77 : decode cX8_layEdit 77 = .ok (.invokevirtual 111, 3) := by decide +kernel
theorem dX8_layEdit_80 : decode cX8_layEdit 80 = .ok (.return_, 1) := by decide +kernel
theorem dX8_edit_0 : decode cX8_edit 0 = .ok (.iload_n 2, 1) := by decide +kernel
theorem dX8_edit_1 : decode cX8_edit 1 = .ok (.invokestatic 123, 3) := by decide +kernel
theorem dX8_edit_4 : decode cX8_edit 4 = .ok (.ifCond .eq 14, 3) := by decide +kernel
theorem dX8_edit_7 : decode cX8_edit 7 = .ok (.iload_n 3, 1) := by decide +kernel
theorem dX8_edit_8 : decode cX8_edit 8 = .ok (.invokestatic 101, 3) := by decide +kernel
theorem dX8_edit_11 : decode cX8_edit 11 = .ok (.ifCond .eq 7, 3) := by decide +kernel
theorem dX8_edit_14 : decode cX8_edit 14 = .ok (.iconst 1, 1) := by decide +kernel
theorem dX8_edit_15 : decode cX8_edit 15 = .ok (.goto 4, 3) := by decide +kernel
theorem dX8_edit_18 : decode cX8_edit 18 = .ok (.iconst 0, 1) := by decide +kernel
theorem dX8_edit_19 : decode cX8_edit 19 = .ok (.istore 4, 2) := by decide +kernel
theorem dX8_edit_21 : decode cX8_edit 21 = .ok (.aload_n 0, 1) := by decide +kernel
theorem dX8_edit_22 : decode cX8_edit 22 = .ok (.iload_n 1, 1) := by decide +kernel
theorem dX8_edit_23 : decode cX8_edit 23 = .ok (.invokestatic 94, 3) := by decide +kernel
theorem dX8_edit_26 : decode cX8_edit 26 = .ok (.ifCond .ne 7, 3) := by decide +kernel
theorem dX8_edit_29 : decode cX8_edit 29 = .ok (.iconst 1, 1) := by decide +kernel
theorem dX8_edit_30 : decode cX8_edit 30 = .ok (.goto 37, 3) := by decide +kernel
theorem dX8_edit_33 : decode cX8_edit 33 = .ok (.iload 4, 2) := by decide +kernel
theorem dX8_edit_35 : decode cX8_edit 35 = .ok (.ifCond .ne 7, 3) := by decide +kernel
theorem dX8_edit_38 : decode cX8_edit 38 = .ok (.iconst 2, 1) := by decide +kernel
theorem dX8_edit_39 : decode cX8_edit 39 = .ok (.goto 28, 3) := by decide +kernel
theorem dX8_edit_42 : decode cX8_edit 42 = .ok (.aload_n 0, 1) := by decide +kernel
theorem dX8_edit_43 : decode cX8_edit 43 = .ok (.iload_n 1, 1) := by decide +kernel
theorem dX8_edit_44 : decode cX8_edit 44 = .ok (.invokevirtual 120, 3) := by decide +kernel
theorem dX8_edit_47 : decode cX8_edit 47 = .ok (.iconst (-1), 1) := by decide +kernel
theorem dX8_edit_48 : decode cX8_edit 48 = .ok (.if_icmp .ne 18, 3) := by decide +kernel
theorem dX8_edit_51 : decode cX8_edit 51 = .ok (.aload_n 0, 1) := by decide +kernel
theorem dX8_edit_52 : decode cX8_edit 52 = .ok (.getfield 7, 3) := by decide +kernel
theorem dX8_edit_55 : decode cX8_edit 55 = .ok (.bipush 101, 2) := by decide +kernel
theorem dX8_edit_57 : decode cX8_edit 57 = .ok (.iaload, 1) := by decide +kernel
theorem dX8_edit_58 : decode cX8_edit 58 = .ok (.iconst 3, 1) := by decide +kernel
theorem dX8_edit_59 : decode cX8_edit 59 = .ok (.if_icmp .ne 7, 3) := by decide +kernel
theorem dX8_edit_62 : decode cX8_edit 62 = .ok (.iconst 3, 1) := by decide +kernel
theorem dX8_edit_63 : decode cX8_edit 63 = .ok (.goto 4, 3) := by decide +kernel
theorem dX8_edit_66 : decode cX8_edit 66 = .ok (.iconst 0, 1) := by decide +kernel
theorem dX8_edit_67 : decode cX8_edit 67 = .ok (.putfield 44, 3) := by decide +kernel
theorem dX8_edit_70 : decode cX8_edit 70 = .ok (.aload_n 0, 1) := by decide +kernel
theorem dX8_edit_71 : decode cX8_edit 71 = .ok (.getfield 44, 3) := by decide +kernel
theorem dX8_edit_74 : decode cX8_edit 74 = .ok (.ifCond .le 5, 3) := by decide +kernel
theorem dX8_edit_77 : decode cX8_edit 77 = .ok (.iconst 0, 1) := by decide +kernel
theorem dX8_edit_78 : decode cX8_edit 78 = .ok (.ireturn, 1) := by decide +kernel
theorem dX8_edit_79 : decode cX8_edit 79 = .ok (.aload_n 0, 1) := by decide +kernel
theorem dX8_edit_80 : decode cX8_edit 80 = .ok (.invokevirtual 104, 3) := by decide +kernel
theorem dX8_edit_83 : decode cX8_edit 83 = .ok (.aload_n 0, 1) := by decide +kernel
theorem dX8_edit_84 : decode cX8_edit 84 = .ok (.iload_n 1, 1) := by decide +kernel
theorem dX8_edit_85 : decode cX8_edit 85 = .ok (.iload_n 2, 1) := by decide +kernel
theorem dX8_edit_86 : decode cX8_edit 86 = .ok (.iload_n 3, 1) := by decide +kernel
theorem dX8_edit_87 : decode cX8_edit 87 = .ok (.invokevirtual 126, 3) := by decide +kernel
theorem dX8_edit_90 : decode cX8_edit 90 = .ok (.aload_n 0, 1) := by decide +kernel
theorem dX8_edit_91 : decode cX8_edit 91 = .ok (.getfield 7, 3) := by decide +kernel
theorem dX8_edit_94 : decode cX8_edit 94 = .ok (.iload_n 1, 1) := by decide +kernel
theorem dX8_edit_95 : decode cX8_edit 95 = .ok (.iaload, 1) := by decide +kernel
theorem dX8_edit_96 : decode cX8_edit 96 = .ok (.ireturn, 1) := by decide +kernel
theorem dX8_endEdits_0 : decode cX8_endEdits 0 = .ok (.aload_n 0, 1) := by decide +kernel
theorem dX8_endEdits_1 : decode cX8_endEdits 1 = .ok (.iconst 0, 1) := by decide +kernel
theorem dX8_endEdits_2 : decode cX8_endEdits 2 = .ok (.putfield 44, 3) := by decide +kernel
theorem dX8_endEdits_5 : decode cX8_endEdits 5 = .ok (.aload_n 0, 1) := by decide +kernel
theorem dX8_endEdits_6 : decode cX8_endEdits 6 = .ok (.invokevirtual 104, 3) := by decide +kernel
theorem dX8_endEdits_9 : decode cX8_endEdits 9 = .ok (.aload_n 0, 1) := by decide +kernel
theorem dX8_endEdits_10 : decode cX8_endEdits 10 = .ok (.getfield 7, 3) := by decide +kernel
theorem dX8_endEdits_13 : decode cX8_endEdits 13 = .ok (.bipush 101, 2) := by decide +kernel
theorem dX8_endEdits_15 : decode cX8_endEdits 15 = .ok (.iaload, 1) := by decide +kernel
theorem dX8_endEdits_16 : decode cX8_endEdits 16 = .ok (.istore_n 1, 1) := by decide +kernel
theorem dX8_endEdits_17 : decode cX8_endEdits 17 = .ok (.aload_n 0, 1) := by decide +kernel
theorem dX8_endEdits_18 : decode cX8_endEdits 18 = .ok (.getfield 7, 3) := by decide +kernel
theorem dX8_endEdits_21 : decode cX8_endEdits 21 = .ok (.bipush 101, 2) := by decide +kernel
theorem dX8_endEdits_23 : decode cX8_endEdits 23 = .ok (.iconst 0, 1) := by decide +kernel
theorem dX8_endEdits_24 : decode cX8_endEdits 24 = .ok (.iastore, 1) := by decide +kernel
theorem dX8_endEdits_25 : decode cX8_endEdits 25 = .ok (.iload_n 1, 1) := by decide +kernel
theorem dX8_endEdits_26 : decode cX8_endEdits 26 = .ok (.ireturn, 1) := by decide +kernel
theorem dX8_settleFrom_0 : decode cX8_settleFrom 0 = .ok (.aload_n 0, 1) := by decide +kernel
theorem dX8_settleFrom_1 : decode cX8_settleFrom 1 = .ok (.iload_n 1, 1) := by decide +kernel
theorem dX8_settleFrom_2 : decode cX8_settleFrom 2 = .ok (.sipush (-1000), 3) := by decide +kernel
theorem dX8_settleFrom_5 : decode cX8_settleFrom 5 = .ok (.sipush 1000, 3) := by decide +kernel
theorem dX8_settleFrom_8 : decode cX8_settleFrom 8 = .ok (.invokestatic 48, 3) := by decide +kernel
theorem dX8_settleFrom_11 : decode cX8_settleFrom 11 = .ok (.ifCond .eq 7, 3) := by decide +kernel
theorem dX8_settleFrom_14 : decode cX8_settleFrom 14 = .ok (.iconst 0, 1) := by decide +kernel
theorem dX8_settleFrom_15 : decode cX8_settleFrom 15 = .ok (.goto 4, 3) := by decide +kernel
theorem dX8_settleFrom_18 : decode cX8_settleFrom 18 = .ok (.iconst 1, 1) := by decide +kernel
theorem dX8_settleFrom_19 : decode cX8_settleFrom 19 = .ok (.putfield 44, 3) := by decide +kernel
theorem dX8_settleFrom_22 : decode cX8_settleFrom 22 = .ok (.aload_n 0, 1) := by decide +kernel
theorem dX8_settleFrom_23 : decode cX8_settleFrom 23 = .ok (.getfield 44, 3) := by decide +kernel
theorem dX8_settleFrom_26 : decode cX8_settleFrom 26 = .ok (.ifCond .le 5, 3) := by decide +kernel
theorem dX8_settleFrom_29 : decode cX8_settleFrom 29 = .ok (.iconst 0, 1) := by decide +kernel
theorem dX8_settleFrom_30 : decode cX8_settleFrom 30 = .ok (.ireturn, 1) := by decide +kernel
theorem dX8_settleFrom_31 : decode cX8_settleFrom 31 = .ok (.aload_n 0, 1) := by decide +kernel
theorem dX8_settleFrom_32 : decode cX8_settleFrom 32 = .ok (.invokevirtual 104, 3) := by decide +kernel
theorem dX8_settleFrom_35 : decode cX8_settleFrom 35 = .ok (.iconst 0, 1) := by decide +kernel
theorem dX8_settleFrom_36 : decode cX8_settleFrom 36 = .ok (.istore_n 2, 1) := by decide +kernel
theorem dX8_settleFrom_37 : decode cX8_settleFrom 37 = .ok (.iload_n 2, 1) := by decide +kernel
theorem dX8_settleFrom_38 : decode cX8_settleFrom 38 = .ok (.bipush 10, 2) := by decide +kernel
theorem dX8_settleFrom_40 : decode cX8_settleFrom 40 = .ok (.if_icmp .ge 16, 3) := by decide +kernel
theorem dX8_settleFrom_43 : decode cX8_settleFrom 43 = .ok (.aload_n 0, 1) := by decide +kernel
theorem dX8_settleFrom_44 : decode cX8_settleFrom 44 = .ok (.getfield 7, 3) := by decide +kernel
theorem dX8_settleFrom_47 : decode cX8_settleFrom 47 = .ok (.iload_n 2, 1) := by decide +kernel
theorem dX8_settleFrom_48 : decode cX8_settleFrom 48 = .ok (.iload_n 1, 1) := by decide +kernel
theorem dX8_settleFrom_49 : decode cX8_settleFrom 49 = .ok (.iastore, 1) := by decide +kernel
theorem dX8_settleFrom_50 : decode cX8_settleFrom 50 = .ok (.iinc 2 1, 3) := by decide +kernel
theorem dX8_settleFrom_53 : decode cX8_settleFrom 53 = .ok (.goto (-16), 3) := by decide +kernel
theorem dX8_settleFrom_56 : decode cX8_settleFrom 56 = .ok (.aload_n 0, 1) := by decide +kernel
theorem dX8_settleFrom_57 : decode cX8_settleFrom 57 = .ok (.invokevirtual 111, 3) := by decide +kernel
theorem dX8_settleFrom_60 : decode cX8_settleFrom 60 = .ok (.iconst 0, 1) := by decide +kernel
theorem dX8_settleFrom_61 : decode cX8_settleFrom 61 = .ok (.istore_n 2, 1) := by decide +kernel
theorem dX8_settleFrom_62 : decode cX8_settleFrom 62 = .ok (.iconst 0, 1) := by decide +kernel
theorem dX8_settleFrom_63 : decode cX8_settleFrom 63 = .ok (.istore_n 3, 1) := by decide +kernel
theorem dX8_settleFrom_64 : decode cX8_settleFrom 64 = .ok (.iload_n 3, 1) := by decide +kernel
theorem dX8_settleFrom_65 : decode cX8_settleFrom 65 = .ok (.bipush 10, 2) := by decide +kernel
theorem dX8_settleFrom_67 : decode cX8_settleFrom 67 = .ok (.if_icmp .ge 27, 3) := by decide +kernel
theorem dX8_settleFrom_70 : decode cX8_settleFrom 70 = .ok (.iload_n 2, 1) := by decide +kernel
theorem dX8_settleFrom_71 : decode cX8_settleFrom 71 = .ok (.aload_n 0, 1) := by decide +kernel
theorem dX8_settleFrom_72 : decode cX8_settleFrom 72 = .ok (.getfield 7, 3) := by decide +kernel
theorem dX8_settleFrom_75 : decode cX8_settleFrom 75 = .ok (.iload_n 3, 1) := by decide +kernel
theorem dX8_settleFrom_76 : decode cX8_settleFrom 76 = .ok (.iaload, 1) := by decide +kernel
theorem dX8_settleFrom_77 : decode cX8_settleFrom 77 = .ok (.iload_n 1, 1) := by decide +kernel
theorem dX8_settleFrom_78 : decode cX8_settleFrom 78 = .ok (.if_icmp .eq 7, 3) := by decide +kernel
theorem dX8_settleFrom_81 : decode cX8_settleFrom 81 = .ok (.iconst 1, 1) := by decide +kernel
theorem dX8_settleFrom_82 : decode cX8_settleFrom 82 = .ok (.goto 4, 3) := by decide +kernel
theorem dX8_settleFrom_85 : decode cX8_settleFrom 85 = .ok (.iconst 0, 1) := by decide +kernel
theorem dX8_settleFrom_86 : decode cX8_settleFrom 86 = .ok (.iadd, 1) := by decide +kernel
theorem dX8_settleFrom_87 : decode cX8_settleFrom 87 = .ok (.istore_n 2, 1) := by decide +kernel
theorem dX8_settleFrom_88 : decode cX8_settleFrom 88 = .ok (.iinc 3 1, 3) := by decide +kernel
theorem dX8_settleFrom_91 : decode cX8_settleFrom 91 = .ok (.goto (-27), 3) := by decide +kernel
theorem dX8_settleFrom_94 : decode cX8_settleFrom 94 = .ok (.iload_n 2, 1) := by decide +kernel
theorem dX8_settleFrom_95 : decode cX8_settleFrom 95 = .ok (.ireturn, 1) := by decide +kernel
theorem dX8_append_0 : decode cX8_append 0 = .ok (.aload_n 0, 1) := by decide +kernel
theorem dX8_append_1 : decode cX8_append 1 = .ok (.iload_n 1, 1) := by decide +kernel
theorem dX8_append_2 : decode cX8_append 2 = .ok (.bipush 33, 2) := by decide +kernel
theorem dX8_append_4 : decode cX8_append 4 = .ok (.bipush 126, 2) := by decide +kernel
theorem dX8_append_6 : decode cX8_append 6 = .ok (.invokestatic 48, 3) := by decide +kernel
theorem dX8_append_9 : decode cX8_append 9 = .ok (.ifCond .ne 7, 3) := by decide +kernel
theorem dX8_append_12 : decode cX8_append 12 = .ok (.iconst 1, 1) := by decide +kernel
theorem dX8_append_13 : decode cX8_append 13 = .ok (.goto 17, 3) := by decide +kernel
theorem dX8_append_16 : decode cX8_append 16 = .ok (.aload_n 0, 1) := by decide +kernel
theorem dX8_append_17 : decode cX8_append 17 = .ok (.getfield 129, 3) := by decide +kernel
theorem dX8_append_20 : decode cX8_append 20 = .ok (.bipush 60, 2) := by decide +kernel
theorem dX8_append_22 : decode cX8_append 22 = .ok (.if_icmp .ne 7, 3) := by decide +kernel
theorem dX8_append_25 : decode cX8_append 25 = .ok (.iconst 2, 1) := by decide +kernel
theorem dX8_append_26 : decode cX8_append 26 = .ok (.goto 4, 3) := by decide +kernel
theorem dX8_append_29 : decode cX8_append 29 = .ok (.iconst 0, 1) := by decide +kernel
theorem dX8_append_30 : decode cX8_append 30 = .ok (.putfield 44, 3) := by decide +kernel
theorem dX8_append_33 : decode cX8_append 33 = .ok (.aload_n 0, 1) := by decide +kernel
theorem dX8_append_34 : decode cX8_append 34 = .ok (.getfield 44, 3) := by decide +kernel
theorem dX8_append_37 : decode cX8_append 37 = .ok (.ifCond .le 5, 3) := by decide +kernel
theorem dX8_append_40 : decode cX8_append 40 = .ok (.iconst 0, 1) := by decide +kernel
theorem dX8_append_41 : decode cX8_append 41 = .ok (.ireturn, 1) := by decide +kernel
theorem dX8_append_42 : decode cX8_append 42 = .ok (.aload_n 0, 1) := by decide +kernel
theorem dX8_append_43 : decode cX8_append 43 = .ok (.getfield 16, 3) := by decide +kernel
theorem dX8_append_46 : decode cX8_append 46 = .ok (.aload_n 0, 1) := by decide +kernel
theorem dX8_append_47 : decode cX8_append 47 = .ok (.getfield 129, 3) := by decide +kernel
theorem dX8_append_50 : decode cX8_append 50 = .ok (.iload_n 1, 1) := by decide +kernel
theorem dX8_append_51 : decode cX8_append 51 = .ok (.iastore, 1) := by decide +kernel
theorem dX8_append_52 : decode cX8_append 52 = .ok (.aload_n 0, 1) := by decide +kernel
theorem dX8_append_53 : decode cX8_append 53 = .ok (.dup, 1) := by decide +kernel
theorem dX8_append_54 : decode cX8_append 54 = .ok (.getfield 129, 3) := by decide +kernel
theorem dX8_append_57 : decode cX8_append 57 = .ok (.iconst 1, 1) := by decide +kernel
theorem dX8_append_58 : decode cX8_append 58 = .ok (.iadd, 1) := by decide +kernel
theorem dX8_append_59 : decode cX8_append 59 = .ok (.putfield 129, 3) := by decide +kernel
theorem dX8_append_62 : decode cX8_append 62 = .ok (.aload_n 0, 1) := by decide +kernel
theorem dX8_append_63 : decode cX8_append 63 = .ok (.getfield 129, 3) := by decide +kernel
theorem dX8_append_66 : decode cX8_append 66 = .ok (.ireturn, 1) := by decide +kernel
theorem dX8_clearBuffer_0 : decode cX8_clearBuffer 0 = .ok (.aload_n 0, 1) := by decide +kernel
theorem dX8_clearBuffer_1 : decode cX8_clearBuffer 1 = .ok (.iconst 0, 1) := by decide +kernel
theorem dX8_clearBuffer_2 : decode cX8_clearBuffer 2 = .ok (.putfield 44, 3) := by decide +kernel
theorem dX8_clearBuffer_5 : decode cX8_clearBuffer 5 = .ok (.aload_n 0, 1) := by decide +kernel
theorem dX8_clearBuffer_6 : decode cX8_clearBuffer 6 = .ok (.getfield 129, 3) := by decide +kernel
theorem dX8_clearBuffer_9 : decode cX8_clearBuffer 9 = .ok (.istore_n 1, 1) := by decide +kernel
theorem dX8_clearBuffer_10 : decode cX8_clearBuffer 10 = .ok (.aload_n 0, 1) := by decide +kernel
theorem dX8_clearBuffer_11 : decode cX8_clearBuffer 11 = .ok (.iconst 0, 1) := by decide +kernel
theorem dX8_clearBuffer_12 : decode cX8_clearBuffer 12 = .ok (.putfield 129, 3) := by decide +kernel
theorem dX8_clearBuffer_15 : decode cX8_clearBuffer 15 = .ok (.iload_n 1, 1) := by decide +kernel
theorem dX8_clearBuffer_16 : decode cX8_clearBuffer 16 = .ok (.ireturn, 1) := by decide +kernel
theorem dX8_goes_0 : decode cX8_goes 0 = .ok (.aload_n 0, 1) := by decide +kernel
theorem dX8_goes_1 : decode cX8_goes 1 = .ok (.iload_n 1, 1) := by decide +kernel
theorem dX8_goes_2 : decode cX8_goes 2 = .ok (.ifCond .eq 7, 3) := by decide +kernel
theorem dX8_goes_5 : decode cX8_goes 5 = .ok (.iload_n 2, 1) := by decide +kernel
theorem dX8_goes_6 : decode cX8_goes 6 = .ok (.goto 7, 3) := by decide +kernel
theorem dX8_goes_9 : decode cX8_goes 9 = .ok (.aload_n 0, 1) := by decide +kernel
theorem dX8_goes_10 : decode cX8_goes 10 = .ok (.getfield 132, 3) := by decide +kernel
theorem dX8_goes_13 : decode cX8_goes 13 = .ok (.putfield 132, 3) := by decide +kernel
theorem dX8_goes_16 : decode cX8_goes 16 = .ok (.iload_n 1, 1) := by decide +kernel
theorem dX8_goes_17 : decode cX8_goes 17 = .ok (.ireturn, 1) := by decide +kernel
theorem dX8_takesPlace_0 : decode cX8_takesPlace 0 = .ok (.iload_n 1, 1) := by decide +kernel
theorem dX8_takesPlace_1 : decode cX8_takesPlace 1 = .ok (.bipush 97, 2) := by decide +kernel
theorem dX8_takesPlace_3 : decode cX8_takesPlace 3 = .ok (.bipush 106, 2) := by decide +kernel
theorem dX8_takesPlace_5 : decode cX8_takesPlace 5 = .ok (.invokestatic 48, 3) := by decide +kernel
theorem dX8_takesPlace_8 : decode cX8_takesPlace 8 = .ok (.ifCond .eq 31, 3) := by decide +kernel
theorem dX8_takesPlace_11 : decode cX8_takesPlace 11 = .ok (.iload_n 2, 1) := by decide +kernel
theorem dX8_takesPlace_12 : decode cX8_takesPlace 12 = .ok (.ifCond .eq 23, 3) := by decide +kernel
theorem dX8_takesPlace_15 : decode cX8_takesPlace 15 = .ok (.iload_n 1, 1) := by decide +kernel
theorem dX8_takesPlace_16 : decode cX8_takesPlace 16 = .ok (.bipush 97, 2) := by decide +kernel
theorem dX8_takesPlace_18 : decode cX8_takesPlace 18 = .ok (.isub, 1) := by decide +kernel
theorem dX8_takesPlace_19 : decode cX8_takesPlace 19 = .ok (.aload_n 0, 1) := by decide +kernel
theorem dX8_takesPlace_20 : decode cX8_takesPlace 20 = .ok (.getfield 38, 3) := by decide +kernel
theorem dX8_takesPlace_23 : decode cX8_takesPlace 23 = .ok (.iconst 5, 1) := by decide +kernel
theorem dX8_takesPlace_24 : decode cX8_takesPlace 24 = .ok (.aload_n 0, 1) := by decide +kernel
theorem dX8_takesPlace_25 : decode cX8_takesPlace 25 = .ok (.getfield 135, 3) := by decide +kernel
theorem dX8_takesPlace_28 : decode cX8_takesPlace 28 = .ok (.imul, 1) := by decide +kernel
theorem dX8_takesPlace_29 : decode cX8_takesPlace 29 = .ok (.iconst 0, 1) := by decide +kernel
theorem dX8_takesPlace_30 : decode cX8_takesPlace 30 = .ok (.iadd, 1) := by decide +kernel
theorem dX8_takesPlace_31 : decode cX8_takesPlace 31 = .ok (.iaload, 1) := by decide +kernel
theorem dX8_takesPlace_32 : decode cX8_takesPlace 32 = .ok (.if_icmp .eq 7, 3) := by decide +kernel
theorem dX8_takesPlace_35 : decode cX8_takesPlace 35 = .ok (.iconst 1, 1) := by decide +kernel
theorem dX8_takesPlace_36 : decode cX8_takesPlace 36 = .ok (.goto 4, 3) := by decide +kernel
theorem dX8_takesPlace_39 : decode cX8_takesPlace 39 = .ok (.iconst 0, 1) := by decide +kernel
theorem dX8_takesPlace_40 : decode cX8_takesPlace 40 = .ok (.istore 4, 2) := by decide +kernel
theorem dX8_takesPlace_42 : decode cX8_takesPlace 42 = .ok (.aload_n 0, 1) := by decide +kernel
theorem dX8_takesPlace_43 : decode cX8_takesPlace 43 = .ok (.getfield 38, 3) := by decide +kernel
theorem dX8_takesPlace_46 : decode cX8_takesPlace 46 = .ok (.iconst 5, 1) := by decide +kernel
theorem dX8_takesPlace_47 : decode cX8_takesPlace 47 = .ok (.aload_n 0, 1) := by decide +kernel
theorem dX8_takesPlace_48 : decode cX8_takesPlace 48 = .ok (.getfield 135, 3) := by decide +kernel
theorem dX8_takesPlace_51 : decode cX8_takesPlace 51 = .ok (.imul, 1) := by decide +kernel
theorem dX8_takesPlace_52 : decode cX8_takesPlace 52 = .ok (.iload_n 2, 1) := by decide +kernel
theorem dX8_takesPlace_53 : decode cX8_takesPlace 53 = .ok (.iadd, 1) := by decide +kernel
theorem dX8_takesPlace_54 : decode cX8_takesPlace 54 = .ok (.iload 4, 2) := by decide +kernel
theorem dX8_takesPlace_56 : decode cX8_takesPlace 56 = .ok (.ifCond .eq 10, 3) := by decide +kernel
theorem dX8_takesPlace_59 : decode cX8_takesPlace 59 = .ok (.iload_n 1, 1) := by decide +kernel
theorem dX8_takesPlace_60 : decode cX8_takesPlace 60 = .ok (.bipush 97, 2) := by decide +kernel
theorem dX8_takesPlace_62 : decode cX8_takesPlace 62 = .ok (.isub, 1) := by decide +kernel
theorem dX8_takesPlace_63 : decode cX8_takesPlace 63 = .ok (.goto 16, 3) := by decide +kernel
theorem dX8_takesPlace_66 : decode cX8_takesPlace 66 = .ok (.aload_n 0, 1) := by decide +kernel
theorem dX8_takesPlace_67 : decode cX8_takesPlace 67 = .ok (.getfield 38, 3) := by decide +kernel
theorem dX8_takesPlace_70 : decode cX8_takesPlace 70 = .ok (.iconst 5, 1) := by decide +kernel
theorem dX8_takesPlace_71 : decode cX8_takesPlace 71 = .ok (.aload_n 0, 1) := by decide +kernel
theorem dX8_takesPlace_72 : decode cX8_takesPlace 72 = .ok (.getfield 135, 3) := by decide +kernel
theorem dX8_takesPlace_75 : decode cX8_takesPlace 75 = .ok (.imul, 1) := by decide +kernel
theorem dX8_takesPlace_76 : decode cX8_takesPlace 76 = .ok (.iload_n 2, 1) := by decide +kernel
theorem dX8_takesPlace_77 : decode cX8_takesPlace 77 = .ok (.iadd, 1) := by decide +kernel
theorem dX8_takesPlace_78 : decode cX8_takesPlace 78 = .ok (.iaload, 1) := by decide +kernel
theorem dX8_takesPlace_79 : decode cX8_takesPlace 79 = .ok (.iastore, 1) := by decide +kernel
theorem dX8_takesPlace_80 : decode cX8_takesPlace 80 = .ok (.aload_n 0, 1) := by decide +kernel
theorem dX8_takesPlace_81 : decode cX8_takesPlace 81 = .ok (.iload 4, 2) := by decide +kernel
theorem dX8_takesPlace_83 : decode cX8_takesPlace 83 = .ok (.iload_n 3, 1) := by decide +kernel
theorem dX8_takesPlace_84 : decode cX8_takesPlace 84 = .ok (.invokevirtual 138, 3) := by decide +kernel
theorem dX8_takesPlace_87 : decode cX8_takesPlace 87 = .ok (.ireturn, 1) := by decide +kernel
theorem dX8_takesSign_0 : decode cX8_takesSign 0 = .ok (.aload_n 0, 1) := by decide +kernel
theorem dX8_takesSign_1 : decode cX8_takesSign 1 = .ok (.getfield 38, 3) := by decide +kernel
theorem dX8_takesSign_4 : decode cX8_takesSign 4 = .ok (.iconst 5, 1) := by decide +kernel
theorem dX8_takesSign_5 : decode cX8_takesSign 5 = .ok (.aload_n 0, 1) := by decide +kernel
theorem dX8_takesSign_6 : decode cX8_takesSign 6 = .ok (.getfield 135, 3) := by decide +kernel
theorem dX8_takesSign_9 : decode cX8_takesSign 9 = .ok (.imul, 1) := by decide +kernel
theorem dX8_takesSign_10 : decode cX8_takesSign 10 = .ok (.iconst 2, 1) := by decide +kernel
theorem dX8_takesSign_11 : decode cX8_takesSign 11 = .ok (.iadd, 1) := by decide +kernel
theorem dX8_takesSign_12 : decode cX8_takesSign 12 = .ok (.iload_n 1, 1) := by decide +kernel
theorem dX8_takesSign_13 : decode cX8_takesSign 13 = .ok (.bipush 60, 2) := by decide +kernel
theorem dX8_takesSign_15 : decode cX8_takesSign 15 = .ok (.if_icmp .ne 7, 3) := by decide +kernel
theorem dX8_takesSign_18 : decode cX8_takesSign 18 = .ok (.iconst 0, 1) := by decide +kernel
theorem dX8_takesSign_19 : decode cX8_takesSign 19 = .ok (.goto 14, 3) := by decide +kernel
theorem dX8_takesSign_22 : decode cX8_takesSign 22 = .ok (.iload_n 1, 1) := by decide +kernel
theorem dX8_takesSign_23 : decode cX8_takesSign 23 = .ok (.bipush 61, 2) := by decide +kernel
theorem dX8_takesSign_25 : decode cX8_takesSign 25 = .ok (.if_icmp .ne 7, 3) := by decide +kernel
theorem dX8_takesSign_28 : decode cX8_takesSign 28 = .ok (.iconst 1, 1) := by decide +kernel
theorem dX8_takesSign_29 : decode cX8_takesSign 29 = .ok (.goto 4, 3) := by decide +kernel
theorem dX8_takesSign_32 : decode cX8_takesSign 32 = .ok (.iconst 2, 1) := by decide +kernel
theorem dX8_takesSign_33 : decode cX8_takesSign 33 = .ok (.iastore, 1) := by decide +kernel
theorem dX8_takesSign_34 : decode cX8_takesSign 34 = .ok (.aload_n 0, 1) := by decide +kernel
theorem dX8_takesSign_35 : decode cX8_takesSign 35 = .ok (.iconst 0, 1) := by decide +kernel
theorem dX8_takesSign_36 : decode cX8_takesSign 36 = .ok (.putfield 142, 3) := by decide +kernel
theorem dX8_takesSign_39 : decode cX8_takesSign 39 = .ok (.aload_n 0, 1) := by decide +kernel
theorem dX8_takesSign_40 : decode cX8_takesSign 40 = .ok (.iload_n 1, 1) := by decide +kernel
theorem dX8_takesSign_41 : decode cX8_takesSign 41 = .ok (.bipush 60, 2) := by decide +kernel
theorem dX8_takesSign_43 : decode cX8_takesSign 43 = .ok (.bipush 62, 2) := by decide +kernel
theorem dX8_takesSign_45 : decode cX8_takesSign 45 = .ok (.invokestatic 48, 3) := by decide +kernel
theorem dX8_takesSign_48 : decode cX8_takesSign 48 = .ok (.iconst 4, 1) := by decide +kernel
theorem dX8_takesSign_49 : decode cX8_takesSign 49 = .ok (.invokevirtual 138, 3) := by decide +kernel
theorem dX8_takesSign_52 : decode cX8_takesSign 52 = .ok (.ireturn, 1) := by decide +kernel
theorem dX8_beginsNumber_0 : decode cX8_beginsNumber 0 = .ok (.aload_n 0, 1) := by decide +kernel
theorem dX8_beginsNumber_1 : decode cX8_beginsNumber 1 = .ok (.getfield 132, 3) := by decide +kernel
theorem dX8_beginsNumber_4 : decode cX8_beginsNumber 4 = .ok (.iconst 4, 1) := by decide +kernel
theorem dX8_beginsNumber_5 : decode cX8_beginsNumber 5 = .ok (.if_icmp .ne 21, 3) := by decide +kernel
theorem dX8_beginsNumber_8 : decode cX8_beginsNumber 8 = .ok (.iload_n 1, 1) := by decide +kernel
theorem dX8_beginsNumber_9 : decode cX8_beginsNumber 9 = .ok (.bipush 45, 2) := by decide +kernel
theorem dX8_beginsNumber_11 : decode cX8_beginsNumber 11 = .ok (.if_icmp .ne 15, 3) := by decide +kernel
theorem dX8_beginsNumber_14 : decode cX8_beginsNumber 14 = .ok (.aload_n 0, 1) := by decide +kernel
theorem dX8_beginsNumber_15 : decode cX8_beginsNumber 15 = .ok (.iconst 1, 1) := by decide +kernel
theorem dX8_beginsNumber_16 : decode cX8_beginsNumber 16 = .ok (.putfield 142, 3) := by decide +kernel
theorem dX8_beginsNumber_19 : decode cX8_beginsNumber 19 = .ok (.aload_n 0, 1) := by decide +kernel
theorem dX8_beginsNumber_20 : decode cX8_beginsNumber 20 = .ok (.iconst 1, 1) := by decide +kernel
theorem dX8_beginsNumber_21 : decode cX8_beginsNumber 21 = .ok (.iconst 5, 1) := by decide +kernel
theorem dX8_beginsNumber_22 : decode cX8_beginsNumber 22 = .ok (.invokevirtual 138, 3) := by decide +kernel
theorem dX8_beginsNumber_25 : decode cX8_beginsNumber 25 = .ok (.ireturn, 1) := by decide +kernel
theorem dX8_beginsNumber_26 : decode cX8_beginsNumber 26 = .ok (.aload_n 0, 1) := by decide +kernel
theorem dX8_beginsNumber_27 : decode cX8_beginsNumber 27 = .ok (.getfield 38, 3) := by decide +kernel
theorem dX8_beginsNumber_30 : decode cX8_beginsNumber 30 = .ok (.iconst 5, 1) := by decide +kernel
theorem dX8_beginsNumber_31 : decode cX8_beginsNumber 31 = .ok (.aload_n 0, 1) := by decide +kernel
theorem dX8_beginsNumber_32 : decode cX8_beginsNumber 32 = .ok (.getfield 135, 3) := by decide +kernel
theorem dX8_beginsNumber_35 : decode cX8_beginsNumber 35 = .ok (.imul, 1) := by decide +kernel
theorem dX8_beginsNumber_36 : decode cX8_beginsNumber 36 = .ok (.iconst 3, 1) := by decide +kernel
theorem dX8_beginsNumber_37 : decode cX8_beginsNumber 37 = .ok (.iadd, 1) := by decide +kernel
theorem dX8_beginsNumber_38 : decode cX8_beginsNumber 38 = .ok (.iload_n 1, 1) := by decide +kernel
theorem dX8_beginsNumber_39 : decode cX8_beginsNumber 39 = .ok (.bipush 48, 2) := by decide +kernel
theorem dX8_beginsNumber_41 : decode cX8_beginsNumber 41 = .ok (.isub, 1) := by decide +kernel
theorem dX8_beginsNumber_42 : decode cX8_beginsNumber 42 = .ok (.iastore, 1) := by decide +kernel
theorem dX8_beginsNumber_43 : decode cX8_beginsNumber 43 = .ok (.aload_n 0, 1) := by decide +kernel
theorem dX8_beginsNumber_44 : decode cX8_beginsNumber 44 = .ok (.iload_n 1, 1) := by decide +kernel
theorem dX8_beginsNumber_45 : decode cX8_beginsNumber 45 = .ok (.aload_n 0, 1) := by decide +kernel
theorem dX8_beginsNumber_46 : decode cX8_beginsNumber 46 = .ok (.getfield 132, 3) := by decide +kernel
theorem dX8_beginsNumber_49 : decode cX8_beginsNumber 49 = .ok (.iconst 4, 1) := by decide +kernel
theorem dX8_beginsNumber_50 : decode cX8_beginsNumber 50 = .ok (.if_icmp .ne 8, 3) := by decide +kernel
theorem dX8_beginsNumber_53 : decode cX8_beginsNumber 53 = .ok (.bipush 48, 2) := by decide +kernel
theorem dX8_beginsNumber_55 : decode cX8_beginsNumber 55 = .ok (.goto 5, 3) := by decide +kernel
theorem dX8_beginsNumber_58 : decode cX8_beginsNumber 58 = .ok (.bipush 49, 2) := by decide +kernel
theorem dX8_beginsNumber_60 : decode cX8_beginsNumber 60 = .ok (.bipush 57, 2) := by decide +kernel
theorem dX8_beginsNumber_62 : decode cX8_beginsNumber 62 = .ok (.invokestatic 48, 3) := by decide +kernel
theorem dX8_beginsNumber_65 : decode cX8_beginsNumber 65 = .ok (.bipush 6, 2) := by decide +kernel
theorem dX8_beginsNumber_67 : decode cX8_beginsNumber 67 = .ok (.invokevirtual 138, 3) := by decide +kernel
theorem dX8_beginsNumber_70 : decode cX8_beginsNumber 70 = .ok (.ireturn, 1) := by decide +kernel
theorem dX8_endItem_0 : decode cX8_endItem 0 = .ok (.iconst 5, 1) := by decide +kernel
theorem dX8_endItem_1 : decode cX8_endItem 1 = .ok (.aload_n 0, 1) := by decide +kernel
theorem dX8_endItem_2 : decode cX8_endItem 2 = .ok (.getfield 135, 3) := by decide +kernel
theorem dX8_endItem_5 : decode cX8_endItem 5 = .ok (.imul, 1) := by decide +kernel
theorem dX8_endItem_6 : decode cX8_endItem 6 = .ok (.iconst 3, 1) := by decide +kernel
theorem dX8_endItem_7 : decode cX8_endItem 7 = .ok (.iadd, 1) := by decide +kernel
theorem dX8_endItem_8 : decode cX8_endItem 8 = .ok (.istore_n 1, 1) := by decide +kernel
theorem dX8_endItem_9 : decode cX8_endItem 9 = .ok (.aload_n 0, 1) := by decide +kernel
theorem dX8_endItem_10 : decode cX8_endItem 10 = .ok (.getfield 38, 3) := by decide +kernel
theorem dX8_endItem_13 : decode cX8_endItem 13 = .ok (.iload_n 1, 1) := by decide +kernel
theorem dX8_endItem_14 : decode cX8_endItem 14 = .ok (.aload_n 0, 1) := by decide +kernel
theorem dX8_endItem_15 : decode cX8_endItem 15 = .ok (.getfield 142, 3) := by decide +kernel
theorem dX8_endItem_18 : decode cX8_endItem 18 = .ok (.ifCond .eq 13, 3) := by decide +kernel
theorem dX8_endItem_21 : decode cX8_endItem 21 = .ok (.aload_n 0, 1) := by decide +kernel
theorem dX8_endItem_22 : decode cX8_endItem 22 = .ok (.getfield 38, 3) := by decide +kernel
theorem dX8_endItem_25 : decode cX8_endItem 25 = .ok (.iload_n 1, 1) := by decide +kernel
theorem dX8_endItem_26 : decode cX8_endItem 26 = .ok (.iaload, 1) := by decide +kernel
theorem dX8_endItem_27 : decode cX8_endItem 27 = .ok (.ineg, 1) := by decide +kernel
theorem dX8_endItem_28 : decode cX8_endItem 28 = .ok (.goto 9, 3) := by decide +kernel
theorem dX8_endItem_31 : decode cX8_endItem 31 = .ok (.aload_n 0, 1) := by decide +kernel
theorem dX8_endItem_32 : decode cX8_endItem 32 = .ok (.getfield 38, 3) := by decide +kernel
theorem dX8_endItem_35 : decode cX8_endItem 35 = .ok (.iload_n 1, 1) := by decide +kernel
theorem dX8_endItem_36 : decode cX8_endItem 36 = .ok (.iaload, 1) := by decide +kernel
theorem dX8_endItem_37 : decode cX8_endItem 37 = .ok (.iastore, 1) := by decide +kernel
theorem dX8_endItem_38 : decode cX8_endItem 38 = .ok (.aload_n 0, 1) := by decide +kernel
theorem dX8_endItem_39 : decode cX8_endItem 39 = .ok (.dup, 1) := by decide +kernel
theorem dX8_endItem_40 : decode cX8_endItem 40 = .ok (.getfield 135, 3) := by decide +kernel
theorem dX8_endItem_43 : decode cX8_endItem 43 = .ok (.iconst 1, 1) := by decide +kernel
theorem dX8_endItem_44 : decode cX8_endItem 44 = .ok (.iadd, 1) := by decide +kernel
theorem dX8_endItem_45 : decode cX8_endItem 45 = .ok (.putfield 135, 3) := by decide +kernel
theorem dX8_endItem_48 : decode cX8_endItem 48 = .ok (.aload_n 0, 1) := by decide +kernel
theorem dX8_endItem_49 : decode cX8_endItem 49 = .ok (.iconst 0, 1) := by decide +kernel
theorem dX8_endItem_50 : decode cX8_endItem 50 = .ok (.putfield 132, 3) := by decide +kernel
theorem dX8_endItem_53 : decode cX8_endItem 53 = .ok (.return_, 1) := by decide +kernel
theorem dX8_takesEnd_0 : decode cX8_takesEnd 0 = .ok (.iload_n 1, 1) := by decide +kernel
theorem dX8_takesEnd_1 : decode cX8_takesEnd 1 = .ok (.bipush 59, 2) := by decide +kernel
theorem dX8_takesEnd_3 : decode cX8_takesEnd 3 = .ok (.if_icmp .ne 7, 3) := by decide +kernel
theorem dX8_takesEnd_6 : decode cX8_takesEnd 6 = .ok (.aload_n 0, 1) := by decide +kernel
theorem dX8_takesEnd_7 : decode cX8_takesEnd 7 = .ok (.invokevirtual 145, 3) := by decide +kernel
theorem dX8_takesEnd_10 : decode cX8_takesEnd 10 = .ok (.iload_n 1, 1) := by decide +kernel
theorem dX8_takesEnd_11 : decode cX8_takesEnd 11 = .ok (.bipush 59, 2) := by decide +kernel
theorem dX8_takesEnd_13 : decode cX8_takesEnd 13 = .ok (.if_icmp .ne 7, 3) := by decide +kernel
theorem dX8_takesEnd_16 : decode cX8_takesEnd 16 = .ok (.iconst 1, 1) := by decide +kernel
theorem dX8_takesEnd_17 : decode cX8_takesEnd 17 = .ok (.goto 4, 3) := by decide +kernel
theorem dX8_takesEnd_20 : decode cX8_takesEnd 20 = .ok (.iconst 0, 1) := by decide +kernel
theorem dX8_takesEnd_21 : decode cX8_takesEnd 21 = .ok (.ireturn, 1) := by decide +kernel
theorem dX8_goesOn_0 : decode cX8_goesOn 0 = .ok (.iconst 5, 1) := by decide +kernel
theorem dX8_goesOn_1 : decode cX8_goesOn 1 = .ok (.aload_n 0, 1) := by decide +kernel
theorem dX8_goesOn_2 : decode cX8_goesOn 2 = .ok (.getfield 135, 3) := by decide +kernel
theorem dX8_goesOn_5 : decode cX8_goesOn 5 = .ok (.imul, 1) := by decide +kernel
theorem dX8_goesOn_6 : decode cX8_goesOn 6 = .ok (.iconst 3, 1) := by decide +kernel
theorem dX8_goesOn_7 : decode cX8_goesOn 7 = .ok (.iadd, 1) := by decide +kernel
theorem dX8_goesOn_8 : decode cX8_goesOn 8 = .ok (.istore_n 2, 1) := by decide +kernel
theorem dX8_goesOn_9 : decode cX8_goesOn 9 = .ok (.iload_n 1, 1) := by decide +kernel
theorem dX8_goesOn_10 : decode cX8_goesOn 10 = .ok (.bipush 33, 2) := by decide +kernel
theorem dX8_goesOn_12 : decode cX8_goesOn 12 = .ok (.if_icmp .ne 11, 3) := by decide +kernel
theorem dX8_goesOn_15 : decode cX8_goesOn 15 = .ok (.aload_n 0, 1) := by decide +kernel
theorem dX8_goesOn_16 : decode cX8_goesOn 16 = .ok (.iconst 1, 1) := by decide +kernel
theorem dX8_goesOn_17 : decode cX8_goesOn 17 = .ok (.bipush 7, 2) := by decide +kernel
theorem dX8_goesOn_19 : decode cX8_goesOn 19 = .ok (.invokevirtual 138, 3) := by decide +kernel
theorem dX8_goesOn_22 : decode cX8_goesOn 22 = .ok (.ireturn, 1) := by decide +kernel
theorem dX8_goesOn_23 : decode cX8_goesOn 23 = .ok (.bipush 10, 2) := by decide +kernel
theorem dX8_goesOn_25 : decode cX8_goesOn 25 = .ok (.aload_n 0, 1) := by decide +kernel
theorem dX8_goesOn_26 : decode cX8_goesOn 26 = .ok (.getfield 38, 3) := by decide +kernel
theorem dX8_goesOn_29 : decode cX8_goesOn 29 = .ok (.iload_n 2, 1) := by decide +kernel
theorem dX8_goesOn_30 : decode cX8_goesOn 30 = .ok (.iaload, 1) := by decide +kernel
theorem dX8_goesOn_31 : decode cX8_goesOn 31 = .ok (.imul, 1) := by decide +kernel
theorem dX8_goesOn_32 : decode cX8_goesOn 32 = .ok (.iload_n 1, 1) := by decide +kernel
theorem dX8_goesOn_33 : decode cX8_goesOn 33 = .ok (.iadd, 1) := by decide +kernel
theorem dX8_goesOn_34 : decode cX8_goesOn 34 = .ok (.bipush 48, 2) := by decide +kernel
theorem dX8_goesOn_36 : decode cX8_goesOn 36 = .ok (.isub, 1) := by decide +kernel
theorem dX8_goesOn_37 : decode cX8_goesOn 37 = .ok (.istore_n 3, 1) := by decide +kernel
theorem dX8_goesOn_38 : decode cX8_goesOn 38 = .ok (.iload_n 1, 1) := by decide +kernel
theorem dX8_goesOn_39 : decode cX8_goesOn 39 = .ok (.bipush 48, 2) := by decide +kernel
theorem dX8_goesOn_41 : decode cX8_goesOn 41 = .ok (.bipush 57, 2) := by decide +kernel
theorem dX8_goesOn_43 : decode cX8_goesOn 43 = .ok (.invokestatic 48, 3) := by decide +kernel
theorem dX8_goesOn_46 : decode cX8_goesOn 46 = .ok (.ifCond .eq 23, 3) := by decide +kernel
theorem dX8_goesOn_49 : decode cX8_goesOn 49 = .ok (.aload_n 0, 1) := by decide +kernel
theorem dX8_goesOn_50 : decode cX8_goesOn 50 = .ok (.getfield 38, 3) := by decide +kernel
theorem dX8_goesOn_53 : decode cX8_goesOn 53 = .ok (.iload_n 2, 1) := by decide +kernel
theorem dX8_goesOn_54 : decode cX8_goesOn 54 = .ok (.iaload, 1) := by decide +kernel
theorem dX8_goesOn_55 : decode cX8_goesOn 55 = .ok (.ifCond .le 14, 3) := by decide +kernel
theorem dX8_goesOn_58 : decode cX8_goesOn 58 = .ok (.iload_n 3, 1) := by decide +kernel
theorem dX8_goesOn_59 : decode cX8_goesOn 59 = .ok (.sipush 2000, 3) := by decide +kernel
theorem dX8_goesOn_62 : decode cX8_goesOn 62 = .ok (.if_icmp .gt 7, 3) := by decide +kernel
theorem dX8_goesOn_65 : decode cX8_goesOn 65 = .ok (.iconst 1, 1) := by decide +kernel
theorem dX8_goesOn_66 : decode cX8_goesOn 66 = .ok (.goto 4, 3) := by decide +kernel
theorem dX8_goesOn_69 : decode cX8_goesOn 69 = .ok (.iconst 0, 1) := by decide +kernel
theorem dX8_goesOn_70 : decode cX8_goesOn 70 = .ok (.istore 4, 2) := by decide +kernel
theorem dX8_goesOn_72 : decode cX8_goesOn 72 = .ok (.aload_n 0, 1) := by decide +kernel
theorem dX8_goesOn_73 : decode cX8_goesOn 73 = .ok (.getfield 38, 3) := by decide +kernel
theorem dX8_goesOn_76 : decode cX8_goesOn 76 = .ok (.iload_n 2, 1) := by decide +kernel
theorem dX8_goesOn_77 : decode cX8_goesOn 77 = .ok (.iload 4, 2) := by decide +kernel
theorem dX8_goesOn_79 : decode cX8_goesOn 79 = .ok (.ifCond .eq 7, 3) := by decide +kernel
theorem dX8_goesOn_82 : decode cX8_goesOn 82 = .ok (.iload_n 3, 1) := by decide +kernel
theorem dX8_goesOn_83 : decode cX8_goesOn 83 = .ok (.goto 9, 3) := by decide +kernel
theorem dX8_goesOn_86 : decode cX8_goesOn 86 = .ok (.aload_n 0, 1) := by decide +kernel
theorem dX8_goesOn_87 : decode cX8_goesOn 87 = .ok (.getfield 38, 3) := by decide +kernel
theorem dX8_goesOn_90 : decode cX8_goesOn 90 = .ok (.iload_n 2, 1) := by decide +kernel
theorem dX8_goesOn_91 : decode cX8_goesOn 91 = .ok (.iaload, 1) := by decide +kernel
theorem dX8_goesOn_92 : decode cX8_goesOn 92 = .ok (.iastore, 1) := by decide +kernel
theorem dX8_goesOn_93 : decode cX8_goesOn 93 = .ok (.iload 4, 2) := by decide +kernel
theorem dX8_goesOn_95 : decode cX8_goesOn 95 = .ok (.ifCond .ne 11, 3) := by decide +kernel
theorem dX8_goesOn_98 : decode cX8_goesOn 98 = .ok (.aload_n 0, 1) := by decide +kernel
theorem dX8_goesOn_99 : decode cX8_goesOn 99 = .ok (.iload_n 1, 1) := by decide +kernel
theorem dX8_goesOn_100 : decode cX8_goesOn 100 = .ok (.invokevirtual 148, 3) := by decide +kernel
theorem dX8_goesOn_103 : decode cX8_goesOn 103 = .ok (.ifCond .eq 7, 3) := by decide +kernel
theorem dX8_goesOn_106 : decode cX8_goesOn 106 = .ok (.iconst 1, 1) := by decide +kernel
theorem dX8_goesOn_107 : decode cX8_goesOn 107 = .ok (.goto 4, 3) := by decide +kernel
theorem dX8_goesOn_110 : decode cX8_goesOn 110 = .ok (.iconst 0, 1) := by decide +kernel
theorem dX8_goesOn_111 : decode cX8_goesOn 111 = .ok (.ireturn, 1) := by decide +kernel
theorem dX8_takes_0 : decode cX8_takes 0 = .ok (.aload_n 0, 1) := by decide +kernel
theorem dX8_takes_1 : decode cX8_takes 1 = .ok (.getfield 132, 3) := by decide +kernel
theorem dX8_takes_4 : decode cX8_takes 4 = .ok (.tableswitch 175 0 7 #[48, 84, 117, 125, 131, 131, 137, 143], 48) := by decide +kernel
theorem dX8_takes_52 : decode cX8_takes 52 = .ok (.aload_n 0, 1) := by decide +kernel
theorem dX8_takes_53 : decode cX8_takes 53 = .ok (.getfield 38, 3) := by decide +kernel
theorem dX8_takes_56 : decode cX8_takes 56 = .ok (.iconst 5, 1) := by decide +kernel
theorem dX8_takes_57 : decode cX8_takes 57 = .ok (.aload_n 0, 1) := by decide +kernel
theorem dX8_takes_58 : decode cX8_takes 58 = .ok (.getfield 135, 3) := by decide +kernel
theorem dX8_takes_61 : decode cX8_takes 61 = .ok (.imul, 1) := by decide +kernel
theorem dX8_takes_62 : decode cX8_takes 62 = .ok (.iconst 1, 1) := by decide +kernel
theorem dX8_takes_63 : decode cX8_takes 63 = .ok (.iadd, 1) := by decide +kernel
theorem dX8_takes_64 : decode cX8_takes 64 = .ok (.iconst (-1), 1) := by decide +kernel
theorem dX8_takes_65 : decode cX8_takes 65 = .ok (.iastore, 1) := by decide +kernel
theorem dX8_takes_66 : decode cX8_takes 66 = .ok (.aload_n 0, 1) := by decide +kernel
theorem dX8_takes_67 : decode cX8_takes 67 = .ok (.getfield 38, 3) := by decide +kernel
theorem dX8_takes_70 : decode cX8_takes 70 = .ok (.iconst 5, 1) := by decide +kernel
theorem dX8_takes_71 : decode cX8_takes 71 = .ok (.aload_n 0, 1) := by decide +kernel
theorem dX8_takes_72 : decode cX8_takes 72 = .ok (.getfield 135, 3) := by decide +kernel
theorem dX8_takes_75 : decode cX8_takes 75 = .ok (.imul, 1) := by decide +kernel
theorem dX8_takes_76 : decode cX8_takes 76 = .ok (.iconst 4, 1) := by decide +kernel
theorem dX8_takes_77 : decode cX8_takes 77 = .ok (.iadd, 1) := by decide +kernel
theorem dX8_takes_78 : decode cX8_takes 78 = .ok (.iconst 1, 1) := by decide +kernel
theorem dX8_takes_79 : decode cX8_takes 79 = .ok (.iastore, 1) := by decide +kernel
theorem dX8_takes_80 : decode cX8_takes 80 = .ok (.aload_n 0, 1) := by decide +kernel
theorem dX8_takes_81 : decode cX8_takes 81 = .ok (.iload_n 1, 1) := by decide +kernel
theorem dX8_takes_82 : decode cX8_takes 82 = .ok (.iconst 0, 1) := by decide +kernel
theorem dX8_takes_83 : decode cX8_takes 83 = .ok (.iconst 1, 1) := by decide +kernel
theorem dX8_takes_84 : decode cX8_takes 84 = .ok (.invokevirtual 151, 3) := by decide +kernel
theorem dX8_takes_87 : decode cX8_takes 87 = .ok (.ireturn, 1) := by decide +kernel
theorem dX8_takes_88 : decode cX8_takes 88 = .ok (.aload_n 0, 1) := by decide +kernel
theorem dX8_takes_89 : decode cX8_takes 89 = .ok (.iload_n 1, 1) := by decide +kernel
theorem dX8_takes_90 : decode cX8_takes 90 = .ok (.bipush 45, 2) := by decide +kernel
theorem dX8_takes_92 : decode cX8_takes 92 = .ok (.if_icmp .ne 7, 3) := by decide +kernel
theorem dX8_takes_95 : decode cX8_takes 95 = .ok (.iconst 1, 1) := by decide +kernel
theorem dX8_takes_96 : decode cX8_takes 96 = .ok (.goto 4, 3) := by decide +kernel
theorem dX8_takes_99 : decode cX8_takes 99 = .ok (.iconst 0, 1) := by decide +kernel
theorem dX8_takes_100 : decode cX8_takes 100 = .ok (.iconst 2, 1) := by decide +kernel
theorem dX8_takes_101 : decode cX8_takes 101 = .ok (.invokevirtual 138, 3) := by decide +kernel
theorem dX8_takes_104 : decode cX8_takes 104 = .ok (.ifCond .ne 11, 3) := by decide +kernel
theorem dX8_takes_107 : decode cX8_takes 107 = .ok (.aload_n 0, 1) := by decide +kernel
theorem dX8_takes_108 : decode cX8_takes 108 = .ok (.iload_n 1, 1) := by decide +kernel
theorem dX8_takes_109 : decode cX8_takes 109 = .ok (.invokevirtual 154, 3) := by decide +kernel
theorem dX8_takes_112 : decode cX8_takes 112 = .ok (.ifCond .eq 7, 3) := by decide +kernel
theorem dX8_takes_115 : decode cX8_takes 115 = .ok (.iconst 1, 1) := by decide +kernel
theorem dX8_takes_116 : decode cX8_takes 116 = .ok (.goto 4, 3) := by decide +kernel
theorem dX8_takes_119 : decode cX8_takes 119 = .ok (.iconst 0, 1) := by decide +kernel
theorem dX8_takes_120 : decode cX8_takes 120 = .ok (.ireturn, 1) := by decide +kernel
theorem dX8_takes_121 : decode cX8_takes 121 = .ok (.aload_n 0, 1) := by decide +kernel
theorem dX8_takes_122 : decode cX8_takes 122 = .ok (.iload_n 1, 1) := by decide +kernel
theorem dX8_takes_123 : decode cX8_takes 123 = .ok (.iconst 1, 1) := by decide +kernel
theorem dX8_takes_124 : decode cX8_takes 124 = .ok (.iconst 3, 1) := by decide +kernel
theorem dX8_takes_125 : decode cX8_takes 125 = .ok (.invokevirtual 151, 3) := by decide +kernel
theorem dX8_takes_128 : decode cX8_takes 128 = .ok (.ireturn, 1) := by decide +kernel
theorem dX8_takes_129 : decode cX8_takes 129 = .ok (.aload_n 0, 1) := by decide +kernel
theorem dX8_takes_130 : decode cX8_takes 130 = .ok (.iload_n 1, 1) := by decide +kernel
theorem dX8_takes_131 : decode cX8_takes 131 = .ok (.invokevirtual 154, 3) := by decide +kernel
theorem dX8_takes_134 : decode cX8_takes 134 = .ok (.ireturn, 1) := by decide +kernel
theorem dX8_takes_135 : decode cX8_takes 135 = .ok (.aload_n 0, 1) := by decide +kernel
theorem dX8_takes_136 : decode cX8_takes 136 = .ok (.iload_n 1, 1) := by decide +kernel
theorem dX8_takes_137 : decode cX8_takes 137 = .ok (.invokevirtual 157, 3) := by decide +kernel
theorem dX8_takes_140 : decode cX8_takes 140 = .ok (.ireturn, 1) := by decide +kernel
theorem dX8_takes_141 : decode cX8_takes 141 = .ok (.aload_n 0, 1) := by decide +kernel
theorem dX8_takes_142 : decode cX8_takes 142 = .ok (.iload_n 1, 1) := by decide +kernel
theorem dX8_takes_143 : decode cX8_takes 143 = .ok (.invokevirtual 160, 3) := by decide +kernel
theorem dX8_takes_146 : decode cX8_takes 146 = .ok (.ireturn, 1) := by decide +kernel
theorem dX8_takes_147 : decode cX8_takes 147 = .ok (.aload_n 0, 1) := by decide +kernel
theorem dX8_takes_148 : decode cX8_takes 148 = .ok (.getfield 38, 3) := by decide +kernel
theorem dX8_takes_151 : decode cX8_takes 151 = .ok (.iconst 5, 1) := by decide +kernel
theorem dX8_takes_152 : decode cX8_takes 152 = .ok (.aload_n 0, 1) := by decide +kernel
theorem dX8_takes_153 : decode cX8_takes 153 = .ok (.getfield 135, 3) := by decide +kernel
theorem dX8_takes_156 : decode cX8_takes 156 = .ok (.imul, 1) := by decide +kernel
theorem dX8_takes_157 : decode cX8_takes 157 = .ok (.iconst 4, 1) := by decide +kernel
theorem dX8_takes_158 : decode cX8_takes 158 = .ok (.iadd, 1) := by decide +kernel
theorem dX8_takes_159 : decode cX8_takes 159 = .ok (.iload_n 1, 1) := by decide +kernel
theorem dX8_takes_160 : decode cX8_takes 160 = .ok (.bipush 48, 2) := by decide +kernel
theorem dX8_takes_162 : decode cX8_takes 162 = .ok (.isub, 1) := by decide +kernel
theorem dX8_takes_163 : decode cX8_takes 163 = .ok (.iastore, 1) := by decide +kernel
theorem dX8_takes_164 : decode cX8_takes 164 = .ok (.aload_n 0, 1) := by decide +kernel
theorem dX8_takes_165 : decode cX8_takes 165 = .ok (.iload_n 1, 1) := by decide +kernel
theorem dX8_takes_166 : decode cX8_takes 166 = .ok (.bipush 48, 2) := by decide +kernel
theorem dX8_takes_168 : decode cX8_takes 168 = .ok (.bipush 51, 2) := by decide +kernel
theorem dX8_takes_170 : decode cX8_takes 170 = .ok (.invokestatic 48, 3) := by decide +kernel
theorem dX8_takes_173 : decode cX8_takes 173 = .ok (.bipush 8, 2) := by decide +kernel
theorem dX8_takes_175 : decode cX8_takes 175 = .ok (.invokevirtual 138, 3) := by decide +kernel
theorem dX8_takes_178 : decode cX8_takes 178 = .ok (.ireturn, 1) := by decide +kernel
theorem dX8_takes_179 : decode cX8_takes 179 = .ok (.aload_n 0, 1) := by decide +kernel
theorem dX8_takes_180 : decode cX8_takes 180 = .ok (.iload_n 1, 1) := by decide +kernel
theorem dX8_takes_181 : decode cX8_takes 181 = .ok (.invokevirtual 148, 3) := by decide +kernel
theorem dX8_takes_184 : decode cX8_takes 184 = .ok (.ireturn, 1) := by decide +kernel
theorem dX8_readText_0 : decode cX8_readText 0 = .ok (.aload_n 0, 1) := by decide +kernel
theorem dX8_readText_1 : decode cX8_readText 1 = .ok (.iconst 0, 1) := by decide +kernel
theorem dX8_readText_2 : decode cX8_readText 2 = .ok (.putfield 132, 3) := by decide +kernel
theorem dX8_readText_5 : decode cX8_readText 5 = .ok (.aload_n 0, 1) := by decide +kernel
theorem dX8_readText_6 : decode cX8_readText 6 = .ok (.iconst 0, 1) := by decide +kernel
theorem dX8_readText_7 : decode cX8_readText 7 = .ok (.putfield 135, 3) := by decide +kernel
theorem dX8_readText_10 : decode cX8_readText 10 = .ok (.iconst 0, 1) := by decide +kernel
theorem dX8_readText_11 : decode cX8_readText 11 = .ok (.istore_n 1, 1) := by decide +kernel
theorem dX8_readText_12 : decode cX8_readText 12 = .ok (.iload_n 1, 1) := by decide +kernel
theorem dX8_readText_13 : decode cX8_readText 13 = .ok (.aload_n 0, 1) := by decide +kernel
theorem dX8_readText_14 : decode cX8_readText 14 = .ok (.getfield 129, 3) := by decide +kernel
theorem dX8_readText_17 : decode cX8_readText 17 = .ok (.if_icmp .ge 22, 3) := by decide +kernel
theorem dX8_readText_20 : decode cX8_readText 20 = .ok (.aload_n 0, 1) := by decide +kernel
theorem dX8_readText_21 : decode cX8_readText 21 = .ok (.aload_n 0, 1) := by decide +kernel
theorem dX8_readText_22 : decode cX8_readText 22 = .ok (.getfield 16, 3) := by decide +kernel
theorem dX8_readText_25 : decode cX8_readText 25 = .ok (.iload_n 1, 1) := by decide +kernel
theorem dX8_readText_26 : decode cX8_readText 26 = .ok (.iaload, 1) := by decide +kernel
theorem dX8_readText_27 : decode cX8_readText 27 = .ok (.invokevirtual 163, 3) := by decide +kernel
theorem dX8_readText_30 : decode cX8_readText 30 = .ok (.ifCond .eq 9, 3) := by decide +kernel
theorem dX8_readText_33 : decode cX8_readText 33 = .ok (.iinc 1 1, 3) := by decide +kernel
theorem dX8_readText_36 : decode cX8_readText 36 = .ok (.goto (-24), 3) := by decide +kernel
theorem dX8_readText_39 : decode cX8_readText 39 = .ok (.iload_n 1, 1) := by decide +kernel
theorem dX8_readText_40 : decode cX8_readText 40 = .ok (.ireturn, 1) := by decide +kernel
theorem dX8_firstError_0 : decode cX8_firstError 0 = .ok (.aload_n 0, 1) := by decide +kernel
theorem dX8_firstError_1 : decode cX8_firstError 1 = .ok (.iconst 0, 1) := by decide +kernel
theorem dX8_firstError_2 : decode cX8_firstError 2 = .ok (.putfield 44, 3) := by decide +kernel
theorem dX8_firstError_5 : decode cX8_firstError 5 = .ok (.aload_n 0, 1) := by decide +kernel
theorem dX8_firstError_6 : decode cX8_firstError 6 = .ok (.invokevirtual 166, 3) := by decide +kernel
theorem dX8_firstError_9 : decode cX8_firstError 9 = .ok (.ireturn, 1) := by decide +kernel
theorem dX8_load_0 : decode cX8_load 0 = .ok (.aload_n 0, 1) := by decide +kernel
theorem dX8_load_1 : decode cX8_load 1 = .ok (.invokevirtual 166, 3) := by decide +kernel
theorem dX8_load_4 : decode cX8_load 4 = .ok (.aload_n 0, 1) := by decide +kernel
theorem dX8_load_5 : decode cX8_load 5 = .ok (.getfield 129, 3) := by decide +kernel
theorem dX8_load_8 : decode cX8_load 8 = .ok (.if_icmp .ne 25, 3) := by decide +kernel
theorem dX8_load_11 : decode cX8_load 11 = .ok (.aload_n 0, 1) := by decide +kernel
theorem dX8_load_12 : decode cX8_load 12 = .ok (.getfield 132, 3) := by decide +kernel
theorem dX8_load_15 : decode cX8_load 15 = .ok (.bipush 6, 2) := by decide +kernel
theorem dX8_load_17 : decode cX8_load 17 = .ok (.if_icmp .eq 12, 3) := by decide +kernel
theorem dX8_load_20 : decode cX8_load 20 = .ok (.aload_n 0, 1) := by decide +kernel
theorem dX8_load_21 : decode cX8_load 21 = .ok (.getfield 132, 3) := by decide +kernel
theorem dX8_load_24 : decode cX8_load 24 = .ok (.bipush 8, 2) := by decide +kernel
theorem dX8_load_26 : decode cX8_load 26 = .ok (.if_icmp .ne 7, 3) := by decide +kernel
theorem dX8_load_29 : decode cX8_load 29 = .ok (.iconst 1, 1) := by decide +kernel
theorem dX8_load_30 : decode cX8_load 30 = .ok (.goto 4, 3) := by decide +kernel
theorem dX8_load_33 : decode cX8_load 33 = .ok (.iconst 0, 1) := by decide +kernel
theorem dX8_load_34 : decode cX8_load 34 = .ok (.istore_n 1, 1) := by decide +kernel
theorem dX8_load_35 : decode cX8_load 35 = .ok (.iload_n 1, 1) := by decide +kernel
theorem dX8_load_36 : decode cX8_load 36 = .ok (.ifCond .eq 7, 3) := by decide +kernel
theorem dX8_load_39 : decode cX8_load 39 = .ok (.aload_n 0, 1) := by decide +kernel
theorem dX8_load_40 : decode cX8_load 40 = .ok (.invokevirtual 145, 3) := by decide +kernel
theorem dX8_load_43 : decode cX8_load 43 = .ok (.aload_n 0, 1) := by decide +kernel
theorem dX8_load_44 : decode cX8_load 44 = .ok (.iload_n 1, 1) := by decide +kernel
theorem dX8_load_45 : decode cX8_load 45 = .ok (.ifCond .ne 7, 3) := by decide +kernel
theorem dX8_load_48 : decode cX8_load 48 = .ok (.iconst 1, 1) := by decide +kernel
theorem dX8_load_49 : decode cX8_load 49 = .ok (.goto 25, 3) := by decide +kernel
theorem dX8_load_52 : decode cX8_load 52 = .ok (.aload_n 0, 1) := by decide +kernel
theorem dX8_load_53 : decode cX8_load 53 = .ok (.getfield 7, 3) := by decide +kernel
theorem dX8_load_56 : decode cX8_load 56 = .ok (.bipush 20, 2) := by decide +kernel
theorem dX8_load_58 : decode cX8_load 58 = .ok (.iaload, 1) := by decide +kernel
theorem dX8_load_59 : decode cX8_load 59 = .ok (.aload_n 0, 1) := by decide +kernel
theorem dX8_load_60 : decode cX8_load 60 = .ok (.getfield 135, 3) := by decide +kernel
theorem dX8_load_63 : decode cX8_load 63 = .ok (.iadd, 1) := by decide +kernel
theorem dX8_load_64 : decode cX8_load 64 = .ok (.bipush 16, 2) := by decide +kernel
theorem dX8_load_66 : decode cX8_load 66 = .ok (.if_icmp .le 7, 3) := by decide +kernel
theorem dX8_load_69 : decode cX8_load 69 = .ok (.iconst 2, 1) := by decide +kernel
theorem dX8_load_70 : decode cX8_load 70 = .ok (.goto 4, 3) := by decide +kernel
theorem dX8_load_73 : decode cX8_load 73 = .ok (.iconst 0, 1) := by decide +kernel
theorem dX8_load_74 : decode cX8_load 74 = .ok (.putfield 44, 3) := by decide +kernel
theorem dX8_load_77 : decode cX8_load 77 = .ok (.aload_n 0, 1) := by decide +kernel
theorem dX8_load_78 : decode cX8_load 78 = .ok (.getfield 44, 3) := by decide +kernel
theorem dX8_load_81 : decode cX8_load 81 = .ok (.ifCond .le 5, 3) := by decide +kernel
theorem dX8_load_84 : decode cX8_load 84 = .ok (.iconst 0, 1) := by decide +kernel
theorem dX8_load_85 : decode cX8_load 85 = .ok (.ireturn, 1) := by decide +kernel
theorem dX8_load_86 : decode cX8_load 86 = .ok (.aload_n 0, 1) := by decide +kernel
theorem dX8_load_87 : decode cX8_load 87 = .ok (.invokevirtual 104, 3) := by decide +kernel
theorem dX8_load_90 : decode cX8_load 90 = .ok (.iconst 0, 1) := by decide +kernel
theorem dX8_load_91 : decode cX8_load 91 = .ok (.istore_n 2, 1) := by decide +kernel
theorem dX8_load_92 : decode cX8_load 92 = .ok (.iload_n 2, 1) := by decide +kernel
theorem dX8_load_93 : decode cX8_load 93 = .ok (.aload_n 0, 1) := by decide +kernel
theorem dX8_load_94 : decode cX8_load 94 = .ok (.getfield 135, 3) := by decide +kernel
theorem dX8_load_97 : decode cX8_load 97 = .ok (.if_icmp .ge 61, 3) := by decide +kernel
theorem dX8_load_100 : decode cX8_load 100 = .ok (.aload_n 0, 1) := by decide +kernel
theorem dX8_load_101 : decode cX8_load 101 = .ok (.aload_n 0, 1) := by decide +kernel
theorem dX8_load_102 : decode cX8_load 102 = .ok (.getfield 38, 3) := by decide +kernel
theorem dX8_load_105 : decode cX8_load 105 = .ok (.iconst 5, 1) := by decide +kernel
theorem dX8_load_106 : decode cX8_load 106 = .ok (.iload_n 2, 1) := by decide +kernel
theorem dX8_load_107 : decode cX8_load 107 = .ok (.imul, 1) := by decide +kernel
theorem dX8_load_108 : decode cX8_load 108 = .ok (.iaload, 1) := by decide +kernel
theorem dX8_load_109 : decode cX8_load 109 = .ok (.aload_n 0, 1) := by decide +kernel
theorem dX8_load_110 : decode cX8_load 110 = .ok (.getfield 38, 3) := by decide +kernel
theorem dX8_load_113 : decode cX8_load 113 = .ok (.iconst 5, 1) := by decide +kernel
theorem dX8_load_114 : decode cX8_load 114 = .ok (.iload_n 2, 1) := by decide +kernel
theorem dX8_load_115 : decode cX8_load 115 = .ok (.imul, 1) := by decide +kernel
theorem dX8_load_116 : decode cX8_load 116 = .ok (.iconst 1, 1) := by decide +kernel
theorem dX8_load_117 : decode cX8_load 117 = .ok (.iadd, 1) := by decide +kernel
theorem dX8_load_118 : decode cX8_load 118 = .ok (.iaload, 1) := by decide +kernel
theorem dX8_load_119 : decode cX8_load 119 = .ok (.aload_n 0, 1) := by decide +kernel
theorem dX8_load_120 : decode cX8_load 120 = .ok (.getfield 38, 3) := by decide +kernel
theorem dX8_load_123 : decode cX8_load 123 = .ok (.iconst 5, 1) := by decide +kernel
theorem dX8_load_124 : decode cX8_load 124 = .ok (.iload_n 2, 1) := by decide +kernel
theorem dX8_load_125 : decode cX8_load 125 = .ok (.imul, 1) := by decide +kernel
theorem dX8_load_126 : decode cX8_load 126 = .ok (.iconst 2, 1) := by decide +kernel
theorem dX8_load_127 : decode cX8_load 127 = .ok (.iadd, 1) := by decide +kernel
theorem dX8_load_128 : decode cX8_load 128 = .ok (.iaload, 1) := by decide +kernel
theorem dX8_load_129 : decode cX8_load 129 = .ok (.aload_n 0, 1) := by decide +kernel
theorem dX8_load_130 : decode cX8_load 130 = .ok (.getfield 38, 3) := by decide +kernel
theorem dX8_load_133 : decode cX8_load 133 = .ok (.iconst 5, 1) := by decide +kernel
theorem dX8_load_134 : decode cX8_load 134 = .ok (.iload_n 2, 1) := by decide +kernel
theorem dX8_load_135 : decode cX8_load 135 = .ok (.imul, 1) := by decide +kernel
theorem dX8_load_136 : decode cX8_load 136 = .ok (.iconst 3, 1) := by decide +kernel
theorem dX8_load_137 : decode cX8_load 137 = .ok (.iadd, 1) := by decide +kernel
theorem dX8_load_138 : decode cX8_load 138 = .ok (.iaload, 1) := by decide +kernel
theorem dX8_load_139 : decode cX8_load 139 = .ok (.aload_n 0, 1) := by decide +kernel
theorem dX8_load_140 : decode cX8_load 140 = .ok (.getfield 38, 3) := by decide +kernel
theorem dX8_load_143 : decode cX8_load 143 = .ok (.iconst 5, 1) := by decide +kernel
theorem dX8_load_144 : decode cX8_load 144 = .ok (.iload_n 2, 1) := by decide +kernel
theorem dX8_load_145 : decode cX8_load 145 = .ok (.imul, 1) := by decide +kernel
theorem dX8_load_146 : decode cX8_load 146 = .ok (.iconst 4, 1) := by decide +kernel
theorem dX8_load_147 : decode cX8_load 147 = .ok (.iadd, 1) := by decide +kernel
theorem dX8_load_148 : decode cX8_load 148 = .ok (.iaload, 1) := by decide +kernel
theorem dX8_load_149 : decode cX8_load 149 = .ok (.invokevirtual 107, 3) := by decide +kernel
theorem dX8_load_152 : decode cX8_load 152 = .ok (.iinc 2 1, 3) := by decide +kernel
theorem dX8_load_155 : decode cX8_load 155 = .ok (.goto (-63), 3) := by decide +kernel
theorem dX8_load_158 : decode cX8_load 158 = .ok (.aload_n 0, 1) := by decide +kernel
theorem dX8_load_159 : decode cX8_load 159 = .ok (.invokevirtual 111, 3) := by decide +kernel
theorem dX8_load_162 : decode cX8_load 162 = .ok (.aload_n 0, 1) := by decide +kernel
theorem dX8_load_163 : decode cX8_load 163 = .ok (.iconst 0, 1) := by decide +kernel
theorem dX8_load_164 : decode cX8_load 164 = .ok (.putfield 129, 3) := by decide +kernel
theorem dX8_load_167 : decode cX8_load 167 = .ok (.aload_n 0, 1) := by decide +kernel
theorem dX8_load_168 : decode cX8_load 168 = .ok (.getfield 7, 3) := by decide +kernel
theorem dX8_load_171 : decode cX8_load 171 = .ok (.bipush 20, 2) := by decide +kernel
theorem dX8_load_173 : decode cX8_load 173 = .ok (.iaload, 1) := by decide +kernel
theorem dX8_load_174 : decode cX8_load 174 = .ok (.ireturn, 1) := by decide +kernel
theorem dX8_withPlace_0 : decode cX8_withPlace 0 = .ok (.iconst 0, 1) := by decide +kernel
theorem dX8_withPlace_1 : decode cX8_withPlace 1 = .ok (.istore_n 2, 1) := by decide +kernel
theorem dX8_withPlace_2 : decode cX8_withPlace 2 = .ok (.iconst 0, 1) := by decide +kernel
theorem dX8_withPlace_3 : decode cX8_withPlace 3 = .ok (.istore_n 3, 1) := by decide +kernel
theorem dX8_withPlace_4 : decode cX8_withPlace 4 = .ok (.iload_n 3, 1) := by decide +kernel
theorem dX8_withPlace_5 : decode cX8_withPlace 5 = .ok (.aload_n 0, 1) := by decide +kernel
theorem dX8_withPlace_6 : decode cX8_withPlace 6 = .ok (.getfield 7, 3) := by decide +kernel
theorem dX8_withPlace_9 : decode cX8_withPlace 9 = .ok (.bipush 20, 2) := by decide +kernel
theorem dX8_withPlace_11 : decode cX8_withPlace 11 = .ok (.iaload, 1) := by decide +kernel
theorem dX8_withPlace_12 : decode cX8_withPlace 12 = .ok (.if_icmp .ge 37, 3) := by decide +kernel
theorem dX8_withPlace_15 : decode cX8_withPlace 15 = .ok (.iload_n 2, 1) := by decide +kernel
theorem dX8_withPlace_16 : decode cX8_withPlace 16 = .ok (.aload_n 0, 1) := by decide +kernel
theorem dX8_withPlace_17 : decode cX8_withPlace 17 = .ok (.iload_n 3, 1) := by decide +kernel
theorem dX8_withPlace_18 : decode cX8_withPlace 18 = .ok (.iconst 0, 1) := by decide +kernel
theorem dX8_withPlace_19 : decode cX8_withPlace 19 = .ok (.invokevirtual 74, 3) := by decide +kernel
theorem dX8_withPlace_22 : decode cX8_withPlace 22 = .ok (.iload_n 1, 1) := by decide +kernel
theorem dX8_withPlace_23 : decode cX8_withPlace 23 = .ok (.if_icmp .eq 13, 3) := by decide +kernel
theorem dX8_withPlace_26 : decode cX8_withPlace 26 = .ok (.aload_n 0, 1) := by decide +kernel
theorem dX8_withPlace_27 : decode cX8_withPlace 27 = .ok (.iload_n 3, 1) := by decide +kernel
theorem dX8_withPlace_28 : decode cX8_withPlace 28 = .ok (.iconst 1, 1) := by decide +kernel
theorem dX8_withPlace_29 : decode cX8_withPlace 29 = .ok (.invokevirtual 74, 3) := by decide +kernel
theorem dX8_withPlace_32 : decode cX8_withPlace 32 = .ok (.iload_n 1, 1) := by decide +kernel
theorem dX8_withPlace_33 : decode cX8_withPlace 33 = .ok (.if_icmp .ne 7, 3) := by decide +kernel
theorem dX8_withPlace_36 : decode cX8_withPlace 36 = .ok (.iconst 1, 1) := by decide +kernel
theorem dX8_withPlace_37 : decode cX8_withPlace 37 = .ok (.goto 4, 3) := by decide +kernel
theorem dX8_withPlace_40 : decode cX8_withPlace 40 = .ok (.iconst 0, 1) := by decide +kernel
theorem dX8_withPlace_41 : decode cX8_withPlace 41 = .ok (.iadd, 1) := by decide +kernel
theorem dX8_withPlace_42 : decode cX8_withPlace 42 = .ok (.istore_n 2, 1) := by decide +kernel
theorem dX8_withPlace_43 : decode cX8_withPlace 43 = .ok (.iinc 3 1, 3) := by decide +kernel
theorem dX8_withPlace_46 : decode cX8_withPlace 46 = .ok (.goto (-42), 3) := by decide +kernel
theorem dX8_withPlace_49 : decode cX8_withPlace 49 = .ok (.iload_n 2, 1) := by decide +kernel
theorem dX8_withPlace_50 : decode cX8_withPlace 50 = .ok (.ireturn, 1) := by decide +kernel
theorem dX8_placeNow_0 : decode cX8_placeNow 0 = .ok (.iload_n 2, 1) := by decide +kernel
theorem dX8_placeNow_1 : decode cX8_placeNow 1 = .ok (.tableswitch 70 0 4 #[35, 42, 52, 58, 64], 35) := by decide +kernel
theorem dX8_placeNow_36 : decode cX8_placeNow 36 = .ok (.aload_n 0, 1) := by decide +kernel
theorem dX8_placeNow_37 : decode cX8_placeNow 37 = .ok (.getfield 7, 3) := by decide +kernel
theorem dX8_placeNow_40 : decode cX8_placeNow 40 = .ok (.iload_n 1, 1) := by decide +kernel
theorem dX8_placeNow_41 : decode cX8_placeNow 41 = .ok (.iaload, 1) := by decide +kernel
theorem dX8_placeNow_42 : decode cX8_placeNow 42 = .ok (.ireturn, 1) := by decide +kernel
theorem dX8_placeNow_43 : decode cX8_placeNow 43 = .ok (.aload_n 0, 1) := by decide +kernel
theorem dX8_placeNow_44 : decode cX8_placeNow 44 = .ok (.getfield 7, 3) := by decide +kernel
theorem dX8_placeNow_47 : decode cX8_placeNow 47 = .ok (.bipush 10, 2) := by decide +kernel
theorem dX8_placeNow_49 : decode cX8_placeNow 49 = .ok (.iload_n 1, 1) := by decide +kernel
theorem dX8_placeNow_50 : decode cX8_placeNow 50 = .ok (.iadd, 1) := by decide +kernel
theorem dX8_placeNow_51 : decode cX8_placeNow 51 = .ok (.iaload, 1) := by decide +kernel
theorem dX8_placeNow_52 : decode cX8_placeNow 52 = .ok (.ireturn, 1) := by decide +kernel
theorem dX8_placeNow_53 : decode cX8_placeNow 53 = .ok (.aload_n 0, 1) := by decide +kernel
theorem dX8_placeNow_54 : decode cX8_placeNow 54 = .ok (.iload_n 1, 1) := by decide +kernel
theorem dX8_placeNow_55 : decode cX8_placeNow 55 = .ok (.invokevirtual 81, 3) := by decide +kernel
theorem dX8_placeNow_58 : decode cX8_placeNow 58 = .ok (.ireturn, 1) := by decide +kernel
theorem dX8_placeNow_59 : decode cX8_placeNow 59 = .ok (.aload_n 0, 1) := by decide +kernel
theorem dX8_placeNow_60 : decode cX8_placeNow 60 = .ok (.iload_n 1, 1) := by decide +kernel
theorem dX8_placeNow_61 : decode cX8_placeNow 61 = .ok (.invokevirtual 85, 3) := by decide +kernel
theorem dX8_placeNow_64 : decode cX8_placeNow 64 = .ok (.ireturn, 1) := by decide +kernel
theorem dX8_placeNow_65 : decode cX8_placeNow 65 = .ok (.aload_n 0, 1) := by decide +kernel
theorem dX8_placeNow_66 : decode cX8_placeNow 66 = .ok (.iload_n 1, 1) := by decide +kernel
theorem dX8_placeNow_67 : decode cX8_placeNow 67 = .ok (.invokevirtual 170, 3) := by decide +kernel
theorem dX8_placeNow_70 : decode cX8_placeNow 70 = .ok (.ireturn, 1) := by decide +kernel
theorem dX8_placeNow_71 : decode cX8_placeNow 71 = .ok (.aload_n 0, 1) := by decide +kernel
theorem dX8_placeNow_72 : decode cX8_placeNow 72 = .ok (.iload_n 1, 1) := by decide +kernel
theorem dX8_placeNow_73 : decode cX8_placeNow 73 = .ok (.invokevirtual 120, 3) := by decide +kernel
theorem dX8_placeNow_76 : decode cX8_placeNow 76 = .ok (.ireturn, 1) := by decide +kernel
theorem dX8_place_0 : decode cX8_place 0 = .ok (.aload_n 0, 1) := by decide +kernel
theorem dX8_place_1 : decode cX8_place 1 = .ok (.iload_n 1, 1) := by decide +kernel
theorem dX8_place_2 : decode cX8_place 2 = .ok (.invokestatic 94, 3) := by decide +kernel
theorem dX8_place_5 : decode cX8_place 5 = .ok (.ifCond .ne 7, 3) := by decide +kernel
theorem dX8_place_8 : decode cX8_place 8 = .ok (.iconst 1, 1) := by decide +kernel
theorem dX8_place_9 : decode cX8_place 9 = .ok (.goto 17, 3) := by decide +kernel
theorem dX8_place_12 : decode cX8_place 12 = .ok (.iload_n 2, 1) := by decide +kernel
theorem dX8_place_13 : decode cX8_place 13 = .ok (.iconst 0, 1) := by decide +kernel
theorem dX8_place_14 : decode cX8_place 14 = .ok (.iconst 5, 1) := by decide +kernel
theorem dX8_place_15 : decode cX8_place 15 = .ok (.invokestatic 48, 3) := by decide +kernel
theorem dX8_place_18 : decode cX8_place 18 = .ok (.ifCond .eq 7, 3) := by decide +kernel
theorem dX8_place_21 : decode cX8_place 21 = .ok (.iconst 0, 1) := by decide +kernel
theorem dX8_place_22 : decode cX8_place 22 = .ok (.goto 4, 3) := by decide +kernel
theorem dX8_place_25 : decode cX8_place 25 = .ok (.iconst 2, 1) := by decide +kernel
theorem dX8_place_26 : decode cX8_place 26 = .ok (.putfield 44, 3) := by decide +kernel
theorem dX8_place_29 : decode cX8_place 29 = .ok (.aload_n 0, 1) := by decide +kernel
theorem dX8_place_30 : decode cX8_place 30 = .ok (.getfield 44, 3) := by decide +kernel
theorem dX8_place_33 : decode cX8_place 33 = .ok (.ifCond .le 5, 3) := by decide +kernel
theorem dX8_place_36 : decode cX8_place 36 = .ok (.iconst 0, 1) := by decide +kernel
theorem dX8_place_37 : decode cX8_place 37 = .ok (.ireturn, 1) := by decide +kernel
theorem dX8_place_38 : decode cX8_place 38 = .ok (.aload_n 0, 1) := by decide +kernel
theorem dX8_place_39 : decode cX8_place 39 = .ok (.iconst (-1), 1) := by decide +kernel
theorem dX8_place_40 : decode cX8_place 40 = .ok (.invokevirtual 77, 3) := by decide +kernel
theorem dX8_place_43 : decode cX8_place 43 = .ok (.aload_n 0, 1) := by decide +kernel
theorem dX8_place_44 : decode cX8_place 44 = .ok (.iload_n 1, 1) := by decide +kernel
theorem dX8_place_45 : decode cX8_place 45 = .ok (.iload_n 2, 1) := by decide +kernel
theorem dX8_place_46 : decode cX8_place 46 = .ok (.invokevirtual 173, 3) := by decide +kernel
theorem dX8_place_49 : decode cX8_place 49 = .ok (.ireturn, 1) := by decide +kernel
theorem dX8_holds_0 : decode cX8_holds 0 = .ok (.aload_n 0, 1) := by decide +kernel
theorem dX8_holds_1 : decode cX8_holds 1 = .ok (.getfield 7, 3) := by decide +kernel
theorem dX8_holds_4 : decode cX8_holds 4 = .ok (.aload_n 0, 1) := by decide +kernel
theorem dX8_holds_5 : decode cX8_holds 5 = .ok (.iload_n 1, 1) := by decide +kernel
theorem dX8_holds_6 : decode cX8_holds 6 = .ok (.iconst 0, 1) := by decide +kernel
theorem dX8_holds_7 : decode cX8_holds 7 = .ok (.invokevirtual 74, 3) := by decide +kernel
theorem dX8_holds_10 : decode cX8_holds 10 = .ok (.iaload, 1) := by decide +kernel
theorem dX8_holds_11 : decode cX8_holds 11 = .ok (.aload_n 0, 1) := by decide +kernel
theorem dX8_holds_12 : decode cX8_holds 12 = .ok (.iload_n 1, 1) := by decide +kernel
theorem dX8_holds_13 : decode cX8_holds 13 = .ok (.iconst 1, 1) := by decide +kernel
theorem dX8_holds_14 : decode cX8_holds 14 = .ok (.invokevirtual 74, 3) := by decide +kernel
theorem dX8_holds_17 : decode cX8_holds 17 = .ok (.iconst (-1), 1) := by decide +kernel
theorem dX8_holds_18 : decode cX8_holds 18 = .ok (.if_icmp .ne 7, 3) := by decide +kernel
theorem dX8_holds_21 : decode cX8_holds 21 = .ok (.iconst 0, 1) := by decide +kernel
theorem dX8_holds_22 : decode cX8_holds 22 = .ok (.goto 14, 3) := by decide +kernel
theorem dX8_holds_25 : decode cX8_holds 25 = .ok (.aload_n 0, 1) := by decide +kernel
theorem dX8_holds_26 : decode cX8_holds 26 = .ok (.getfield 7, 3) := by decide +kernel
theorem dX8_holds_29 : decode cX8_holds 29 = .ok (.aload_n 0, 1) := by decide +kernel
theorem dX8_holds_30 : decode cX8_holds 30 = .ok (.iload_n 1, 1) := by decide +kernel
theorem dX8_holds_31 : decode cX8_holds 31 = .ok (.iconst 1, 1) := by decide +kernel
theorem dX8_holds_32 : decode cX8_holds 32 = .ok (.invokevirtual 74, 3) := by decide +kernel
theorem dX8_holds_35 : decode cX8_holds 35 = .ok (.iaload, 1) := by decide +kernel
theorem dX8_holds_36 : decode cX8_holds 36 = .ok (.isub, 1) := by decide +kernel
theorem dX8_holds_37 : decode cX8_holds 37 = .ok (.istore_n 2, 1) := by decide +kernel
theorem dX8_holds_38 : decode cX8_holds 38 = .ok (.aload_n 0, 1) := by decide +kernel
theorem dX8_holds_39 : decode cX8_holds 39 = .ok (.iload_n 1, 1) := by decide +kernel
theorem dX8_holds_40 : decode cX8_holds 40 = .ok (.iconst 2, 1) := by decide +kernel
theorem dX8_holds_41 : decode cX8_holds 41 = .ok (.invokevirtual 74, 3) := by decide +kernel
theorem dX8_holds_44 : decode cX8_holds 44 = .ok (.istore_n 3, 1) := by decide +kernel
theorem dX8_holds_45 : decode cX8_holds 45 = .ok (.iload_n 3, 1) := by decide +kernel
theorem dX8_holds_46 : decode cX8_holds 46 = .ok (.ifCond .ne 21, 3) := by decide +kernel
theorem dX8_holds_49 : decode cX8_holds 49 = .ok (.iload_n 2, 1) := by decide +kernel
theorem dX8_holds_50 : decode cX8_holds 50 = .ok (.aload_n 0, 1) := by decide +kernel
theorem dX8_holds_51 : decode cX8_holds 51 = .ok (.iload_n 1, 1) := by decide +kernel
theorem dX8_holds_52 : decode cX8_holds 52 = .ok (.iconst 3, 1) := by decide +kernel
theorem dX8_holds_53 : decode cX8_holds 53 = .ok (.invokevirtual 74, 3) := by decide +kernel
theorem dX8_holds_56 : decode cX8_holds 56 = .ok (.if_icmp .gt 7, 3) := by decide +kernel
theorem dX8_holds_59 : decode cX8_holds 59 = .ok (.iconst 1, 1) := by decide +kernel
theorem dX8_holds_60 : decode cX8_holds 60 = .ok (.goto 45, 3) := by decide +kernel
theorem dX8_holds_63 : decode cX8_holds 63 = .ok (.iconst 0, 1) := by decide +kernel
theorem dX8_holds_64 : decode cX8_holds 64 = .ok (.goto 41, 3) := by decide +kernel
theorem dX8_holds_67 : decode cX8_holds 67 = .ok (.iload_n 3, 1) := by decide +kernel
theorem dX8_holds_68 : decode cX8_holds 68 = .ok (.iconst 1, 1) := by decide +kernel
theorem dX8_holds_69 : decode cX8_holds 69 = .ok (.if_icmp .ne 21, 3) := by decide +kernel
theorem dX8_holds_72 : decode cX8_holds 72 = .ok (.iload_n 2, 1) := by decide +kernel
theorem dX8_holds_73 : decode cX8_holds 73 = .ok (.aload_n 0, 1) := by decide +kernel
theorem dX8_holds_74 : decode cX8_holds 74 = .ok (.iload_n 1, 1) := by decide +kernel
theorem dX8_holds_75 : decode cX8_holds 75 = .ok (.iconst 3, 1) := by decide +kernel
theorem dX8_holds_76 : decode cX8_holds 76 = .ok (.invokevirtual 74, 3) := by decide +kernel
theorem dX8_holds_79 : decode cX8_holds 79 = .ok (.if_icmp .ne 7, 3) := by decide +kernel
theorem dX8_holds_82 : decode cX8_holds 82 = .ok (.iconst 1, 1) := by decide +kernel
theorem dX8_holds_83 : decode cX8_holds 83 = .ok (.goto 22, 3) := by decide +kernel
theorem dX8_holds_86 : decode cX8_holds 86 = .ok (.iconst 0, 1) := by decide +kernel
theorem dX8_holds_87 : decode cX8_holds 87 = .ok (.goto 18, 3) := by decide +kernel
theorem dX8_holds_90 : decode cX8_holds 90 = .ok (.iload_n 2, 1) := by decide +kernel
theorem dX8_holds_91 : decode cX8_holds 91 = .ok (.aload_n 0, 1) := by decide +kernel
theorem dX8_holds_92 : decode cX8_holds 92 = .ok (.iload_n 1, 1) := by decide +kernel
theorem dX8_holds_93 : decode cX8_holds 93 = .ok (.iconst 3, 1) := by decide +kernel
theorem dX8_holds_94 : decode cX8_holds 94 = .ok (.invokevirtual 74, 3) := by decide +kernel
theorem dX8_holds_97 : decode cX8_holds 97 = .ok (.if_icmp .lt 7, 3) := by decide +kernel
theorem dX8_holds_100 : decode cX8_holds 100 = .ok (.iconst 1, 1) := by decide +kernel
theorem dX8_holds_101 : decode cX8_holds 101 = .ok (.goto 4, 3) := by decide +kernel
theorem dX8_holds_104 : decode cX8_holds 104 = .ok (.iconst 0, 1) := by decide +kernel
theorem dX8_holds_105 : decode cX8_holds 105 = .ok (.ireturn, 1) := by decide +kernel
theorem dX8_culprits_0 : decode cX8_culprits 0 = .ok (.aload_n 0, 1) := by decide +kernel
theorem dX8_culprits_1 : decode cX8_culprits 1 = .ok (.getfield 22, 3) := by decide +kernel
theorem dX8_culprits_4 : decode cX8_culprits 4 = .ok (.iload_n 1, 1) := by decide +kernel
theorem dX8_culprits_5 : decode cX8_culprits 5 = .ok (.baload, 1) := by decide +kernel
theorem dX8_culprits_6 : decode cX8_culprits 6 = .ok (.ifCond .eq 5, 3) := by decide +kernel
theorem dX8_culprits_9 : decode cX8_culprits 9 = .ok (.iconst 0, 1) := by decide +kernel
theorem dX8_culprits_10 : decode cX8_culprits 10 = .ok (.ireturn, 1) := by decide +kernel
theorem dX8_culprits_11 : decode cX8_culprits 11 = .ok (.iconst 0, 1) := by decide +kernel
theorem dX8_culprits_12 : decode cX8_culprits 12 = .ok (.istore_n 2, 1) := by decide +kernel
theorem dX8_culprits_13 : decode cX8_culprits 13 = .ok (.iconst 0, 1) := by decide +kernel
theorem dX8_culprits_14 : decode cX8_culprits 14 = .ok (.istore_n 3, 1) := by decide +kernel
theorem dX8_culprits_15 : decode cX8_culprits 15 = .ok (.iconst 0, 1) := by decide +kernel
theorem dX8_culprits_16 : decode cX8_culprits 16 = .ok (.istore 4, 2) := by decide +kernel
theorem dX8_culprits_18 : decode cX8_culprits 18 = .ok (.iload 4, 2) := by decide +kernel
theorem dX8_culprits_20 : decode cX8_culprits 20 = .ok (.aload_n 0, 1) := by decide +kernel
theorem dX8_culprits_21 : decode cX8_culprits 21 = .ok (.getfield 7, 3) := by decide +kernel
theorem dX8_culprits_24 : decode cX8_culprits 24 = .ok (.bipush 20, 2) := by decide +kernel
theorem dX8_culprits_26 : decode cX8_culprits 26 = .ok (.iaload, 1) := by decide +kernel
theorem dX8_culprits_27 : decode cX8_culprits 27 = .ok (.if_icmp .ge 46, 3) := by decide +kernel
theorem dX8_culprits_30 : decode cX8_culprits 30 = .ok (.iload_n 2, 1) := by decide +kernel
theorem dX8_culprits_31 : decode cX8_culprits 31 = .ok (.aload_n 0, 1) := by decide +kernel
theorem dX8_culprits_32 : decode cX8_culprits 32 = .ok (.getfield 22, 3) := by decide +kernel
theorem dX8_culprits_35 : decode cX8_culprits 35 = .ok (.iload 4, 2) := by decide +kernel
theorem dX8_culprits_37 : decode cX8_culprits 37 = .ok (.baload, 1) := by decide +kernel
theorem dX8_culprits_38 : decode cX8_culprits 38 = .ok (.ifCond .eq 26, 3) := by decide +kernel
theorem dX8_culprits_41 : decode cX8_culprits 41 = .ok (.aload_n 0, 1) := by decide +kernel
theorem dX8_culprits_42 : decode cX8_culprits 42 = .ok (.getfield 29, 3) := by decide +kernel
theorem dX8_culprits_45 : decode cX8_culprits 45 = .ok (.iload 4, 2) := by decide +kernel
theorem dX8_culprits_47 : decode cX8_culprits 47 = .ok (.iaload, 1) := by decide +kernel
theorem dX8_culprits_48 : decode cX8_culprits 48 = .ok (.aload_n 0, 1) := by decide +kernel
theorem dX8_culprits_49 : decode cX8_culprits 49 = .ok (.getfield 29, 3) := by decide +kernel
theorem dX8_culprits_52 : decode cX8_culprits 52 = .ok (.iload_n 1, 1) := by decide +kernel
theorem dX8_culprits_53 : decode cX8_culprits 53 = .ok (.iaload, 1) := by decide +kernel
theorem dX8_culprits_54 : decode cX8_culprits 54 = .ok (.if_icmp .ge 10, 3) := by decide +kernel
theorem dX8_culprits_57 : decode cX8_culprits 57 = .ok (.iconst 1, 1) := by decide +kernel
theorem dX8_culprits_58 : decode cX8_culprits 58 = .ok (.iload 4, 2) := by decide +kernel
theorem dX8_culprits_60 : decode cX8_culprits 60 = .ok (.ishl, 1) := by decide +kernel
theorem dX8_culprits_61 : decode cX8_culprits 61 = .ok (.goto 4, 3) := by decide +kernel
theorem dX8_culprits_64 : decode cX8_culprits 64 = .ok (.iconst 0, 1) := by decide +kernel
theorem dX8_culprits_65 : decode cX8_culprits 65 = .ok (.ior, 1) := by decide +kernel
theorem dX8_culprits_66 : decode cX8_culprits 66 = .ok (.istore_n 2, 1) := by decide +kernel
theorem dX8_culprits_67 : decode cX8_culprits 67 = .ok (.iinc 4 1, 3) := by decide +kernel
theorem dX8_culprits_70 : decode cX8_culprits 70 = .ok (.goto (-52), 3) := by decide +kernel
theorem dX8_culprits_73 : decode cX8_culprits 73 = .ok (.iconst 0, 1) := by decide +kernel
theorem dX8_culprits_74 : decode cX8_culprits 74 = .ok (.istore 4, 2) := by decide +kernel
theorem dX8_culprits_76 : decode cX8_culprits 76 = .ok (.iload 4, 2) := by decide +kernel
theorem dX8_culprits_78 : decode cX8_culprits 78 = .ok (.aload_n 0, 1) := by decide +kernel
theorem dX8_culprits_79 : decode cX8_culprits 79 = .ok (.getfield 7, 3) := by decide +kernel
theorem dX8_culprits_82 : decode cX8_culprits 82 = .ok (.bipush 20, 2) := by decide +kernel
theorem dX8_culprits_84 : decode cX8_culprits 84 = .ok (.iaload, 1) := by decide +kernel
theorem dX8_culprits_85 : decode cX8_culprits 85 = .ok (.if_icmp .ge 45, 3) := by decide +kernel
theorem dX8_culprits_88 : decode cX8_culprits 88 = .ok (.iload_n 2, 1) := by decide +kernel
theorem dX8_culprits_89 : decode cX8_culprits 89 = .ok (.iload 4, 2) := by decide +kernel
theorem dX8_culprits_91 : decode cX8_culprits 91 = .ok (.ishr, 1) := by decide +kernel
theorem dX8_culprits_92 : decode cX8_culprits 92 = .ok (.iconst 1, 1) := by decide +kernel
theorem dX8_culprits_93 : decode cX8_culprits 93 = .ok (.iand, 1) := by decide +kernel
theorem dX8_culprits_94 : decode cX8_culprits 94 = .ok (.iconst 1, 1) := by decide +kernel
theorem dX8_culprits_95 : decode cX8_culprits 95 = .ok (.if_icmp .ne 29, 3) := by decide +kernel
theorem dX8_culprits_98 : decode cX8_culprits 98 = .ok (.aload_n 0, 1) := by decide +kernel
theorem dX8_culprits_99 : decode cX8_culprits 99 = .ok (.iload 4, 2) := by decide +kernel
theorem dX8_culprits_101 : decode cX8_culprits 101 = .ok (.invokevirtual 77, 3) := by decide +kernel
theorem dX8_culprits_104 : decode cX8_culprits 104 = .ok (.iload_n 3, 1) := by decide +kernel
theorem dX8_culprits_105 : decode cX8_culprits 105 = .ok (.aload_n 0, 1) := by decide +kernel
theorem dX8_culprits_106 : decode cX8_culprits 106 = .ok (.getfield 22, 3) := by decide +kernel
theorem dX8_culprits_109 : decode cX8_culprits 109 = .ok (.iload_n 1, 1) := by decide +kernel
theorem dX8_culprits_110 : decode cX8_culprits 110 = .ok (.baload, 1) := by decide +kernel
theorem dX8_culprits_111 : decode cX8_culprits 111 = .ok (.ifCond .eq 10, 3) := by decide +kernel
theorem dX8_culprits_114 : decode cX8_culprits 114 = .ok (.iconst 1, 1) := by decide +kernel
theorem dX8_culprits_115 : decode cX8_culprits 115 = .ok (.iload 4, 2) := by decide +kernel
theorem dX8_culprits_117 : decode cX8_culprits 117 = .ok (.ishl, 1) := by decide +kernel
theorem dX8_culprits_118 : decode cX8_culprits 118 = .ok (.goto 4, 3) := by decide +kernel
theorem dX8_culprits_121 : decode cX8_culprits 121 = .ok (.iconst 0, 1) := by decide +kernel
theorem dX8_culprits_122 : decode cX8_culprits 122 = .ok (.ior, 1) := by decide +kernel
theorem dX8_culprits_123 : decode cX8_culprits 123 = .ok (.istore_n 3, 1) := by decide +kernel
theorem dX8_culprits_124 : decode cX8_culprits 124 = .ok (.iinc 4 1, 3) := by decide +kernel
theorem dX8_culprits_127 : decode cX8_culprits 127 = .ok (.goto (-51), 3) := by decide +kernel
theorem dX8_culprits_130 : decode cX8_culprits 130 = .ok (.aload_n 0, 1) := by decide +kernel
theorem dX8_culprits_131 : decode cX8_culprits 131 = .ok (.iconst (-1), 1) := by decide +kernel
theorem dX8_culprits_132 : decode cX8_culprits 132 = .ok (.invokevirtual 77, 3) := by decide +kernel
theorem dX8_culprits_135 : decode cX8_culprits 135 = .ok (.iload_n 3, 1) := by decide +kernel
theorem dX8_culprits_136 : decode cX8_culprits 136 = .ok (.ireturn, 1) := by decide +kernel
theorem dX8_conditionNow_0 : decode cX8_conditionNow 0 = .ok (.iload_n 2, 1) := by decide +kernel
theorem dX8_conditionNow_1 : decode cX8_conditionNow 1 = .ok (.tableswitch 84 5 9 #[35, 50, 57, 64, 70], 35) := by decide +kernel
theorem dX8_conditionNow_36 : decode cX8_conditionNow 36 = .ok (.aload_n 0, 1) := by decide +kernel
theorem dX8_conditionNow_37 : decode cX8_conditionNow 37 = .ok (.getfield 22, 3) := by decide +kernel
theorem dX8_conditionNow_40 : decode cX8_conditionNow 40 = .ok (.iload_n 1, 1) := by decide +kernel
theorem dX8_conditionNow_41 : decode cX8_conditionNow 41 = .ok (.baload, 1) := by decide +kernel
theorem dX8_conditionNow_42 : decode cX8_conditionNow 42 = .ok (.ifCond .eq 7, 3) := by decide +kernel
theorem dX8_conditionNow_45 : decode cX8_conditionNow 45 = .ok (.iconst 1, 1) := by decide +kernel
theorem dX8_conditionNow_46 : decode cX8_conditionNow 46 = .ok (.goto 4, 3) := by decide +kernel
theorem dX8_conditionNow_49 : decode cX8_conditionNow 49 = .ok (.iconst 0, 1) := by decide +kernel
theorem dX8_conditionNow_50 : decode cX8_conditionNow 50 = .ok (.ireturn, 1) := by decide +kernel
theorem dX8_conditionNow_51 : decode cX8_conditionNow 51 = .ok (.aload_n 0, 1) := by decide +kernel
theorem dX8_conditionNow_52 : decode cX8_conditionNow 52 = .ok (.getfield 26, 3) := by decide +kernel
theorem dX8_conditionNow_55 : decode cX8_conditionNow 55 = .ok (.iload_n 1, 1) := by decide +kernel
theorem dX8_conditionNow_56 : decode cX8_conditionNow 56 = .ok (.iaload, 1) := by decide +kernel
theorem dX8_conditionNow_57 : decode cX8_conditionNow 57 = .ok (.ireturn, 1) := by decide +kernel
theorem dX8_conditionNow_58 : decode cX8_conditionNow 58 = .ok (.aload_n 0, 1) := by decide +kernel
theorem dX8_conditionNow_59 : decode cX8_conditionNow 59 = .ok (.getfield 29, 3) := by decide +kernel
theorem dX8_conditionNow_62 : decode cX8_conditionNow 62 = .ok (.iload_n 1, 1) := by decide +kernel
theorem dX8_conditionNow_63 : decode cX8_conditionNow 63 = .ok (.iaload, 1) := by decide +kernel
theorem dX8_conditionNow_64 : decode cX8_conditionNow 64 = .ok (.ireturn, 1) := by decide +kernel
theorem dX8_conditionNow_65 : decode cX8_conditionNow 65 = .ok (.aload_n 0, 1) := by decide +kernel
theorem dX8_conditionNow_66 : decode cX8_conditionNow 66 = .ok (.iload_n 1, 1) := by decide +kernel
theorem dX8_conditionNow_67 : decode cX8_conditionNow 67 = .ok (.invokevirtual 176, 3) := by decide +kernel
theorem dX8_conditionNow_70 : decode cX8_conditionNow 70 = .ok (.ireturn, 1) := by decide +kernel
theorem dX8_conditionNow_71 : decode cX8_conditionNow 71 = .ok (.aload_n 0, 1) := by decide +kernel
theorem dX8_conditionNow_72 : decode cX8_conditionNow 72 = .ok (.iload_n 1, 1) := by decide +kernel
theorem dX8_conditionNow_73 : decode cX8_conditionNow 73 = .ok (.invokevirtual 179, 3) := by decide +kernel
theorem dX8_conditionNow_76 : decode cX8_conditionNow 76 = .ok (.ifCond .eq 7, 3) := by decide +kernel
theorem dX8_conditionNow_79 : decode cX8_conditionNow 79 = .ok (.iconst 1, 1) := by decide +kernel
theorem dX8_conditionNow_80 : decode cX8_conditionNow 80 = .ok (.goto 4, 3) := by decide +kernel
theorem dX8_conditionNow_83 : decode cX8_conditionNow 83 = .ok (.iconst 0, 1) := by decide +kernel
theorem dX8_conditionNow_84 : decode cX8_conditionNow 84 = .ok (.ireturn, 1) := by decide +kernel
theorem dX8_conditionNow_85 : decode cX8_conditionNow 85 = .ok (.aload_n 0, 1) := by decide +kernel
theorem dX8_conditionNow_86 : decode cX8_conditionNow 86 = .ok (.iload_n 1, 1) := by decide +kernel
theorem dX8_conditionNow_87 : decode cX8_conditionNow 87 = .ok (.iload_n 2, 1) := by decide +kernel
theorem dX8_conditionNow_88 : decode cX8_conditionNow 88 = .ok (.invokevirtual 74, 3) := by decide +kernel
theorem dX8_conditionNow_91 : decode cX8_conditionNow 91 = .ok (.ireturn, 1) := by decide +kernel
theorem dX8_condition_0 : decode cX8_condition 0 = .ok (.aload_n 0, 1) := by decide +kernel
theorem dX8_condition_1 : decode cX8_condition 1 = .ok (.aload_n 0, 1) := by decide +kernel
theorem dX8_condition_2 : decode cX8_condition 2 = .ok (.iload_n 1, 1) := by decide +kernel
theorem dX8_condition_3 : decode cX8_condition 3 = .ok (.invokevirtual 114, 3) := by decide +kernel
theorem dX8_condition_6 : decode cX8_condition 6 = .ok (.ifCond .ne 7, 3) := by decide +kernel
theorem dX8_condition_9 : decode cX8_condition 9 = .ok (.iconst 1, 1) := by decide +kernel
theorem dX8_condition_10 : decode cX8_condition 10 = .ok (.goto 18, 3) := by decide +kernel
theorem dX8_condition_13 : decode cX8_condition 13 = .ok (.iload_n 2, 1) := by decide +kernel
theorem dX8_condition_14 : decode cX8_condition 14 = .ok (.iconst 0, 1) := by decide +kernel
theorem dX8_condition_15 : decode cX8_condition 15 = .ok (.bipush 9, 2) := by decide +kernel
theorem dX8_condition_17 : decode cX8_condition 17 = .ok (.invokestatic 48, 3) := by decide +kernel
theorem dX8_condition_20 : decode cX8_condition 20 = .ok (.ifCond .eq 7, 3) := by decide +kernel
theorem dX8_condition_23 : decode cX8_condition 23 = .ok (.iconst 0, 1) := by decide +kernel
theorem dX8_condition_24 : decode cX8_condition 24 = .ok (.goto 4, 3) := by decide +kernel
theorem dX8_condition_27 : decode cX8_condition 27 = .ok (.iconst 2, 1) := by decide +kernel
theorem dX8_condition_28 : decode cX8_condition 28 = .ok (.putfield 44, 3) := by decide +kernel
theorem dX8_condition_31 : decode cX8_condition 31 = .ok (.aload_n 0, 1) := by decide +kernel
theorem dX8_condition_32 : decode cX8_condition 32 = .ok (.getfield 44, 3) := by decide +kernel
theorem dX8_condition_35 : decode cX8_condition 35 = .ok (.ifCond .le 5, 3) := by decide +kernel
theorem dX8_condition_38 : decode cX8_condition 38 = .ok (.iconst 0, 1) := by decide +kernel
theorem dX8_condition_39 : decode cX8_condition 39 = .ok (.ireturn, 1) := by decide +kernel
theorem dX8_condition_40 : decode cX8_condition 40 = .ok (.aload_n 0, 1) := by decide +kernel
theorem dX8_condition_41 : decode cX8_condition 41 = .ok (.iconst (-1), 1) := by decide +kernel
theorem dX8_condition_42 : decode cX8_condition 42 = .ok (.invokevirtual 77, 3) := by decide +kernel
theorem dX8_condition_45 : decode cX8_condition 45 = .ok (.aload_n 0, 1) := by decide +kernel
theorem dX8_condition_46 : decode cX8_condition 46 = .ok (.iload_n 1, 1) := by decide +kernel
theorem dX8_condition_47 : decode cX8_condition 47 = .ok (.iload_n 2, 1) := by decide +kernel
theorem dX8_condition_48 : decode cX8_condition 48 = .ok (.invokevirtual 182, 3) := by decide +kernel
theorem dX8_condition_51 : decode cX8_condition 51 = .ok (.ireturn, 1) := by decide +kernel
theorem dX8_editedNow_0 : decode cX8_editedNow 0 = .ok (.iload_n 2, 1) := by decide +kernel
theorem dX8_editedNow_1 : decode cX8_editedNow 1 = .ok (.iconst 3, 1) := by decide +kernel
theorem dX8_editedNow_2 : decode cX8_editedNow 2 = .ok (.if_icmp .ge 12, 3) := by decide +kernel
theorem dX8_editedNow_5 : decode cX8_editedNow 5 = .ok (.aload_n 0, 1) := by decide +kernel
theorem dX8_editedNow_6 : decode cX8_editedNow 6 = .ok (.iload_n 1, 1) := by decide +kernel
theorem dX8_editedNow_7 : decode cX8_editedNow 7 = .ok (.iload_n 2, 1) := by decide +kernel
theorem dX8_editedNow_8 : decode cX8_editedNow 8 = .ok (.invokevirtual 66, 3) := by decide +kernel
theorem dX8_editedNow_11 : decode cX8_editedNow 11 = .ok (.goto 31, 3) := by decide +kernel
theorem dX8_editedNow_14 : decode cX8_editedNow 14 = .ok (.iload_n 2, 1) := by decide +kernel
theorem dX8_editedNow_15 : decode cX8_editedNow 15 = .ok (.iconst 3, 1) := by decide +kernel
theorem dX8_editedNow_16 : decode cX8_editedNow 16 = .ok (.if_icmp .ne 20, 3) := by decide +kernel
theorem dX8_editedNow_19 : decode cX8_editedNow 19 = .ok (.aload_n 0, 1) := by decide +kernel
theorem dX8_editedNow_20 : decode cX8_editedNow 20 = .ok (.getfield 32, 3) := by decide +kernel
theorem dX8_editedNow_23 : decode cX8_editedNow 23 = .ok (.iload_n 1, 1) := by decide +kernel
theorem dX8_editedNow_24 : decode cX8_editedNow 24 = .ok (.baload, 1) := by decide +kernel
theorem dX8_editedNow_25 : decode cX8_editedNow 25 = .ok (.ifCond .eq 7, 3) := by decide +kernel
theorem dX8_editedNow_28 : decode cX8_editedNow 28 = .ok (.iconst 1, 1) := by decide +kernel
theorem dX8_editedNow_29 : decode cX8_editedNow 29 = .ok (.goto 13, 3) := by decide +kernel
theorem dX8_editedNow_32 : decode cX8_editedNow 32 = .ok (.iconst 0, 1) := by decide +kernel
theorem dX8_editedNow_33 : decode cX8_editedNow 33 = .ok (.goto 9, 3) := by decide +kernel
theorem dX8_editedNow_36 : decode cX8_editedNow 36 = .ok (.aload_n 0, 1) := by decide +kernel
theorem dX8_editedNow_37 : decode cX8_editedNow 37 = .ok (.getfield 35, 3) := by decide +kernel
theorem dX8_editedNow_40 : decode cX8_editedNow 40 = .ok (.iload_n 1, 1) := by decide +kernel
theorem dX8_editedNow_41 : decode cX8_editedNow 41 = .ok (.iaload, 1) := by decide +kernel
theorem dX8_editedNow_42 : decode cX8_editedNow 42 = .ok (.ireturn, 1) := by decide +kernel
theorem dX8_edited_0 : decode cX8_edited 0 = .ok (.aload_n 0, 1) := by decide +kernel
theorem dX8_edited_1 : decode cX8_edited 1 = .ok (.iload_n 1, 1) := by decide +kernel
theorem dX8_edited_2 : decode cX8_edited 2 = .ok (.iconst 0, 1) := by decide +kernel
theorem dX8_edited_3 : decode cX8_edited 3 = .ok (.aload_n 0, 1) := by decide +kernel
theorem dX8_edited_4 : decode cX8_edited 4 = .ok (.getfield 7, 3) := by decide +kernel
theorem dX8_edited_7 : decode cX8_edited 7 = .ok (.bipush 101, 2) := by decide +kernel
theorem dX8_edited_9 : decode cX8_edited 9 = .ok (.iaload, 1) := by decide +kernel
theorem dX8_edited_10 : decode cX8_edited 10 = .ok (.iconst 1, 1) := by decide +kernel
theorem dX8_edited_11 : decode cX8_edited 11 = .ok (.isub, 1) := by decide +kernel
theorem dX8_edited_12 : decode cX8_edited 12 = .ok (.invokestatic 48, 3) := by decide +kernel
theorem dX8_edited_15 : decode cX8_edited 15 = .ok (.ifCond .ne 7, 3) := by decide +kernel
theorem dX8_edited_18 : decode cX8_edited 18 = .ok (.iconst 1, 1) := by decide +kernel
theorem dX8_edited_19 : decode cX8_edited 19 = .ok (.goto 17, 3) := by decide +kernel
theorem dX8_edited_22 : decode cX8_edited 22 = .ok (.iload_n 2, 1) := by decide +kernel
theorem dX8_edited_23 : decode cX8_edited 23 = .ok (.iconst 0, 1) := by decide +kernel
theorem dX8_edited_24 : decode cX8_edited 24 = .ok (.iconst 4, 1) := by decide +kernel
theorem dX8_edited_25 : decode cX8_edited 25 = .ok (.invokestatic 48, 3) := by decide +kernel
theorem dX8_edited_28 : decode cX8_edited 28 = .ok (.ifCond .eq 7, 3) := by decide +kernel
theorem dX8_edited_31 : decode cX8_edited 31 = .ok (.iconst 0, 1) := by decide +kernel
theorem dX8_edited_32 : decode cX8_edited 32 = .ok (.goto 4, 3) := by decide +kernel
theorem dX8_edited_35 : decode cX8_edited 35 = .ok (.iconst 2, 1) := by decide +kernel
theorem dX8_edited_36 : decode cX8_edited 36 = .ok (.putfield 44, 3) := by decide +kernel
theorem dX8_edited_39 : decode cX8_edited 39 = .ok (.aload_n 0, 1) := by decide +kernel
theorem dX8_edited_40 : decode cX8_edited 40 = .ok (.getfield 44, 3) := by decide +kernel
theorem dX8_edited_43 : decode cX8_edited 43 = .ok (.ifCond .le 5, 3) := by decide +kernel
theorem dX8_edited_46 : decode cX8_edited 46 = .ok (.iconst 0, 1) := by decide +kernel
theorem dX8_edited_47 : decode cX8_edited 47 = .ok (.ireturn, 1) := by decide +kernel
theorem dX8_edited_48 : decode cX8_edited 48 = .ok (.aload_n 0, 1) := by decide +kernel
theorem dX8_edited_49 : decode cX8_edited 49 = .ok (.iconst (-1), 1) := by decide +kernel
theorem dX8_edited_50 : decode cX8_edited 50 = .ok (.invokevirtual 77, 3) := by decide +kernel
theorem dX8_edited_53 : decode cX8_edited 53 = .ok (.aload_n 0, 1) := by decide +kernel
theorem dX8_edited_54 : decode cX8_edited 54 = .ok (.iload_n 1, 1) := by decide +kernel
theorem dX8_edited_55 : decode cX8_edited 55 = .ok (.iload_n 2, 1) := by decide +kernel
theorem dX8_edited_56 : decode cX8_edited 56 = .ok (.invokevirtual 185, 3) := by decide +kernel
theorem dX8_edited_59 : decode cX8_edited 59 = .ok (.ireturn, 1) := by decide +kernel
theorem dX8_widest_0 : decode cX8_widest 0 = .ok (.aload_n 0, 1) := by decide +kernel
theorem dX8_widest_1 : decode cX8_widest 1 = .ok (.iload_n 1, 1) := by decide +kernel
theorem dX8_widest_2 : decode cX8_widest 2 = .ok (.invokestatic 94, 3) := by decide +kernel
theorem dX8_widest_5 : decode cX8_widest 5 = .ok (.ifCond .eq 14, 3) := by decide +kernel
theorem dX8_widest_8 : decode cX8_widest 8 = .ok (.iload_n 2, 1) := by decide +kernel
theorem dX8_widest_9 : decode cX8_widest 9 = .ok (.invokestatic 94, 3) := by decide +kernel
theorem dX8_widest_12 : decode cX8_widest 12 = .ok (.ifCond .eq 7, 3) := by decide +kernel
theorem dX8_widest_15 : decode cX8_widest 15 = .ok (.iconst 0, 1) := by decide +kernel
theorem dX8_widest_16 : decode cX8_widest 16 = .ok (.goto 4, 3) := by decide +kernel
theorem dX8_widest_19 : decode cX8_widest 19 = .ok (.iconst 1, 1) := by decide +kernel
theorem dX8_widest_20 : decode cX8_widest 20 = .ok (.putfield 44, 3) := by decide +kernel
theorem dX8_widest_23 : decode cX8_widest 23 = .ok (.aload_n 0, 1) := by decide +kernel
theorem dX8_widest_24 : decode cX8_widest 24 = .ok (.getfield 44, 3) := by decide +kernel
theorem dX8_widest_27 : decode cX8_widest 27 = .ok (.ifCond .le 5, 3) := by decide +kernel
theorem dX8_widest_30 : decode cX8_widest 30 = .ok (.iconst 0, 1) := by decide +kernel
theorem dX8_widest_31 : decode cX8_widest 31 = .ok (.ireturn, 1) := by decide +kernel
theorem dX8_widest_32 : decode cX8_widest 32 = .ok (.aload_n 0, 1) := by decide +kernel
theorem dX8_widest_33 : decode cX8_widest 33 = .ok (.iconst (-1), 1) := by decide +kernel
theorem dX8_widest_34 : decode cX8_widest 34 = .ok (.invokevirtual 77, 3) := by decide +kernel
theorem dX8_widest_37 : decode cX8_widest 37 = .ok (.aload_n 0, 1) := by decide +kernel
theorem dX8_widest_38 : decode cX8_widest 38 = .ok (.getfield 19, 3) := by decide +kernel
theorem dX8_widest_41 : decode cX8_widest 41 = .ok (.bipush 11, 2) := by decide +kernel
theorem dX8_widest_43 : decode cX8_widest 43 = .ok (.iload_n 1, 1) := by decide +kernel
theorem dX8_widest_44 : decode cX8_widest 44 = .ok (.imul, 1) := by decide +kernel
theorem dX8_widest_45 : decode cX8_widest 45 = .ok (.iload_n 2, 1) := by decide +kernel
theorem dX8_widest_46 : decode cX8_widest 46 = .ok (.iadd, 1) := by decide +kernel
theorem dX8_widest_47 : decode cX8_widest 47 = .ok (.iaload, 1) := by decide +kernel
theorem dX8_widest_48 : decode cX8_widest 48 = .ok (.ireturn, 1) := by decide +kernel
theorem dX8_filledMany_0 : decode cX8_filledMany 0 = .ok (.iconst 0, 1) := by decide +kernel
theorem dX8_filledMany_1 : decode cX8_filledMany 1 = .ok (.istore_n 2, 1) := by decide +kernel
theorem dX8_filledMany_2 : decode cX8_filledMany 2 = .ok (.iconst 0, 1) := by decide +kernel
theorem dX8_filledMany_3 : decode cX8_filledMany 3 = .ok (.istore_n 3, 1) := by decide +kernel
theorem dX8_filledMany_4 : decode cX8_filledMany 4 = .ok (.iload_n 3, 1) := by decide +kernel
theorem dX8_filledMany_5 : decode cX8_filledMany 5 = .ok (.aload_n 0, 1) := by decide +kernel
theorem dX8_filledMany_6 : decode cX8_filledMany 6 = .ok (.getfield 7, 3) := by decide +kernel
theorem dX8_filledMany_9 : decode cX8_filledMany 9 = .ok (.bipush 20, 2) := by decide +kernel
theorem dX8_filledMany_11 : decode cX8_filledMany 11 = .ok (.iaload, 1) := by decide +kernel
theorem dX8_filledMany_12 : decode cX8_filledMany 12 = .ok (.if_icmp .ge 31, 3) := by decide +kernel
theorem dX8_filledMany_15 : decode cX8_filledMany 15 = .ok (.iload_n 2, 1) := by decide +kernel
theorem dX8_filledMany_16 : decode cX8_filledMany 16 = .ok (.iload_n 3, 1) := by decide +kernel
theorem dX8_filledMany_17 : decode cX8_filledMany 17 = .ok (.iload_n 1, 1) := by decide +kernel
theorem dX8_filledMany_18 : decode cX8_filledMany 18 = .ok (.if_icmp .eq 16, 3) := by decide +kernel
theorem dX8_filledMany_21 : decode cX8_filledMany 21 = .ok (.aload_n 0, 1) := by decide +kernel
theorem dX8_filledMany_22 : decode cX8_filledMany 22 = .ok (.getfield 22, 3) := by decide +kernel
theorem dX8_filledMany_25 : decode cX8_filledMany 25 = .ok (.iload_n 3, 1) := by decide +kernel
theorem dX8_filledMany_26 : decode cX8_filledMany 26 = .ok (.baload, 1) := by decide +kernel
theorem dX8_filledMany_27 : decode cX8_filledMany 27 = .ok (.ifCond .eq 7, 3) := by decide +kernel
theorem dX8_filledMany_30 : decode cX8_filledMany 30 = .ok (.iconst 1, 1) := by decide +kernel
theorem dX8_filledMany_31 : decode cX8_filledMany 31 = .ok (.goto 4, 3) := by decide +kernel
theorem dX8_filledMany_34 : decode cX8_filledMany 34 = .ok (.iconst 0, 1) := by decide +kernel
theorem dX8_filledMany_35 : decode cX8_filledMany 35 = .ok (.iadd, 1) := by decide +kernel
theorem dX8_filledMany_36 : decode cX8_filledMany 36 = .ok (.istore_n 2, 1) := by decide +kernel
theorem dX8_filledMany_37 : decode cX8_filledMany 37 = .ok (.iinc 3 1, 3) := by decide +kernel
theorem dX8_filledMany_40 : decode cX8_filledMany 40 = .ok (.goto (-36), 3) := by decide +kernel
theorem dX8_filledMany_43 : decode cX8_filledMany 43 = .ok (.iload_n 2, 1) := by decide +kernel
theorem dX8_filledMany_44 : decode cX8_filledMany 44 = .ok (.ireturn, 1) := by decide +kernel
theorem dX8_filledEdits_0 : decode cX8_filledEdits 0 = .ok (.iconst 0, 1) := by decide +kernel
theorem dX8_filledEdits_1 : decode cX8_filledEdits 1 = .ok (.istore_n 1, 1) := by decide +kernel
theorem dX8_filledEdits_2 : decode cX8_filledEdits 2 = .ok (.iconst 0, 1) := by decide +kernel
theorem dX8_filledEdits_3 : decode cX8_filledEdits 3 = .ok (.istore_n 2, 1) := by decide +kernel
theorem dX8_filledEdits_4 : decode cX8_filledEdits 4 = .ok (.iload_n 2, 1) := by decide +kernel
theorem dX8_filledEdits_5 : decode cX8_filledEdits 5 = .ok (.aload_n 0, 1) := by decide +kernel
theorem dX8_filledEdits_6 : decode cX8_filledEdits 6 = .ok (.getfield 7, 3) := by decide +kernel
theorem dX8_filledEdits_9 : decode cX8_filledEdits 9 = .ok (.bipush 101, 2) := by decide +kernel
theorem dX8_filledEdits_11 : decode cX8_filledEdits 11 = .ok (.iaload, 1) := by decide +kernel
theorem dX8_filledEdits_12 : decode cX8_filledEdits 12 = .ok (.if_icmp .ge 26, 3) := by decide +kernel
theorem dX8_filledEdits_15 : decode cX8_filledEdits 15 = .ok (.iload_n 1, 1) := by decide +kernel
theorem dX8_filledEdits_16 : decode cX8_filledEdits 16 = .ok (.aload_n 0, 1) := by decide +kernel
theorem dX8_filledEdits_17 : decode cX8_filledEdits 17 = .ok (.getfield 32, 3) := by decide +kernel
theorem dX8_filledEdits_20 : decode cX8_filledEdits 20 = .ok (.iload_n 2, 1) := by decide +kernel
theorem dX8_filledEdits_21 : decode cX8_filledEdits 21 = .ok (.baload, 1) := by decide +kernel
theorem dX8_filledEdits_22 : decode cX8_filledEdits 22 = .ok (.ifCond .eq 7, 3) := by decide +kernel
theorem dX8_filledEdits_25 : decode cX8_filledEdits 25 = .ok (.iconst 1, 1) := by decide +kernel
theorem dX8_filledEdits_26 : decode cX8_filledEdits 26 = .ok (.goto 4, 3) := by decide +kernel
theorem dX8_filledEdits_29 : decode cX8_filledEdits 29 = .ok (.iconst 0, 1) := by decide +kernel
theorem dX8_filledEdits_30 : decode cX8_filledEdits 30 = .ok (.iadd, 1) := by decide +kernel
theorem dX8_filledEdits_31 : decode cX8_filledEdits 31 = .ok (.istore_n 1, 1) := by decide +kernel
theorem dX8_filledEdits_32 : decode cX8_filledEdits 32 = .ok (.iinc 2 1, 3) := by decide +kernel
theorem dX8_filledEdits_35 : decode cX8_filledEdits 35 = .ok (.goto (-31), 3) := by decide +kernel
theorem dX8_filledEdits_38 : decode cX8_filledEdits 38 = .ok (.iload_n 1, 1) := by decide +kernel
theorem dX8_filledEdits_39 : decode cX8_filledEdits 39 = .ok (.ireturn, 1) := by decide +kernel
theorem dX8_fixed_0 : decode cX8_fixed 0 = .ok (.iconst 0, 1) := by decide +kernel
theorem dX8_fixed_1 : decode cX8_fixed 1 = .ok (.istore_n 1, 1) := by decide +kernel
theorem dX8_fixed_2 : decode cX8_fixed 2 = .ok (.iconst 0, 1) := by decide +kernel
theorem dX8_fixed_3 : decode cX8_fixed 3 = .ok (.istore_n 2, 1) := by decide +kernel
theorem dX8_fixed_4 : decode cX8_fixed 4 = .ok (.iload_n 2, 1) := by decide +kernel
theorem dX8_fixed_5 : decode cX8_fixed 5 = .ok (.bipush 10, 2) := by decide +kernel
theorem dX8_fixed_7 : decode cX8_fixed 7 = .ok (.if_icmp .ge 30, 3) := by decide +kernel
theorem dX8_fixed_10 : decode cX8_fixed 10 = .ok (.iload_n 1, 1) := by decide +kernel
theorem dX8_fixed_11 : decode cX8_fixed 11 = .ok (.aload_n 0, 1) := by decide +kernel
theorem dX8_fixed_12 : decode cX8_fixed 12 = .ok (.iload_n 2, 1) := by decide +kernel
theorem dX8_fixed_13 : decode cX8_fixed 13 = .ok (.invokevirtual 81, 3) := by decide +kernel
theorem dX8_fixed_16 : decode cX8_fixed 16 = .ok (.aload_n 0, 1) := by decide +kernel
theorem dX8_fixed_17 : decode cX8_fixed 17 = .ok (.iload_n 2, 1) := by decide +kernel
theorem dX8_fixed_18 : decode cX8_fixed 18 = .ok (.invokevirtual 85, 3) := by decide +kernel
theorem dX8_fixed_21 : decode cX8_fixed 21 = .ok (.if_icmp .ne 7, 3) := by decide +kernel
theorem dX8_fixed_24 : decode cX8_fixed 24 = .ok (.iconst 1, 1) := by decide +kernel
theorem dX8_fixed_25 : decode cX8_fixed 25 = .ok (.goto 4, 3) := by decide +kernel
theorem dX8_fixed_28 : decode cX8_fixed 28 = .ok (.iconst 0, 1) := by decide +kernel
theorem dX8_fixed_29 : decode cX8_fixed 29 = .ok (.iadd, 1) := by decide +kernel
theorem dX8_fixed_30 : decode cX8_fixed 30 = .ok (.istore_n 1, 1) := by decide +kernel
theorem dX8_fixed_31 : decode cX8_fixed 31 = .ok (.iinc 2 1, 3) := by decide +kernel
theorem dX8_fixed_34 : decode cX8_fixed 34 = .ok (.goto (-30), 3) := by decide +kernel
theorem dX8_fixed_37 : decode cX8_fixed 37 = .ok (.iload_n 1, 1) := by decide +kernel
theorem dX8_fixed_38 : decode cX8_fixed 38 = .ok (.ireturn, 1) := by decide +kernel
theorem dX8_holding_0 : decode cX8_holding 0 = .ok (.iconst 0, 1) := by decide +kernel
theorem dX8_holding_1 : decode cX8_holding 1 = .ok (.istore_n 1, 1) := by decide +kernel
theorem dX8_holding_2 : decode cX8_holding 2 = .ok (.iconst 0, 1) := by decide +kernel
theorem dX8_holding_3 : decode cX8_holding 3 = .ok (.istore_n 2, 1) := by decide +kernel
theorem dX8_holding_4 : decode cX8_holding 4 = .ok (.iload_n 2, 1) := by decide +kernel
theorem dX8_holding_5 : decode cX8_holding 5 = .ok (.aload_n 0, 1) := by decide +kernel
theorem dX8_holding_6 : decode cX8_holding 6 = .ok (.getfield 7, 3) := by decide +kernel
theorem dX8_holding_9 : decode cX8_holding 9 = .ok (.bipush 20, 2) := by decide +kernel
theorem dX8_holding_11 : decode cX8_holding 11 = .ok (.iaload, 1) := by decide +kernel
theorem dX8_holding_12 : decode cX8_holding 12 = .ok (.if_icmp .ge 25, 3) := by decide +kernel
theorem dX8_holding_15 : decode cX8_holding 15 = .ok (.iload_n 1, 1) := by decide +kernel
theorem dX8_holding_16 : decode cX8_holding 16 = .ok (.aload_n 0, 1) := by decide +kernel
theorem dX8_holding_17 : decode cX8_holding 17 = .ok (.iload_n 2, 1) := by decide +kernel
theorem dX8_holding_18 : decode cX8_holding 18 = .ok (.invokevirtual 179, 3) := by decide +kernel
theorem dX8_holding_21 : decode cX8_holding 21 = .ok (.ifCond .eq 7, 3) := by decide +kernel
theorem dX8_holding_24 : decode cX8_holding 24 = .ok (.iconst 1, 1) := by decide +kernel
theorem dX8_holding_25 : decode cX8_holding 25 = .ok (.goto 4, 3) := by decide +kernel
theorem dX8_holding_28 : decode cX8_holding 28 = .ok (.iconst 0, 1) := by decide +kernel
theorem dX8_holding_29 : decode cX8_holding 29 = .ok (.iadd, 1) := by decide +kernel
theorem dX8_holding_30 : decode cX8_holding 30 = .ok (.istore_n 1, 1) := by decide +kernel
theorem dX8_holding_31 : decode cX8_holding 31 = .ok (.iinc 2 1, 3) := by decide +kernel
theorem dX8_holding_34 : decode cX8_holding 34 = .ok (.goto (-30), 3) := by decide +kernel
theorem dX8_holding_37 : decode cX8_holding 37 = .ok (.iload_n 1, 1) := by decide +kernel
theorem dX8_holding_38 : decode cX8_holding 38 = .ok (.ireturn, 1) := by decide +kernel
theorem dX8_values_0 : decode cX8_values 0 = .ok (.iconst 0, 1) := by decide +kernel
theorem dX8_values_1 : decode cX8_values 1 = .ok (.istore_n 1, 1) := by decide +kernel
theorem dX8_values_2 : decode cX8_values 2 = .ok (.iconst 0, 1) := by decide +kernel
theorem dX8_values_3 : decode cX8_values 3 = .ok (.istore_n 2, 1) := by decide +kernel
theorem dX8_values_4 : decode cX8_values 4 = .ok (.iload_n 2, 1) := by decide +kernel
theorem dX8_values_5 : decode cX8_values 5 = .ok (.bipush 10, 2) := by decide +kernel
theorem dX8_values_7 : decode cX8_values 7 = .ok (.if_icmp .ge 18, 3) := by decide +kernel
theorem dX8_values_10 : decode cX8_values 10 = .ok (.iload_n 1, 1) := by decide +kernel
theorem dX8_values_11 : decode cX8_values 11 = .ok (.aload_n 0, 1) := by decide +kernel
theorem dX8_values_12 : decode cX8_values 12 = .ok (.getfield 7, 3) := by decide +kernel
theorem dX8_values_15 : decode cX8_values 15 = .ok (.iload_n 2, 1) := by decide +kernel
theorem dX8_values_16 : decode cX8_values 16 = .ok (.iaload, 1) := by decide +kernel
theorem dX8_values_17 : decode cX8_values 17 = .ok (.iadd, 1) := by decide +kernel
theorem dX8_values_18 : decode cX8_values 18 = .ok (.istore_n 1, 1) := by decide +kernel
theorem dX8_values_19 : decode cX8_values 19 = .ok (.iinc 2 1, 3) := by decide +kernel
theorem dX8_values_22 : decode cX8_values 22 = .ok (.goto (-18), 3) := by decide +kernel
theorem dX8_values_25 : decode cX8_values 25 = .ok (.iload_n 1, 1) := by decide +kernel
theorem dX8_values_26 : decode cX8_values 26 = .ok (.ireturn, 1) := by decide +kernel
theorem dX8_counted_0 : decode cX8_counted 0 = .ok (.iload_n 1, 1) := by decide +kernel
theorem dX8_counted_1 : decode cX8_counted 1 = .ok (.tableswitch 85 0 6 #[43, 51, 57, 65, 70, 75, 80], 43) := by decide +kernel
theorem dX8_counted_44 : decode cX8_counted 44 = .ok (.aload_n 0, 1) := by decide +kernel
theorem dX8_counted_45 : decode cX8_counted 45 = .ok (.getfield 7, 3) := by decide +kernel
theorem dX8_counted_48 : decode cX8_counted 48 = .ok (.bipush 20, 2) := by decide +kernel
theorem dX8_counted_50 : decode cX8_counted 50 = .ok (.iaload, 1) := by decide +kernel
theorem dX8_counted_51 : decode cX8_counted 51 = .ok (.ireturn, 1) := by decide +kernel
theorem dX8_counted_52 : decode cX8_counted 52 = .ok (.aload_n 0, 1) := by decide +kernel
theorem dX8_counted_53 : decode cX8_counted 53 = .ok (.iconst (-1), 1) := by decide +kernel
theorem dX8_counted_54 : decode cX8_counted 54 = .ok (.invokevirtual 188, 3) := by decide +kernel
theorem dX8_counted_57 : decode cX8_counted 57 = .ok (.ireturn, 1) := by decide +kernel
theorem dX8_counted_58 : decode cX8_counted 58 = .ok (.aload_n 0, 1) := by decide +kernel
theorem dX8_counted_59 : decode cX8_counted 59 = .ok (.getfield 7, 3) := by decide +kernel
theorem dX8_counted_62 : decode cX8_counted 62 = .ok (.bipush 101, 2) := by decide +kernel
theorem dX8_counted_64 : decode cX8_counted 64 = .ok (.iaload, 1) := by decide +kernel
theorem dX8_counted_65 : decode cX8_counted 65 = .ok (.ireturn, 1) := by decide +kernel
theorem dX8_counted_66 : decode cX8_counted 66 = .ok (.aload_n 0, 1) := by decide +kernel
theorem dX8_counted_67 : decode cX8_counted 67 = .ok (.invokevirtual 191, 3) := by decide +kernel
theorem dX8_counted_70 : decode cX8_counted 70 = .ok (.ireturn, 1) := by decide +kernel
theorem dX8_counted_71 : decode cX8_counted 71 = .ok (.aload_n 0, 1) := by decide +kernel
theorem dX8_counted_72 : decode cX8_counted 72 = .ok (.getfield 88, 3) := by decide +kernel
theorem dX8_counted_75 : decode cX8_counted 75 = .ok (.ireturn, 1) := by decide +kernel
theorem dX8_counted_76 : decode cX8_counted 76 = .ok (.aload_n 0, 1) := by decide +kernel
theorem dX8_counted_77 : decode cX8_counted 77 = .ok (.invokevirtual 194, 3) := by decide +kernel
theorem dX8_counted_80 : decode cX8_counted 80 = .ok (.ireturn, 1) := by decide +kernel
theorem dX8_counted_81 : decode cX8_counted 81 = .ok (.aload_n 0, 1) := by decide +kernel
theorem dX8_counted_82 : decode cX8_counted 82 = .ok (.invokevirtual 197, 3) := by decide +kernel
theorem dX8_counted_85 : decode cX8_counted 85 = .ok (.ireturn, 1) := by decide +kernel
theorem dX8_counted_86 : decode cX8_counted 86 = .ok (.aload_n 0, 1) := by decide +kernel
theorem dX8_counted_87 : decode cX8_counted 87 = .ok (.invokevirtual 200, 3) := by decide +kernel
theorem dX8_counted_90 : decode cX8_counted 90 = .ok (.ireturn, 1) := by decide +kernel
theorem dX8_count_0 : decode cX8_count 0 = .ok (.aload_n 0, 1) := by decide +kernel
theorem dX8_count_1 : decode cX8_count 1 = .ok (.iload_n 1, 1) := by decide +kernel
theorem dX8_count_2 : decode cX8_count 2 = .ok (.iconst 0, 1) := by decide +kernel
theorem dX8_count_3 : decode cX8_count 3 = .ok (.bipush 7, 2) := by decide +kernel
theorem dX8_count_5 : decode cX8_count 5 = .ok (.invokestatic 48, 3) := by decide +kernel
theorem dX8_count_8 : decode cX8_count 8 = .ok (.ifCond .eq 7, 3) := by decide +kernel
theorem dX8_count_11 : decode cX8_count 11 = .ok (.iconst 0, 1) := by decide +kernel
theorem dX8_count_12 : decode cX8_count 12 = .ok (.goto 4, 3) := by decide +kernel
theorem dX8_count_15 : decode cX8_count 15 = .ok (.iconst 1, 1) := by decide +kernel
theorem dX8_count_16 : decode cX8_count 16 = .ok (.putfield 44, 3) := by decide +kernel
theorem dX8_count_19 : decode cX8_count 19 = .ok (.aload_n 0, 1) := by decide +kernel
theorem dX8_count_20 : decode cX8_count 20 = .ok (.getfield 44, 3) := by decide +kernel
theorem dX8_count_23 : decode cX8_count 23 = .ok (.ifCond .le 5, 3) := by decide +kernel
theorem dX8_count_26 : decode cX8_count 26 = .ok (.iconst 0, 1) := by decide +kernel
theorem dX8_count_27 : decode cX8_count 27 = .ok (.ireturn, 1) := by decide +kernel
theorem dX8_count_28 : decode cX8_count 28 = .ok (.aload_n 0, 1) := by decide +kernel
theorem dX8_count_29 : decode cX8_count 29 = .ok (.iconst (-1), 1) := by decide +kernel
theorem dX8_count_30 : decode cX8_count 30 = .ok (.invokevirtual 77, 3) := by decide +kernel
theorem dX8_count_33 : decode cX8_count 33 = .ok (.aload_n 0, 1) := by decide +kernel
theorem dX8_count_34 : decode cX8_count 34 = .ok (.iload_n 1, 1) := by decide +kernel
theorem dX8_count_35 : decode cX8_count 35 = .ok (.invokevirtual 203, 3) := by decide +kernel
theorem dX8_count_38 : decode cX8_count 38 = .ok (.ireturn, 1) := by decide +kernel
theorem dX8_editedValue_0 : decode cX8_editedValue 0 = .ok (.iconst 0, 1) := by decide +kernel
theorem dX8_editedValue_1 : decode cX8_editedValue 1 = .ok (.istore 5, 2) := by decide +kernel
theorem dX8_editedValue_3 : decode cX8_editedValue 3 = .ok (.iload 5, 2) := by decide +kernel
theorem dX8_editedValue_5 : decode cX8_editedValue 5 = .ok (.bipush 115, 2) := by decide +kernel
theorem dX8_editedValue_7 : decode cX8_editedValue 7 = .ok (.if_icmp .ge 23, 3) := by decide +kernel
theorem dX8_editedValue_10 : decode cX8_editedValue 10 = .ok (.aload_n 0, 1) := by decide +kernel
theorem dX8_editedValue_11 : decode cX8_editedValue 11 = .ok (.getfield 41, 3) := by decide +kernel
theorem dX8_editedValue_14 : decode cX8_editedValue 14 = .ok (.iload 5, 2) := by decide +kernel
theorem dX8_editedValue_16 : decode cX8_editedValue 16 = .ok (.aload_n 0, 1) := by decide +kernel
theorem dX8_editedValue_17 : decode cX8_editedValue 17 = .ok (.getfield 7, 3) := by decide +kernel
theorem dX8_editedValue_20 : decode cX8_editedValue 20 = .ok (.iload 5, 2) := by decide +kernel
theorem dX8_editedValue_22 : decode cX8_editedValue 22 = .ok (.iaload, 1) := by decide +kernel
theorem dX8_editedValue_23 : decode cX8_editedValue 23 = .ok (.iastore, 1) := by decide +kernel
theorem dX8_editedValue_24 : decode cX8_editedValue 24 = .ok (.iinc 5 1, 3) := by decide +kernel
theorem dX8_editedValue_27 : decode cX8_editedValue 27 = .ok (.goto (-24), 3) := by decide +kernel
theorem dX8_editedValue_30 : decode cX8_editedValue 30 = .ok (.aload_n 0, 1) := by decide +kernel
theorem dX8_editedValue_31 : decode cX8_editedValue 31 = .ok (.iload_n 1, 1) := by decide +kernel
theorem dX8_editedValue_32 : decode cX8_editedValue 32 = .ok (.iload_n 2, 1) := by decide +kernel
theorem dX8_editedValue_33 : decode cX8_editedValue 33 = .ok (.iload_n 3, 1) := by decide +kernel
theorem dX8_editedValue_34 : decode cX8_editedValue 34 = .ok (.invokevirtual 126, 3) := by decide +kernel
theorem dX8_editedValue_37 : decode cX8_editedValue 37 = .ok (.aload_n 0, 1) := by decide +kernel
theorem dX8_editedValue_38 : decode cX8_editedValue 38 = .ok (.getfield 7, 3) := by decide +kernel
theorem dX8_editedValue_41 : decode cX8_editedValue 41 = .ok (.iload 4, 2) := by decide +kernel
theorem dX8_editedValue_43 : decode cX8_editedValue 43 = .ok (.iaload, 1) := by decide +kernel
theorem dX8_editedValue_44 : decode cX8_editedValue 44 = .ok (.istore 5, 2) := by decide +kernel
theorem dX8_editedValue_46 : decode cX8_editedValue 46 = .ok (.iconst 0, 1) := by decide +kernel
theorem dX8_editedValue_47 : decode cX8_editedValue 47 = .ok (.istore 6, 2) := by decide +kernel
theorem dX8_editedValue_49 : decode cX8_editedValue 49 = .ok (.iload 6, 2) := by decide +kernel
theorem dX8_editedValue_51 : decode cX8_editedValue 51 = .ok (.bipush 115, 2) := by decide +kernel
theorem dX8_editedValue_53 : decode cX8_editedValue 53 = .ok (.if_icmp .ge 23, 3) := by decide +kernel
theorem dX8_editedValue_56 : decode cX8_editedValue 56 = .ok (.aload_n 0, 1) := by decide +kernel
theorem dX8_editedValue_57 : decode cX8_editedValue 57 = .ok (.getfield 7, 3) := by decide +kernel
theorem dX8_editedValue_60 : decode cX8_editedValue 60 = .ok (.iload 6, 2) := by decide +kernel
theorem dX8_editedValue_62 : decode cX8_editedValue 62 = .ok (.aload_n 0, 1) := by decide +kernel
theorem dX8_editedValue_63 : decode cX8_editedValue 63 = .ok (.getfield 41, 3) := by decide +kernel
theorem dX8_editedValue_66 : decode cX8_editedValue 66 = .ok (.iload 6, 2) := by decide +kernel
theorem dX8_editedValue_68 : decode cX8_editedValue 68 = .ok (.iaload, 1) := by decide +kernel
theorem dX8_editedValue_69 : decode cX8_editedValue 69 = .ok (.iastore, 1) := by decide +kernel
theorem dX8_editedValue_70 : decode cX8_editedValue 70 = .ok (.iinc 6 1, 3) := by decide +kernel
theorem dX8_editedValue_73 : decode cX8_editedValue 73 = .ok (.goto (-24), 3) := by decide +kernel
theorem dX8_editedValue_76 : decode cX8_editedValue 76 = .ok (.iload 5, 2) := by decide +kernel
theorem dX8_editedValue_78 : decode cX8_editedValue 78 = .ok (.ireturn, 1) := by decide +kernel
theorem dX8_ifEdited_0 : decode cX8_ifEdited 0 = .ok (.aload_n 0, 1) := by decide +kernel
theorem dX8_ifEdited_1 : decode cX8_ifEdited 1 = .ok (.iload_n 1, 1) := by decide +kernel
theorem dX8_ifEdited_2 : decode cX8_ifEdited 2 = .ok (.invokestatic 94, 3) := by decide +kernel
theorem dX8_ifEdited_5 : decode cX8_ifEdited 5 = .ok (.ifCond .eq 11, 3) := by decide +kernel
theorem dX8_ifEdited_8 : decode cX8_ifEdited 8 = .ok (.iload 4, 2) := by decide +kernel
theorem dX8_ifEdited_10 : decode cX8_ifEdited 10 = .ok (.invokestatic 94, 3) := by decide +kernel
theorem dX8_ifEdited_13 : decode cX8_ifEdited 13 = .ok (.ifCond .ne 7, 3) := by decide +kernel
theorem dX8_ifEdited_16 : decode cX8_ifEdited 16 = .ok (.iconst 1, 1) := by decide +kernel
theorem dX8_ifEdited_17 : decode cX8_ifEdited 17 = .ok (.goto 22, 3) := by decide +kernel
theorem dX8_ifEdited_20 : decode cX8_ifEdited 20 = .ok (.iload_n 2, 1) := by decide +kernel
theorem dX8_ifEdited_21 : decode cX8_ifEdited 21 = .ok (.invokestatic 123, 3) := by decide +kernel
theorem dX8_ifEdited_24 : decode cX8_ifEdited 24 = .ok (.ifCond .eq 14, 3) := by decide +kernel
theorem dX8_ifEdited_27 : decode cX8_ifEdited 27 = .ok (.iload_n 3, 1) := by decide +kernel
theorem dX8_ifEdited_28 : decode cX8_ifEdited 28 = .ok (.invokestatic 101, 3) := by decide +kernel
theorem dX8_ifEdited_31 : decode cX8_ifEdited 31 = .ok (.ifCond .eq 7, 3) := by decide +kernel
theorem dX8_ifEdited_34 : decode cX8_ifEdited 34 = .ok (.iconst 0, 1) := by decide +kernel
theorem dX8_ifEdited_35 : decode cX8_ifEdited 35 = .ok (.goto 4, 3) := by decide +kernel
theorem dX8_ifEdited_38 : decode cX8_ifEdited 38 = .ok (.iconst 2, 1) := by decide +kernel
theorem dX8_ifEdited_39 : decode cX8_ifEdited 39 = .ok (.putfield 44, 3) := by decide +kernel
theorem dX8_ifEdited_42 : decode cX8_ifEdited 42 = .ok (.aload_n 0, 1) := by decide +kernel
theorem dX8_ifEdited_43 : decode cX8_ifEdited 43 = .ok (.getfield 44, 3) := by decide +kernel
theorem dX8_ifEdited_46 : decode cX8_ifEdited 46 = .ok (.ifCond .le 7, 3) := by decide +kernel
theorem dX8_ifEdited_49 : decode cX8_ifEdited 49 = .ok (.iconst 0, 1) := by decide +kernel
theorem dX8_ifEdited_50 : decode cX8_ifEdited 50 = .ok (.goto 12, 3) := by decide +kernel
theorem dX8_ifEdited_53 : decode cX8_ifEdited 53 = .ok (.aload_n 0, 1) := by decide +kernel
theorem dX8_ifEdited_54 : decode cX8_ifEdited 54 = .ok (.iload_n 1, 1) := by decide +kernel
theorem dX8_ifEdited_55 : decode cX8_ifEdited 55 = .ok (.iload_n 2, 1) := by decide +kernel
theorem dX8_ifEdited_56 : decode cX8_ifEdited 56 = .ok (.iload_n 3, 1) := by decide +kernel
theorem dX8_ifEdited_57 : decode cX8_ifEdited 57 = .ok (.iload 4, 2) := by decide +kernel
theorem dX8_ifEdited_59 : decode cX8_ifEdited 59 = .ok (.invokevirtual 206, 3) := by decide +kernel
theorem dX8_ifEdited_62 : decode cX8_ifEdited 62 = .ok (.ireturn, 1) := by decide +kernel
theorem dX8_removedAnswer_0 : decode cX8_removedAnswer 0 = .ok (.aload_n 0, 1) := by decide +kernel
theorem dX8_removedAnswer_1 : decode cX8_removedAnswer 1 = .ok (.iload_n 1, 1) := by decide +kernel
theorem dX8_removedAnswer_2 : decode cX8_removedAnswer 2 = .ok (.invokevirtual 77, 3) := by decide +kernel
theorem dX8_removedAnswer_5 : decode cX8_removedAnswer 5 = .ok (.aload_n 0, 1) := by decide +kernel
theorem dX8_removedAnswer_6 : decode cX8_removedAnswer 6 = .ok (.iload_n 1, 1) := by decide +kernel
theorem dX8_removedAnswer_7 : decode cX8_removedAnswer 7 = .ok (.invokevirtual 188, 3) := by decide +kernel
theorem dX8_removedAnswer_10 : decode cX8_removedAnswer 10 = .ok (.ireturn, 1) := by decide +kernel
theorem dX8_ifRemoved_0 : decode cX8_ifRemoved 0 = .ok (.aload_n 0, 1) := by decide +kernel
theorem dX8_ifRemoved_1 : decode cX8_ifRemoved 1 = .ok (.aload_n 0, 1) := by decide +kernel
theorem dX8_ifRemoved_2 : decode cX8_ifRemoved 2 = .ok (.iload_n 1, 1) := by decide +kernel
theorem dX8_ifRemoved_3 : decode cX8_ifRemoved 3 = .ok (.invokevirtual 114, 3) := by decide +kernel
theorem dX8_ifRemoved_6 : decode cX8_ifRemoved 6 = .ok (.ifCond .eq 7, 3) := by decide +kernel
theorem dX8_ifRemoved_9 : decode cX8_ifRemoved 9 = .ok (.iconst 0, 1) := by decide +kernel
theorem dX8_ifRemoved_10 : decode cX8_ifRemoved 10 = .ok (.goto 4, 3) := by decide +kernel
theorem dX8_ifRemoved_13 : decode cX8_ifRemoved 13 = .ok (.iconst 1, 1) := by decide +kernel
theorem dX8_ifRemoved_14 : decode cX8_ifRemoved 14 = .ok (.putfield 44, 3) := by decide +kernel
theorem dX8_ifRemoved_17 : decode cX8_ifRemoved 17 = .ok (.aload_n 0, 1) := by decide +kernel
theorem dX8_ifRemoved_18 : decode cX8_ifRemoved 18 = .ok (.getfield 44, 3) := by decide +kernel
theorem dX8_ifRemoved_21 : decode cX8_ifRemoved 21 = .ok (.ifCond .le 7, 3) := by decide +kernel
theorem dX8_ifRemoved_24 : decode cX8_ifRemoved 24 = .ok (.iconst 0, 1) := by decide +kernel
theorem dX8_ifRemoved_25 : decode cX8_ifRemoved 25 = .ok (.goto 8, 3) := by decide +kernel
theorem dX8_ifRemoved_28 : decode cX8_ifRemoved 28 = .ok (.aload_n 0, 1) := by decide +kernel
theorem dX8_ifRemoved_29 : decode cX8_ifRemoved 29 = .ok (.iload_n 1, 1) := by decide +kernel
theorem dX8_ifRemoved_30 : decode cX8_ifRemoved 30 = .ok (.invokevirtual 210, 3) := by decide +kernel
theorem dX8_ifRemoved_33 : decode cX8_ifRemoved 33 = .ok (.ireturn, 1) := by decide +kernel
theorem dX8_strengthAnswer_0 : decode cX8_strengthAnswer 0 = .ok (.bipush 21, 2) := by decide +kernel
theorem dX8_strengthAnswer_2 : decode cX8_strengthAnswer 2 = .ok (.iconst 5, 1) := by decide +kernel
theorem dX8_strengthAnswer_3 : decode cX8_strengthAnswer 3 = .ok (.iload_n 1, 1) := by decide +kernel
theorem dX8_strengthAnswer_4 : decode cX8_strengthAnswer 4 = .ok (.imul, 1) := by decide +kernel
theorem dX8_strengthAnswer_5 : decode cX8_strengthAnswer 5 = .ok (.iadd, 1) := by decide +kernel
theorem dX8_strengthAnswer_6 : decode cX8_strengthAnswer 6 = .ok (.iconst 4, 1) := by decide +kernel
theorem dX8_strengthAnswer_7 : decode cX8_strengthAnswer 7 = .ok (.iadd, 1) := by decide +kernel
theorem dX8_strengthAnswer_8 : decode cX8_strengthAnswer 8 = .ok (.istore_n 2, 1) := by decide +kernel
theorem dX8_strengthAnswer_9 : decode cX8_strengthAnswer 9 = .ok (.aload_n 0, 1) := by decide +kernel
theorem dX8_strengthAnswer_10 : decode cX8_strengthAnswer 10 = .ok (.getfield 7, 3) := by decide +kernel
theorem dX8_strengthAnswer_13 : decode cX8_strengthAnswer 13 = .ok (.iload_n 2, 1) := by decide +kernel
theorem dX8_strengthAnswer_14 : decode cX8_strengthAnswer 14 = .ok (.iaload, 1) := by decide +kernel
theorem dX8_strengthAnswer_15 : decode cX8_strengthAnswer 15 = .ok (.istore_n 3, 1) := by decide +kernel
theorem dX8_strengthAnswer_16 : decode cX8_strengthAnswer 16 = .ok (.iconst (-1), 1) := by decide +kernel
theorem dX8_strengthAnswer_17 : decode cX8_strengthAnswer 17 = .ok (.istore 4, 2) := by decide +kernel
theorem dX8_strengthAnswer_19 : decode cX8_strengthAnswer 19 = .ok (.iconst 3, 1) := by decide +kernel
theorem dX8_strengthAnswer_20 : decode cX8_strengthAnswer 20 = .ok (.istore 5, 2) := by decide +kernel
theorem dX8_strengthAnswer_22 : decode cX8_strengthAnswer 22 = .ok (.iload 5, 2) := by decide +kernel
theorem dX8_strengthAnswer_24 : decode cX8_strengthAnswer 24 = .ok (.ifCond .lt 40, 3) := by decide +kernel
theorem dX8_strengthAnswer_27 : decode cX8_strengthAnswer 27 = .ok (.aload_n 0, 1) := by decide +kernel
theorem dX8_strengthAnswer_28 : decode cX8_strengthAnswer 28 = .ok (.getfield 7, 3) := by decide +kernel
theorem dX8_strengthAnswer_31 : decode cX8_strengthAnswer 31 = .ok (.iload_n 2, 1) := by decide +kernel
theorem dX8_strengthAnswer_32 : decode cX8_strengthAnswer 32 = .ok (.iload 5, 2) := by decide +kernel
theorem dX8_strengthAnswer_34 : decode cX8_strengthAnswer 34 = .ok (.iastore, 1) := by decide +kernel
theorem dX8_strengthAnswer_35 : decode cX8_strengthAnswer 35 = .ok (.aload_n 0, 1) := by decide +kernel
theorem dX8_strengthAnswer_36 : decode cX8_strengthAnswer 36 = .ok (.iconst (-1), 1) := by decide +kernel
theorem dX8_strengthAnswer_37 : decode cX8_strengthAnswer 37 = .ok (.invokevirtual 77, 3) := by decide +kernel
theorem dX8_strengthAnswer_40 : decode cX8_strengthAnswer 40 = .ok (.aload_n 0, 1) := by decide +kernel
theorem dX8_strengthAnswer_41 : decode cX8_strengthAnswer 41 = .ok (.getfield 22, 3) := by decide +kernel
theorem dX8_strengthAnswer_44 : decode cX8_strengthAnswer 44 = .ok (.iload_n 1, 1) := by decide +kernel
theorem dX8_strengthAnswer_45 : decode cX8_strengthAnswer 45 = .ok (.baload, 1) := by decide +kernel
theorem dX8_strengthAnswer_46 : decode cX8_strengthAnswer 46 = .ok (.ifCond .eq 8, 3) := by decide +kernel
theorem dX8_strengthAnswer_49 : decode cX8_strengthAnswer 49 = .ok (.iload 5, 2) := by decide +kernel
theorem dX8_strengthAnswer_51 : decode cX8_strengthAnswer 51 = .ok (.goto 5, 3) := by decide +kernel
theorem dX8_strengthAnswer_54 : decode cX8_strengthAnswer 54 = .ok (.iload 4, 2) := by decide +kernel
theorem dX8_strengthAnswer_56 : decode cX8_strengthAnswer 56 = .ok (.istore 4, 2) := by decide +kernel
theorem dX8_strengthAnswer_58 : decode cX8_strengthAnswer 58 = .ok (.iinc 5 (-1), 3) := by decide +kernel
theorem dX8_strengthAnswer_61 : decode cX8_strengthAnswer 61 = .ok (.goto (-39), 3) := by decide +kernel
theorem dX8_strengthAnswer_64 : decode cX8_strengthAnswer 64 = .ok (.aload_n 0, 1) := by decide +kernel
theorem dX8_strengthAnswer_65 : decode cX8_strengthAnswer 65 = .ok (.getfield 7, 3) := by decide +kernel
theorem dX8_strengthAnswer_68 : decode cX8_strengthAnswer 68 = .ok (.iload_n 2, 1) := by decide +kernel
theorem dX8_strengthAnswer_69 : decode cX8_strengthAnswer 69 = .ok (.iload_n 3, 1) := by decide +kernel
theorem dX8_strengthAnswer_70 : decode cX8_strengthAnswer 70 = .ok (.iastore, 1) := by decide +kernel
theorem dX8_strengthAnswer_71 : decode cX8_strengthAnswer 71 = .ok (.iload 4, 2) := by decide +kernel
theorem dX8_strengthAnswer_73 : decode cX8_strengthAnswer 73 = .ok (.ireturn, 1) := by decide +kernel
theorem dX8_neededStrength_0 : decode cX8_neededStrength 0 = .ok (.aload_n 0, 1) := by decide +kernel
theorem dX8_neededStrength_1 : decode cX8_neededStrength 1 = .ok (.aload_n 0, 1) := by decide +kernel
theorem dX8_neededStrength_2 : decode cX8_neededStrength 2 = .ok (.iload_n 1, 1) := by decide +kernel
theorem dX8_neededStrength_3 : decode cX8_neededStrength 3 = .ok (.invokevirtual 114, 3) := by decide +kernel
theorem dX8_neededStrength_6 : decode cX8_neededStrength 6 = .ok (.ifCond .eq 7, 3) := by decide +kernel
theorem dX8_neededStrength_9 : decode cX8_neededStrength 9 = .ok (.iconst 0, 1) := by decide +kernel
theorem dX8_neededStrength_10 : decode cX8_neededStrength 10 = .ok (.goto 4, 3) := by decide +kernel
theorem dX8_neededStrength_13 : decode cX8_neededStrength 13 = .ok (.iconst 1, 1) := by decide +kernel
theorem dX8_neededStrength_14 : decode cX8_neededStrength 14 = .ok (.putfield 44, 3) := by decide +kernel
theorem dX8_neededStrength_17 : decode cX8_neededStrength 17 = .ok (.aload_n 0, 1) := by decide +kernel
theorem dX8_neededStrength_18 : decode cX8_neededStrength 18 = .ok (.getfield 44, 3) := by decide +kernel
theorem dX8_neededStrength_21 : decode cX8_neededStrength 21 = .ok (.ifCond .le 7, 3) := by decide +kernel
theorem dX8_neededStrength_24 : decode cX8_neededStrength 24 = .ok (.iconst 0, 1) := by decide +kernel
theorem dX8_neededStrength_25 : decode cX8_neededStrength 25 = .ok (.goto 8, 3) := by decide +kernel
theorem dX8_neededStrength_28 : decode cX8_neededStrength 28 = .ok (.aload_n 0, 1) := by decide +kernel
theorem dX8_neededStrength_29 : decode cX8_neededStrength 29 = .ok (.iload_n 1, 1) := by decide +kernel
theorem dX8_neededStrength_30 : decode cX8_neededStrength 30 = .ok (.invokevirtual 213, 3) := by decide +kernel
theorem dX8_neededStrength_33 : decode cX8_neededStrength 33 = .ok (.ireturn, 1) := by decide +kernel
theorem dX8_freedomNow_0 : decode cX8_freedomNow 0 = .ok (.iconst 0, 1) := by decide +kernel
theorem dX8_freedomNow_1 : decode cX8_freedomNow 1 = .ok (.istore_n 1, 1) := by decide +kernel
theorem dX8_freedomNow_2 : decode cX8_freedomNow 2 = .ok (.iconst 0, 1) := by decide +kernel
theorem dX8_freedomNow_3 : decode cX8_freedomNow 3 = .ok (.istore_n 2, 1) := by decide +kernel
theorem dX8_freedomNow_4 : decode cX8_freedomNow 4 = .ok (.iload_n 2, 1) := by decide +kernel
theorem dX8_freedomNow_5 : decode cX8_freedomNow 5 = .ok (.bipush 10, 2) := by decide +kernel
theorem dX8_freedomNow_7 : decode cX8_freedomNow 7 = .ok (.if_icmp .ge 23, 3) := by decide +kernel
theorem dX8_freedomNow_10 : decode cX8_freedomNow 10 = .ok (.iload_n 1, 1) := by decide +kernel
theorem dX8_freedomNow_11 : decode cX8_freedomNow 11 = .ok (.aload_n 0, 1) := by decide +kernel
theorem dX8_freedomNow_12 : decode cX8_freedomNow 12 = .ok (.iload_n 2, 1) := by decide +kernel
theorem dX8_freedomNow_13 : decode cX8_freedomNow 13 = .ok (.invokevirtual 85, 3) := by decide +kernel
theorem dX8_freedomNow_16 : decode cX8_freedomNow 16 = .ok (.aload_n 0, 1) := by decide +kernel
theorem dX8_freedomNow_17 : decode cX8_freedomNow 17 = .ok (.iload_n 2, 1) := by decide +kernel
theorem dX8_freedomNow_18 : decode cX8_freedomNow 18 = .ok (.invokevirtual 81, 3) := by decide +kernel
theorem dX8_freedomNow_21 : decode cX8_freedomNow 21 = .ok (.isub, 1) := by decide +kernel
theorem dX8_freedomNow_22 : decode cX8_freedomNow 22 = .ok (.iadd, 1) := by decide +kernel
theorem dX8_freedomNow_23 : decode cX8_freedomNow 23 = .ok (.istore_n 1, 1) := by decide +kernel
theorem dX8_freedomNow_24 : decode cX8_freedomNow 24 = .ok (.iinc 2 1, 3) := by decide +kernel
theorem dX8_freedomNow_27 : decode cX8_freedomNow 27 = .ok (.goto (-23), 3) := by decide +kernel
theorem dX8_freedomNow_30 : decode cX8_freedomNow 30 = .ok (.fconst 1, 1) := by decide +kernel
theorem dX8_freedomNow_31 : decode cX8_freedomNow 31 = .ok (.iload_n 1, 1) := by decide +kernel
theorem dX8_freedomNow_32 : decode cX8_freedomNow 32 = .ok (.i2f, 1) := by decide +kernel
theorem dX8_freedomNow_33 : decode cX8_freedomNow 33 = .ok (.fmul, 1) := by decide +kernel
theorem dX8_freedomNow_34 : decode cX8_freedomNow 34 = .ok (.ldc 216, 2) := by decide +kernel
theorem dX8_freedomNow_36 : decode cX8_freedomNow 36 = .ok (.fdiv, 1) := by decide +kernel
theorem dX8_freedomNow_37 : decode cX8_freedomNow 37 = .ok (.freturn, 1) := by decide +kernel
theorem dX8_freedom_0 : decode cX8_freedom 0 = .ok (.aload_n 0, 1) := by decide +kernel
theorem dX8_freedom_1 : decode cX8_freedom 1 = .ok (.iconst 0, 1) := by decide +kernel
theorem dX8_freedom_2 : decode cX8_freedom 2 = .ok (.putfield 44, 3) := by decide +kernel
theorem dX8_freedom_5 : decode cX8_freedom 5 = .ok (.aload_n 0, 1) := by decide +kernel
theorem dX8_freedom_6 : decode cX8_freedom 6 = .ok (.iconst (-1), 1) := by decide +kernel
theorem dX8_freedom_7 : decode cX8_freedom 7 = .ok (.invokevirtual 77, 3) := by decide +kernel
theorem dX8_freedom_10 : decode cX8_freedom 10 = .ok (.aload_n 0, 1) := by decide +kernel
theorem dX8_freedom_11 : decode cX8_freedom 11 = .ok (.invokevirtual 217, 3) := by decide +kernel
theorem dX8_freedom_14 : decode cX8_freedom 14 = .ok (.freturn, 1) := by decide +kernel
theorem dX8_mix_0 : decode cX8_mix 0 = .ok (.aload_n 0, 1) := by decide +kernel
theorem dX8_mix_1 : decode cX8_mix 1 = .ok (.ldc2_w 221, 3) := by decide +kernel
theorem dX8_mix_4 : decode cX8_mix 4 = .ok (.aload_n 0, 1) := by decide +kernel
theorem dX8_mix_5 : decode cX8_mix 5 = .ok (.getfield 223, 3) := by decide +kernel
theorem dX8_mix_8 : decode cX8_mix 8 = .ok (.lmul, 1) := by decide +kernel
theorem dX8_mix_9 : decode cX8_mix 9 = .ok (.lload_n 1, 1) := by decide +kernel
theorem dX8_mix_10 : decode cX8_mix 10 = .ok (.ladd, 1) := by decide +kernel
theorem dX8_mix_11 : decode cX8_mix 11 = .ok (.putfield 223, 3) := by decide +kernel
theorem dX8_mix_14 : decode cX8_mix 14 = .ok (.return_, 1) := by decide +kernel
theorem dX8_mixConditions_0 : decode cX8_mixConditions 0 = .ok (.iconst 0, 1) := by decide +kernel
theorem dX8_mixConditions_1 : decode cX8_mixConditions 1 = .ok (.istore_n 1, 1) := by decide +kernel
theorem dX8_mixConditions_2 : decode cX8_mixConditions 2 = .ok (.iload_n 1, 1) := by decide +kernel
theorem dX8_mixConditions_3 : decode cX8_mixConditions 3 = .ok (.aload_n 0, 1) := by decide +kernel
theorem dX8_mixConditions_4 : decode cX8_mixConditions 4 = .ok (.getfield 7, 3) := by decide +kernel
theorem dX8_mixConditions_7 : decode cX8_mixConditions 7 = .ok (.bipush 20, 2) := by decide +kernel
theorem dX8_mixConditions_9 : decode cX8_mixConditions 9 = .ok (.iaload, 1) := by decide +kernel
theorem dX8_mixConditions_10 : decode cX8_mixConditions 10 = .ok (.if_icmp .ge 59, 3) := by decide +kernel
theorem dX8_mixConditions_13 : decode cX8_mixConditions 13 = .ok (.iconst 0, 1) := by decide +kernel
theorem dX8_mixConditions_14 : decode cX8_mixConditions 14 = .ok (.istore_n 2, 1) := by decide +kernel
theorem dX8_mixConditions_15 : decode cX8_mixConditions 15 = .ok (.iload_n 2, 1) := by decide +kernel
theorem dX8_mixConditions_16 : decode cX8_mixConditions 16 = .ok (.bipush 10, 2) := by decide +kernel
theorem dX8_mixConditions_18 : decode cX8_mixConditions 18 = .ok (.if_icmp .ge 20, 3) := by decide +kernel
theorem dX8_mixConditions_21 : decode cX8_mixConditions 21 = .ok (.aload_n 0, 1) := by decide +kernel
theorem dX8_mixConditions_22 : decode cX8_mixConditions 22 = .ok (.aload_n 0, 1) := by decide +kernel
theorem dX8_mixConditions_23 : decode cX8_mixConditions 23 = .ok (.iload_n 1, 1) := by decide +kernel
theorem dX8_mixConditions_24 : decode cX8_mixConditions 24 = .ok (.iload_n 2, 1) := by decide +kernel
theorem dX8_mixConditions_25 : decode cX8_mixConditions 25 = .ok (.invokevirtual 182, 3) := by decide +kernel
theorem dX8_mixConditions_28 : decode cX8_mixConditions 28 = .ok (.i2l, 1) := by decide +kernel
theorem dX8_mixConditions_29 : decode cX8_mixConditions 29 = .ok (.invokevirtual 227, 3) := by decide +kernel
theorem dX8_mixConditions_32 : decode cX8_mixConditions 32 = .ok (.iinc 2 1, 3) := by decide +kernel
theorem dX8_mixConditions_35 : decode cX8_mixConditions 35 = .ok (.goto (-20), 3) := by decide +kernel
theorem dX8_mixConditions_38 : decode cX8_mixConditions 38 = .ok (.aload_n 0, 1) := by decide +kernel
theorem dX8_mixConditions_39 : decode cX8_mixConditions 39 = .ok (.aload_n 0, 1) := by decide +kernel
theorem dX8_mixConditions_40 : decode cX8_mixConditions 40 = .ok (.iload_n 1, 1) := by decide +kernel
theorem dX8_mixConditions_41 : decode cX8_mixConditions 41 = .ok (.invokevirtual 210, 3) := by decide +kernel
theorem dX8_mixConditions_44 : decode cX8_mixConditions 44 = .ok (.i2l, 1) := by decide +kernel
theorem dX8_mixConditions_45 : decode cX8_mixConditions 45 = .ok (.invokevirtual 227, 3) := by decide +kernel
theorem dX8_mixConditions_48 : decode cX8_mixConditions 48 = .ok (.aload_n 0, 1) := by decide +kernel
theorem dX8_mixConditions_49 : decode cX8_mixConditions 49 = .ok (.aload_n 0, 1) := by decide +kernel
theorem dX8_mixConditions_50 : decode cX8_mixConditions 50 = .ok (.iload_n 1, 1) := by decide +kernel
theorem dX8_mixConditions_51 : decode cX8_mixConditions 51 = .ok (.invokevirtual 213, 3) := by decide +kernel
theorem dX8_mixConditions_54 : decode cX8_mixConditions 54 = .ok (.i2l, 1) := by decide +kernel
theorem dX8_mixConditions_55 : decode cX8_mixConditions 55 = .ok (.invokevirtual 227, 3) := by decide +kernel
theorem dX8_mixConditions_58 : decode cX8_mixConditions 58 = .ok (.aload_n 0, 1) := by decide +kernel
theorem dX8_mixConditions_59 : decode cX8_mixConditions 59 = .ok (.iconst (-1), 1) := by decide +kernel
theorem dX8_mixConditions_60 : decode cX8_mixConditions 60 = .ok (.invokevirtual 77, 3) := by decide +kernel
theorem dX8_mixConditions_63 : decode cX8_mixConditions 63 = .ok (.iinc 1 1, 3) := by decide +kernel
theorem dX8_mixConditions_66 : decode cX8_mixConditions 66 = .ok (.goto (-64), 3) := by decide +kernel
theorem dX8_mixConditions_69 : decode cX8_mixConditions 69 = .ok (.iconst 0, 1) := by decide +kernel
theorem dX8_mixConditions_70 : decode cX8_mixConditions 70 = .ok (.istore_n 1, 1) := by decide +kernel
theorem dX8_mixConditions_71 : decode cX8_mixConditions 71 = .ok (.iload_n 1, 1) := by decide +kernel
theorem dX8_mixConditions_72 : decode cX8_mixConditions 72 = .ok (.iconst 5, 1) := by decide +kernel
theorem dX8_mixConditions_73 : decode cX8_mixConditions 73 = .ok (.aload_n 0, 1) := by decide +kernel
theorem dX8_mixConditions_74 : decode cX8_mixConditions 74 = .ok (.getfield 7, 3) := by decide +kernel
theorem dX8_mixConditions_77 : decode cX8_mixConditions 77 = .ok (.bipush 101, 2) := by decide +kernel
theorem dX8_mixConditions_79 : decode cX8_mixConditions 79 = .ok (.iaload, 1) := by decide +kernel
theorem dX8_mixConditions_80 : decode cX8_mixConditions 80 = .ok (.imul, 1) := by decide +kernel
theorem dX8_mixConditions_81 : decode cX8_mixConditions 81 = .ok (.if_icmp .ge 24, 3) := by decide +kernel
theorem dX8_mixConditions_84 : decode cX8_mixConditions 84 = .ok (.aload_n 0, 1) := by decide +kernel
theorem dX8_mixConditions_85 : decode cX8_mixConditions 85 = .ok (.aload_n 0, 1) := by decide +kernel
theorem dX8_mixConditions_86 : decode cX8_mixConditions 86 = .ok (.iload_n 1, 1) := by decide +kernel
theorem dX8_mixConditions_87 : decode cX8_mixConditions 87 = .ok (.iconst 5, 1) := by decide +kernel
theorem dX8_mixConditions_88 : decode cX8_mixConditions 88 = .ok (.idiv, 1) := by decide +kernel
theorem dX8_mixConditions_89 : decode cX8_mixConditions 89 = .ok (.iload_n 1, 1) := by decide +kernel
theorem dX8_mixConditions_90 : decode cX8_mixConditions 90 = .ok (.iconst 5, 1) := by decide +kernel
theorem dX8_mixConditions_91 : decode cX8_mixConditions 91 = .ok (.irem, 1) := by decide +kernel
theorem dX8_mixConditions_92 : decode cX8_mixConditions 92 = .ok (.invokevirtual 185, 3) := by decide +kernel
theorem dX8_mixConditions_95 : decode cX8_mixConditions 95 = .ok (.i2l, 1) := by decide +kernel
theorem dX8_mixConditions_96 : decode cX8_mixConditions 96 = .ok (.invokevirtual 227, 3) := by decide +kernel
theorem dX8_mixConditions_99 : decode cX8_mixConditions 99 = .ok (.iinc 1 1, 3) := by decide +kernel
theorem dX8_mixConditions_102 : decode cX8_mixConditions 102 = .ok (.goto (-31), 3) := by decide +kernel
theorem dX8_mixConditions_105 : decode cX8_mixConditions 105 = .ok (.return_, 1) := by decide +kernel
theorem dX8_digest_0 : decode cX8_digest 0 = .ok (.aload_n 0, 1) := by decide +kernel
theorem dX8_digest_1 : decode cX8_digest 1 = .ok (.iconst 0, 1) := by decide +kernel
theorem dX8_digest_2 : decode cX8_digest 2 = .ok (.putfield 44, 3) := by decide +kernel
theorem dX8_digest_5 : decode cX8_digest 5 = .ok (.aload_n 0, 1) := by decide +kernel
theorem dX8_digest_6 : decode cX8_digest 6 = .ok (.ldc2_w 231, 3) := by decide +kernel
theorem dX8_digest_9 : decode cX8_digest 9 = .ok (.putfield 223, 3) := by decide +kernel
theorem dX8_digest_12 : decode cX8_digest 12 = .ok (.aload_n 0, 1) := by decide +kernel
theorem dX8_digest_13 : decode cX8_digest 13 = .ok (.iconst (-1), 1) := by decide +kernel
theorem dX8_digest_14 : decode cX8_digest 14 = .ok (.invokevirtual 77, 3) := by decide +kernel
theorem dX8_digest_17 : decode cX8_digest 17 = .ok (.iconst 0, 1) := by decide +kernel
theorem dX8_digest_18 : decode cX8_digest 18 = .ok (.istore_n 1, 1) := by decide +kernel
theorem dX8_digest_19 : decode cX8_digest 19 = .ok (.iload_n 1, 1) := by decide +kernel
theorem dX8_digest_20 : decode cX8_digest 20 = .ok (.bipush 8, 2) := by decide +kernel
theorem dX8_digest_22 : decode cX8_digest 22 = .ok (.if_icmp .ge 19, 3) := by decide +kernel
theorem dX8_digest_25 : decode cX8_digest 25 = .ok (.aload_n 0, 1) := by decide +kernel
theorem dX8_digest_26 : decode cX8_digest 26 = .ok (.aload_n 0, 1) := by decide +kernel
theorem dX8_digest_27 : decode cX8_digest 27 = .ok (.iload_n 1, 1) := by decide +kernel
theorem dX8_digest_28 : decode cX8_digest 28 = .ok (.invokevirtual 203, 3) := by decide +kernel
theorem dX8_digest_31 : decode cX8_digest 31 = .ok (.i2l, 1) := by decide +kernel
theorem dX8_digest_32 : decode cX8_digest 32 = .ok (.invokevirtual 227, 3) := by decide +kernel
theorem dX8_digest_35 : decode cX8_digest 35 = .ok (.iinc 1 1, 3) := by decide +kernel
theorem dX8_digest_38 : decode cX8_digest 38 = .ok (.goto (-19), 3) := by decide +kernel
theorem dX8_digest_41 : decode cX8_digest 41 = .ok (.iconst 0, 1) := by decide +kernel
theorem dX8_digest_42 : decode cX8_digest 42 = .ok (.istore_n 1, 1) := by decide +kernel
theorem dX8_digest_43 : decode cX8_digest 43 = .ok (.iload_n 1, 1) := by decide +kernel
theorem dX8_digest_44 : decode cX8_digest 44 = .ok (.bipush 60, 2) := by decide +kernel
theorem dX8_digest_46 : decode cX8_digest 46 = .ok (.if_icmp .ge 26, 3) := by decide +kernel
theorem dX8_digest_49 : decode cX8_digest 49 = .ok (.aload_n 0, 1) := by decide +kernel
theorem dX8_digest_50 : decode cX8_digest 50 = .ok (.aload_n 0, 1) := by decide +kernel
theorem dX8_digest_51 : decode cX8_digest 51 = .ok (.iload_n 1, 1) := by decide +kernel
theorem dX8_digest_52 : decode cX8_digest 52 = .ok (.bipush 6, 2) := by decide +kernel
theorem dX8_digest_54 : decode cX8_digest 54 = .ok (.idiv, 1) := by decide +kernel
theorem dX8_digest_55 : decode cX8_digest 55 = .ok (.iload_n 1, 1) := by decide +kernel
theorem dX8_digest_56 : decode cX8_digest 56 = .ok (.bipush 6, 2) := by decide +kernel
theorem dX8_digest_58 : decode cX8_digest 58 = .ok (.irem, 1) := by decide +kernel
theorem dX8_digest_59 : decode cX8_digest 59 = .ok (.invokevirtual 173, 3) := by decide +kernel
theorem dX8_digest_62 : decode cX8_digest 62 = .ok (.i2l, 1) := by decide +kernel
theorem dX8_digest_63 : decode cX8_digest 63 = .ok (.invokevirtual 227, 3) := by decide +kernel
theorem dX8_digest_66 : decode cX8_digest 66 = .ok (.iinc 1 1, 3) := by decide +kernel
theorem dX8_digest_69 : decode cX8_digest 69 = .ok (.goto (-26), 3) := by decide +kernel
theorem dX8_digest_72 : decode cX8_digest 72 = .ok (.aload_n 0, 1) := by decide +kernel
theorem dX8_digest_73 : decode cX8_digest 73 = .ok (.invokevirtual 233, 3) := by decide +kernel
theorem dX8_digest_76 : decode cX8_digest 76 = .ok (.iconst 0, 1) := by decide +kernel
theorem dX8_digest_77 : decode cX8_digest 77 = .ok (.istore_n 1, 1) := by decide +kernel
theorem dX8_digest_78 : decode cX8_digest 78 = .ok (.iload_n 1, 1) := by decide +kernel
theorem dX8_digest_79 : decode cX8_digest 79 = .ok (.bipush 10, 2) := by decide +kernel
theorem dX8_digest_81 : decode cX8_digest 81 = .ok (.if_icmp .ge 39, 3) := by decide +kernel
theorem dX8_digest_84 : decode cX8_digest 84 = .ok (.iconst 0, 1) := by decide +kernel
theorem dX8_digest_85 : decode cX8_digest 85 = .ok (.istore_n 2, 1) := by decide +kernel
theorem dX8_digest_86 : decode cX8_digest 86 = .ok (.iload_n 2, 1) := by decide +kernel
theorem dX8_digest_87 : decode cX8_digest 87 = .ok (.bipush 10, 2) := by decide +kernel
theorem dX8_digest_89 : decode cX8_digest 89 = .ok (.if_icmp .ge 25, 3) := by decide +kernel
theorem dX8_digest_92 : decode cX8_digest 92 = .ok (.aload_n 0, 1) := by decide +kernel
theorem dX8_digest_93 : decode cX8_digest 93 = .ok (.aload_n 0, 1) := by decide +kernel
theorem dX8_digest_94 : decode cX8_digest 94 = .ok (.getfield 19, 3) := by decide +kernel
theorem dX8_digest_97 : decode cX8_digest 97 = .ok (.bipush 11, 2) := by decide +kernel
theorem dX8_digest_99 : decode cX8_digest 99 = .ok (.iload_n 1, 1) := by decide +kernel
theorem dX8_digest_100 : decode cX8_digest 100 = .ok (.imul, 1) := by decide +kernel
theorem dX8_digest_101 : decode cX8_digest 101 = .ok (.iload_n 2, 1) := by decide +kernel
theorem dX8_digest_102 : decode cX8_digest 102 = .ok (.iadd, 1) := by decide +kernel
theorem dX8_digest_103 : decode cX8_digest 103 = .ok (.iaload, 1) := by decide +kernel
theorem dX8_digest_104 : decode cX8_digest 104 = .ok (.i2l, 1) := by decide +kernel
theorem dX8_digest_105 : decode cX8_digest 105 = .ok (.invokevirtual 227, 3) := by decide +kernel
theorem dX8_digest_108 : decode cX8_digest 108 = .ok (.iinc 2 1, 3) := by decide +kernel
theorem dX8_digest_111 : decode cX8_digest 111 = .ok (.goto (-25), 3) := by decide +kernel
theorem dX8_digest_114 : decode cX8_digest 114 = .ok (.iinc 1 1, 3) := by decide +kernel
theorem dX8_digest_117 : decode cX8_digest 117 = .ok (.goto (-39), 3) := by decide +kernel
theorem dX8_digest_120 : decode cX8_digest 120 = .ok (.aload_n 0, 1) := by decide +kernel
theorem dX8_digest_121 : decode cX8_digest 121 = .ok (.aload_n 0, 1) := by decide +kernel
theorem dX8_digest_122 : decode cX8_digest 122 = .ok (.invokevirtual 217, 3) := by decide +kernel
theorem dX8_digest_125 : decode cX8_digest 125 = .ok (.invokestatic 236, 3) := by decide +kernel
theorem dX8_digest_128 : decode cX8_digest 128 = .ok (.i2l, 1) := by decide +kernel
theorem dX8_digest_129 : decode cX8_digest 129 = .ok (.invokevirtual 227, 3) := by decide +kernel
theorem dX8_digest_132 : decode cX8_digest 132 = .ok (.aload_n 0, 1) := by decide +kernel
theorem dX8_digest_133 : decode cX8_digest 133 = .ok (.aload_n 0, 1) := by decide +kernel
theorem dX8_digest_134 : decode cX8_digest 134 = .ok (.getfield 129, 3) := by decide +kernel
theorem dX8_digest_137 : decode cX8_digest 137 = .ok (.i2l, 1) := by decide +kernel
theorem dX8_digest_138 : decode cX8_digest 138 = .ok (.invokevirtual 227, 3) := by decide +kernel
theorem dX8_digest_141 : decode cX8_digest 141 = .ok (.iconst 0, 1) := by decide +kernel
theorem dX8_digest_142 : decode cX8_digest 142 = .ok (.istore_n 1, 1) := by decide +kernel
theorem dX8_digest_143 : decode cX8_digest 143 = .ok (.iload_n 1, 1) := by decide +kernel
theorem dX8_digest_144 : decode cX8_digest 144 = .ok (.aload_n 0, 1) := by decide +kernel
theorem dX8_digest_145 : decode cX8_digest 145 = .ok (.getfield 129, 3) := by decide +kernel
theorem dX8_digest_148 : decode cX8_digest 148 = .ok (.if_icmp .ge 20, 3) := by decide +kernel
theorem dX8_digest_151 : decode cX8_digest 151 = .ok (.aload_n 0, 1) := by decide +kernel
theorem dX8_digest_152 : decode cX8_digest 152 = .ok (.aload_n 0, 1) := by decide +kernel
theorem dX8_digest_153 : decode cX8_digest 153 = .ok (.getfield 16, 3) := by decide +kernel
theorem dX8_digest_156 : decode cX8_digest 156 = .ok (.iload_n 1, 1) := by decide +kernel
theorem dX8_digest_157 : decode cX8_digest 157 = .ok (.iaload, 1) := by decide +kernel
theorem dX8_digest_158 : decode cX8_digest 158 = .ok (.i2l, 1) := by decide +kernel
theorem dX8_digest_159 : decode cX8_digest 159 = .ok (.invokevirtual 227, 3) := by decide +kernel
theorem dX8_digest_162 : decode cX8_digest 162 = .ok (.iinc 1 1, 3) := by decide +kernel
theorem dX8_digest_165 : decode cX8_digest 165 = .ok (.goto (-22), 3) := by decide +kernel
theorem dX8_digest_168 : decode cX8_digest 168 = .ok (.aload_n 0, 1) := by decide +kernel
theorem dX8_digest_169 : decode cX8_digest 169 = .ok (.getfield 223, 3) := by decide +kernel
theorem dX8_digest_172 : decode cX8_digest 172 = .ok (.lreturn, 1) := by decide +kernel
theorem dJxf58ca_isNaN_12338_0 : decode cJxf58ca_isNaN_12338 0 = .ok (.fload_n 0, 1) := by decide +kernel
theorem dJxf58ca_isNaN_12338_1 : decode cJxf58ca_isNaN_12338 1 = .ok (.fload_n 0, 1) := by decide +kernel
theorem dJxf58ca_isNaN_12338_2 : decode cJxf58ca_isNaN_12338 2 = .ok (.fcmp .l, 1) := by decide +kernel
theorem dJxf58ca_isNaN_12338_3 : decode cJxf58ca_isNaN_12338 3 = .ok (.ifCond .eq 7, 3) := by decide +kernel
theorem dJxf58ca_isNaN_12338_6 : decode cJxf58ca_isNaN_12338 6 = .ok (.iconst 1, 1) := by decide +kernel
theorem dJxf58ca_isNaN_12338_7 : decode cJxf58ca_isNaN_12338 7 = .ok (.goto 4, 3) := by decide +kernel
theorem dJxf58ca_isNaN_12338_10 : decode cJxf58ca_isNaN_12338 10 = .ok (.iconst 0, 1) := by decide +kernel
theorem dJxf58ca_isNaN_12338_11 : decode cJxf58ca_isNaN_12338 11 = .ok (.ireturn, 1) := by decide +kernel
theorem dJxf58ca_floatToIntBits_5c35a_0 : decode cJxf58ca_floatToIntBits_5c35a 0 = .ok (.fload_n 0, 1) := by decide +kernel
theorem dJxf58ca_floatToIntBits_5c35a_1 : decode cJxf58ca_floatToIntBits_5c35a 1 = .ok (.invokestatic 59, 3) := by decide +kernel
theorem dJxf58ca_floatToIntBits_5c35a_4 : decode cJxf58ca_floatToIntBits_5c35a 4 = .ok (.ifCond .ne 8, 3) := by decide +kernel
theorem dJxf58ca_floatToIntBits_5c35a_7 : decode cJxf58ca_floatToIntBits_5c35a 7 = .ok (.fload_n 0, 1) := by decide +kernel
theorem dJxf58ca_floatToIntBits_5c35a_8 : decode cJxf58ca_floatToIntBits_5c35a 8 = .ok (.invokestatic 74, 3) := by decide +kernel
theorem dJxf58ca_floatToIntBits_5c35a_11 : decode cJxf58ca_floatToIntBits_5c35a 11 = .ok (.ireturn, 1) := by decide +kernel
theorem dJxf58ca_floatToIntBits_5c35a_12 : decode cJxf58ca_floatToIntBits_5c35a 12 = .ok (.ldc 77, 2) := by decide +kernel
theorem dJxf58ca_floatToIntBits_5c35a_14 : decode cJxf58ca_floatToIntBits_5c35a 14 = .ok (.ireturn, 1) := by decide +kernel
theorem dJ6_bitCount_0f7a4_0 : decode cJ6_bitCount_0f7a4 0 = .ok (.iload_n 0, 1) := by decide +kernel
theorem dJ6_bitCount_0f7a4_1 : decode cJ6_bitCount_0f7a4 1 = .ok (.iload_n 0, 1) := by decide +kernel
theorem dJ6_bitCount_0f7a4_2 : decode cJ6_bitCount_0f7a4 2 = .ok (.iconst 1, 1) := by decide +kernel
theorem dJ6_bitCount_0f7a4_3 : decode cJ6_bitCount_0f7a4 3 = .ok (.iushr, 1) := by decide +kernel
theorem dJ6_bitCount_0f7a4_4 : decode cJ6_bitCount_0f7a4 4 = .ok (.ldc_w 265, 3) := by decide +kernel
theorem dJ6_bitCount_0f7a4_7 : decode cJ6_bitCount_0f7a4 7 = .ok (.iand, 1) := by decide +kernel
theorem dJ6_bitCount_0f7a4_8 : decode cJ6_bitCount_0f7a4 8 = .ok (.isub, 1) := by decide +kernel
theorem dJ6_bitCount_0f7a4_9 : decode cJ6_bitCount_0f7a4 9 = .ok (.istore_n 0, 1) := by decide +kernel
theorem dJ6_bitCount_0f7a4_10 : decode cJ6_bitCount_0f7a4 10 = .ok (.iload_n 0, 1) := by decide +kernel
theorem dJ6_bitCount_0f7a4_11 : decode cJ6_bitCount_0f7a4 11 = .ok (.ldc_w 266, 3) := by decide +kernel
theorem dJ6_bitCount_0f7a4_14 : decode cJ6_bitCount_0f7a4 14 = .ok (.iand, 1) := by decide +kernel
theorem dJ6_bitCount_0f7a4_15 : decode cJ6_bitCount_0f7a4 15 = .ok (.iload_n 0, 1) := by decide +kernel
theorem dJ6_bitCount_0f7a4_16 : decode cJ6_bitCount_0f7a4 16 = .ok (.iconst 2, 1) := by decide +kernel
theorem dJ6_bitCount_0f7a4_17 : decode cJ6_bitCount_0f7a4 17 = .ok (.iushr, 1) := by decide +kernel
theorem dJ6_bitCount_0f7a4_18 : decode cJ6_bitCount_0f7a4 18 = .ok (.ldc_w 266, 3) := by decide +kernel
theorem dJ6_bitCount_0f7a4_21 : decode cJ6_bitCount_0f7a4 21 = .ok (.iand, 1) := by decide +kernel
theorem dJ6_bitCount_0f7a4_22 : decode cJ6_bitCount_0f7a4 22 = .ok (.iadd, 1) := by decide +kernel
theorem dJ6_bitCount_0f7a4_23 : decode cJ6_bitCount_0f7a4 23 = .ok (.istore_n 0, 1) := by decide +kernel
theorem dJ6_bitCount_0f7a4_24 : decode cJ6_bitCount_0f7a4 24 = .ok (.iload_n 0, 1) := by decide +kernel
theorem dJ6_bitCount_0f7a4_25 : decode cJ6_bitCount_0f7a4 25 = .ok (.iload_n 0, 1) := by decide +kernel
theorem dJ6_bitCount_0f7a4_26 : decode cJ6_bitCount_0f7a4 26 = .ok (.iconst 4, 1) := by decide +kernel
theorem dJ6_bitCount_0f7a4_27 : decode cJ6_bitCount_0f7a4 27 = .ok (.iushr, 1) := by decide +kernel
theorem dJ6_bitCount_0f7a4_28 : decode cJ6_bitCount_0f7a4 28 = .ok (.iadd, 1) := by decide +kernel
theorem dJ6_bitCount_0f7a4_29 : decode cJ6_bitCount_0f7a4 29 = .ok (.ldc_w 267, 3) := by decide +kernel
theorem dJ6_bitCount_0f7a4_32 : decode cJ6_bitCount_0f7a4 32 = .ok (.iand, 1) := by decide +kernel
theorem dJ6_bitCount_0f7a4_33 : decode cJ6_bitCount_0f7a4 33 = .ok (.istore_n 0, 1) := by decide +kernel
theorem dJ6_bitCount_0f7a4_34 : decode cJ6_bitCount_0f7a4 34 = .ok (.iload_n 0, 1) := by decide +kernel
theorem dJ6_bitCount_0f7a4_35 : decode cJ6_bitCount_0f7a4 35 = .ok (.iload_n 0, 1) := by decide +kernel
theorem dJ6_bitCount_0f7a4_36 : decode cJ6_bitCount_0f7a4 36 = .ok (.bipush 8, 2) := by decide +kernel
theorem dJ6_bitCount_0f7a4_38 : decode cJ6_bitCount_0f7a4 38 = .ok (.iushr, 1) := by decide +kernel
theorem dJ6_bitCount_0f7a4_39 : decode cJ6_bitCount_0f7a4 39 = .ok (.iadd, 1) := by decide +kernel
theorem dJ6_bitCount_0f7a4_40 : decode cJ6_bitCount_0f7a4 40 = .ok (.istore_n 0, 1) := by decide +kernel
theorem dJ6_bitCount_0f7a4_41 : decode cJ6_bitCount_0f7a4 41 = .ok (.iload_n 0, 1) := by decide +kernel
theorem dJ6_bitCount_0f7a4_42 : decode cJ6_bitCount_0f7a4 42 = .ok (.iload_n 0, 1) := by decide +kernel
theorem dJ6_bitCount_0f7a4_43 : decode cJ6_bitCount_0f7a4 43 = .ok (.bipush 16, 2) := by decide +kernel
theorem dJ6_bitCount_0f7a4_45 : decode cJ6_bitCount_0f7a4 45 = .ok (.iushr, 1) := by decide +kernel
theorem dJ6_bitCount_0f7a4_46 : decode cJ6_bitCount_0f7a4 46 = .ok (.iadd, 1) := by decide +kernel
theorem dJ6_bitCount_0f7a4_47 : decode cJ6_bitCount_0f7a4 47 = .ok (.istore_n 0, 1) := by decide +kernel
theorem dJ6_bitCount_0f7a4_48 : decode cJ6_bitCount_0f7a4 48 = .ok (.iload_n 0, 1) := by decide +kernel
theorem dJ6_bitCount_0f7a4_49 : decode cJ6_bitCount_0f7a4 49 = .ok (.bipush 63, 2) := by decide +kernel
theorem dJ6_bitCount_0f7a4_51 : decode cJ6_bitCount_0f7a4 51 = .ok (.iand, 1) := by decide +kernel
theorem dJ6_bitCount_0f7a4_52 : decode cJ6_bitCount_0f7a4 52 = .ok (.ireturn, 1) := by decide +kernel
theorem dJ9_max_7cf53_0 : decode cJ9_max_7cf53 0 = .ok (.iload_n 0, 1) := by decide +kernel
theorem dJ9_max_7cf53_1 : decode cJ9_max_7cf53 1 = .ok (.iload_n 1, 1) := by decide +kernel
theorem dJ9_max_7cf53_2 : decode cJ9_max_7cf53 2 = .ok (.if_icmp .lt 7, 3) := by decide +kernel
theorem dJ9_max_7cf53_5 : decode cJ9_max_7cf53 5 = .ok (.iload_n 0, 1) := by decide +kernel
theorem dJ9_max_7cf53_6 : decode cJ9_max_7cf53 6 = .ok (.goto 4, 3) := by decide +kernel
theorem dJ9_max_7cf53_9 : decode cJ9_max_7cf53 9 = .ok (.iload_n 1, 1) := by decide +kernel
theorem dJ9_max_7cf53_10 : decode cJ9_max_7cf53 10 = .ok (.ireturn, 1) := by decide +kernel
theorem dJ9_min_7cf53_0 : decode cJ9_min_7cf53 0 = .ok (.iload_n 0, 1) := by decide +kernel
theorem dJ9_min_7cf53_1 : decode cJ9_min_7cf53 1 = .ok (.iload_n 1, 1) := by decide +kernel
theorem dJ9_min_7cf53_2 : decode cJ9_min_7cf53 2 = .ok (.if_icmp .gt 7, 3) := by decide +kernel
theorem dJ9_min_7cf53_5 : decode cJ9_min_7cf53 5 = .ok (.iload_n 0, 1) := by decide +kernel
theorem dJ9_min_7cf53_6 : decode cJ9_min_7cf53 6 = .ok (.goto 4, 3) := by decide +kernel
theorem dJ9_min_7cf53_9 : decode cJ9_min_7cf53 9 = .ok (.iload_n 1, 1) := by decide +kernel
theorem dJ9_min_7cf53_10 : decode cJ9_min_7cf53 10 = .ok (.ireturn, 1) := by decide +kernel
theorem dL_add_0 : decode cL_add 0 = .ok (.aload 6, 2) := by decide +kernel
theorem dL_add_2 : decode cL_add 2 = .ok (.iconst 0, 1) := by decide +kernel
theorem dL_add_3 : decode cL_add 3 = .ok (.aload_n 0, 1) := by decide +kernel
theorem dL_add_4 : decode cL_add 4 = .ok (.iload_n 1, 1) := by decide +kernel
theorem dL_add_5 : decode cL_add 5 = .ok (.iload_n 2, 1) := by decide +kernel
theorem dL_add_6 : decode cL_add 6 = .ok (.iload_n 3, 1) := by decide +kernel
theorem dL_add_7 : decode cL_add 7 = .ok (.iload 4, 2) := by decide +kernel
theorem dL_add_9 : decode cL_add 9 = .ok (.iload 5, 2) := by decide +kernel
theorem dL_add_11 : decode cL_add 11 = .ok (.invokevirtual 7, 3) := by decide +kernel
theorem dL_add_14 : decode cL_add 14 = .ok (.i2l, 1) := by decide +kernel
theorem dL_add_15 : decode cL_add 15 = .ok (.lastore, 1) := by decide +kernel
theorem dL_add_16 : decode cL_add 16 = .ok (.goto 15, 3) := by decide +kernel
theorem dL_add_19 : decode cL_add 19 = .ok (.astore 7, 2) := by decide +kernel
theorem dL_add_21 : decode cL_add 21 = .ok (.iconst 1, 1) := by decide +kernel
theorem dL_add_22 : decode cL_add 22 = .ok (.ireturn, 1) := by decide +kernel
theorem dL_add_23 : decode cL_add 23 = .ok (.astore 7, 2) := by decide +kernel
theorem dL_add_25 : decode cL_add 25 = .ok (.iconst 2, 1) := by decide +kernel
theorem dL_add_26 : decode cL_add 26 = .ok (.ireturn, 1) := by decide +kernel
theorem dL_add_27 : decode cL_add 27 = .ok (.astore 7, 2) := by decide +kernel
theorem dL_add_29 : decode cL_add 29 = .ok (.iconst 3, 1) := by decide +kernel
theorem dL_add_30 : decode cL_add 30 = .ok (.ireturn, 1) := by decide +kernel
theorem dL_add_31 : decode cL_add 31 = .ok (.iconst 0, 1) := by decide +kernel
theorem dL_add_32 : decode cL_add 32 = .ok (.ireturn, 1) := by decide +kernel
theorem dL_remove_0 : decode cL_remove 0 = .ok (.aload_n 2, 1) := by decide +kernel
theorem dL_remove_1 : decode cL_remove 1 = .ok (.iconst 0, 1) := by decide +kernel
theorem dL_remove_2 : decode cL_remove 2 = .ok (.aload_n 0, 1) := by decide +kernel
theorem dL_remove_3 : decode cL_remove 3 = .ok (.iload_n 1, 1) := by decide +kernel
theorem dL_remove_4 : decode cL_remove 4 = .ok (.invokevirtual 19, 3) := by decide +kernel
theorem dL_remove_7 : decode cL_remove 7 = .ok (.i2l, 1) := by decide +kernel
theorem dL_remove_8 : decode cL_remove 8 = .ok (.lastore, 1) := by decide +kernel
theorem dL_remove_9 : decode cL_remove 9 = .ok (.goto 6, 3) := by decide +kernel
theorem dL_remove_12 : decode cL_remove 12 = .ok (.astore_n 3, 1) := by decide +kernel
theorem dL_remove_13 : decode cL_remove 13 = .ok (.iconst 1, 1) := by decide +kernel
theorem dL_remove_14 : decode cL_remove 14 = .ok (.ireturn, 1) := by decide +kernel
theorem dL_remove_15 : decode cL_remove 15 = .ok (.iconst 0, 1) := by decide +kernel
theorem dL_remove_16 : decode cL_remove 16 = .ok (.ireturn, 1) := by decide +kernel
theorem dL_setStrength_0 : decode cL_setStrength 0 = .ok (.aload_n 3, 1) := by decide +kernel
theorem dL_setStrength_1 : decode cL_setStrength 1 = .ok (.iconst 0, 1) := by decide +kernel
theorem dL_setStrength_2 : decode cL_setStrength 2 = .ok (.aload_n 0, 1) := by decide +kernel
theorem dL_setStrength_3 : decode cL_setStrength 3 = .ok (.iload_n 1, 1) := by decide +kernel
theorem dL_setStrength_4 : decode cL_setStrength 4 = .ok (.iload_n 2, 1) := by decide +kernel
theorem dL_setStrength_5 : decode cL_setStrength 5 = .ok (.invokevirtual 23, 3) := by decide +kernel
theorem dL_setStrength_8 : decode cL_setStrength 8 = .ok (.i2l, 1) := by decide +kernel
theorem dL_setStrength_9 : decode cL_setStrength 9 = .ok (.lastore, 1) := by decide +kernel
theorem dL_setStrength_10 : decode cL_setStrength 10 = .ok (.goto 11, 3) := by decide +kernel
theorem dL_setStrength_13 : decode cL_setStrength 13 = .ok (.astore 4, 2) := by decide +kernel
theorem dL_setStrength_15 : decode cL_setStrength 15 = .ok (.iconst 1, 1) := by decide +kernel
theorem dL_setStrength_16 : decode cL_setStrength 16 = .ok (.ireturn, 1) := by decide +kernel
theorem dL_setStrength_17 : decode cL_setStrength 17 = .ok (.astore 4, 2) := by decide +kernel
theorem dL_setStrength_19 : decode cL_setStrength 19 = .ok (.iconst 2, 1) := by decide +kernel
theorem dL_setStrength_20 : decode cL_setStrength 20 = .ok (.ireturn, 1) := by decide +kernel
theorem dL_setStrength_21 : decode cL_setStrength 21 = .ok (.iconst 0, 1) := by decide +kernel
theorem dL_setStrength_22 : decode cL_setStrength 22 = .ok (.ireturn, 1) := by decide +kernel
theorem dL_setNumber_0 : decode cL_setNumber 0 = .ok (.aload_n 3, 1) := by decide +kernel
theorem dL_setNumber_1 : decode cL_setNumber 1 = .ok (.iconst 0, 1) := by decide +kernel
theorem dL_setNumber_2 : decode cL_setNumber 2 = .ok (.aload_n 0, 1) := by decide +kernel
theorem dL_setNumber_3 : decode cL_setNumber 3 = .ok (.iload_n 1, 1) := by decide +kernel
theorem dL_setNumber_4 : decode cL_setNumber 4 = .ok (.iload_n 2, 1) := by decide +kernel
theorem dL_setNumber_5 : decode cL_setNumber 5 = .ok (.invokevirtual 27, 3) := by decide +kernel
theorem dL_setNumber_8 : decode cL_setNumber 8 = .ok (.i2l, 1) := by decide +kernel
theorem dL_setNumber_9 : decode cL_setNumber 9 = .ok (.lastore, 1) := by decide +kernel
theorem dL_setNumber_10 : decode cL_setNumber 10 = .ok (.goto 11, 3) := by decide +kernel
theorem dL_setNumber_13 : decode cL_setNumber 13 = .ok (.astore 4, 2) := by decide +kernel
theorem dL_setNumber_15 : decode cL_setNumber 15 = .ok (.iconst 1, 1) := by decide +kernel
theorem dL_setNumber_16 : decode cL_setNumber 16 = .ok (.ireturn, 1) := by decide +kernel
theorem dL_setNumber_17 : decode cL_setNumber 17 = .ok (.astore 4, 2) := by decide +kernel
theorem dL_setNumber_19 : decode cL_setNumber 19 = .ok (.iconst 2, 1) := by decide +kernel
theorem dL_setNumber_20 : decode cL_setNumber 20 = .ok (.ireturn, 1) := by decide +kernel
theorem dL_setNumber_21 : decode cL_setNumber 21 = .ok (.iconst 0, 1) := by decide +kernel
theorem dL_setNumber_22 : decode cL_setNumber 22 = .ok (.ireturn, 1) := by decide +kernel
theorem dL_setStay_0 : decode cL_setStay 0 = .ok (.aload_n 3, 1) := by decide +kernel
theorem dL_setStay_1 : decode cL_setStay 1 = .ok (.iconst 0, 1) := by decide +kernel
theorem dL_setStay_2 : decode cL_setStay 2 = .ok (.aload_n 0, 1) := by decide +kernel
theorem dL_setStay_3 : decode cL_setStay 3 = .ok (.iload_n 1, 1) := by decide +kernel
theorem dL_setStay_4 : decode cL_setStay 4 = .ok (.iload_n 2, 1) := by decide +kernel
theorem dL_setStay_5 : decode cL_setStay 5 = .ok (.invokevirtual 30, 3) := by decide +kernel
theorem dL_setStay_8 : decode cL_setStay 8 = .ok (.i2l, 1) := by decide +kernel
theorem dL_setStay_9 : decode cL_setStay 9 = .ok (.lastore, 1) := by decide +kernel
theorem dL_setStay_10 : decode cL_setStay 10 = .ok (.goto 11, 3) := by decide +kernel
theorem dL_setStay_13 : decode cL_setStay 13 = .ok (.astore 4, 2) := by decide +kernel
theorem dL_setStay_15 : decode cL_setStay 15 = .ok (.iconst 1, 1) := by decide +kernel
theorem dL_setStay_16 : decode cL_setStay 16 = .ok (.ireturn, 1) := by decide +kernel
theorem dL_setStay_17 : decode cL_setStay 17 = .ok (.astore 4, 2) := by decide +kernel
theorem dL_setStay_19 : decode cL_setStay 19 = .ok (.iconst 2, 1) := by decide +kernel
theorem dL_setStay_20 : decode cL_setStay 20 = .ok (.ireturn, 1) := by decide +kernel
theorem dL_setStay_21 : decode cL_setStay 21 = .ok (.iconst 0, 1) := by decide +kernel
theorem dL_setStay_22 : decode cL_setStay 22 = .ok (.ireturn, 1) := by decide +kernel
theorem dL_edit_0 : decode cL_edit 0 = .ok (.aload 4, 2) := by decide +kernel
theorem dL_edit_2 : decode cL_edit 2 = .ok (.iconst 0, 1) := by decide +kernel
theorem dL_edit_3 : decode cL_edit 3 = .ok (.aload_n 0, 1) := by decide +kernel
theorem dL_edit_4 : decode cL_edit 4 = .ok (.iload_n 1, 1) := by decide +kernel
theorem dL_edit_5 : decode cL_edit 5 = .ok (.iload_n 2, 1) := by decide +kernel
theorem dL_edit_6 : decode cL_edit 6 = .ok (.iload_n 3, 1) := by decide +kernel
theorem dL_edit_7 : decode cL_edit 7 = .ok (.invokevirtual 33, 3) := by decide +kernel
theorem dL_edit_10 : decode cL_edit 10 = .ok (.i2l, 1) := by decide +kernel
theorem dL_edit_11 : decode cL_edit 11 = .ok (.lastore, 1) := by decide +kernel
theorem dL_edit_12 : decode cL_edit 12 = .ok (.goto 15, 3) := by decide +kernel
theorem dL_edit_15 : decode cL_edit 15 = .ok (.astore 5, 2) := by decide +kernel
theorem dL_edit_17 : decode cL_edit 17 = .ok (.iconst 1, 1) := by decide +kernel
theorem dL_edit_18 : decode cL_edit 18 = .ok (.ireturn, 1) := by decide +kernel
theorem dL_edit_19 : decode cL_edit 19 = .ok (.astore 5, 2) := by decide +kernel
theorem dL_edit_21 : decode cL_edit 21 = .ok (.iconst 2, 1) := by decide +kernel
theorem dL_edit_22 : decode cL_edit 22 = .ok (.ireturn, 1) := by decide +kernel
theorem dL_edit_23 : decode cL_edit 23 = .ok (.astore 5, 2) := by decide +kernel
theorem dL_edit_25 : decode cL_edit 25 = .ok (.iconst 3, 1) := by decide +kernel
theorem dL_edit_26 : decode cL_edit 26 = .ok (.ireturn, 1) := by decide +kernel
theorem dL_edit_27 : decode cL_edit 27 = .ok (.iconst 0, 1) := by decide +kernel
theorem dL_edit_28 : decode cL_edit 28 = .ok (.ireturn, 1) := by decide +kernel
theorem dL_settleFrom_0 : decode cL_settleFrom 0 = .ok (.aload_n 2, 1) := by decide +kernel
theorem dL_settleFrom_1 : decode cL_settleFrom 1 = .ok (.iconst 0, 1) := by decide +kernel
theorem dL_settleFrom_2 : decode cL_settleFrom 2 = .ok (.aload_n 0, 1) := by decide +kernel
theorem dL_settleFrom_3 : decode cL_settleFrom 3 = .ok (.iload_n 1, 1) := by decide +kernel
theorem dL_settleFrom_4 : decode cL_settleFrom 4 = .ok (.invokevirtual 37, 3) := by decide +kernel
theorem dL_settleFrom_7 : decode cL_settleFrom 7 = .ok (.i2l, 1) := by decide +kernel
theorem dL_settleFrom_8 : decode cL_settleFrom 8 = .ok (.lastore, 1) := by decide +kernel
theorem dL_settleFrom_9 : decode cL_settleFrom 9 = .ok (.goto 6, 3) := by decide +kernel
theorem dL_settleFrom_12 : decode cL_settleFrom 12 = .ok (.astore_n 3, 1) := by decide +kernel
theorem dL_settleFrom_13 : decode cL_settleFrom 13 = .ok (.iconst 1, 1) := by decide +kernel
theorem dL_settleFrom_14 : decode cL_settleFrom 14 = .ok (.ireturn, 1) := by decide +kernel
theorem dL_settleFrom_15 : decode cL_settleFrom 15 = .ok (.iconst 0, 1) := by decide +kernel
theorem dL_settleFrom_16 : decode cL_settleFrom 16 = .ok (.ireturn, 1) := by decide +kernel
theorem dL_append_0 : decode cL_append 0 = .ok (.aload_n 2, 1) := by decide +kernel
theorem dL_append_1 : decode cL_append 1 = .ok (.iconst 0, 1) := by decide +kernel
theorem dL_append_2 : decode cL_append 2 = .ok (.aload_n 0, 1) := by decide +kernel
theorem dL_append_3 : decode cL_append 3 = .ok (.iload_n 1, 1) := by decide +kernel
theorem dL_append_4 : decode cL_append 4 = .ok (.invokevirtual 40, 3) := by decide +kernel
theorem dL_append_7 : decode cL_append 7 = .ok (.i2l, 1) := by decide +kernel
theorem dL_append_8 : decode cL_append 8 = .ok (.lastore, 1) := by decide +kernel
theorem dL_append_9 : decode cL_append 9 = .ok (.goto 9, 3) := by decide +kernel
theorem dL_append_12 : decode cL_append 12 = .ok (.astore_n 3, 1) := by decide +kernel
theorem dL_append_13 : decode cL_append 13 = .ok (.iconst 1, 1) := by decide +kernel
theorem dL_append_14 : decode cL_append 14 = .ok (.ireturn, 1) := by decide +kernel
theorem dL_append_15 : decode cL_append 15 = .ok (.astore_n 3, 1) := by decide +kernel
theorem dL_append_16 : decode cL_append 16 = .ok (.iconst 2, 1) := by decide +kernel
theorem dL_append_17 : decode cL_append 17 = .ok (.ireturn, 1) := by decide +kernel
theorem dL_append_18 : decode cL_append 18 = .ok (.iconst 0, 1) := by decide +kernel
theorem dL_append_19 : decode cL_append 19 = .ok (.ireturn, 1) := by decide +kernel
theorem dL_load_0 : decode cL_load 0 = .ok (.aload_n 1, 1) := by decide +kernel
theorem dL_load_1 : decode cL_load 1 = .ok (.iconst 0, 1) := by decide +kernel
theorem dL_load_2 : decode cL_load 2 = .ok (.aload_n 0, 1) := by decide +kernel
theorem dL_load_3 : decode cL_load 3 = .ok (.invokevirtual 43, 3) := by decide +kernel
theorem dL_load_6 : decode cL_load 6 = .ok (.i2l, 1) := by decide +kernel
theorem dL_load_7 : decode cL_load 7 = .ok (.lastore, 1) := by decide +kernel
theorem dL_load_8 : decode cL_load 8 = .ok (.goto 9, 3) := by decide +kernel
theorem dL_load_11 : decode cL_load 11 = .ok (.astore_n 2, 1) := by decide +kernel
theorem dL_load_12 : decode cL_load 12 = .ok (.iconst 1, 1) := by decide +kernel
theorem dL_load_13 : decode cL_load 13 = .ok (.ireturn, 1) := by decide +kernel
theorem dL_load_14 : decode cL_load 14 = .ok (.astore_n 2, 1) := by decide +kernel
theorem dL_load_15 : decode cL_load 15 = .ok (.iconst 2, 1) := by decide +kernel
theorem dL_load_16 : decode cL_load 16 = .ok (.ireturn, 1) := by decide +kernel
theorem dL_load_17 : decode cL_load 17 = .ok (.iconst 0, 1) := by decide +kernel
theorem dL_load_18 : decode cL_load 18 = .ok (.ireturn, 1) := by decide +kernel
theorem dL_undo_0 : decode cL_undo 0 = .ok (.aload_n 1, 1) := by decide +kernel
theorem dL_undo_1 : decode cL_undo 1 = .ok (.iconst 0, 1) := by decide +kernel
theorem dL_undo_2 : decode cL_undo 2 = .ok (.aload_n 0, 1) := by decide +kernel
theorem dL_undo_3 : decode cL_undo 3 = .ok (.invokevirtual 47, 3) := by decide +kernel
theorem dL_undo_6 : decode cL_undo 6 = .ok (.i2l, 1) := by decide +kernel
theorem dL_undo_7 : decode cL_undo 7 = .ok (.lastore, 1) := by decide +kernel
theorem dL_undo_8 : decode cL_undo 8 = .ok (.goto 6, 3) := by decide +kernel
theorem dL_undo_11 : decode cL_undo 11 = .ok (.astore_n 2, 1) := by decide +kernel
theorem dL_undo_12 : decode cL_undo 12 = .ok (.iconst 1, 1) := by decide +kernel
theorem dL_undo_13 : decode cL_undo 13 = .ok (.ireturn, 1) := by decide +kernel
theorem dL_undo_14 : decode cL_undo 14 = .ok (.iconst 0, 1) := by decide +kernel
theorem dL_undo_15 : decode cL_undo 15 = .ok (.ireturn, 1) := by decide +kernel
theorem dL_place_0 : decode cL_place 0 = .ok (.aload_n 3, 1) := by decide +kernel
theorem dL_place_1 : decode cL_place 1 = .ok (.iconst 0, 1) := by decide +kernel
theorem dL_place_2 : decode cL_place 2 = .ok (.aload_n 0, 1) := by decide +kernel
theorem dL_place_3 : decode cL_place 3 = .ok (.iload_n 1, 1) := by decide +kernel
theorem dL_place_4 : decode cL_place 4 = .ok (.iload_n 2, 1) := by decide +kernel
theorem dL_place_5 : decode cL_place 5 = .ok (.invokevirtual 50, 3) := by decide +kernel
theorem dL_place_8 : decode cL_place 8 = .ok (.i2l, 1) := by decide +kernel
theorem dL_place_9 : decode cL_place 9 = .ok (.lastore, 1) := by decide +kernel
theorem dL_place_10 : decode cL_place 10 = .ok (.goto 11, 3) := by decide +kernel
theorem dL_place_13 : decode cL_place 13 = .ok (.astore 4, 2) := by decide +kernel
theorem dL_place_15 : decode cL_place 15 = .ok (.iconst 1, 1) := by decide +kernel
theorem dL_place_16 : decode cL_place 16 = .ok (.ireturn, 1) := by decide +kernel
theorem dL_place_17 : decode cL_place 17 = .ok (.astore 4, 2) := by decide +kernel
theorem dL_place_19 : decode cL_place 19 = .ok (.iconst 2, 1) := by decide +kernel
theorem dL_place_20 : decode cL_place 20 = .ok (.ireturn, 1) := by decide +kernel
theorem dL_place_21 : decode cL_place 21 = .ok (.iconst 0, 1) := by decide +kernel
theorem dL_place_22 : decode cL_place 22 = .ok (.ireturn, 1) := by decide +kernel
theorem dL_condition_0 : decode cL_condition 0 = .ok (.aload_n 3, 1) := by decide +kernel
theorem dL_condition_1 : decode cL_condition 1 = .ok (.iconst 0, 1) := by decide +kernel
theorem dL_condition_2 : decode cL_condition 2 = .ok (.aload_n 0, 1) := by decide +kernel
theorem dL_condition_3 : decode cL_condition 3 = .ok (.iload_n 1, 1) := by decide +kernel
theorem dL_condition_4 : decode cL_condition 4 = .ok (.iload_n 2, 1) := by decide +kernel
theorem dL_condition_5 : decode cL_condition 5 = .ok (.invokevirtual 53, 3) := by decide +kernel
theorem dL_condition_8 : decode cL_condition 8 = .ok (.i2l, 1) := by decide +kernel
theorem dL_condition_9 : decode cL_condition 9 = .ok (.lastore, 1) := by decide +kernel
theorem dL_condition_10 : decode cL_condition 10 = .ok (.goto 11, 3) := by decide +kernel
theorem dL_condition_13 : decode cL_condition 13 = .ok (.astore 4, 2) := by decide +kernel
theorem dL_condition_15 : decode cL_condition 15 = .ok (.iconst 1, 1) := by decide +kernel
theorem dL_condition_16 : decode cL_condition 16 = .ok (.ireturn, 1) := by decide +kernel
theorem dL_condition_17 : decode cL_condition 17 = .ok (.astore 4, 2) := by decide +kernel
theorem dL_condition_19 : decode cL_condition 19 = .ok (.iconst 2, 1) := by decide +kernel
theorem dL_condition_20 : decode cL_condition 20 = .ok (.ireturn, 1) := by decide +kernel
theorem dL_condition_21 : decode cL_condition 21 = .ok (.iconst 0, 1) := by decide +kernel
theorem dL_condition_22 : decode cL_condition 22 = .ok (.ireturn, 1) := by decide +kernel
theorem dL_edited_0 : decode cL_edited 0 = .ok (.aload_n 3, 1) := by decide +kernel
theorem dL_edited_1 : decode cL_edited 1 = .ok (.iconst 0, 1) := by decide +kernel
theorem dL_edited_2 : decode cL_edited 2 = .ok (.aload_n 0, 1) := by decide +kernel
theorem dL_edited_3 : decode cL_edited 3 = .ok (.iload_n 1, 1) := by decide +kernel
theorem dL_edited_4 : decode cL_edited 4 = .ok (.iload_n 2, 1) := by decide +kernel
theorem dL_edited_5 : decode cL_edited 5 = .ok (.invokevirtual 56, 3) := by decide +kernel
theorem dL_edited_8 : decode cL_edited 8 = .ok (.i2l, 1) := by decide +kernel
theorem dL_edited_9 : decode cL_edited 9 = .ok (.lastore, 1) := by decide +kernel
theorem dL_edited_10 : decode cL_edited 10 = .ok (.goto 11, 3) := by decide +kernel
theorem dL_edited_13 : decode cL_edited 13 = .ok (.astore 4, 2) := by decide +kernel
theorem dL_edited_15 : decode cL_edited 15 = .ok (.iconst 1, 1) := by decide +kernel
theorem dL_edited_16 : decode cL_edited 16 = .ok (.ireturn, 1) := by decide +kernel
theorem dL_edited_17 : decode cL_edited 17 = .ok (.astore 4, 2) := by decide +kernel
theorem dL_edited_19 : decode cL_edited 19 = .ok (.iconst 2, 1) := by decide +kernel
theorem dL_edited_20 : decode cL_edited 20 = .ok (.ireturn, 1) := by decide +kernel
theorem dL_edited_21 : decode cL_edited 21 = .ok (.iconst 0, 1) := by decide +kernel
theorem dL_edited_22 : decode cL_edited 22 = .ok (.ireturn, 1) := by decide +kernel
theorem dL_widest_0 : decode cL_widest 0 = .ok (.aload_n 3, 1) := by decide +kernel
theorem dL_widest_1 : decode cL_widest 1 = .ok (.iconst 0, 1) := by decide +kernel
theorem dL_widest_2 : decode cL_widest 2 = .ok (.aload_n 0, 1) := by decide +kernel
theorem dL_widest_3 : decode cL_widest 3 = .ok (.iload_n 1, 1) := by decide +kernel
theorem dL_widest_4 : decode cL_widest 4 = .ok (.iload_n 2, 1) := by decide +kernel
theorem dL_widest_5 : decode cL_widest 5 = .ok (.invokevirtual 59, 3) := by decide +kernel
theorem dL_widest_8 : decode cL_widest 8 = .ok (.i2l, 1) := by decide +kernel
theorem dL_widest_9 : decode cL_widest 9 = .ok (.lastore, 1) := by decide +kernel
theorem dL_widest_10 : decode cL_widest 10 = .ok (.goto 7, 3) := by decide +kernel
theorem dL_widest_13 : decode cL_widest 13 = .ok (.astore 4, 2) := by decide +kernel
theorem dL_widest_15 : decode cL_widest 15 = .ok (.iconst 1, 1) := by decide +kernel
theorem dL_widest_16 : decode cL_widest 16 = .ok (.ireturn, 1) := by decide +kernel
theorem dL_widest_17 : decode cL_widest 17 = .ok (.iconst 0, 1) := by decide +kernel
theorem dL_widest_18 : decode cL_widest 18 = .ok (.ireturn, 1) := by decide +kernel
theorem dL_count_0 : decode cL_count 0 = .ok (.aload_n 2, 1) := by decide +kernel
theorem dL_count_1 : decode cL_count 1 = .ok (.iconst 0, 1) := by decide +kernel
theorem dL_count_2 : decode cL_count 2 = .ok (.aload_n 0, 1) := by decide +kernel
theorem dL_count_3 : decode cL_count 3 = .ok (.iload_n 1, 1) := by decide +kernel
theorem dL_count_4 : decode cL_count 4 = .ok (.invokevirtual 62, 3) := by decide +kernel
theorem dL_count_7 : decode cL_count 7 = .ok (.i2l, 1) := by decide +kernel
theorem dL_count_8 : decode cL_count 8 = .ok (.lastore, 1) := by decide +kernel
theorem dL_count_9 : decode cL_count 9 = .ok (.goto 6, 3) := by decide +kernel
theorem dL_count_12 : decode cL_count 12 = .ok (.astore_n 3, 1) := by decide +kernel
theorem dL_count_13 : decode cL_count 13 = .ok (.iconst 1, 1) := by decide +kernel
theorem dL_count_14 : decode cL_count 14 = .ok (.ireturn, 1) := by decide +kernel
theorem dL_count_15 : decode cL_count 15 = .ok (.iconst 0, 1) := by decide +kernel
theorem dL_count_16 : decode cL_count 16 = .ok (.ireturn, 1) := by decide +kernel
theorem dL_ifEdited_0 : decode cL_ifEdited 0 = .ok (.aload 5, 2) := by decide +kernel
theorem dL_ifEdited_2 : decode cL_ifEdited 2 = .ok (.iconst 0, 1) := by decide +kernel
theorem dL_ifEdited_3 : decode cL_ifEdited 3 = .ok (.aload_n 0, 1) := by decide +kernel
theorem dL_ifEdited_4 : decode cL_ifEdited 4 = .ok (.iload_n 1, 1) := by decide +kernel
theorem dL_ifEdited_5 : decode cL_ifEdited 5 = .ok (.iload_n 2, 1) := by decide +kernel
theorem dL_ifEdited_6 : decode cL_ifEdited 6 = .ok (.iload_n 3, 1) := by decide +kernel
theorem dL_ifEdited_7 : decode cL_ifEdited 7 = .ok (.iload 4, 2) := by decide +kernel
theorem dL_ifEdited_9 : decode cL_ifEdited 9 = .ok (.invokevirtual 65, 3) := by decide +kernel
theorem dL_ifEdited_12 : decode cL_ifEdited 12 = .ok (.i2l, 1) := by decide +kernel
theorem dL_ifEdited_13 : decode cL_ifEdited 13 = .ok (.lastore, 1) := by decide +kernel
theorem dL_ifEdited_14 : decode cL_ifEdited 14 = .ok (.goto 11, 3) := by decide +kernel
theorem dL_ifEdited_17 : decode cL_ifEdited 17 = .ok (.astore 6, 2) := by decide +kernel
theorem dL_ifEdited_19 : decode cL_ifEdited 19 = .ok (.iconst 1, 1) := by decide +kernel
theorem dL_ifEdited_20 : decode cL_ifEdited 20 = .ok (.ireturn, 1) := by decide +kernel
theorem dL_ifEdited_21 : decode cL_ifEdited 21 = .ok (.astore 6, 2) := by decide +kernel
theorem dL_ifEdited_23 : decode cL_ifEdited 23 = .ok (.iconst 2, 1) := by decide +kernel
theorem dL_ifEdited_24 : decode cL_ifEdited 24 = .ok (.ireturn, 1) := by decide +kernel
theorem dL_ifEdited_25 : decode cL_ifEdited 25 = .ok (.iconst 0, 1) := by decide +kernel
theorem dL_ifEdited_26 : decode cL_ifEdited 26 = .ok (.ireturn, 1) := by decide +kernel
theorem dL_ifRemoved_0 : decode cL_ifRemoved 0 = .ok (.aload_n 2, 1) := by decide +kernel
theorem dL_ifRemoved_1 : decode cL_ifRemoved 1 = .ok (.iconst 0, 1) := by decide +kernel
theorem dL_ifRemoved_2 : decode cL_ifRemoved 2 = .ok (.aload_n 0, 1) := by decide +kernel
theorem dL_ifRemoved_3 : decode cL_ifRemoved 3 = .ok (.iload_n 1, 1) := by decide +kernel
theorem dL_ifRemoved_4 : decode cL_ifRemoved 4 = .ok (.invokevirtual 69, 3) := by decide +kernel
theorem dL_ifRemoved_7 : decode cL_ifRemoved 7 = .ok (.i2l, 1) := by decide +kernel
theorem dL_ifRemoved_8 : decode cL_ifRemoved 8 = .ok (.lastore, 1) := by decide +kernel
theorem dL_ifRemoved_9 : decode cL_ifRemoved 9 = .ok (.goto 6, 3) := by decide +kernel
theorem dL_ifRemoved_12 : decode cL_ifRemoved 12 = .ok (.astore_n 3, 1) := by decide +kernel
theorem dL_ifRemoved_13 : decode cL_ifRemoved 13 = .ok (.iconst 1, 1) := by decide +kernel
theorem dL_ifRemoved_14 : decode cL_ifRemoved 14 = .ok (.ireturn, 1) := by decide +kernel
theorem dL_ifRemoved_15 : decode cL_ifRemoved 15 = .ok (.iconst 0, 1) := by decide +kernel
theorem dL_ifRemoved_16 : decode cL_ifRemoved 16 = .ok (.ireturn, 1) := by decide +kernel
theorem dL_neededStrength_0 : decode cL_neededStrength 0 = .ok (.aload_n 2, 1) := by decide +kernel
theorem dL_neededStrength_1 : decode cL_neededStrength 1 = .ok (.iconst 0, 1) := by decide +kernel
theorem dL_neededStrength_2 : decode cL_neededStrength 2 = .ok (.aload_n 0, 1) := by decide +kernel
theorem dL_neededStrength_3 : decode cL_neededStrength 3 = .ok (.iload_n 1, 1) := by decide +kernel
theorem dL_neededStrength_4 : decode cL_neededStrength 4 = .ok (.invokevirtual 72, 3) := by decide +kernel
theorem dL_neededStrength_7 : decode cL_neededStrength 7 = .ok (.i2l, 1) := by decide +kernel
theorem dL_neededStrength_8 : decode cL_neededStrength 8 = .ok (.lastore, 1) := by decide +kernel
theorem dL_neededStrength_9 : decode cL_neededStrength 9 = .ok (.goto 6, 3) := by decide +kernel
theorem dL_neededStrength_12 : decode cL_neededStrength 12 = .ok (.astore_n 3, 1) := by decide +kernel
theorem dL_neededStrength_13 : decode cL_neededStrength 13 = .ok (.iconst 1, 1) := by decide +kernel
theorem dL_neededStrength_14 : decode cL_neededStrength 14 = .ok (.ireturn, 1) := by decide +kernel
theorem dL_neededStrength_15 : decode cL_neededStrength 15 = .ok (.iconst 0, 1) := by decide +kernel
theorem dL_neededStrength_16 : decode cL_neededStrength 16 = .ok (.ireturn, 1) := by decide +kernel
theorem dL_law_0 : decode cL_law 0 = .ok (.new 8, 3) := by decide +kernel
theorem dL_law_3 : decode cL_law 3 = .ok (.dup, 1) := by decide +kernel
theorem dL_law_4 : decode cL_law 4 = .ok (.invokespecial 75, 3) := by decide +kernel
theorem dL_law_7 : decode cL_law 7 = .ok (.astore_n 1, 1) := by decide +kernel
theorem dL_law_8 : decode cL_law 8 = .ok (.new 76, 3) := by decide +kernel
theorem dL_law_11 : decode cL_law 11 = .ok (.dup, 1) := by decide +kernel
theorem dL_law_12 : decode cL_law 12 = .ok (.invokespecial 78, 3) := by decide +kernel
theorem dL_law_15 : decode cL_law 15 = .ok (.astore_n 2, 1) := by decide +kernel
theorem dL_law_16 : decode cL_law 16 = .ok (.iconst 1, 1) := by decide +kernel
theorem dL_law_17 : decode cL_law 17 = .ok (.newarray .long, 2) := by decide +kernel
theorem dL_law_19 : decode cL_law 19 = .ok (.astore_n 3, 1) := by decide +kernel
theorem dL_law_20 : decode cL_law 20 = .ok (.iconst 0, 1) := by decide +kernel
theorem dL_law_21 : decode cL_law 21 = .ok (.istore 4, 2) := by decide +kernel
theorem dL_law_23 : decode cL_law 23 = .ok (.iload 4, 2) := by decide +kernel
theorem dL_law_25 : decode cL_law 25 = .ok (.aload_n 0, 1) := by decide +kernel
theorem dL_law_26 : decode cL_law 26 = .ok (.arraylength, 1) := by decide +kernel
theorem dL_law_27 : decode cL_law 27 = .ok (.bipush 6, 2) := by decide +kernel
theorem dL_law_29 : decode cL_law 29 = .ok (.isub, 1) := by decide +kernel
theorem dL_law_30 : decode cL_law 30 = .ok (.if_icmp .gt 1396, 3) := by decide +kernel
theorem dL_law_33 : decode cL_law 33 = .ok (.aload_n 0, 1) := by decide +kernel
theorem dL_law_34 : decode cL_law 34 = .ok (.iload 4, 2) := by decide +kernel
theorem dL_law_36 : decode cL_law 36 = .ok (.iaload, 1) := by decide +kernel
theorem dL_law_37 : decode cL_law 37 = .ok (.bipush 31, 2) := by decide +kernel
theorem dL_law_39 : decode cL_law 39 = .ok (.iand, 1) := by decide +kernel
theorem dL_law_40 : decode cL_law 40 = .ok (.tableswitch 1380 0 22 #[108, 212, 268, 336, 404, 472, 552, 565, 621, 677, 690, 703, 747, 791, 859, 927, 995, 1063, 1119, 1211, 1267, 1323, 1366], 108) := by decide +kernel
theorem dL_law_148 : decode cL_law 148 = .ok (.aload_n 1, 1) := by decide +kernel
theorem dL_law_149 : decode cL_law 149 = .ok (.aload_n 0, 1) := by decide +kernel
theorem dL_law_150 : decode cL_law 150 = .ok (.iload 4, 2) := by decide +kernel
theorem dL_law_152 : decode cL_law 152 = .ok (.iconst 1, 1) := by decide +kernel
theorem dL_law_153 : decode cL_law 153 = .ok (.iadd, 1) := by decide +kernel
theorem dL_law_154 : decode cL_law 154 = .ok (.iaload, 1) := by decide +kernel
theorem dL_law_155 : decode cL_law 155 = .ok (.aload_n 0, 1) := by decide +kernel
theorem dL_law_156 : decode cL_law 156 = .ok (.iload 4, 2) := by decide +kernel
theorem dL_law_158 : decode cL_law 158 = .ok (.iconst 2, 1) := by decide +kernel
theorem dL_law_159 : decode cL_law 159 = .ok (.iadd, 1) := by decide +kernel
theorem dL_law_160 : decode cL_law 160 = .ok (.iaload, 1) := by decide +kernel
theorem dL_law_161 : decode cL_law 161 = .ok (.aload_n 0, 1) := by decide +kernel
theorem dL_law_162 : decode cL_law 162 = .ok (.iload 4, 2) := by decide +kernel
theorem dL_law_164 : decode cL_law 164 = .ok (.iconst 3, 1) := by decide +kernel
theorem dL_law_165 : decode cL_law 165 = .ok (.iadd, 1) := by decide +kernel
theorem dL_law_166 : decode cL_law 166 = .ok (.iaload, 1) := by decide +kernel
theorem dL_law_167 : decode cL_law 167 = .ok (.aload_n 0, 1) := by decide +kernel
theorem dL_law_168 : decode cL_law 168 = .ok (.iload 4, 2) := by decide +kernel
theorem dL_law_170 : decode cL_law 170 = .ok (.iconst 4, 1) := by decide +kernel
theorem dL_law_171 : decode cL_law 171 = .ok (.iadd, 1) := by decide +kernel
theorem dL_law_172 : decode cL_law 172 = .ok (.iaload, 1) := by decide +kernel
theorem dL_law_173 : decode cL_law 173 = .ok (.aload_n 0, 1) := by decide +kernel
theorem dL_law_174 : decode cL_law 174 = .ok (.iload 4, 2) := by decide +kernel
theorem dL_law_176 : decode cL_law 176 = .ok (.iconst 5, 1) := by decide +kernel
theorem dL_law_177 : decode cL_law 177 = .ok (.iadd, 1) := by decide +kernel
theorem dL_law_178 : decode cL_law 178 = .ok (.iaload, 1) := by decide +kernel
theorem dL_law_179 : decode cL_law 179 = .ok (.aload_n 3, 1) := by decide +kernel
theorem dL_law_180 : decode cL_law 180 = .ok (.invokestatic 79, 3) := by decide +kernel
theorem dL_law_183 : decode cL_law 183 = .ok (.istore 5, 2) := by decide +kernel
theorem dL_law_185 : decode cL_law 185 = .ok (.aload_n 2, 1) := by decide +kernel
theorem dL_law_186 : decode cL_law 186 = .ok (.aload_n 0, 1) := by decide +kernel
theorem dL_law_187 : decode cL_law 187 = .ok (.iload 4, 2) := by decide +kernel
theorem dL_law_189 : decode cL_law 189 = .ok (.iconst 1, 1) := by decide +kernel
theorem dL_law_190 : decode cL_law 190 = .ok (.iadd, 1) := by decide +kernel
theorem dL_law_191 : decode cL_law 191 = .ok (.iaload, 1) := by decide +kernel
theorem dL_law_192 : decode cL_law 192 = .ok (.aload_n 0, 1) := by decide +kernel
theorem dL_law_193 : decode cL_law 193 = .ok (.iload 4, 2) := by decide +kernel
theorem dL_law_195 : decode cL_law 195 = .ok (.iconst 2, 1) := by decide +kernel
theorem dL_law_196 : decode cL_law 196 = .ok (.iadd, 1) := by decide +kernel
theorem dL_law_197 : decode cL_law 197 = .ok (.iaload, 1) := by decide +kernel
theorem dL_law_198 : decode cL_law 198 = .ok (.aload_n 0, 1) := by decide +kernel
theorem dL_law_199 : decode cL_law 199 = .ok (.iload 4, 2) := by decide +kernel
theorem dL_law_201 : decode cL_law 201 = .ok (.iconst 3, 1) := by decide +kernel
theorem dL_law_202 : decode cL_law 202 = .ok (.iadd, 1) := by decide +kernel
theorem dL_law_203 : decode cL_law 203 = .ok (.iaload, 1) := by decide +kernel
theorem dL_law_204 : decode cL_law 204 = .ok (.aload_n 0, 1) := by decide +kernel
theorem dL_law_205 : decode cL_law 205 = .ok (.iload 4, 2) := by decide +kernel
theorem dL_law_207 : decode cL_law 207 = .ok (.iconst 4, 1) := by decide +kernel
theorem dL_law_208 : decode cL_law 208 = .ok (.iadd, 1) := by decide +kernel
theorem dL_law_209 : decode cL_law 209 = .ok (.iaload, 1) := by decide +kernel
theorem dL_law_210 : decode cL_law 210 = .ok (.aload_n 0, 1) := by decide +kernel
theorem dL_law_211 : decode cL_law 211 = .ok (.iload 4, 2) := by decide +kernel
theorem dL_law_213 : decode cL_law 213 = .ok (.iconst 5, 1) := by decide +kernel
theorem dL_law_214 : decode cL_law 214 = .ok (.iadd, 1) := by decide +kernel
theorem dL_law_215 : decode cL_law 215 = .ok (.iaload, 1) := by decide +kernel
theorem dL_law_216 : decode cL_law 216 = .ok (.invokevirtual 84, 3) := by decide +kernel
theorem dL_law_219 : decode cL_law 219 = .ok (.istore 6, 2) := by decide +kernel
theorem dL_law_221 : decode cL_law 221 = .ok (.aload_n 2, 1) := by decide +kernel
theorem dL_law_222 : decode cL_law 222 = .ok (.invokevirtual 85, 3) := by decide +kernel
theorem dL_law_225 : decode cL_law 225 = .ok (.iload 5, 2) := by decide +kernel
theorem dL_law_227 : decode cL_law 227 = .ok (.if_icmp .eq 5, 3) := by decide +kernel
theorem dL_law_230 : decode cL_law 230 = .ok (.iconst 0, 1) := by decide +kernel
theorem dL_law_231 : decode cL_law 231 = .ok (.ireturn, 1) := by decide +kernel
theorem dL_law_232 : decode cL_law 232 = .ok (.iload 5, 2) := by decide +kernel
theorem dL_law_234 : decode cL_law 234 = .ok (.ifCond .ne 15, 3) := by decide +kernel
theorem dL_law_237 : decode cL_law 237 = .ok (.aload_n 3, 1) := by decide +kernel
theorem dL_law_238 : decode cL_law 238 = .ok (.iconst 0, 1) := by decide +kernel
theorem dL_law_239 : decode cL_law 239 = .ok (.laload, 1) := by decide +kernel
theorem dL_law_240 : decode cL_law 240 = .ok (.iload 6, 2) := by decide +kernel
theorem dL_law_242 : decode cL_law 242 = .ok (.i2l, 1) := by decide +kernel
theorem dL_law_243 : decode cL_law 243 = .ok (.lcmp, 1) := by decide +kernel
theorem dL_law_244 : decode cL_law 244 = .ok (.ifCond .eq 5, 3) := by decide +kernel
theorem dL_law_247 : decode cL_law 247 = .ok (.iconst 0, 1) := by decide +kernel
theorem dL_law_248 : decode cL_law 248 = .ok (.ireturn, 1) := by decide +kernel
theorem dL_law_249 : decode cL_law 249 = .ok (.goto 1171, 3) := by decide +kernel
theorem dL_law_252 : decode cL_law 252 = .ok (.aload_n 1, 1) := by decide +kernel
theorem dL_law_253 : decode cL_law 253 = .ok (.aload_n 0, 1) := by decide +kernel
theorem dL_law_254 : decode cL_law 254 = .ok (.iload 4, 2) := by decide +kernel
theorem dL_law_256 : decode cL_law 256 = .ok (.iconst 1, 1) := by decide +kernel
theorem dL_law_257 : decode cL_law 257 = .ok (.iadd, 1) := by decide +kernel
theorem dL_law_258 : decode cL_law 258 = .ok (.iaload, 1) := by decide +kernel
theorem dL_law_259 : decode cL_law 259 = .ok (.aload_n 3, 1) := by decide +kernel
theorem dL_law_260 : decode cL_law 260 = .ok (.invokestatic 88, 3) := by decide +kernel
theorem dL_law_263 : decode cL_law 263 = .ok (.istore 5, 2) := by decide +kernel
theorem dL_law_265 : decode cL_law 265 = .ok (.aload_n 2, 1) := by decide +kernel
theorem dL_law_266 : decode cL_law 266 = .ok (.aload_n 0, 1) := by decide +kernel
theorem dL_law_267 : decode cL_law 267 = .ok (.iload 4, 2) := by decide +kernel
theorem dL_law_269 : decode cL_law 269 = .ok (.iconst 1, 1) := by decide +kernel
theorem dL_law_270 : decode cL_law 270 = .ok (.iadd, 1) := by decide +kernel
theorem dL_law_271 : decode cL_law 271 = .ok (.iaload, 1) := by decide +kernel
theorem dL_law_272 : decode cL_law 272 = .ok (.invokevirtual 91, 3) := by decide +kernel
theorem dL_law_275 : decode cL_law 275 = .ok (.istore 6, 2) := by decide +kernel
theorem dL_law_277 : decode cL_law 277 = .ok (.aload_n 2, 1) := by decide +kernel
theorem dL_law_278 : decode cL_law 278 = .ok (.invokevirtual 85, 3) := by decide +kernel
theorem dL_law_281 : decode cL_law 281 = .ok (.iload 5, 2) := by decide +kernel
theorem dL_law_283 : decode cL_law 283 = .ok (.if_icmp .eq 5, 3) := by decide +kernel
theorem dL_law_286 : decode cL_law 286 = .ok (.iconst 0, 1) := by decide +kernel
theorem dL_law_287 : decode cL_law 287 = .ok (.ireturn, 1) := by decide +kernel
theorem dL_law_288 : decode cL_law 288 = .ok (.iload 5, 2) := by decide +kernel
theorem dL_law_290 : decode cL_law 290 = .ok (.ifCond .ne 15, 3) := by decide +kernel
theorem dL_law_293 : decode cL_law 293 = .ok (.aload_n 3, 1) := by decide +kernel
theorem dL_law_294 : decode cL_law 294 = .ok (.iconst 0, 1) := by decide +kernel
theorem dL_law_295 : decode cL_law 295 = .ok (.laload, 1) := by decide +kernel
theorem dL_law_296 : decode cL_law 296 = .ok (.iload 6, 2) := by decide +kernel
theorem dL_law_298 : decode cL_law 298 = .ok (.i2l, 1) := by decide +kernel
theorem dL_law_299 : decode cL_law 299 = .ok (.lcmp, 1) := by decide +kernel
theorem dL_law_300 : decode cL_law 300 = .ok (.ifCond .eq 5, 3) := by decide +kernel
theorem dL_law_303 : decode cL_law 303 = .ok (.iconst 0, 1) := by decide +kernel
theorem dL_law_304 : decode cL_law 304 = .ok (.ireturn, 1) := by decide +kernel
theorem dL_law_305 : decode cL_law 305 = .ok (.goto 1115, 3) := by decide +kernel
theorem dL_law_308 : decode cL_law 308 = .ok (.aload_n 1, 1) := by decide +kernel
theorem dL_law_309 : decode cL_law 309 = .ok (.aload_n 0, 1) := by decide +kernel
theorem dL_law_310 : decode cL_law 310 = .ok (.iload 4, 2) := by decide +kernel
theorem dL_law_312 : decode cL_law 312 = .ok (.iconst 1, 1) := by decide +kernel
theorem dL_law_313 : decode cL_law 313 = .ok (.iadd, 1) := by decide +kernel
theorem dL_law_314 : decode cL_law 314 = .ok (.iaload, 1) := by decide +kernel
theorem dL_law_315 : decode cL_law 315 = .ok (.aload_n 0, 1) := by decide +kernel
theorem dL_law_316 : decode cL_law 316 = .ok (.iload 4, 2) := by decide +kernel
theorem dL_law_318 : decode cL_law 318 = .ok (.iconst 2, 1) := by decide +kernel
theorem dL_law_319 : decode cL_law 319 = .ok (.iadd, 1) := by decide +kernel
theorem dL_law_320 : decode cL_law 320 = .ok (.iaload, 1) := by decide +kernel
theorem dL_law_321 : decode cL_law 321 = .ok (.aload_n 3, 1) := by decide +kernel
theorem dL_law_322 : decode cL_law 322 = .ok (.invokestatic 92, 3) := by decide +kernel
theorem dL_law_325 : decode cL_law 325 = .ok (.istore 5, 2) := by decide +kernel
theorem dL_law_327 : decode cL_law 327 = .ok (.aload_n 2, 1) := by decide +kernel
theorem dL_law_328 : decode cL_law 328 = .ok (.aload_n 0, 1) := by decide +kernel
theorem dL_law_329 : decode cL_law 329 = .ok (.iload 4, 2) := by decide +kernel
theorem dL_law_331 : decode cL_law 331 = .ok (.iconst 1, 1) := by decide +kernel
theorem dL_law_332 : decode cL_law 332 = .ok (.iadd, 1) := by decide +kernel
theorem dL_law_333 : decode cL_law 333 = .ok (.iaload, 1) := by decide +kernel
theorem dL_law_334 : decode cL_law 334 = .ok (.aload_n 0, 1) := by decide +kernel
theorem dL_law_335 : decode cL_law 335 = .ok (.iload 4, 2) := by decide +kernel
theorem dL_law_337 : decode cL_law 337 = .ok (.iconst 2, 1) := by decide +kernel
theorem dL_law_338 : decode cL_law 338 = .ok (.iadd, 1) := by decide +kernel
theorem dL_law_339 : decode cL_law 339 = .ok (.iaload, 1) := by decide +kernel
theorem dL_law_340 : decode cL_law 340 = .ok (.invokevirtual 95, 3) := by decide +kernel
theorem dL_law_343 : decode cL_law 343 = .ok (.istore 6, 2) := by decide +kernel
theorem dL_law_345 : decode cL_law 345 = .ok (.aload_n 2, 1) := by decide +kernel
theorem dL_law_346 : decode cL_law 346 = .ok (.invokevirtual 85, 3) := by decide +kernel
theorem dL_law_349 : decode cL_law 349 = .ok (.iload 5, 2) := by decide +kernel
theorem dL_law_351 : decode cL_law 351 = .ok (.if_icmp .eq 5, 3) := by decide +kernel
theorem dL_law_354 : decode cL_law 354 = .ok (.iconst 0, 1) := by decide +kernel
theorem dL_law_355 : decode cL_law 355 = .ok (.ireturn, 1) := by decide +kernel
theorem dL_law_356 : decode cL_law 356 = .ok (.iload 5, 2) := by decide +kernel
theorem dL_law_358 : decode cL_law 358 = .ok (.ifCond .ne 15, 3) := by decide +kernel
theorem dL_law_361 : decode cL_law 361 = .ok (.aload_n 3, 1) := by decide +kernel
theorem dL_law_362 : decode cL_law 362 = .ok (.iconst 0, 1) := by decide +kernel
theorem dL_law_363 : decode cL_law 363 = .ok (.laload, 1) := by decide +kernel
theorem dL_law_364 : decode cL_law 364 = .ok (.iload 6, 2) := by decide +kernel
theorem dL_law_366 : decode cL_law 366 = .ok (.i2l, 1) := by decide +kernel
theorem dL_law_367 : decode cL_law 367 = .ok (.lcmp, 1) := by decide +kernel
theorem dL_law_368 : decode cL_law 368 = .ok (.ifCond .eq 5, 3) := by decide +kernel
theorem dL_law_371 : decode cL_law 371 = .ok (.iconst 0, 1) := by decide +kernel
theorem dL_law_372 : decode cL_law 372 = .ok (.ireturn, 1) := by decide +kernel
theorem dL_law_373 : decode cL_law 373 = .ok (.goto 1047, 3) := by decide +kernel
theorem dL_law_376 : decode cL_law 376 = .ok (.aload_n 1, 1) := by decide +kernel
theorem dL_law_377 : decode cL_law 377 = .ok (.aload_n 0, 1) := by decide +kernel
theorem dL_law_378 : decode cL_law 378 = .ok (.iload 4, 2) := by decide +kernel
theorem dL_law_380 : decode cL_law 380 = .ok (.iconst 1, 1) := by decide +kernel
theorem dL_law_381 : decode cL_law 381 = .ok (.iadd, 1) := by decide +kernel
theorem dL_law_382 : decode cL_law 382 = .ok (.iaload, 1) := by decide +kernel
theorem dL_law_383 : decode cL_law 383 = .ok (.aload_n 0, 1) := by decide +kernel
theorem dL_law_384 : decode cL_law 384 = .ok (.iload 4, 2) := by decide +kernel
theorem dL_law_386 : decode cL_law 386 = .ok (.iconst 2, 1) := by decide +kernel
theorem dL_law_387 : decode cL_law 387 = .ok (.iadd, 1) := by decide +kernel
theorem dL_law_388 : decode cL_law 388 = .ok (.iaload, 1) := by decide +kernel
theorem dL_law_389 : decode cL_law 389 = .ok (.aload_n 3, 1) := by decide +kernel
theorem dL_law_390 : decode cL_law 390 = .ok (.invokestatic 96, 3) := by decide +kernel
theorem dL_law_393 : decode cL_law 393 = .ok (.istore 5, 2) := by decide +kernel
theorem dL_law_395 : decode cL_law 395 = .ok (.aload_n 2, 1) := by decide +kernel
theorem dL_law_396 : decode cL_law 396 = .ok (.aload_n 0, 1) := by decide +kernel
theorem dL_law_397 : decode cL_law 397 = .ok (.iload 4, 2) := by decide +kernel
theorem dL_law_399 : decode cL_law 399 = .ok (.iconst 1, 1) := by decide +kernel
theorem dL_law_400 : decode cL_law 400 = .ok (.iadd, 1) := by decide +kernel
theorem dL_law_401 : decode cL_law 401 = .ok (.iaload, 1) := by decide +kernel
theorem dL_law_402 : decode cL_law 402 = .ok (.aload_n 0, 1) := by decide +kernel
theorem dL_law_403 : decode cL_law 403 = .ok (.iload 4, 2) := by decide +kernel
theorem dL_law_405 : decode cL_law 405 = .ok (.iconst 2, 1) := by decide +kernel
theorem dL_law_406 : decode cL_law 406 = .ok (.iadd, 1) := by decide +kernel
theorem dL_law_407 : decode cL_law 407 = .ok (.iaload, 1) := by decide +kernel
theorem dL_law_408 : decode cL_law 408 = .ok (.invokevirtual 98, 3) := by decide +kernel
theorem dL_law_411 : decode cL_law 411 = .ok (.istore 6, 2) := by decide +kernel
theorem dL_law_413 : decode cL_law 413 = .ok (.aload_n 2, 1) := by decide +kernel
theorem dL_law_414 : decode cL_law 414 = .ok (.invokevirtual 85, 3) := by decide +kernel
theorem dL_law_417 : decode cL_law 417 = .ok (.iload 5, 2) := by decide +kernel
theorem dL_law_419 : decode cL_law 419 = .ok (.if_icmp .eq 5, 3) := by decide +kernel
theorem dL_law_422 : decode cL_law 422 = .ok (.iconst 0, 1) := by decide +kernel
theorem dL_law_423 : decode cL_law 423 = .ok (.ireturn, 1) := by decide +kernel
theorem dL_law_424 : decode cL_law 424 = .ok (.iload 5, 2) := by decide +kernel
theorem dL_law_426 : decode cL_law 426 = .ok (.ifCond .ne 15, 3) := by decide +kernel
theorem dL_law_429 : decode cL_law 429 = .ok (.aload_n 3, 1) := by decide +kernel
theorem dL_law_430 : decode cL_law 430 = .ok (.iconst 0, 1) := by decide +kernel
theorem dL_law_431 : decode cL_law 431 = .ok (.laload, 1) := by decide +kernel
theorem dL_law_432 : decode cL_law 432 = .ok (.iload 6, 2) := by decide +kernel
theorem dL_law_434 : decode cL_law 434 = .ok (.i2l, 1) := by decide +kernel
theorem dL_law_435 : decode cL_law 435 = .ok (.lcmp, 1) := by decide +kernel
theorem dL_law_436 : decode cL_law 436 = .ok (.ifCond .eq 5, 3) := by decide +kernel
theorem dL_law_439 : decode cL_law 439 = .ok (.iconst 0, 1) := by decide +kernel
theorem dL_law_440 : decode cL_law 440 = .ok (.ireturn, 1) := by decide +kernel
theorem dL_law_441 : decode cL_law 441 = .ok (.goto 979, 3) := by decide +kernel
theorem dL_law_444 : decode cL_law 444 = .ok (.aload_n 1, 1) := by decide +kernel
theorem dL_law_445 : decode cL_law 445 = .ok (.aload_n 0, 1) := by decide +kernel
theorem dL_law_446 : decode cL_law 446 = .ok (.iload 4, 2) := by decide +kernel
theorem dL_law_448 : decode cL_law 448 = .ok (.iconst 1, 1) := by decide +kernel
theorem dL_law_449 : decode cL_law 449 = .ok (.iadd, 1) := by decide +kernel
theorem dL_law_450 : decode cL_law 450 = .ok (.iaload, 1) := by decide +kernel
theorem dL_law_451 : decode cL_law 451 = .ok (.aload_n 0, 1) := by decide +kernel
theorem dL_law_452 : decode cL_law 452 = .ok (.iload 4, 2) := by decide +kernel
theorem dL_law_454 : decode cL_law 454 = .ok (.iconst 2, 1) := by decide +kernel
theorem dL_law_455 : decode cL_law 455 = .ok (.iadd, 1) := by decide +kernel
theorem dL_law_456 : decode cL_law 456 = .ok (.iaload, 1) := by decide +kernel
theorem dL_law_457 : decode cL_law 457 = .ok (.aload_n 3, 1) := by decide +kernel
theorem dL_law_458 : decode cL_law 458 = .ok (.invokestatic 99, 3) := by decide +kernel
theorem dL_law_461 : decode cL_law 461 = .ok (.istore 5, 2) := by decide +kernel
theorem dL_law_463 : decode cL_law 463 = .ok (.aload_n 2, 1) := by decide +kernel
theorem dL_law_464 : decode cL_law 464 = .ok (.aload_n 0, 1) := by decide +kernel
theorem dL_law_465 : decode cL_law 465 = .ok (.iload 4, 2) := by decide +kernel
theorem dL_law_467 : decode cL_law 467 = .ok (.iconst 1, 1) := by decide +kernel
theorem dL_law_468 : decode cL_law 468 = .ok (.iadd, 1) := by decide +kernel
theorem dL_law_469 : decode cL_law 469 = .ok (.iaload, 1) := by decide +kernel
theorem dL_law_470 : decode cL_law 470 = .ok (.aload_n 0, 1) := by decide +kernel
theorem dL_law_471 : decode cL_law 471 = .ok (.iload 4, 2) := by decide +kernel
theorem dL_law_473 : decode cL_law 473 = .ok (.iconst 2, 1) := by decide +kernel
theorem dL_law_474 : decode cL_law 474 = .ok (.iadd, 1) := by decide +kernel
theorem dL_law_475 : decode cL_law 475 = .ok (.iaload, 1) := by decide +kernel
theorem dL_law_476 : decode cL_law 476 = .ok (.invokevirtual 101, 3) := by decide +kernel
theorem dL_law_479 : decode cL_law 479 = .ok (.istore 6, 2) := by decide +kernel
theorem dL_law_481 : decode cL_law 481 = .ok (.aload_n 2, 1) := by decide +kernel
theorem dL_law_482 : decode cL_law 482 = .ok (.invokevirtual 85, 3) := by decide +kernel
theorem dL_law_485 : decode cL_law 485 = .ok (.iload 5, 2) := by decide +kernel
theorem dL_law_487 : decode cL_law 487 = .ok (.if_icmp .eq 5, 3) := by decide +kernel
theorem dL_law_490 : decode cL_law 490 = .ok (.iconst 0, 1) := by decide +kernel
theorem dL_law_491 : decode cL_law 491 = .ok (.ireturn, 1) := by decide +kernel
theorem dL_law_492 : decode cL_law 492 = .ok (.iload 5, 2) := by decide +kernel
theorem dL_law_494 : decode cL_law 494 = .ok (.ifCond .ne 15, 3) := by decide +kernel
theorem dL_law_497 : decode cL_law 497 = .ok (.aload_n 3, 1) := by decide +kernel
theorem dL_law_498 : decode cL_law 498 = .ok (.iconst 0, 1) := by decide +kernel
theorem dL_law_499 : decode cL_law 499 = .ok (.laload, 1) := by decide +kernel
theorem dL_law_500 : decode cL_law 500 = .ok (.iload 6, 2) := by decide +kernel
theorem dL_law_502 : decode cL_law 502 = .ok (.i2l, 1) := by decide +kernel
theorem dL_law_503 : decode cL_law 503 = .ok (.lcmp, 1) := by decide +kernel
theorem dL_law_504 : decode cL_law 504 = .ok (.ifCond .eq 5, 3) := by decide +kernel
theorem dL_law_507 : decode cL_law 507 = .ok (.iconst 0, 1) := by decide +kernel
theorem dL_law_508 : decode cL_law 508 = .ok (.ireturn, 1) := by decide +kernel
theorem dL_law_509 : decode cL_law 509 = .ok (.goto 911, 3) := by decide +kernel
theorem dL_law_512 : decode cL_law 512 = .ok (.aload_n 1, 1) := by decide +kernel
theorem dL_law_513 : decode cL_law 513 = .ok (.aload_n 0, 1) := by decide +kernel
theorem dL_law_514 : decode cL_law 514 = .ok (.iload 4, 2) := by decide +kernel
theorem dL_law_516 : decode cL_law 516 = .ok (.iconst 1, 1) := by decide +kernel
theorem dL_law_517 : decode cL_law 517 = .ok (.iadd, 1) := by decide +kernel
theorem dL_law_518 : decode cL_law 518 = .ok (.iaload, 1) := by decide +kernel
theorem dL_law_519 : decode cL_law 519 = .ok (.aload_n 0, 1) := by decide +kernel
theorem dL_law_520 : decode cL_law 520 = .ok (.iload 4, 2) := by decide +kernel
theorem dL_law_522 : decode cL_law 522 = .ok (.iconst 2, 1) := by decide +kernel
theorem dL_law_523 : decode cL_law 523 = .ok (.iadd, 1) := by decide +kernel
theorem dL_law_524 : decode cL_law 524 = .ok (.iaload, 1) := by decide +kernel
theorem dL_law_525 : decode cL_law 525 = .ok (.aload_n 0, 1) := by decide +kernel
theorem dL_law_526 : decode cL_law 526 = .ok (.iload 4, 2) := by decide +kernel
theorem dL_law_528 : decode cL_law 528 = .ok (.iconst 3, 1) := by decide +kernel
theorem dL_law_529 : decode cL_law 529 = .ok (.iadd, 1) := by decide +kernel
theorem dL_law_530 : decode cL_law 530 = .ok (.iaload, 1) := by decide +kernel
theorem dL_law_531 : decode cL_law 531 = .ok (.aload_n 3, 1) := by decide +kernel
theorem dL_law_532 : decode cL_law 532 = .ok (.invokestatic 102, 3) := by decide +kernel
theorem dL_law_535 : decode cL_law 535 = .ok (.istore 5, 2) := by decide +kernel
theorem dL_law_537 : decode cL_law 537 = .ok (.aload_n 2, 1) := by decide +kernel
theorem dL_law_538 : decode cL_law 538 = .ok (.aload_n 0, 1) := by decide +kernel
theorem dL_law_539 : decode cL_law 539 = .ok (.iload 4, 2) := by decide +kernel
theorem dL_law_541 : decode cL_law 541 = .ok (.iconst 1, 1) := by decide +kernel
theorem dL_law_542 : decode cL_law 542 = .ok (.iadd, 1) := by decide +kernel
theorem dL_law_543 : decode cL_law 543 = .ok (.iaload, 1) := by decide +kernel
theorem dL_law_544 : decode cL_law 544 = .ok (.aload_n 0, 1) := by decide +kernel
theorem dL_law_545 : decode cL_law 545 = .ok (.iload 4, 2) := by decide +kernel
theorem dL_law_547 : decode cL_law 547 = .ok (.iconst 2, 1) := by decide +kernel
theorem dL_law_548 : decode cL_law 548 = .ok (.iadd, 1) := by decide +kernel
theorem dL_law_549 : decode cL_law 549 = .ok (.iaload, 1) := by decide +kernel
theorem dL_law_550 : decode cL_law 550 = .ok (.aload_n 0, 1) := by decide +kernel
theorem dL_law_551 : decode cL_law 551 = .ok (.iload 4, 2) := by decide +kernel
theorem dL_law_553 : decode cL_law 553 = .ok (.iconst 3, 1) := by decide +kernel
theorem dL_law_554 : decode cL_law 554 = .ok (.iadd, 1) := by decide +kernel
theorem dL_law_555 : decode cL_law 555 = .ok (.iaload, 1) := by decide +kernel
theorem dL_law_556 : decode cL_law 556 = .ok (.invokevirtual 105, 3) := by decide +kernel
theorem dL_law_559 : decode cL_law 559 = .ok (.istore 6, 2) := by decide +kernel
theorem dL_law_561 : decode cL_law 561 = .ok (.aload_n 2, 1) := by decide +kernel
theorem dL_law_562 : decode cL_law 562 = .ok (.invokevirtual 85, 3) := by decide +kernel
theorem dL_law_565 : decode cL_law 565 = .ok (.iload 5, 2) := by decide +kernel
theorem dL_law_567 : decode cL_law 567 = .ok (.if_icmp .eq 5, 3) := by decide +kernel
theorem dL_law_570 : decode cL_law 570 = .ok (.iconst 0, 1) := by decide +kernel
theorem dL_law_571 : decode cL_law 571 = .ok (.ireturn, 1) := by decide +kernel
theorem dL_law_572 : decode cL_law 572 = .ok (.iload 5, 2) := by decide +kernel
theorem dL_law_574 : decode cL_law 574 = .ok (.ifCond .ne 15, 3) := by decide +kernel
theorem dL_law_577 : decode cL_law 577 = .ok (.aload_n 3, 1) := by decide +kernel
theorem dL_law_578 : decode cL_law 578 = .ok (.iconst 0, 1) := by decide +kernel
theorem dL_law_579 : decode cL_law 579 = .ok (.laload, 1) := by decide +kernel
theorem dL_law_580 : decode cL_law 580 = .ok (.iload 6, 2) := by decide +kernel
theorem dL_law_582 : decode cL_law 582 = .ok (.i2l, 1) := by decide +kernel
theorem dL_law_583 : decode cL_law 583 = .ok (.lcmp, 1) := by decide +kernel
theorem dL_law_584 : decode cL_law 584 = .ok (.ifCond .eq 5, 3) := by decide +kernel
theorem dL_law_587 : decode cL_law 587 = .ok (.iconst 0, 1) := by decide +kernel
theorem dL_law_588 : decode cL_law 588 = .ok (.ireturn, 1) := by decide +kernel
theorem dL_law_589 : decode cL_law 589 = .ok (.goto 831, 3) := by decide +kernel
theorem dL_law_592 : decode cL_law 592 = .ok (.aload_n 1, 1) := by decide +kernel
theorem dL_law_593 : decode cL_law 593 = .ok (.invokevirtual 106, 3) := by decide +kernel
theorem dL_law_596 : decode cL_law 596 = .ok (.aload_n 2, 1) := by decide +kernel
theorem dL_law_597 : decode cL_law 597 = .ok (.invokevirtual 109, 3) := by decide +kernel
theorem dL_law_600 : decode cL_law 600 = .ok (.if_icmp .eq 820, 3) := by decide +kernel
theorem dL_law_603 : decode cL_law 603 = .ok (.iconst 0, 1) := by decide +kernel
theorem dL_law_604 : decode cL_law 604 = .ok (.ireturn, 1) := by decide +kernel
theorem dL_law_605 : decode cL_law 605 = .ok (.aload_n 1, 1) := by decide +kernel
theorem dL_law_606 : decode cL_law 606 = .ok (.aload_n 0, 1) := by decide +kernel
theorem dL_law_607 : decode cL_law 607 = .ok (.iload 4, 2) := by decide +kernel
theorem dL_law_609 : decode cL_law 609 = .ok (.iconst 1, 1) := by decide +kernel
theorem dL_law_610 : decode cL_law 610 = .ok (.iadd, 1) := by decide +kernel
theorem dL_law_611 : decode cL_law 611 = .ok (.iaload, 1) := by decide +kernel
theorem dL_law_612 : decode cL_law 612 = .ok (.aload_n 3, 1) := by decide +kernel
theorem dL_law_613 : decode cL_law 613 = .ok (.invokestatic 110, 3) := by decide +kernel
theorem dL_law_616 : decode cL_law 616 = .ok (.istore 5, 2) := by decide +kernel
theorem dL_law_618 : decode cL_law 618 = .ok (.aload_n 2, 1) := by decide +kernel
theorem dL_law_619 : decode cL_law 619 = .ok (.aload_n 0, 1) := by decide +kernel
theorem dL_law_620 : decode cL_law 620 = .ok (.iload 4, 2) := by decide +kernel
theorem dL_law_622 : decode cL_law 622 = .ok (.iconst 1, 1) := by decide +kernel
theorem dL_law_623 : decode cL_law 623 = .ok (.iadd, 1) := by decide +kernel
theorem dL_law_624 : decode cL_law 624 = .ok (.iaload, 1) := by decide +kernel
theorem dL_law_625 : decode cL_law 625 = .ok (.invokevirtual 112, 3) := by decide +kernel
theorem dL_law_628 : decode cL_law 628 = .ok (.istore 6, 2) := by decide +kernel
theorem dL_law_630 : decode cL_law 630 = .ok (.aload_n 2, 1) := by decide +kernel
theorem dL_law_631 : decode cL_law 631 = .ok (.invokevirtual 85, 3) := by decide +kernel
theorem dL_law_634 : decode cL_law 634 = .ok (.iload 5, 2) := by decide +kernel
theorem dL_law_636 : decode cL_law 636 = .ok (.if_icmp .eq 5, 3) := by decide +kernel
theorem dL_law_639 : decode cL_law 639 = .ok (.iconst 0, 1) := by decide +kernel
theorem dL_law_640 : decode cL_law 640 = .ok (.ireturn, 1) := by decide +kernel
theorem dL_law_641 : decode cL_law 641 = .ok (.iload 5, 2) := by decide +kernel
theorem dL_law_643 : decode cL_law 643 = .ok (.ifCond .ne 15, 3) := by decide +kernel
theorem dL_law_646 : decode cL_law 646 = .ok (.aload_n 3, 1) := by decide +kernel
theorem dL_law_647 : decode cL_law 647 = .ok (.iconst 0, 1) := by decide +kernel
theorem dL_law_648 : decode cL_law 648 = .ok (.laload, 1) := by decide +kernel
theorem dL_law_649 : decode cL_law 649 = .ok (.iload 6, 2) := by decide +kernel
theorem dL_law_651 : decode cL_law 651 = .ok (.i2l, 1) := by decide +kernel
theorem dL_law_652 : decode cL_law 652 = .ok (.lcmp, 1) := by decide +kernel
theorem dL_law_653 : decode cL_law 653 = .ok (.ifCond .eq 5, 3) := by decide +kernel
theorem dL_law_656 : decode cL_law 656 = .ok (.iconst 0, 1) := by decide +kernel
theorem dL_law_657 : decode cL_law 657 = .ok (.ireturn, 1) := by decide +kernel
theorem dL_law_658 : decode cL_law 658 = .ok (.goto 762, 3) := by decide +kernel
theorem dL_law_661 : decode cL_law 661 = .ok (.aload_n 1, 1) := by decide +kernel
theorem dL_law_662 : decode cL_law 662 = .ok (.aload_n 0, 1) := by decide +kernel
theorem dL_law_663 : decode cL_law 663 = .ok (.iload 4, 2) := by decide +kernel
theorem dL_law_665 : decode cL_law 665 = .ok (.iconst 1, 1) := by decide +kernel
theorem dL_law_666 : decode cL_law 666 = .ok (.iadd, 1) := by decide +kernel
theorem dL_law_667 : decode cL_law 667 = .ok (.iaload, 1) := by decide +kernel
theorem dL_law_668 : decode cL_law 668 = .ok (.aload_n 3, 1) := by decide +kernel
theorem dL_law_669 : decode cL_law 669 = .ok (.invokestatic 113, 3) := by decide +kernel
theorem dL_law_672 : decode cL_law 672 = .ok (.istore 5, 2) := by decide +kernel
theorem dL_law_674 : decode cL_law 674 = .ok (.aload_n 2, 1) := by decide +kernel
theorem dL_law_675 : decode cL_law 675 = .ok (.aload_n 0, 1) := by decide +kernel
theorem dL_law_676 : decode cL_law 676 = .ok (.iload 4, 2) := by decide +kernel
theorem dL_law_678 : decode cL_law 678 = .ok (.iconst 1, 1) := by decide +kernel
theorem dL_law_679 : decode cL_law 679 = .ok (.iadd, 1) := by decide +kernel
theorem dL_law_680 : decode cL_law 680 = .ok (.iaload, 1) := by decide +kernel
theorem dL_law_681 : decode cL_law 681 = .ok (.invokevirtual 115, 3) := by decide +kernel
theorem dL_law_684 : decode cL_law 684 = .ok (.istore 6, 2) := by decide +kernel
theorem dL_law_686 : decode cL_law 686 = .ok (.aload_n 2, 1) := by decide +kernel
theorem dL_law_687 : decode cL_law 687 = .ok (.invokevirtual 85, 3) := by decide +kernel
theorem dL_law_690 : decode cL_law 690 = .ok (.iload 5, 2) := by decide +kernel
theorem dL_law_692 : decode cL_law 692 = .ok (.if_icmp .eq 5, 3) := by decide +kernel
theorem dL_law_695 : decode cL_law 695 = .ok (.iconst 0, 1) := by decide +kernel
theorem dL_law_696 : decode cL_law 696 = .ok (.ireturn, 1) := by decide +kernel
theorem dL_law_697 : decode cL_law 697 = .ok (.iload 5, 2) := by decide +kernel
theorem dL_law_699 : decode cL_law 699 = .ok (.ifCond .ne 15, 3) := by decide +kernel
theorem dL_law_702 : decode cL_law 702 = .ok (.aload_n 3, 1) := by decide +kernel
theorem dL_law_703 : decode cL_law 703 = .ok (.iconst 0, 1) := by decide +kernel
theorem dL_law_704 : decode cL_law 704 = .ok (.laload, 1) := by decide +kernel
theorem dL_law_705 : decode cL_law 705 = .ok (.iload 6, 2) := by decide +kernel
theorem dL_law_707 : decode cL_law 707 = .ok (.i2l, 1) := by decide +kernel
theorem dL_law_708 : decode cL_law 708 = .ok (.lcmp, 1) := by decide +kernel
theorem dL_law_709 : decode cL_law 709 = .ok (.ifCond .eq 5, 3) := by decide +kernel
theorem dL_law_712 : decode cL_law 712 = .ok (.iconst 0, 1) := by decide +kernel
theorem dL_law_713 : decode cL_law 713 = .ok (.ireturn, 1) := by decide +kernel
theorem dL_law_714 : decode cL_law 714 = .ok (.goto 706, 3) := by decide +kernel
theorem dL_law_717 : decode cL_law 717 = .ok (.aload_n 1, 1) := by decide +kernel
theorem dL_law_718 : decode cL_law 718 = .ok (.invokevirtual 116, 3) := by decide +kernel
theorem dL_law_721 : decode cL_law 721 = .ok (.aload_n 2, 1) := by decide +kernel
theorem dL_law_722 : decode cL_law 722 = .ok (.invokevirtual 119, 3) := by decide +kernel
theorem dL_law_725 : decode cL_law 725 = .ok (.if_icmp .eq 695, 3) := by decide +kernel
theorem dL_law_728 : decode cL_law 728 = .ok (.iconst 0, 1) := by decide +kernel
theorem dL_law_729 : decode cL_law 729 = .ok (.ireturn, 1) := by decide +kernel
theorem dL_law_730 : decode cL_law 730 = .ok (.aload_n 1, 1) := by decide +kernel
theorem dL_law_731 : decode cL_law 731 = .ok (.invokevirtual 120, 3) := by decide +kernel
theorem dL_law_734 : decode cL_law 734 = .ok (.aload_n 2, 1) := by decide +kernel
theorem dL_law_735 : decode cL_law 735 = .ok (.invokevirtual 123, 3) := by decide +kernel
theorem dL_law_738 : decode cL_law 738 = .ok (.if_icmp .eq 682, 3) := by decide +kernel
theorem dL_law_741 : decode cL_law 741 = .ok (.iconst 0, 1) := by decide +kernel
theorem dL_law_742 : decode cL_law 742 = .ok (.ireturn, 1) := by decide +kernel
theorem dL_law_743 : decode cL_law 743 = .ok (.aload_n 1, 1) := by decide +kernel
theorem dL_law_744 : decode cL_law 744 = .ok (.aload_n 3, 1) := by decide +kernel
theorem dL_law_745 : decode cL_law 745 = .ok (.invokestatic 124, 3) := by decide +kernel
theorem dL_law_748 : decode cL_law 748 = .ok (.istore 5, 2) := by decide +kernel
theorem dL_law_750 : decode cL_law 750 = .ok (.aload_n 2, 1) := by decide +kernel
theorem dL_law_751 : decode cL_law 751 = .ok (.invokevirtual 127, 3) := by decide +kernel
theorem dL_law_754 : decode cL_law 754 = .ok (.istore 6, 2) := by decide +kernel
theorem dL_law_756 : decode cL_law 756 = .ok (.aload_n 2, 1) := by decide +kernel
theorem dL_law_757 : decode cL_law 757 = .ok (.invokevirtual 85, 3) := by decide +kernel
theorem dL_law_760 : decode cL_law 760 = .ok (.iload 5, 2) := by decide +kernel
theorem dL_law_762 : decode cL_law 762 = .ok (.if_icmp .eq 5, 3) := by decide +kernel
theorem dL_law_765 : decode cL_law 765 = .ok (.iconst 0, 1) := by decide +kernel
theorem dL_law_766 : decode cL_law 766 = .ok (.ireturn, 1) := by decide +kernel
theorem dL_law_767 : decode cL_law 767 = .ok (.iload 5, 2) := by decide +kernel
theorem dL_law_769 : decode cL_law 769 = .ok (.ifCond .ne 15, 3) := by decide +kernel
theorem dL_law_772 : decode cL_law 772 = .ok (.aload_n 3, 1) := by decide +kernel
theorem dL_law_773 : decode cL_law 773 = .ok (.iconst 0, 1) := by decide +kernel
theorem dL_law_774 : decode cL_law 774 = .ok (.laload, 1) := by decide +kernel
theorem dL_law_775 : decode cL_law 775 = .ok (.iload 6, 2) := by decide +kernel
theorem dL_law_777 : decode cL_law 777 = .ok (.i2l, 1) := by decide +kernel
theorem dL_law_778 : decode cL_law 778 = .ok (.lcmp, 1) := by decide +kernel
theorem dL_law_779 : decode cL_law 779 = .ok (.ifCond .eq 5, 3) := by decide +kernel
theorem dL_law_782 : decode cL_law 782 = .ok (.iconst 0, 1) := by decide +kernel
theorem dL_law_783 : decode cL_law 783 = .ok (.ireturn, 1) := by decide +kernel
theorem dL_law_784 : decode cL_law 784 = .ok (.goto 636, 3) := by decide +kernel
theorem dL_law_787 : decode cL_law 787 = .ok (.aload_n 1, 1) := by decide +kernel
theorem dL_law_788 : decode cL_law 788 = .ok (.aload_n 3, 1) := by decide +kernel
theorem dL_law_789 : decode cL_law 789 = .ok (.invokestatic 128, 3) := by decide +kernel
theorem dL_law_792 : decode cL_law 792 = .ok (.istore 5, 2) := by decide +kernel
theorem dL_law_794 : decode cL_law 794 = .ok (.aload_n 2, 1) := by decide +kernel
theorem dL_law_795 : decode cL_law 795 = .ok (.invokevirtual 130, 3) := by decide +kernel
theorem dL_law_798 : decode cL_law 798 = .ok (.istore 6, 2) := by decide +kernel
theorem dL_law_800 : decode cL_law 800 = .ok (.aload_n 2, 1) := by decide +kernel
theorem dL_law_801 : decode cL_law 801 = .ok (.invokevirtual 85, 3) := by decide +kernel
theorem dL_law_804 : decode cL_law 804 = .ok (.iload 5, 2) := by decide +kernel
theorem dL_law_806 : decode cL_law 806 = .ok (.if_icmp .eq 5, 3) := by decide +kernel
theorem dL_law_809 : decode cL_law 809 = .ok (.iconst 0, 1) := by decide +kernel
theorem dL_law_810 : decode cL_law 810 = .ok (.ireturn, 1) := by decide +kernel
theorem dL_law_811 : decode cL_law 811 = .ok (.iload 5, 2) := by decide +kernel
theorem dL_law_813 : decode cL_law 813 = .ok (.ifCond .ne 15, 3) := by decide +kernel
theorem dL_law_816 : decode cL_law 816 = .ok (.aload_n 3, 1) := by decide +kernel
theorem dL_law_817 : decode cL_law 817 = .ok (.iconst 0, 1) := by decide +kernel
theorem dL_law_818 : decode cL_law 818 = .ok (.laload, 1) := by decide +kernel
theorem dL_law_819 : decode cL_law 819 = .ok (.iload 6, 2) := by decide +kernel
theorem dL_law_821 : decode cL_law 821 = .ok (.i2l, 1) := by decide +kernel
theorem dL_law_822 : decode cL_law 822 = .ok (.lcmp, 1) := by decide +kernel
theorem dL_law_823 : decode cL_law 823 = .ok (.ifCond .eq 5, 3) := by decide +kernel
theorem dL_law_826 : decode cL_law 826 = .ok (.iconst 0, 1) := by decide +kernel
theorem dL_law_827 : decode cL_law 827 = .ok (.ireturn, 1) := by decide +kernel
theorem dL_law_828 : decode cL_law 828 = .ok (.goto 592, 3) := by decide +kernel
theorem dL_law_831 : decode cL_law 831 = .ok (.aload_n 1, 1) := by decide +kernel
theorem dL_law_832 : decode cL_law 832 = .ok (.aload_n 0, 1) := by decide +kernel
theorem dL_law_833 : decode cL_law 833 = .ok (.iload 4, 2) := by decide +kernel
theorem dL_law_835 : decode cL_law 835 = .ok (.iconst 1, 1) := by decide +kernel
theorem dL_law_836 : decode cL_law 836 = .ok (.iadd, 1) := by decide +kernel
theorem dL_law_837 : decode cL_law 837 = .ok (.iaload, 1) := by decide +kernel
theorem dL_law_838 : decode cL_law 838 = .ok (.aload_n 0, 1) := by decide +kernel
theorem dL_law_839 : decode cL_law 839 = .ok (.iload 4, 2) := by decide +kernel
theorem dL_law_841 : decode cL_law 841 = .ok (.iconst 2, 1) := by decide +kernel
theorem dL_law_842 : decode cL_law 842 = .ok (.iadd, 1) := by decide +kernel
theorem dL_law_843 : decode cL_law 843 = .ok (.iaload, 1) := by decide +kernel
theorem dL_law_844 : decode cL_law 844 = .ok (.aload_n 3, 1) := by decide +kernel
theorem dL_law_845 : decode cL_law 845 = .ok (.invokestatic 131, 3) := by decide +kernel
theorem dL_law_848 : decode cL_law 848 = .ok (.istore 5, 2) := by decide +kernel
theorem dL_law_850 : decode cL_law 850 = .ok (.aload_n 2, 1) := by decide +kernel
theorem dL_law_851 : decode cL_law 851 = .ok (.aload_n 0, 1) := by decide +kernel
theorem dL_law_852 : decode cL_law 852 = .ok (.iload 4, 2) := by decide +kernel
theorem dL_law_854 : decode cL_law 854 = .ok (.iconst 1, 1) := by decide +kernel
theorem dL_law_855 : decode cL_law 855 = .ok (.iadd, 1) := by decide +kernel
theorem dL_law_856 : decode cL_law 856 = .ok (.iaload, 1) := by decide +kernel
theorem dL_law_857 : decode cL_law 857 = .ok (.aload_n 0, 1) := by decide +kernel
theorem dL_law_858 : decode cL_law 858 = .ok (.iload 4, 2) := by decide +kernel
theorem dL_law_860 : decode cL_law 860 = .ok (.iconst 2, 1) := by decide +kernel
theorem dL_law_861 : decode cL_law 861 = .ok (.iadd, 1) := by decide +kernel
theorem dL_law_862 : decode cL_law 862 = .ok (.iaload, 1) := by decide +kernel
theorem dL_law_863 : decode cL_law 863 = .ok (.invokevirtual 133, 3) := by decide +kernel
theorem dL_law_866 : decode cL_law 866 = .ok (.istore 6, 2) := by decide +kernel
theorem dL_law_868 : decode cL_law 868 = .ok (.aload_n 2, 1) := by decide +kernel
theorem dL_law_869 : decode cL_law 869 = .ok (.invokevirtual 85, 3) := by decide +kernel
theorem dL_law_872 : decode cL_law 872 = .ok (.iload 5, 2) := by decide +kernel
theorem dL_law_874 : decode cL_law 874 = .ok (.if_icmp .eq 5, 3) := by decide +kernel
theorem dL_law_877 : decode cL_law 877 = .ok (.iconst 0, 1) := by decide +kernel
theorem dL_law_878 : decode cL_law 878 = .ok (.ireturn, 1) := by decide +kernel
theorem dL_law_879 : decode cL_law 879 = .ok (.iload 5, 2) := by decide +kernel
theorem dL_law_881 : decode cL_law 881 = .ok (.ifCond .ne 15, 3) := by decide +kernel
theorem dL_law_884 : decode cL_law 884 = .ok (.aload_n 3, 1) := by decide +kernel
theorem dL_law_885 : decode cL_law 885 = .ok (.iconst 0, 1) := by decide +kernel
theorem dL_law_886 : decode cL_law 886 = .ok (.laload, 1) := by decide +kernel
theorem dL_law_887 : decode cL_law 887 = .ok (.iload 6, 2) := by decide +kernel
theorem dL_law_889 : decode cL_law 889 = .ok (.i2l, 1) := by decide +kernel
theorem dL_law_890 : decode cL_law 890 = .ok (.lcmp, 1) := by decide +kernel
theorem dL_law_891 : decode cL_law 891 = .ok (.ifCond .eq 5, 3) := by decide +kernel
theorem dL_law_894 : decode cL_law 894 = .ok (.iconst 0, 1) := by decide +kernel
theorem dL_law_895 : decode cL_law 895 = .ok (.ireturn, 1) := by decide +kernel
theorem dL_law_896 : decode cL_law 896 = .ok (.goto 524, 3) := by decide +kernel
theorem dL_law_899 : decode cL_law 899 = .ok (.aload_n 1, 1) := by decide +kernel
theorem dL_law_900 : decode cL_law 900 = .ok (.aload_n 0, 1) := by decide +kernel
theorem dL_law_901 : decode cL_law 901 = .ok (.iload 4, 2) := by decide +kernel
theorem dL_law_903 : decode cL_law 903 = .ok (.iconst 1, 1) := by decide +kernel
theorem dL_law_904 : decode cL_law 904 = .ok (.iadd, 1) := by decide +kernel
theorem dL_law_905 : decode cL_law 905 = .ok (.iaload, 1) := by decide +kernel
theorem dL_law_906 : decode cL_law 906 = .ok (.aload_n 0, 1) := by decide +kernel
theorem dL_law_907 : decode cL_law 907 = .ok (.iload 4, 2) := by decide +kernel
theorem dL_law_909 : decode cL_law 909 = .ok (.iconst 2, 1) := by decide +kernel
theorem dL_law_910 : decode cL_law 910 = .ok (.iadd, 1) := by decide +kernel
theorem dL_law_911 : decode cL_law 911 = .ok (.iaload, 1) := by decide +kernel
theorem dL_law_912 : decode cL_law 912 = .ok (.aload_n 3, 1) := by decide +kernel
theorem dL_law_913 : decode cL_law 913 = .ok (.invokestatic 134, 3) := by decide +kernel
theorem dL_law_916 : decode cL_law 916 = .ok (.istore 5, 2) := by decide +kernel
theorem dL_law_918 : decode cL_law 918 = .ok (.aload_n 2, 1) := by decide +kernel
theorem dL_law_919 : decode cL_law 919 = .ok (.aload_n 0, 1) := by decide +kernel
theorem dL_law_920 : decode cL_law 920 = .ok (.iload 4, 2) := by decide +kernel
theorem dL_law_922 : decode cL_law 922 = .ok (.iconst 1, 1) := by decide +kernel
theorem dL_law_923 : decode cL_law 923 = .ok (.iadd, 1) := by decide +kernel
theorem dL_law_924 : decode cL_law 924 = .ok (.iaload, 1) := by decide +kernel
theorem dL_law_925 : decode cL_law 925 = .ok (.aload_n 0, 1) := by decide +kernel
theorem dL_law_926 : decode cL_law 926 = .ok (.iload 4, 2) := by decide +kernel
theorem dL_law_928 : decode cL_law 928 = .ok (.iconst 2, 1) := by decide +kernel
theorem dL_law_929 : decode cL_law 929 = .ok (.iadd, 1) := by decide +kernel
theorem dL_law_930 : decode cL_law 930 = .ok (.iaload, 1) := by decide +kernel
theorem dL_law_931 : decode cL_law 931 = .ok (.invokevirtual 136, 3) := by decide +kernel
theorem dL_law_934 : decode cL_law 934 = .ok (.istore 6, 2) := by decide +kernel
theorem dL_law_936 : decode cL_law 936 = .ok (.aload_n 2, 1) := by decide +kernel
theorem dL_law_937 : decode cL_law 937 = .ok (.invokevirtual 85, 3) := by decide +kernel
theorem dL_law_940 : decode cL_law 940 = .ok (.iload 5, 2) := by decide +kernel
theorem dL_law_942 : decode cL_law 942 = .ok (.if_icmp .eq 5, 3) := by decide +kernel
theorem dL_law_945 : decode cL_law 945 = .ok (.iconst 0, 1) := by decide +kernel
theorem dL_law_946 : decode cL_law 946 = .ok (.ireturn, 1) := by decide +kernel
theorem dL_law_947 : decode cL_law 947 = .ok (.iload 5, 2) := by decide +kernel
theorem dL_law_949 : decode cL_law 949 = .ok (.ifCond .ne 15, 3) := by decide +kernel
theorem dL_law_952 : decode cL_law 952 = .ok (.aload_n 3, 1) := by decide +kernel
theorem dL_law_953 : decode cL_law 953 = .ok (.iconst 0, 1) := by decide +kernel
theorem dL_law_954 : decode cL_law 954 = .ok (.laload, 1) := by decide +kernel
theorem dL_law_955 : decode cL_law 955 = .ok (.iload 6, 2) := by decide +kernel
theorem dL_law_957 : decode cL_law 957 = .ok (.i2l, 1) := by decide +kernel
theorem dL_law_958 : decode cL_law 958 = .ok (.lcmp, 1) := by decide +kernel
theorem dL_law_959 : decode cL_law 959 = .ok (.ifCond .eq 5, 3) := by decide +kernel
theorem dL_law_962 : decode cL_law 962 = .ok (.iconst 0, 1) := by decide +kernel
theorem dL_law_963 : decode cL_law 963 = .ok (.ireturn, 1) := by decide +kernel
theorem dL_law_964 : decode cL_law 964 = .ok (.goto 456, 3) := by decide +kernel
theorem dL_law_967 : decode cL_law 967 = .ok (.aload_n 1, 1) := by decide +kernel
theorem dL_law_968 : decode cL_law 968 = .ok (.aload_n 0, 1) := by decide +kernel
theorem dL_law_969 : decode cL_law 969 = .ok (.iload 4, 2) := by decide +kernel
theorem dL_law_971 : decode cL_law 971 = .ok (.iconst 1, 1) := by decide +kernel
theorem dL_law_972 : decode cL_law 972 = .ok (.iadd, 1) := by decide +kernel
theorem dL_law_973 : decode cL_law 973 = .ok (.iaload, 1) := by decide +kernel
theorem dL_law_974 : decode cL_law 974 = .ok (.aload_n 0, 1) := by decide +kernel
theorem dL_law_975 : decode cL_law 975 = .ok (.iload 4, 2) := by decide +kernel
theorem dL_law_977 : decode cL_law 977 = .ok (.iconst 2, 1) := by decide +kernel
theorem dL_law_978 : decode cL_law 978 = .ok (.iadd, 1) := by decide +kernel
theorem dL_law_979 : decode cL_law 979 = .ok (.iaload, 1) := by decide +kernel
theorem dL_law_980 : decode cL_law 980 = .ok (.aload_n 3, 1) := by decide +kernel
theorem dL_law_981 : decode cL_law 981 = .ok (.invokestatic 137, 3) := by decide +kernel
theorem dL_law_984 : decode cL_law 984 = .ok (.istore 5, 2) := by decide +kernel
theorem dL_law_986 : decode cL_law 986 = .ok (.aload_n 2, 1) := by decide +kernel
theorem dL_law_987 : decode cL_law 987 = .ok (.aload_n 0, 1) := by decide +kernel
theorem dL_law_988 : decode cL_law 988 = .ok (.iload 4, 2) := by decide +kernel
theorem dL_law_990 : decode cL_law 990 = .ok (.iconst 1, 1) := by decide +kernel
theorem dL_law_991 : decode cL_law 991 = .ok (.iadd, 1) := by decide +kernel
theorem dL_law_992 : decode cL_law 992 = .ok (.iaload, 1) := by decide +kernel
theorem dL_law_993 : decode cL_law 993 = .ok (.aload_n 0, 1) := by decide +kernel
theorem dL_law_994 : decode cL_law 994 = .ok (.iload 4, 2) := by decide +kernel
theorem dL_law_996 : decode cL_law 996 = .ok (.iconst 2, 1) := by decide +kernel
theorem dL_law_997 : decode cL_law 997 = .ok (.iadd, 1) := by decide +kernel
theorem dL_law_998 : decode cL_law 998 = .ok (.iaload, 1) := by decide +kernel
theorem dL_law_999 : decode cL_law 999 = .ok (.invokevirtual 139, 3) := by decide +kernel
theorem dL_law_1002 : decode cL_law 1002 = .ok (.istore 6, 2) := by decide +kernel
theorem dL_law_1004 : decode cL_law 1004 = .ok (.aload_n 2, 1) := by decide +kernel
theorem dL_law_1005 : decode cL_law 1005 = .ok (.invokevirtual 85, 3) := by decide +kernel
theorem dL_law_1008 : decode cL_law 1008 = .ok (.iload 5, 2) := by decide +kernel
theorem dL_law_1010 : decode cL_law 1010 = .ok (.if_icmp .eq 5, 3) := by decide +kernel
theorem dL_law_1013 : decode cL_law 1013 = .ok (.iconst 0, 1) := by decide +kernel
theorem dL_law_1014 : decode cL_law 1014 = .ok (.ireturn, 1) := by decide +kernel
theorem dL_law_1015 : decode cL_law 1015 = .ok (.iload 5, 2) := by decide +kernel
theorem dL_law_1017 : decode cL_law 1017 = .ok (.ifCond .ne 15, 3) := by decide +kernel
theorem dL_law_1020 : decode cL_law 1020 = .ok (.aload_n 3, 1) := by decide +kernel
theorem dL_law_1021 : decode cL_law 1021 = .ok (.iconst 0, 1) := by decide +kernel
theorem dL_law_1022 : decode cL_law 1022 = .ok (.laload, 1) := by decide +kernel
theorem dL_law_1023 : decode cL_law 1023 = .ok (.iload 6, 2) := by decide +kernel
theorem dL_law_1025 : decode cL_law 1025 = .ok (.i2l, 1) := by decide +kernel
theorem dL_law_1026 : decode cL_law 1026 = .ok (.lcmp, 1) := by decide +kernel
theorem dL_law_1027 : decode cL_law 1027 = .ok (.ifCond .eq 5, 3) := by decide +kernel
theorem dL_law_1030 : decode cL_law 1030 = .ok (.iconst 0, 1) := by decide +kernel
theorem dL_law_1031 : decode cL_law 1031 = .ok (.ireturn, 1) := by decide +kernel
theorem dL_law_1032 : decode cL_law 1032 = .ok (.goto 388, 3) := by decide +kernel
theorem dL_law_1035 : decode cL_law 1035 = .ok (.aload_n 1, 1) := by decide +kernel
theorem dL_law_1036 : decode cL_law 1036 = .ok (.aload_n 0, 1) := by decide +kernel
theorem dL_law_1037 : decode cL_law 1037 = .ok (.iload 4, 2) := by decide +kernel
theorem dL_law_1039 : decode cL_law 1039 = .ok (.iconst 1, 1) := by decide +kernel
theorem dL_law_1040 : decode cL_law 1040 = .ok (.iadd, 1) := by decide +kernel
theorem dL_law_1041 : decode cL_law 1041 = .ok (.iaload, 1) := by decide +kernel
theorem dL_law_1042 : decode cL_law 1042 = .ok (.aload_n 0, 1) := by decide +kernel
theorem dL_law_1043 : decode cL_law 1043 = .ok (.iload 4, 2) := by decide +kernel
theorem dL_law_1045 : decode cL_law 1045 = .ok (.iconst 2, 1) := by decide +kernel
theorem dL_law_1046 : decode cL_law 1046 = .ok (.iadd, 1) := by decide +kernel
theorem dL_law_1047 : decode cL_law 1047 = .ok (.iaload, 1) := by decide +kernel
theorem dL_law_1048 : decode cL_law 1048 = .ok (.aload_n 3, 1) := by decide +kernel
theorem dL_law_1049 : decode cL_law 1049 = .ok (.invokestatic 140, 3) := by decide +kernel
theorem dL_law_1052 : decode cL_law 1052 = .ok (.istore 5, 2) := by decide +kernel
theorem dL_law_1054 : decode cL_law 1054 = .ok (.aload_n 2, 1) := by decide +kernel
theorem dL_law_1055 : decode cL_law 1055 = .ok (.aload_n 0, 1) := by decide +kernel
theorem dL_law_1056 : decode cL_law 1056 = .ok (.iload 4, 2) := by decide +kernel
theorem dL_law_1058 : decode cL_law 1058 = .ok (.iconst 1, 1) := by decide +kernel
theorem dL_law_1059 : decode cL_law 1059 = .ok (.iadd, 1) := by decide +kernel
theorem dL_law_1060 : decode cL_law 1060 = .ok (.iaload, 1) := by decide +kernel
theorem dL_law_1061 : decode cL_law 1061 = .ok (.aload_n 0, 1) := by decide +kernel
theorem dL_law_1062 : decode cL_law 1062 = .ok (.iload 4, 2) := by decide +kernel
theorem dL_law_1064 : decode cL_law 1064 = .ok (.iconst 2, 1) := by decide +kernel
theorem dL_law_1065 : decode cL_law 1065 = .ok (.iadd, 1) := by decide +kernel
theorem dL_law_1066 : decode cL_law 1066 = .ok (.iaload, 1) := by decide +kernel
theorem dL_law_1067 : decode cL_law 1067 = .ok (.invokevirtual 142, 3) := by decide +kernel
theorem dL_law_1070 : decode cL_law 1070 = .ok (.istore 6, 2) := by decide +kernel
theorem dL_law_1072 : decode cL_law 1072 = .ok (.aload_n 2, 1) := by decide +kernel
theorem dL_law_1073 : decode cL_law 1073 = .ok (.invokevirtual 85, 3) := by decide +kernel
theorem dL_law_1076 : decode cL_law 1076 = .ok (.iload 5, 2) := by decide +kernel
theorem dL_law_1078 : decode cL_law 1078 = .ok (.if_icmp .eq 5, 3) := by decide +kernel
theorem dL_law_1081 : decode cL_law 1081 = .ok (.iconst 0, 1) := by decide +kernel
theorem dL_law_1082 : decode cL_law 1082 = .ok (.ireturn, 1) := by decide +kernel
theorem dL_law_1083 : decode cL_law 1083 = .ok (.iload 5, 2) := by decide +kernel
theorem dL_law_1085 : decode cL_law 1085 = .ok (.ifCond .ne 15, 3) := by decide +kernel
theorem dL_law_1088 : decode cL_law 1088 = .ok (.aload_n 3, 1) := by decide +kernel
theorem dL_law_1089 : decode cL_law 1089 = .ok (.iconst 0, 1) := by decide +kernel
theorem dL_law_1090 : decode cL_law 1090 = .ok (.laload, 1) := by decide +kernel
theorem dL_law_1091 : decode cL_law 1091 = .ok (.iload 6, 2) := by decide +kernel
theorem dL_law_1093 : decode cL_law 1093 = .ok (.i2l, 1) := by decide +kernel
theorem dL_law_1094 : decode cL_law 1094 = .ok (.lcmp, 1) := by decide +kernel
theorem dL_law_1095 : decode cL_law 1095 = .ok (.ifCond .eq 5, 3) := by decide +kernel
theorem dL_law_1098 : decode cL_law 1098 = .ok (.iconst 0, 1) := by decide +kernel
theorem dL_law_1099 : decode cL_law 1099 = .ok (.ireturn, 1) := by decide +kernel
theorem dL_law_1100 : decode cL_law 1100 = .ok (.goto 320, 3) := by decide +kernel
theorem dL_law_1103 : decode cL_law 1103 = .ok (.aload_n 1, 1) := by decide +kernel
theorem dL_law_1104 : decode cL_law 1104 = .ok (.aload_n 0, 1) := by decide +kernel
theorem dL_law_1105 : decode cL_law 1105 = .ok (.iload 4, 2) := by decide +kernel
theorem dL_law_1107 : decode cL_law 1107 = .ok (.iconst 1, 1) := by decide +kernel
theorem dL_law_1108 : decode cL_law 1108 = .ok (.iadd, 1) := by decide +kernel
theorem dL_law_1109 : decode cL_law 1109 = .ok (.iaload, 1) := by decide +kernel
theorem dL_law_1110 : decode cL_law 1110 = .ok (.aload_n 3, 1) := by decide +kernel
theorem dL_law_1111 : decode cL_law 1111 = .ok (.invokestatic 143, 3) := by decide +kernel
theorem dL_law_1114 : decode cL_law 1114 = .ok (.istore 5, 2) := by decide +kernel
theorem dL_law_1116 : decode cL_law 1116 = .ok (.aload_n 2, 1) := by decide +kernel
theorem dL_law_1117 : decode cL_law 1117 = .ok (.aload_n 0, 1) := by decide +kernel
theorem dL_law_1118 : decode cL_law 1118 = .ok (.iload 4, 2) := by decide +kernel
theorem dL_law_1120 : decode cL_law 1120 = .ok (.iconst 1, 1) := by decide +kernel
theorem dL_law_1121 : decode cL_law 1121 = .ok (.iadd, 1) := by decide +kernel
theorem dL_law_1122 : decode cL_law 1122 = .ok (.iaload, 1) := by decide +kernel
theorem dL_law_1123 : decode cL_law 1123 = .ok (.invokevirtual 145, 3) := by decide +kernel
theorem dL_law_1126 : decode cL_law 1126 = .ok (.istore 6, 2) := by decide +kernel
theorem dL_law_1128 : decode cL_law 1128 = .ok (.aload_n 2, 1) := by decide +kernel
theorem dL_law_1129 : decode cL_law 1129 = .ok (.invokevirtual 85, 3) := by decide +kernel
theorem dL_law_1132 : decode cL_law 1132 = .ok (.iload 5, 2) := by decide +kernel
theorem dL_law_1134 : decode cL_law 1134 = .ok (.if_icmp .eq 5, 3) := by decide +kernel
theorem dL_law_1137 : decode cL_law 1137 = .ok (.iconst 0, 1) := by decide +kernel
theorem dL_law_1138 : decode cL_law 1138 = .ok (.ireturn, 1) := by decide +kernel
theorem dL_law_1139 : decode cL_law 1139 = .ok (.iload 5, 2) := by decide +kernel
theorem dL_law_1141 : decode cL_law 1141 = .ok (.ifCond .ne 15, 3) := by decide +kernel
theorem dL_law_1144 : decode cL_law 1144 = .ok (.aload_n 3, 1) := by decide +kernel
theorem dL_law_1145 : decode cL_law 1145 = .ok (.iconst 0, 1) := by decide +kernel
theorem dL_law_1146 : decode cL_law 1146 = .ok (.laload, 1) := by decide +kernel
theorem dL_law_1147 : decode cL_law 1147 = .ok (.iload 6, 2) := by decide +kernel
theorem dL_law_1149 : decode cL_law 1149 = .ok (.i2l, 1) := by decide +kernel
theorem dL_law_1150 : decode cL_law 1150 = .ok (.lcmp, 1) := by decide +kernel
theorem dL_law_1151 : decode cL_law 1151 = .ok (.ifCond .eq 5, 3) := by decide +kernel
theorem dL_law_1154 : decode cL_law 1154 = .ok (.iconst 0, 1) := by decide +kernel
theorem dL_law_1155 : decode cL_law 1155 = .ok (.ireturn, 1) := by decide +kernel
theorem dL_law_1156 : decode cL_law 1156 = .ok (.goto 264, 3) := by decide +kernel
theorem dL_law_1159 : decode cL_law 1159 = .ok (.aload_n 1, 1) := by decide +kernel
theorem dL_law_1160 : decode cL_law 1160 = .ok (.aload_n 0, 1) := by decide +kernel
theorem dL_law_1161 : decode cL_law 1161 = .ok (.iload 4, 2) := by decide +kernel
theorem dL_law_1163 : decode cL_law 1163 = .ok (.iconst 1, 1) := by decide +kernel
theorem dL_law_1164 : decode cL_law 1164 = .ok (.iadd, 1) := by decide +kernel
theorem dL_law_1165 : decode cL_law 1165 = .ok (.iaload, 1) := by decide +kernel
theorem dL_law_1166 : decode cL_law 1166 = .ok (.aload_n 0, 1) := by decide +kernel
theorem dL_law_1167 : decode cL_law 1167 = .ok (.iload 4, 2) := by decide +kernel
theorem dL_law_1169 : decode cL_law 1169 = .ok (.iconst 2, 1) := by decide +kernel
theorem dL_law_1170 : decode cL_law 1170 = .ok (.iadd, 1) := by decide +kernel
theorem dL_law_1171 : decode cL_law 1171 = .ok (.iaload, 1) := by decide +kernel
theorem dL_law_1172 : decode cL_law 1172 = .ok (.aload_n 0, 1) := by decide +kernel
theorem dL_law_1173 : decode cL_law 1173 = .ok (.iload 4, 2) := by decide +kernel
theorem dL_law_1175 : decode cL_law 1175 = .ok (.iconst 3, 1) := by decide +kernel
theorem dL_law_1176 : decode cL_law 1176 = .ok (.iadd, 1) := by decide +kernel
theorem dL_law_1177 : decode cL_law 1177 = .ok (.iaload, 1) := by decide +kernel
theorem dL_law_1178 : decode cL_law 1178 = .ok (.aload_n 0, 1) := by decide +kernel
theorem dL_law_1179 : decode cL_law 1179 = .ok (.iload 4, 2) := by decide +kernel
theorem dL_law_1181 : decode cL_law 1181 = .ok (.iconst 4, 1) := by decide +kernel
theorem dL_law_1182 : decode cL_law 1182 = .ok (.iadd, 1) := by decide +kernel
theorem dL_law_1183 : decode cL_law 1183 = .ok (.iaload, 1) := by decide +kernel
theorem dL_law_1184 : decode cL_law 1184 = .ok (.aload_n 3, 1) := by decide +kernel
theorem dL_law_1185 : decode cL_law 1185 = .ok (.invokestatic 146, 3) := by decide +kernel
theorem dL_law_1188 : decode cL_law 1188 = .ok (.istore 5, 2) := by decide +kernel
theorem dL_law_1190 : decode cL_law 1190 = .ok (.aload_n 2, 1) := by decide +kernel
theorem dL_law_1191 : decode cL_law 1191 = .ok (.aload_n 0, 1) := by decide +kernel
theorem dL_law_1192 : decode cL_law 1192 = .ok (.iload 4, 2) := by decide +kernel
theorem dL_law_1194 : decode cL_law 1194 = .ok (.iconst 1, 1) := by decide +kernel
theorem dL_law_1195 : decode cL_law 1195 = .ok (.iadd, 1) := by decide +kernel
theorem dL_law_1196 : decode cL_law 1196 = .ok (.iaload, 1) := by decide +kernel
theorem dL_law_1197 : decode cL_law 1197 = .ok (.aload_n 0, 1) := by decide +kernel
theorem dL_law_1198 : decode cL_law 1198 = .ok (.iload 4, 2) := by decide +kernel
theorem dL_law_1200 : decode cL_law 1200 = .ok (.iconst 2, 1) := by decide +kernel
theorem dL_law_1201 : decode cL_law 1201 = .ok (.iadd, 1) := by decide +kernel
theorem dL_law_1202 : decode cL_law 1202 = .ok (.iaload, 1) := by decide +kernel
theorem dL_law_1203 : decode cL_law 1203 = .ok (.aload_n 0, 1) := by decide +kernel
theorem dL_law_1204 : decode cL_law 1204 = .ok (.iload 4, 2) := by decide +kernel
theorem dL_law_1206 : decode cL_law 1206 = .ok (.iconst 3, 1) := by decide +kernel
theorem dL_law_1207 : decode cL_law 1207 = .ok (.iadd, 1) := by decide +kernel
theorem dL_law_1208 : decode cL_law 1208 = .ok (.iaload, 1) := by decide +kernel
theorem dL_law_1209 : decode cL_law 1209 = .ok (.aload_n 0, 1) := by decide +kernel
theorem dL_law_1210 : decode cL_law 1210 = .ok (.iload 4, 2) := by decide +kernel
theorem dL_law_1212 : decode cL_law 1212 = .ok (.iconst 4, 1) := by decide +kernel
theorem dL_law_1213 : decode cL_law 1213 = .ok (.iadd, 1) := by decide +kernel
theorem dL_law_1214 : decode cL_law 1214 = .ok (.iaload, 1) := by decide +kernel
theorem dL_law_1215 : decode cL_law 1215 = .ok (.invokevirtual 149, 3) := by decide +kernel
theorem dL_law_1218 : decode cL_law 1218 = .ok (.istore 6, 2) := by decide +kernel
theorem dL_law_1220 : decode cL_law 1220 = .ok (.aload_n 2, 1) := by decide +kernel
theorem dL_law_1221 : decode cL_law 1221 = .ok (.invokevirtual 85, 3) := by decide +kernel
theorem dL_law_1224 : decode cL_law 1224 = .ok (.iload 5, 2) := by decide +kernel
theorem dL_law_1226 : decode cL_law 1226 = .ok (.if_icmp .eq 5, 3) := by decide +kernel
theorem dL_law_1229 : decode cL_law 1229 = .ok (.iconst 0, 1) := by decide +kernel
theorem dL_law_1230 : decode cL_law 1230 = .ok (.ireturn, 1) := by decide +kernel
theorem dL_law_1231 : decode cL_law 1231 = .ok (.iload 5, 2) := by decide +kernel
theorem dL_law_1233 : decode cL_law 1233 = .ok (.ifCond .ne 15, 3) := by decide +kernel
theorem dL_law_1236 : decode cL_law 1236 = .ok (.aload_n 3, 1) := by decide +kernel
theorem dL_law_1237 : decode cL_law 1237 = .ok (.iconst 0, 1) := by decide +kernel
theorem dL_law_1238 : decode cL_law 1238 = .ok (.laload, 1) := by decide +kernel
theorem dL_law_1239 : decode cL_law 1239 = .ok (.iload 6, 2) := by decide +kernel
theorem dL_law_1241 : decode cL_law 1241 = .ok (.i2l, 1) := by decide +kernel
theorem dL_law_1242 : decode cL_law 1242 = .ok (.lcmp, 1) := by decide +kernel
theorem dL_law_1243 : decode cL_law 1243 = .ok (.ifCond .eq 5, 3) := by decide +kernel
theorem dL_law_1246 : decode cL_law 1246 = .ok (.iconst 0, 1) := by decide +kernel
theorem dL_law_1247 : decode cL_law 1247 = .ok (.ireturn, 1) := by decide +kernel
theorem dL_law_1248 : decode cL_law 1248 = .ok (.goto 172, 3) := by decide +kernel
theorem dL_law_1251 : decode cL_law 1251 = .ok (.aload_n 1, 1) := by decide +kernel
theorem dL_law_1252 : decode cL_law 1252 = .ok (.aload_n 0, 1) := by decide +kernel
theorem dL_law_1253 : decode cL_law 1253 = .ok (.iload 4, 2) := by decide +kernel
theorem dL_law_1255 : decode cL_law 1255 = .ok (.iconst 1, 1) := by decide +kernel
theorem dL_law_1256 : decode cL_law 1256 = .ok (.iadd, 1) := by decide +kernel
theorem dL_law_1257 : decode cL_law 1257 = .ok (.iaload, 1) := by decide +kernel
theorem dL_law_1258 : decode cL_law 1258 = .ok (.aload_n 3, 1) := by decide +kernel
theorem dL_law_1259 : decode cL_law 1259 = .ok (.invokestatic 150, 3) := by decide +kernel
theorem dL_law_1262 : decode cL_law 1262 = .ok (.istore 5, 2) := by decide +kernel
theorem dL_law_1264 : decode cL_law 1264 = .ok (.aload_n 2, 1) := by decide +kernel
theorem dL_law_1265 : decode cL_law 1265 = .ok (.aload_n 0, 1) := by decide +kernel
theorem dL_law_1266 : decode cL_law 1266 = .ok (.iload 4, 2) := by decide +kernel
theorem dL_law_1268 : decode cL_law 1268 = .ok (.iconst 1, 1) := by decide +kernel
theorem dL_law_1269 : decode cL_law 1269 = .ok (.iadd, 1) := by decide +kernel
theorem dL_law_1270 : decode cL_law 1270 = .ok (.iaload, 1) := by decide +kernel
theorem dL_law_1271 : decode cL_law 1271 = .ok (.invokevirtual 152, 3) := by decide +kernel
theorem dL_law_1274 : decode cL_law 1274 = .ok (.istore 6, 2) := by decide +kernel
theorem dL_law_1276 : decode cL_law 1276 = .ok (.aload_n 2, 1) := by decide +kernel
theorem dL_law_1277 : decode cL_law 1277 = .ok (.invokevirtual 85, 3) := by decide +kernel
theorem dL_law_1280 : decode cL_law 1280 = .ok (.iload 5, 2) := by decide +kernel
theorem dL_law_1282 : decode cL_law 1282 = .ok (.if_icmp .eq 5, 3) := by decide +kernel
theorem dL_law_1285 : decode cL_law 1285 = .ok (.iconst 0, 1) := by decide +kernel
theorem dL_law_1286 : decode cL_law 1286 = .ok (.ireturn, 1) := by decide +kernel
theorem dL_law_1287 : decode cL_law 1287 = .ok (.iload 5, 2) := by decide +kernel
theorem dL_law_1289 : decode cL_law 1289 = .ok (.ifCond .ne 15, 3) := by decide +kernel
theorem dL_law_1292 : decode cL_law 1292 = .ok (.aload_n 3, 1) := by decide +kernel
theorem dL_law_1293 : decode cL_law 1293 = .ok (.iconst 0, 1) := by decide +kernel
theorem dL_law_1294 : decode cL_law 1294 = .ok (.laload, 1) := by decide +kernel
theorem dL_law_1295 : decode cL_law 1295 = .ok (.iload 6, 2) := by decide +kernel
theorem dL_law_1297 : decode cL_law 1297 = .ok (.i2l, 1) := by decide +kernel
theorem dL_law_1298 : decode cL_law 1298 = .ok (.lcmp, 1) := by decide +kernel
theorem dL_law_1299 : decode cL_law 1299 = .ok (.ifCond .eq 5, 3) := by decide +kernel
theorem dL_law_1302 : decode cL_law 1302 = .ok (.iconst 0, 1) := by decide +kernel
theorem dL_law_1303 : decode cL_law 1303 = .ok (.ireturn, 1) := by decide +kernel
theorem dL_law_1304 : decode cL_law 1304 = .ok (.goto 116, 3) := by decide +kernel
theorem dL_law_1307 : decode cL_law 1307 = .ok (.aload_n 1, 1) := by decide +kernel
theorem dL_law_1308 : decode cL_law 1308 = .ok (.aload_n 0, 1) := by decide +kernel
theorem dL_law_1309 : decode cL_law 1309 = .ok (.iload 4, 2) := by decide +kernel
theorem dL_law_1311 : decode cL_law 1311 = .ok (.iconst 1, 1) := by decide +kernel
theorem dL_law_1312 : decode cL_law 1312 = .ok (.iadd, 1) := by decide +kernel
theorem dL_law_1313 : decode cL_law 1313 = .ok (.iaload, 1) := by decide +kernel
theorem dL_law_1314 : decode cL_law 1314 = .ok (.aload_n 3, 1) := by decide +kernel
theorem dL_law_1315 : decode cL_law 1315 = .ok (.invokestatic 153, 3) := by decide +kernel
theorem dL_law_1318 : decode cL_law 1318 = .ok (.istore 5, 2) := by decide +kernel
theorem dL_law_1320 : decode cL_law 1320 = .ok (.aload_n 2, 1) := by decide +kernel
theorem dL_law_1321 : decode cL_law 1321 = .ok (.aload_n 0, 1) := by decide +kernel
theorem dL_law_1322 : decode cL_law 1322 = .ok (.iload 4, 2) := by decide +kernel
theorem dL_law_1324 : decode cL_law 1324 = .ok (.iconst 1, 1) := by decide +kernel
theorem dL_law_1325 : decode cL_law 1325 = .ok (.iadd, 1) := by decide +kernel
theorem dL_law_1326 : decode cL_law 1326 = .ok (.iaload, 1) := by decide +kernel
theorem dL_law_1327 : decode cL_law 1327 = .ok (.invokevirtual 155, 3) := by decide +kernel
theorem dL_law_1330 : decode cL_law 1330 = .ok (.istore 6, 2) := by decide +kernel
theorem dL_law_1332 : decode cL_law 1332 = .ok (.aload_n 2, 1) := by decide +kernel
theorem dL_law_1333 : decode cL_law 1333 = .ok (.invokevirtual 85, 3) := by decide +kernel
theorem dL_law_1336 : decode cL_law 1336 = .ok (.iload 5, 2) := by decide +kernel
theorem dL_law_1338 : decode cL_law 1338 = .ok (.if_icmp .eq 5, 3) := by decide +kernel
theorem dL_law_1341 : decode cL_law 1341 = .ok (.iconst 0, 1) := by decide +kernel
theorem dL_law_1342 : decode cL_law 1342 = .ok (.ireturn, 1) := by decide +kernel
theorem dL_law_1343 : decode cL_law 1343 = .ok (.iload 5, 2) := by decide +kernel
theorem dL_law_1345 : decode cL_law 1345 = .ok (.ifCond .ne 15, 3) := by decide +kernel
theorem dL_law_1348 : decode cL_law 1348 = .ok (.aload_n 3, 1) := by decide +kernel
theorem dL_law_1349 : decode cL_law 1349 = .ok (.iconst 0, 1) := by decide +kernel
theorem dL_law_1350 : decode cL_law 1350 = .ok (.laload, 1) := by decide +kernel
theorem dL_law_1351 : decode cL_law 1351 = .ok (.iload 6, 2) := by decide +kernel
theorem dL_law_1353 : decode cL_law 1353 = .ok (.i2l, 1) := by decide +kernel
theorem dL_law_1354 : decode cL_law 1354 = .ok (.lcmp, 1) := by decide +kernel
theorem dL_law_1355 : decode cL_law 1355 = .ok (.ifCond .eq 5, 3) := by decide +kernel
theorem dL_law_1358 : decode cL_law 1358 = .ok (.iconst 0, 1) := by decide +kernel
theorem dL_law_1359 : decode cL_law 1359 = .ok (.ireturn, 1) := by decide +kernel
theorem dL_law_1360 : decode cL_law 1360 = .ok (.goto 60, 3) := by decide +kernel
theorem dL_law_1363 : decode cL_law 1363 = .ok (.aload_n 1, 1) := by decide +kernel
theorem dL_law_1364 : decode cL_law 1364 = .ok (.invokevirtual 156, 3) := by decide +kernel
theorem dL_law_1367 : decode cL_law 1367 = .ok (.f2d, 1) := by decide +kernel
theorem dL_law_1368 : decode cL_law 1368 = .ok (.dstore 5, 2) := by decide +kernel
theorem dL_law_1370 : decode cL_law 1370 = .ok (.aload_n 2, 1) := by decide +kernel
theorem dL_law_1371 : decode cL_law 1371 = .ok (.invokevirtual 160, 3) := by decide +kernel
theorem dL_law_1374 : decode cL_law 1374 = .ok (.f2d, 1) := by decide +kernel
theorem dL_law_1375 : decode cL_law 1375 = .ok (.dstore 7, 2) := by decide +kernel
theorem dL_law_1377 : decode cL_law 1377 = .ok (.dload 5, 2) := by decide +kernel
theorem dL_law_1379 : decode cL_law 1379 = .ok (.dload 7, 2) := by decide +kernel
theorem dL_law_1381 : decode cL_law 1381 = .ok (.dcmp .l, 1) := by decide +kernel
theorem dL_law_1382 : decode cL_law 1382 = .ok (.ifCond .eq 21, 3) := by decide +kernel
theorem dL_law_1385 : decode cL_law 1385 = .ok (.dload 5, 2) := by decide +kernel
theorem dL_law_1387 : decode cL_law 1387 = .ok (.dload 5, 2) := by decide +kernel
theorem dL_law_1389 : decode cL_law 1389 = .ok (.dcmp .l, 1) := by decide +kernel
theorem dL_law_1390 : decode cL_law 1390 = .ok (.ifCond .eq 11, 3) := by decide +kernel
theorem dL_law_1393 : decode cL_law 1393 = .ok (.dload 7, 2) := by decide +kernel
theorem dL_law_1395 : decode cL_law 1395 = .ok (.dload 7, 2) := by decide +kernel
theorem dL_law_1397 : decode cL_law 1397 = .ok (.dcmp .l, 1) := by decide +kernel
theorem dL_law_1398 : decode cL_law 1398 = .ok (.ifCond .ne 5, 3) := by decide +kernel
theorem dL_law_1401 : decode cL_law 1401 = .ok (.iconst 0, 1) := by decide +kernel
theorem dL_law_1402 : decode cL_law 1402 = .ok (.ireturn, 1) := by decide +kernel
theorem dL_law_1403 : decode cL_law 1403 = .ok (.goto 17, 3) := by decide +kernel
theorem dL_law_1406 : decode cL_law 1406 = .ok (.aload_n 1, 1) := by decide +kernel
theorem dL_law_1407 : decode cL_law 1407 = .ok (.invokevirtual 161, 3) := by decide +kernel
theorem dL_law_1410 : decode cL_law 1410 = .ok (.aload_n 2, 1) := by decide +kernel
theorem dL_law_1411 : decode cL_law 1411 = .ok (.invokevirtual 165, 3) := by decide +kernel
theorem dL_law_1414 : decode cL_law 1414 = .ok (.lcmp, 1) := by decide +kernel
theorem dL_law_1415 : decode cL_law 1415 = .ok (.ifCond .eq 5, 3) := by decide +kernel
theorem dL_law_1418 : decode cL_law 1418 = .ok (.iconst 0, 1) := by decide +kernel
theorem dL_law_1419 : decode cL_law 1419 = .ok (.ireturn, 1) := by decide +kernel
theorem dL_law_1420 : decode cL_law 1420 = .ok (.iinc 4 6, 3) := by decide +kernel
theorem dL_law_1423 : decode cL_law 1423 = .ok (.goto (-1400), 3) := by decide +kernel
theorem dL_law_1426 : decode cL_law 1426 = .ok (.iconst 1, 1) := by decide +kernel
theorem dL_law_1427 : decode cL_law 1427 = .ok (.ireturn, 1) := by decide +kernel
