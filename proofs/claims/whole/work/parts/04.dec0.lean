theorem dX0_init_0 : decode cX0_init 0 = .ok (.aload_n 0, 1) := by decide +kernel
theorem dX0_init_1 : decode cX0_init 1 = .ok (.iload_n 1, 1) := by decide +kernel
theorem dX0_init_2 : decode cX0_init 2 = .ok (.iload_n 2, 1) := by decide +kernel
theorem dX0_init_3 : decode cX0_init 3 = .ok (.iload_n 3, 1) := by decide +kernel
theorem dX0_init_4 : decode cX0_init 4 = .ok (.iload 4, 2) := by decide +kernel
theorem dX0_init_6 : decode cX0_init 6 = .ok (.invokespecial 1, 3) := by decide +kernel
theorem dX0_init_9 : decode cX0_init 9 = .ok (.return_, 1) := by decide +kernel
theorem dX0_seconds_0 : decode cX0_seconds 0 = .ok (.iload_n 1, 1) := by decide +kernel
theorem dX0_seconds_1 : decode cX0_seconds 1 = .ok (.aload_n 0, 1) := by decide +kernel
theorem dX0_seconds_2 : decode cX0_seconds 2 = .ok (.getfield 7, 3) := by decide +kernel
theorem dX0_seconds_5 : decode cX0_seconds 5 = .ok (.iconst 2, 1) := by decide +kernel
theorem dX0_seconds_6 : decode cX0_seconds 6 = .ok (.idiv, 1) := by decide +kernel
theorem dX0_seconds_7 : decode cX0_seconds 7 = .ok (.imul, 1) := by decide +kernel
theorem dX0_seconds_8 : decode cX0_seconds 8 = .ok (.aload_n 0, 1) := by decide +kernel
theorem dX0_seconds_9 : decode cX0_seconds 9 = .ok (.getfield 13, 3) := by decide +kernel
theorem dX0_seconds_12 : decode cX0_seconds 12 = .ok (.iadd, 1) := by decide +kernel
theorem dX0_seconds_13 : decode cX0_seconds 13 = .ok (.ireturn, 1) := by decide +kernel
theorem dX0_shows_0 : decode cX0_shows 0 = .ok (.aload_n 2, 1) := by decide +kernel
theorem dX0_shows_1 : decode cX0_shows 1 = .ok (.bipush 21, 2) := by decide +kernel
theorem dX0_shows_3 : decode cX0_shows 3 = .ok (.invokevirtual 16, 3) := by decide +kernel
theorem dX0_shows_6 : decode cX0_shows 6 = .ok (.aload_n 0, 1) := by decide +kernel
theorem dX0_shows_7 : decode cX0_shows 7 = .ok (.iload_n 1, 1) := by decide +kernel
theorem dX0_shows_8 : decode cX0_shows 8 = .ok (.aload_n 2, 1) := by decide +kernel
theorem dX0_shows_9 : decode cX0_shows 9 = .ok (.invokespecial 22, 3) := by decide +kernel
theorem dX0_shows_12 : decode cX0_shows 12 = .ok (.ineg, 1) := by decide +kernel
theorem dX0_shows_13 : decode cX0_shows 13 = .ok (.ireturn, 1) := by decide +kernel
theorem dX1_init_0 : decode cX1_init 0 = .ok (.aload_n 0, 1) := by decide +kernel
theorem dX1_init_1 : decode cX1_init 1 = .ok (.iconst 5, 1) := by decide +kernel
theorem dX1_init_2 : decode cX1_init 2 = .ok (.iload_n 1, 1) := by decide +kernel
theorem dX1_init_3 : decode cX1_init 3 = .ok (.iload_n 2, 1) := by decide +kernel
theorem dX1_init_4 : decode cX1_init 4 = .ok (.iload_n 3, 1) := by decide +kernel
theorem dX1_init_5 : decode cX1_init 5 = .ok (.invokespecial 1, 3) := by decide +kernel
theorem dX1_init_8 : decode cX1_init 8 = .ok (.return_, 1) := by decide +kernel
theorem dX1_seconds_0 : decode cX1_seconds 0 = .ok (.aload_n 0, 1) := by decide +kernel
theorem dX1_seconds_1 : decode cX1_seconds 1 = .ok (.iload_n 1, 1) := by decide +kernel
theorem dX1_seconds_2 : decode cX1_seconds 2 = .ok (.iconst 1, 1) := by decide +kernel
theorem dX1_seconds_3 : decode cX1_seconds 3 = .ok (.iadd, 1) := by decide +kernel
theorem dX1_seconds_4 : decode cX1_seconds 4 = .ok (.iconst 2, 1) := by decide +kernel
theorem dX1_seconds_5 : decode cX1_seconds 5 = .ok (.idiv, 1) := by decide +kernel
theorem dX1_seconds_6 : decode cX1_seconds 6 = .ok (.invokespecial 7, 3) := by decide +kernel
theorem dX1_seconds_9 : decode cX1_seconds 9 = .ok (.iload_n 1, 1) := by decide +kernel
theorem dX1_seconds_10 : decode cX1_seconds 10 = .ok (.iconst 2, 1) := by decide +kernel
theorem dX1_seconds_11 : decode cX1_seconds 11 = .ok (.idiv, 1) := by decide +kernel
theorem dX1_seconds_12 : decode cX1_seconds 12 = .ok (.iadd, 1) := by decide +kernel
theorem dX1_seconds_13 : decode cX1_seconds 13 = .ok (.ireturn, 1) := by decide +kernel
theorem dX1_writes_0 : decode cX1_writes 0 = .ok (.aload_n 2, 1) := by decide +kernel
theorem dX1_writes_1 : decode cX1_writes 1 = .ok (.bipush 51, 2) := by decide +kernel
theorem dX1_writes_3 : decode cX1_writes 3 = .ok (.invokevirtual 11, 3) := by decide +kernel
theorem dX1_writes_6 : decode cX1_writes 6 = .ok (.aload_n 0, 1) := by decide +kernel
theorem dX1_writes_7 : decode cX1_writes 7 = .ok (.iload_n 1, 1) := by decide +kernel
theorem dX1_writes_8 : decode cX1_writes 8 = .ok (.aload_n 2, 1) := by decide +kernel
theorem dX1_writes_9 : decode cX1_writes 9 = .ok (.invokespecial 17, 3) := by decide +kernel
theorem dX1_writes_12 : decode cX1_writes 12 = .ok (.aload_n 0, 1) := by decide +kernel
theorem dX1_writes_13 : decode cX1_writes 13 = .ok (.getfield 21, 3) := by decide +kernel
theorem dX1_writes_16 : decode cX1_writes 16 = .ok (.ixor, 1) := by decide +kernel
theorem dX1_writes_17 : decode cX1_writes 17 = .ok (.ireturn, 1) := by decide +kernel
theorem dX2_init_0 : decode cX2_init 0 = .ok (.aload_n 0, 1) := by decide +kernel
theorem dX2_init_1 : decode cX2_init 1 = .ok (.invokespecial 3, 3) := by decide +kernel
theorem dX2_init_4 : decode cX2_init 4 = .ok (.aload_n 0, 1) := by decide +kernel
theorem dX2_init_5 : decode cX2_init 5 = .ok (.bipush 6, 2) := by decide +kernel
theorem dX2_init_7 : decode cX2_init 7 = .ok (.anewarray 9, 3) := by decide +kernel
theorem dX2_init_10 : decode cX2_init 10 = .ok (.putfield 11, 3) := by decide +kernel
theorem dX2_init_13 : decode cX2_init 13 = .ok (.aload_n 0, 1) := by decide +kernel
theorem dX2_init_14 : decode cX2_init 14 = .ok (.new 17, 3) := by decide +kernel
theorem dX2_init_17 : decode cX2_init 17 = .ok (.dup, 1) := by decide +kernel
theorem dX2_init_18 : decode cX2_init 18 = .ok (.invokespecial 19, 3) := by decide +kernel
theorem dX2_init_21 : decode cX2_init 21 = .ok (.putfield 20, 3) := by decide +kernel
theorem dX2_init_24 : decode cX2_init 24 = .ok (.aload_n 0, 1) := by decide +kernel
theorem dX2_init_25 : decode cX2_init 25 = .ok (.new 24, 3) := by decide +kernel
theorem dX2_init_28 : decode cX2_init 28 = .ok (.dup, 1) := by decide +kernel
theorem dX2_init_29 : decode cX2_init 29 = .ok (.bipush 100, 2) := by decide +kernel
theorem dX2_init_31 : decode cX2_init 31 = .ok (.invokespecial 26, 3) := by decide +kernel
theorem dX2_init_34 : decode cX2_init 34 = .ok (.putfield 29, 3) := by decide +kernel
theorem dX2_init_37 : decode cX2_init 37 = .ok (.aload_n 0, 1) := by decide +kernel
theorem dX2_init_38 : decode cX2_init 38 = .ok (.new 24, 3) := by decide +kernel
theorem dX2_init_41 : decode cX2_init 41 = .ok (.dup, 1) := by decide +kernel
theorem dX2_init_42 : decode cX2_init 42 = .ok (.bipush 40, 2) := by decide +kernel
theorem dX2_init_44 : decode cX2_init 44 = .ok (.invokespecial 26, 3) := by decide +kernel
theorem dX2_init_47 : decode cX2_init 47 = .ok (.putfield 33, 3) := by decide +kernel
theorem dX2_init_50 : decode cX2_init 50 = .ok (.aload_n 0, 1) := by decide +kernel
theorem dX2_init_51 : decode cX2_init 51 = .ok (.new 24, 3) := by decide +kernel
theorem dX2_init_54 : decode cX2_init 54 = .ok (.dup, 1) := by decide +kernel
theorem dX2_init_55 : decode cX2_init 55 = .ok (.iconst 5, 1) := by decide +kernel
theorem dX2_init_56 : decode cX2_init 56 = .ok (.invokespecial 26, 3) := by decide +kernel
theorem dX2_init_59 : decode cX2_init 59 = .ok (.putfield 36, 3) := by decide +kernel
theorem dX2_init_62 : decode cX2_init 62 = .ok (.aload_n 0, 1) := by decide +kernel
theorem dX2_init_63 : decode cX2_init 63 = .ok (.new 24, 3) := by decide +kernel
theorem dX2_init_66 : decode cX2_init 66 = .ok (.dup, 1) := by decide +kernel
theorem dX2_init_67 : decode cX2_init 67 = .ok (.bipush 6, 2) := by decide +kernel
theorem dX2_init_69 : decode cX2_init 69 = .ok (.invokespecial 26, 3) := by decide +kernel
theorem dX2_init_72 : decode cX2_init 72 = .ok (.putfield 39, 3) := by decide +kernel
theorem dX2_init_75 : decode cX2_init 75 = .ok (.aload_n 0, 1) := by decide +kernel
theorem dX2_init_76 : decode cX2_init 76 = .ok (.new 24, 3) := by decide +kernel
theorem dX2_init_79 : decode cX2_init 79 = .ok (.dup, 1) := by decide +kernel
theorem dX2_init_80 : decode cX2_init 80 = .ok (.bipush 8, 2) := by decide +kernel
theorem dX2_init_82 : decode cX2_init 82 = .ok (.invokespecial 26, 3) := by decide +kernel
theorem dX2_init_85 : decode cX2_init 85 = .ok (.putfield 42, 3) := by decide +kernel
theorem dX2_init_88 : decode cX2_init 88 = .ok (.aload_n 0, 1) := by decide +kernel
theorem dX2_init_89 : decode cX2_init 89 = .ok (.new 24, 3) := by decide +kernel
theorem dX2_init_92 : decode cX2_init 92 = .ok (.dup, 1) := by decide +kernel
theorem dX2_init_93 : decode cX2_init 93 = .ok (.bipush 8, 2) := by decide +kernel
theorem dX2_init_95 : decode cX2_init 95 = .ok (.invokespecial 26, 3) := by decide +kernel
theorem dX2_init_98 : decode cX2_init 98 = .ok (.putfield 45, 3) := by decide +kernel
theorem dX2_init_101 : decode cX2_init 101 = .ok (.aload_n 0, 1) := by decide +kernel
theorem dX2_init_102 : decode cX2_init 102 = .ok (.new 24, 3) := by decide +kernel
theorem dX2_init_105 : decode cX2_init 105 = .ok (.dup, 1) := by decide +kernel
theorem dX2_init_106 : decode cX2_init 106 = .ok (.bipush 8, 2) := by decide +kernel
theorem dX2_init_108 : decode cX2_init 108 = .ok (.invokespecial 26, 3) := by decide +kernel
theorem dX2_init_111 : decode cX2_init 111 = .ok (.putfield 48, 3) := by decide +kernel
theorem dX2_init_114 : decode cX2_init 114 = .ok (.return_, 1) := by decide +kernel
theorem dX2_copyAll_0 : decode cX2_copyAll 0 = .ok (.iconst 0, 1) := by decide +kernel
theorem dX2_copyAll_1 : decode cX2_copyAll 1 = .ok (.istore_n 2, 1) := by decide +kernel
theorem dX2_copyAll_2 : decode cX2_copyAll 2 = .ok (.iload_n 2, 1) := by decide +kernel
theorem dX2_copyAll_3 : decode cX2_copyAll 3 = .ok (.aload_n 0, 1) := by decide +kernel
theorem dX2_copyAll_4 : decode cX2_copyAll 4 = .ok (.getfield 11, 3) := by decide +kernel
theorem dX2_copyAll_7 : decode cX2_copyAll 7 = .ok (.arraylength, 1) := by decide +kernel
theorem dX2_copyAll_8 : decode cX2_copyAll 8 = .ok (.if_icmp .ge 30, 3) := by decide +kernel
theorem dX2_copyAll_11 : decode cX2_copyAll 11 = .ok (.iload_n 2, 1) := by decide +kernel
theorem dX2_copyAll_12 : decode cX2_copyAll 12 = .ok (.aload_n 1, 1) := by decide +kernel
theorem dX2_copyAll_13 : decode cX2_copyAll 13 = .ok (.getfield 11, 3) := by decide +kernel
theorem dX2_copyAll_16 : decode cX2_copyAll 16 = .ok (.arraylength, 1) := by decide +kernel
theorem dX2_copyAll_17 : decode cX2_copyAll 17 = .ok (.if_icmp .ge 21, 3) := by decide +kernel
theorem dX2_copyAll_20 : decode cX2_copyAll 20 = .ok (.aload_n 0, 1) := by decide +kernel
theorem dX2_copyAll_21 : decode cX2_copyAll 21 = .ok (.getfield 11, 3) := by decide +kernel
theorem dX2_copyAll_24 : decode cX2_copyAll 24 = .ok (.iload_n 2, 1) := by decide +kernel
theorem dX2_copyAll_25 : decode cX2_copyAll 25 = .ok (.aload_n 1, 1) := by decide +kernel
theorem dX2_copyAll_26 : decode cX2_copyAll 26 = .ok (.getfield 11, 3) := by decide +kernel
theorem dX2_copyAll_29 : decode cX2_copyAll 29 = .ok (.iload_n 2, 1) := by decide +kernel
theorem dX2_copyAll_30 : decode cX2_copyAll 30 = .ok (.aaload, 1) := by decide +kernel
theorem dX2_copyAll_31 : decode cX2_copyAll 31 = .ok (.aastore, 1) := by decide +kernel
theorem dX2_copyAll_32 : decode cX2_copyAll 32 = .ok (.iinc 2 1, 3) := by decide +kernel
theorem dX2_copyAll_35 : decode cX2_copyAll 35 = .ok (.goto (-33), 3) := by decide +kernel
theorem dX2_copyAll_38 : decode cX2_copyAll 38 = .ok (.aload_n 0, 1) := by decide +kernel
theorem dX2_copyAll_39 : decode cX2_copyAll 39 = .ok (.aload_n 1, 1) := by decide +kernel
theorem dX2_copyAll_40 : decode cX2_copyAll 40 = .ok (.getfield 51, 3) := by decide +kernel
theorem dX2_copyAll_43 : decode cX2_copyAll 43 = .ok (.putfield 51, 3) := by decide +kernel
theorem dX2_copyAll_46 : decode cX2_copyAll 46 = .ok (.aload_n 0, 1) := by decide +kernel
theorem dX2_copyAll_47 : decode cX2_copyAll 47 = .ok (.aload_n 1, 1) := by decide +kernel
theorem dX2_copyAll_48 : decode cX2_copyAll 48 = .ok (.getfield 20, 3) := by decide +kernel
theorem dX2_copyAll_51 : decode cX2_copyAll 51 = .ok (.putfield 20, 3) := by decide +kernel
theorem dX2_copyAll_54 : decode cX2_copyAll 54 = .ok (.aload_n 0, 1) := by decide +kernel
theorem dX2_copyAll_55 : decode cX2_copyAll 55 = .ok (.aload_n 1, 1) := by decide +kernel
theorem dX2_copyAll_56 : decode cX2_copyAll 56 = .ok (.getfield 55, 3) := by decide +kernel
theorem dX2_copyAll_59 : decode cX2_copyAll 59 = .ok (.putfield 55, 3) := by decide +kernel
theorem dX2_copyAll_62 : decode cX2_copyAll 62 = .ok (.aload_n 0, 1) := by decide +kernel
theorem dX2_copyAll_63 : decode cX2_copyAll 63 = .ok (.getfield 29, 3) := by decide +kernel
theorem dX2_copyAll_66 : decode cX2_copyAll 66 = .ok (.aload_n 1, 1) := by decide +kernel
theorem dX2_copyAll_67 : decode cX2_copyAll 67 = .ok (.getfield 29, 3) := by decide +kernel
theorem dX2_copyAll_70 : decode cX2_copyAll 70 = .ok (.invokevirtual 58, 3) := by decide +kernel
theorem dX2_copyAll_73 : decode cX2_copyAll 73 = .ok (.aload_n 0, 1) := by decide +kernel
theorem dX2_copyAll_74 : decode cX2_copyAll 74 = .ok (.getfield 33, 3) := by decide +kernel
theorem dX2_copyAll_77 : decode cX2_copyAll 77 = .ok (.aload_n 1, 1) := by decide +kernel
theorem dX2_copyAll_78 : decode cX2_copyAll 78 = .ok (.getfield 33, 3) := by decide +kernel
theorem dX2_copyAll_81 : decode cX2_copyAll 81 = .ok (.invokevirtual 58, 3) := by decide +kernel
theorem dX2_copyAll_84 : decode cX2_copyAll 84 = .ok (.aload_n 0, 1) := by decide +kernel
theorem dX2_copyAll_85 : decode cX2_copyAll 85 = .ok (.aload_n 1, 1) := by decide +kernel
theorem dX2_copyAll_86 : decode cX2_copyAll 86 = .ok (.getfield 62, 3) := by decide +kernel
theorem dX2_copyAll_89 : decode cX2_copyAll 89 = .ok (.putfield 62, 3) := by decide +kernel
theorem dX2_copyAll_92 : decode cX2_copyAll 92 = .ok (.aload_n 0, 1) := by decide +kernel
theorem dX2_copyAll_93 : decode cX2_copyAll 93 = .ok (.aload_n 1, 1) := by decide +kernel
theorem dX2_copyAll_94 : decode cX2_copyAll 94 = .ok (.getfield 65, 3) := by decide +kernel
theorem dX2_copyAll_97 : decode cX2_copyAll 97 = .ok (.putfield 65, 3) := by decide +kernel
theorem dX2_copyAll_100 : decode cX2_copyAll 100 = .ok (.aload_n 0, 1) := by decide +kernel
theorem dX2_copyAll_101 : decode cX2_copyAll 101 = .ok (.getfield 36, 3) := by decide +kernel
theorem dX2_copyAll_104 : decode cX2_copyAll 104 = .ok (.aload_n 1, 1) := by decide +kernel
theorem dX2_copyAll_105 : decode cX2_copyAll 105 = .ok (.getfield 36, 3) := by decide +kernel
theorem dX2_copyAll_108 : decode cX2_copyAll 108 = .ok (.invokevirtual 58, 3) := by decide +kernel
theorem dX2_copyAll_111 : decode cX2_copyAll 111 = .ok (.aload_n 0, 1) := by decide +kernel
theorem dX2_copyAll_112 : decode cX2_copyAll 112 = .ok (.getfield 39, 3) := by decide +kernel
theorem dX2_copyAll_115 : decode cX2_copyAll 115 = .ok (.aload_n 1, 1) := by decide +kernel
theorem dX2_copyAll_116 : decode cX2_copyAll 116 = .ok (.getfield 39, 3) := by decide +kernel
theorem dX2_copyAll_119 : decode cX2_copyAll 119 = .ok (.invokevirtual 58, 3) := by decide +kernel
theorem dX2_copyAll_122 : decode cX2_copyAll 122 = .ok (.aload_n 0, 1) := by decide +kernel
theorem dX2_copyAll_123 : decode cX2_copyAll 123 = .ok (.getfield 42, 3) := by decide +kernel
theorem dX2_copyAll_126 : decode cX2_copyAll 126 = .ok (.aload_n 1, 1) := by decide +kernel
theorem dX2_copyAll_127 : decode cX2_copyAll 127 = .ok (.getfield 42, 3) := by decide +kernel
theorem dX2_copyAll_130 : decode cX2_copyAll 130 = .ok (.invokevirtual 58, 3) := by decide +kernel
theorem dX2_copyAll_133 : decode cX2_copyAll 133 = .ok (.aload_n 0, 1) := by decide +kernel
theorem dX2_copyAll_134 : decode cX2_copyAll 134 = .ok (.getfield 45, 3) := by decide +kernel
theorem dX2_copyAll_137 : decode cX2_copyAll 137 = .ok (.aload_n 1, 1) := by decide +kernel
theorem dX2_copyAll_138 : decode cX2_copyAll 138 = .ok (.getfield 45, 3) := by decide +kernel
theorem dX2_copyAll_141 : decode cX2_copyAll 141 = .ok (.invokevirtual 58, 3) := by decide +kernel
theorem dX2_copyAll_144 : decode cX2_copyAll 144 = .ok (.aload_n 0, 1) := by decide +kernel
theorem dX2_copyAll_145 : decode cX2_copyAll 145 = .ok (.getfield 48, 3) := by decide +kernel
theorem dX2_copyAll_148 : decode cX2_copyAll 148 = .ok (.aload_n 1, 1) := by decide +kernel
theorem dX2_copyAll_149 : decode cX2_copyAll 149 = .ok (.getfield 48, 3) := by decide +kernel
theorem dX2_copyAll_152 : decode cX2_copyAll 152 = .ok (.invokevirtual 58, 3) := by decide +kernel
theorem dX2_copyAll_155 : decode cX2_copyAll 155 = .ok (.return_, 1) := by decide +kernel
theorem dX2_wayCount_0 : decode cX2_wayCount 0 = .ok (.aload_n 0, 1) := by decide +kernel
theorem dX2_wayCount_1 : decode cX2_wayCount 1 = .ok (.getfield 51, 3) := by decide +kernel
theorem dX2_wayCount_4 : decode cX2_wayCount 4 = .ok (.ireturn, 1) := by decide +kernel
theorem dX2_wayOf_0 : decode cX2_wayOf 0 = .ok (.iload_n 1, 1) := by decide +kernel
theorem dX2_wayOf_1 : decode cX2_wayOf 1 = .ok (.ifCond .lt 29, 3) := by decide +kernel
theorem dX2_wayOf_4 : decode cX2_wayOf 4 = .ok (.iload_n 1, 1) := by decide +kernel
theorem dX2_wayOf_5 : decode cX2_wayOf 5 = .ok (.aload_n 0, 1) := by decide +kernel
theorem dX2_wayOf_6 : decode cX2_wayOf 6 = .ok (.getfield 51, 3) := by decide +kernel
theorem dX2_wayOf_9 : decode cX2_wayOf 9 = .ok (.if_icmp .ge 21, 3) := by decide +kernel
theorem dX2_wayOf_12 : decode cX2_wayOf 12 = .ok (.iload_n 1, 1) := by decide +kernel
theorem dX2_wayOf_13 : decode cX2_wayOf 13 = .ok (.aload_n 0, 1) := by decide +kernel
theorem dX2_wayOf_14 : decode cX2_wayOf 14 = .ok (.getfield 11, 3) := by decide +kernel
theorem dX2_wayOf_17 : decode cX2_wayOf 17 = .ok (.arraylength, 1) := by decide +kernel
theorem dX2_wayOf_18 : decode cX2_wayOf 18 = .ok (.if_icmp .ge 12, 3) := by decide +kernel
theorem dX2_wayOf_21 : decode cX2_wayOf 21 = .ok (.aload_n 0, 1) := by decide +kernel
theorem dX2_wayOf_22 : decode cX2_wayOf 22 = .ok (.getfield 11, 3) := by decide +kernel
theorem dX2_wayOf_25 : decode cX2_wayOf 25 = .ok (.iload_n 1, 1) := by decide +kernel
theorem dX2_wayOf_26 : decode cX2_wayOf 26 = .ok (.aaload, 1) := by decide +kernel
theorem dX2_wayOf_27 : decode cX2_wayOf 27 = .ok (.goto 4, 3) := by decide +kernel
theorem dX2_wayOf_30 : decode cX2_wayOf 30 = .ok (.aconst_null, 1) := by decide +kernel
theorem dX2_wayOf_31 : decode cX2_wayOf 31 = .ok (.areturn, 1) := by decide +kernel
theorem dX2_addWay_0 : decode cX2_addWay 0 = .ok (.aload_n 0, 1) := by decide +kernel
theorem dX2_addWay_1 : decode cX2_addWay 1 = .ok (.getfield 51, 3) := by decide +kernel
theorem dX2_addWay_4 : decode cX2_addWay 4 = .ok (.ifCond .lt 15, 3) := by decide +kernel
theorem dX2_addWay_7 : decode cX2_addWay 7 = .ok (.aload_n 0, 1) := by decide +kernel
theorem dX2_addWay_8 : decode cX2_addWay 8 = .ok (.getfield 51, 3) := by decide +kernel
theorem dX2_addWay_11 : decode cX2_addWay 11 = .ok (.aload_n 0, 1) := by decide +kernel
theorem dX2_addWay_12 : decode cX2_addWay 12 = .ok (.getfield 11, 3) := by decide +kernel
theorem dX2_addWay_15 : decode cX2_addWay 15 = .ok (.arraylength, 1) := by decide +kernel
theorem dX2_addWay_16 : decode cX2_addWay 16 = .ok (.if_icmp .lt 5, 3) := by decide +kernel
theorem dX2_addWay_19 : decode cX2_addWay 19 = .ok (.iconst 0, 1) := by decide +kernel
theorem dX2_addWay_20 : decode cX2_addWay 20 = .ok (.ireturn, 1) := by decide +kernel
theorem dX2_addWay_21 : decode cX2_addWay 21 = .ok (.aload_n 0, 1) := by decide +kernel
theorem dX2_addWay_22 : decode cX2_addWay 22 = .ok (.getfield 11, 3) := by decide +kernel
theorem dX2_addWay_25 : decode cX2_addWay 25 = .ok (.aload_n 0, 1) := by decide +kernel
theorem dX2_addWay_26 : decode cX2_addWay 26 = .ok (.getfield 51, 3) := by decide +kernel
theorem dX2_addWay_29 : decode cX2_addWay 29 = .ok (.aload_n 1, 1) := by decide +kernel
theorem dX2_addWay_30 : decode cX2_addWay 30 = .ok (.aastore, 1) := by decide +kernel
theorem dX2_addWay_31 : decode cX2_addWay 31 = .ok (.aload_n 0, 1) := by decide +kernel
theorem dX2_addWay_32 : decode cX2_addWay 32 = .ok (.dup, 1) := by decide +kernel
theorem dX2_addWay_33 : decode cX2_addWay 33 = .ok (.getfield 51, 3) := by decide +kernel
theorem dX2_addWay_36 : decode cX2_addWay 36 = .ok (.iconst 1, 1) := by decide +kernel
theorem dX2_addWay_37 : decode cX2_addWay 37 = .ok (.iadd, 1) := by decide +kernel
theorem dX2_addWay_38 : decode cX2_addWay 38 = .ok (.putfield 51, 3) := by decide +kernel
theorem dX2_addWay_41 : decode cX2_addWay 41 = .ok (.iconst 1, 1) := by decide +kernel
theorem dX2_addWay_42 : decode cX2_addWay 42 = .ok (.ireturn, 1) := by decide +kernel
theorem dX2_putWay_0 : decode cX2_putWay 0 = .ok (.iload_n 1, 1) := by decide +kernel
theorem dX2_putWay_1 : decode cX2_putWay 1 = .ok (.ifCond .lt 27, 3) := by decide +kernel
theorem dX2_putWay_4 : decode cX2_putWay 4 = .ok (.iload_n 1, 1) := by decide +kernel
theorem dX2_putWay_5 : decode cX2_putWay 5 = .ok (.aload_n 0, 1) := by decide +kernel
theorem dX2_putWay_6 : decode cX2_putWay 6 = .ok (.getfield 51, 3) := by decide +kernel
theorem dX2_putWay_9 : decode cX2_putWay 9 = .ok (.if_icmp .ge 19, 3) := by decide +kernel
theorem dX2_putWay_12 : decode cX2_putWay 12 = .ok (.iload_n 1, 1) := by decide +kernel
theorem dX2_putWay_13 : decode cX2_putWay 13 = .ok (.aload_n 0, 1) := by decide +kernel
theorem dX2_putWay_14 : decode cX2_putWay 14 = .ok (.getfield 11, 3) := by decide +kernel
theorem dX2_putWay_17 : decode cX2_putWay 17 = .ok (.arraylength, 1) := by decide +kernel
theorem dX2_putWay_18 : decode cX2_putWay 18 = .ok (.if_icmp .ge 10, 3) := by decide +kernel
theorem dX2_putWay_21 : decode cX2_putWay 21 = .ok (.aload_n 0, 1) := by decide +kernel
theorem dX2_putWay_22 : decode cX2_putWay 22 = .ok (.getfield 11, 3) := by decide +kernel
theorem dX2_putWay_25 : decode cX2_putWay 25 = .ok (.iload_n 1, 1) := by decide +kernel
theorem dX2_putWay_26 : decode cX2_putWay 26 = .ok (.aload_n 2, 1) := by decide +kernel
theorem dX2_putWay_27 : decode cX2_putWay 27 = .ok (.aastore, 1) := by decide +kernel
theorem dX2_putWay_28 : decode cX2_putWay 28 = .ok (.return_, 1) := by decide +kernel
theorem dX2_secondsOf_0 : decode cX2_secondsOf 0 = .ok (.aload_n 0, 1) := by decide +kernel
theorem dX2_secondsOf_1 : decode cX2_secondsOf 1 = .ok (.iload_n 1, 1) := by decide +kernel
theorem dX2_secondsOf_2 : decode cX2_secondsOf 2 = .ok (.invokevirtual 68, 3) := by decide +kernel
theorem dX2_secondsOf_5 : decode cX2_secondsOf 5 = .ok (.astore_n 3, 1) := by decide +kernel
theorem dX2_secondsOf_6 : decode cX2_secondsOf 6 = .ok (.aload_n 3, 1) := by decide +kernel
theorem dX2_secondsOf_7 : decode cX2_secondsOf 7 = .ok (.ifnull 8, 3) := by decide +kernel
theorem dX2_secondsOf_10 : decode cX2_secondsOf 10 = .ok (.iload_n 2, 1) := by decide +kernel
theorem dX2_secondsOf_11 : decode cX2_secondsOf 11 = .ok (.iconst 1, 1) := by decide +kernel
theorem dX2_secondsOf_12 : decode cX2_secondsOf 12 = .ok (.if_icmp .ge 7, 3) := by decide +kernel
theorem dX2_secondsOf_15 : decode cX2_secondsOf 15 = .ok (.iconst 0, 1) := by decide +kernel
theorem dX2_secondsOf_16 : decode cX2_secondsOf 16 = .ok (.goto 8, 3) := by decide +kernel
theorem dX2_secondsOf_19 : decode cX2_secondsOf 19 = .ok (.aload_n 3, 1) := by decide +kernel
theorem dX2_secondsOf_20 : decode cX2_secondsOf 20 = .ok (.iload_n 2, 1) := by decide +kernel
theorem dX2_secondsOf_21 : decode cX2_secondsOf 21 = .ok (.invokevirtual 72, 3) := by decide +kernel
theorem dX2_secondsOf_24 : decode cX2_secondsOf 24 = .ok (.ireturn, 1) := by decide +kernel
theorem dX2_penceOf_0 : decode cX2_penceOf 0 = .ok (.aload_n 0, 1) := by decide +kernel
theorem dX2_penceOf_1 : decode cX2_penceOf 1 = .ok (.iload_n 1, 1) := by decide +kernel
theorem dX2_penceOf_2 : decode cX2_penceOf 2 = .ok (.invokevirtual 68, 3) := by decide +kernel
theorem dX2_penceOf_5 : decode cX2_penceOf 5 = .ok (.astore_n 3, 1) := by decide +kernel
theorem dX2_penceOf_6 : decode cX2_penceOf 6 = .ok (.aload_n 3, 1) := by decide +kernel
theorem dX2_penceOf_7 : decode cX2_penceOf 7 = .ok (.ifnull 8, 3) := by decide +kernel
theorem dX2_penceOf_10 : decode cX2_penceOf 10 = .ok (.iload_n 2, 1) := by decide +kernel
theorem dX2_penceOf_11 : decode cX2_penceOf 11 = .ok (.iconst 1, 1) := by decide +kernel
theorem dX2_penceOf_12 : decode cX2_penceOf 12 = .ok (.if_icmp .ge 7, 3) := by decide +kernel
theorem dX2_penceOf_15 : decode cX2_penceOf 15 = .ok (.iconst 0, 1) := by decide +kernel
theorem dX2_penceOf_16 : decode cX2_penceOf 16 = .ok (.goto 8, 3) := by decide +kernel
theorem dX2_penceOf_19 : decode cX2_penceOf 19 = .ok (.aload_n 3, 1) := by decide +kernel
theorem dX2_penceOf_20 : decode cX2_penceOf 20 = .ok (.iload_n 2, 1) := by decide +kernel
theorem dX2_penceOf_21 : decode cX2_penceOf 21 = .ok (.invokevirtual 76, 3) := by decide +kernel
theorem dX2_penceOf_24 : decode cX2_penceOf 24 = .ok (.ireturn, 1) := by decide +kernel
theorem dX2_placeCount_0 : decode cX2_placeCount 0 = .ok (.aload_n 0, 1) := by decide +kernel
theorem dX2_placeCount_1 : decode cX2_placeCount 1 = .ok (.getfield 36, 3) := by decide +kernel
theorem dX2_placeCount_4 : decode cX2_placeCount 4 = .ok (.invokevirtual 79, 3) := by decide +kernel
theorem dX2_placeCount_7 : decode cX2_placeCount 7 = .ok (.ifCond .le 11, 3) := by decide +kernel
theorem dX2_placeCount_10 : decode cX2_placeCount 10 = .ok (.aload_n 0, 1) := by decide +kernel
theorem dX2_placeCount_11 : decode cX2_placeCount 11 = .ok (.getfield 36, 3) := by decide +kernel
theorem dX2_placeCount_14 : decode cX2_placeCount 14 = .ok (.invokevirtual 79, 3) := by decide +kernel
theorem dX2_placeCount_17 : decode cX2_placeCount 17 = .ok (.ireturn, 1) := by decide +kernel
theorem dX2_placeCount_18 : decode cX2_placeCount 18 = .ok (.aload_n 0, 1) := by decide +kernel
theorem dX2_placeCount_19 : decode cX2_placeCount 19 = .ok (.getfield 20, 3) := by decide +kernel
theorem dX2_placeCount_22 : decode cX2_placeCount 22 = .ok (.getfield 83, 3) := by decide +kernel
theorem dX2_placeCount_25 : decode cX2_placeCount 25 = .ok (.iconst 3, 1) := by decide +kernel
theorem dX2_placeCount_26 : decode cX2_placeCount 26 = .ok (.invokestatic 86, 3) := by decide +kernel
theorem dX2_placeCount_29 : decode cX2_placeCount 29 = .ok (.aload_n 0, 1) := by decide +kernel
theorem dX2_placeCount_30 : decode cX2_placeCount 30 = .ok (.getfield 20, 3) := by decide +kernel
theorem dX2_placeCount_33 : decode cX2_placeCount 33 = .ok (.getfield 92, 3) := by decide +kernel
theorem dX2_placeCount_36 : decode cX2_placeCount 36 = .ok (.invokestatic 86, 3) := by decide +kernel
theorem dX2_placeCount_39 : decode cX2_placeCount 39 = .ok (.ireturn, 1) := by decide +kernel
theorem dX2_placeAt_0 : decode cX2_placeAt 0 = .ok (.aload_n 0, 1) := by decide +kernel
theorem dX2_placeAt_1 : decode cX2_placeAt 1 = .ok (.getfield 36, 3) := by decide +kernel
theorem dX2_placeAt_4 : decode cX2_placeAt 4 = .ok (.invokevirtual 79, 3) := by decide +kernel
theorem dX2_placeAt_7 : decode cX2_placeAt 7 = .ok (.ifCond .le 12, 3) := by decide +kernel
theorem dX2_placeAt_10 : decode cX2_placeAt 10 = .ok (.aload_n 0, 1) := by decide +kernel
theorem dX2_placeAt_11 : decode cX2_placeAt 11 = .ok (.getfield 36, 3) := by decide +kernel
theorem dX2_placeAt_14 : decode cX2_placeAt 14 = .ok (.iload_n 1, 1) := by decide +kernel
theorem dX2_placeAt_15 : decode cX2_placeAt 15 = .ok (.invokevirtual 95, 3) := by decide +kernel
theorem dX2_placeAt_18 : decode cX2_placeAt 18 = .ok (.ireturn, 1) := by decide +kernel
theorem dX2_placeAt_19 : decode cX2_placeAt 19 = .ok (.iload_n 1, 1) := by decide +kernel
theorem dX2_placeAt_20 : decode cX2_placeAt 20 = .ok (.lookupswitch 40 #[(0, 28), (1, 30)], 28) := by decide +kernel
theorem dX2_placeAt_48 : decode cX2_placeAt 48 = .ok (.iconst 0, 1) := by decide +kernel
theorem dX2_placeAt_49 : decode cX2_placeAt 49 = .ok (.ireturn, 1) := by decide +kernel
theorem dX2_placeAt_50 : decode cX2_placeAt 50 = .ok (.aload_n 0, 1) := by decide +kernel
theorem dX2_placeAt_51 : decode cX2_placeAt 51 = .ok (.getfield 20, 3) := by decide +kernel
theorem dX2_placeAt_54 : decode cX2_placeAt 54 = .ok (.getfield 92, 3) := by decide +kernel
theorem dX2_placeAt_57 : decode cX2_placeAt 57 = .ok (.iconst 1, 1) := by decide +kernel
theorem dX2_placeAt_58 : decode cX2_placeAt 58 = .ok (.isub, 1) := by decide +kernel
theorem dX2_placeAt_59 : decode cX2_placeAt 59 = .ok (.ireturn, 1) := by decide +kernel
theorem dX2_placeAt_60 : decode cX2_placeAt 60 = .ok (.aload_n 0, 1) := by decide +kernel
theorem dX2_placeAt_61 : decode cX2_placeAt 61 = .ok (.getfield 20, 3) := by decide +kernel
theorem dX2_placeAt_64 : decode cX2_placeAt 64 = .ok (.getfield 92, 3) := by decide +kernel
theorem dX2_placeAt_67 : decode cX2_placeAt 67 = .ok (.iconst 2, 1) := by decide +kernel
theorem dX2_placeAt_68 : decode cX2_placeAt 68 = .ok (.idiv, 1) := by decide +kernel
theorem dX2_placeAt_69 : decode cX2_placeAt 69 = .ok (.ireturn, 1) := by decide +kernel
theorem dX2_signAt_0 : decode cX2_signAt 0 = .ok (.aload_n 0, 1) := by decide +kernel
theorem dX2_signAt_1 : decode cX2_signAt 1 = .ok (.iload_n 1, 1) := by decide +kernel
theorem dX2_signAt_2 : decode cX2_signAt 2 = .ok (.iconst (-1), 1) := by decide +kernel
theorem dX2_signAt_3 : decode cX2_signAt 3 = .ok (.iconst (-1), 1) := by decide +kernel
theorem dX2_signAt_4 : decode cX2_signAt 4 = .ok (.invokevirtual 98, 3) := by decide +kernel
theorem dX2_signAt_7 : decode cX2_signAt 7 = .ok (.ireturn, 1) := by decide +kernel
theorem dX2_signIf_0 : decode cX2_signIf 0 = .ok (.aload_n 0, 1) := by decide +kernel
theorem dX2_signIf_1 : decode cX2_signIf 1 = .ok (.aload_n 0, 1) := by decide +kernel
theorem dX2_signIf_2 : decode cX2_signIf 2 = .ok (.iload_n 1, 1) := by decide +kernel
theorem dX2_signIf_3 : decode cX2_signIf 3 = .ok (.iload_n 2, 1) := by decide +kernel
theorem dX2_signIf_4 : decode cX2_signIf 4 = .ok (.iload_n 3, 1) := by decide +kernel
theorem dX2_signIf_5 : decode cX2_signIf 5 = .ok (.invokevirtual 102, 3) := by decide +kernel
theorem dX2_signIf_8 : decode cX2_signIf 8 = .ok (.invokevirtual 68, 3) := by decide +kernel
theorem dX2_signIf_11 : decode cX2_signIf 11 = .ok (.astore 4, 2) := by decide +kernel
theorem dX2_signIf_13 : decode cX2_signIf 13 = .ok (.aload 4, 2) := by decide +kernel
theorem dX2_signIf_15 : decode cX2_signIf 15 = .ok (.ifnonnull 6, 3) := by decide +kernel
theorem dX2_signIf_18 : decode cX2_signIf 18 = .ok (.bipush 100, 2) := by decide +kernel
theorem dX2_signIf_20 : decode cX2_signIf 20 = .ok (.ireturn, 1) := by decide +kernel
theorem dX2_signIf_21 : decode cX2_signIf 21 = .ok (.iload_n 1, 1) := by decide +kernel
theorem dX2_signIf_22 : decode cX2_signIf 22 = .ok (.ifCond .le 24, 3) := by decide +kernel
theorem dX2_signIf_25 : decode cX2_signIf 25 = .ok (.aload_n 0, 1) := by decide +kernel
theorem dX2_signIf_26 : decode cX2_signIf 26 = .ok (.iload_n 1, 1) := by decide +kernel
theorem dX2_signIf_27 : decode cX2_signIf 27 = .ok (.iconst 1, 1) := by decide +kernel
theorem dX2_signIf_28 : decode cX2_signIf 28 = .ok (.isub, 1) := by decide +kernel
theorem dX2_signIf_29 : decode cX2_signIf 29 = .ok (.iload_n 2, 1) := by decide +kernel
theorem dX2_signIf_30 : decode cX2_signIf 30 = .ok (.iload_n 3, 1) := by decide +kernel
theorem dX2_signIf_31 : decode cX2_signIf 31 = .ok (.invokevirtual 102, 3) := by decide +kernel
theorem dX2_signIf_34 : decode cX2_signIf 34 = .ok (.aload 4, 2) := by decide +kernel
theorem dX2_signIf_36 : decode cX2_signIf 36 = .ok (.getfield 105, 3) := by decide +kernel
theorem dX2_signIf_39 : decode cX2_signIf 39 = .ok (.if_icmp .ne 7, 3) := by decide +kernel
theorem dX2_signIf_42 : decode cX2_signIf 42 = .ok (.iconst 1, 1) := by decide +kernel
theorem dX2_signIf_43 : decode cX2_signIf 43 = .ok (.goto 4, 3) := by decide +kernel
theorem dX2_signIf_46 : decode cX2_signIf 46 = .ok (.iconst 0, 1) := by decide +kernel
theorem dX2_signIf_47 : decode cX2_signIf 47 = .ok (.istore 5, 2) := by decide +kernel
theorem dX2_signIf_49 : decode cX2_signIf 49 = .ok (.aload_n 0, 1) := by decide +kernel
theorem dX2_signIf_50 : decode cX2_signIf 50 = .ok (.getfield 20, 3) := by decide +kernel
theorem dX2_signIf_53 : decode cX2_signIf 53 = .ok (.aload 4, 2) := by decide +kernel
theorem dX2_signIf_55 : decode cX2_signIf 55 = .ok (.iload_n 1, 1) := by decide +kernel
theorem dX2_signIf_56 : decode cX2_signIf 56 = .ok (.iload 5, 2) := by decide +kernel
theorem dX2_signIf_58 : decode cX2_signIf 58 = .ok (.ifCond .eq 7, 3) := by decide +kernel
theorem dX2_signIf_61 : decode cX2_signIf 61 = .ok (.iconst 1, 1) := by decide +kernel
theorem dX2_signIf_62 : decode cX2_signIf 62 = .ok (.goto 4, 3) := by decide +kernel
theorem dX2_signIf_65 : decode cX2_signIf 65 = .ok (.iconst 0, 1) := by decide +kernel
theorem dX2_signIf_66 : decode cX2_signIf 66 = .ok (.invokevirtual 108, 3) := by decide +kernel
theorem dX2_signIf_69 : decode cX2_signIf 69 = .ok (.ireturn, 1) := by decide +kernel
theorem dX2_numberIf_0 : decode cX2_numberIf 0 = .ok (.iload_n 1, 1) := by decide +kernel
theorem dX2_numberIf_1 : decode cX2_numberIf 1 = .ok (.iload_n 2, 1) := by decide +kernel
theorem dX2_numberIf_2 : decode cX2_numberIf 2 = .ok (.if_icmp .ne 7, 3) := by decide +kernel
theorem dX2_numberIf_5 : decode cX2_numberIf 5 = .ok (.iload_n 3, 1) := by decide +kernel
theorem dX2_numberIf_6 : decode cX2_numberIf 6 = .ok (.goto 11, 3) := by decide +kernel
theorem dX2_numberIf_9 : decode cX2_numberIf 9 = .ok (.aload_n 0, 1) := by decide +kernel
theorem dX2_numberIf_10 : decode cX2_numberIf 10 = .ok (.getfield 33, 3) := by decide +kernel
theorem dX2_numberIf_13 : decode cX2_numberIf 13 = .ok (.iload_n 1, 1) := by decide +kernel
theorem dX2_numberIf_14 : decode cX2_numberIf 14 = .ok (.invokevirtual 95, 3) := by decide +kernel
theorem dX2_numberIf_17 : decode cX2_numberIf 17 = .ok (.ireturn, 1) := by decide +kernel
theorem dX2_unseenNow_0 : decode cX2_unseenNow 0 = .ok (.aload_n 0, 1) := by decide +kernel
theorem dX2_unseenNow_1 : decode cX2_unseenNow 1 = .ok (.iconst (-1), 1) := by decide +kernel
theorem dX2_unseenNow_2 : decode cX2_unseenNow 2 = .ok (.iconst (-1), 1) := by decide +kernel
theorem dX2_unseenNow_3 : decode cX2_unseenNow 3 = .ok (.invokevirtual 112, 3) := by decide +kernel
theorem dX2_unseenNow_6 : decode cX2_unseenNow 6 = .ok (.lreturn, 1) := by decide +kernel
theorem dX2_unseenIf_0 : decode cX2_unseenIf 0 = .ok (.aload_n 0, 1) := by decide +kernel
theorem dX2_unseenIf_1 : decode cX2_unseenIf 1 = .ok (.getfield 20, 3) := by decide +kernel
theorem dX2_unseenIf_4 : decode cX2_unseenIf 4 = .ok (.getfield 116, 3) := by decide +kernel
theorem dX2_unseenIf_7 : decode cX2_unseenIf 7 = .ok (.ifCond .eq 21, 3) := by decide +kernel
theorem dX2_unseenIf_10 : decode cX2_unseenIf 10 = .ok (.aload_n 0, 1) := by decide +kernel
theorem dX2_unseenIf_11 : decode cX2_unseenIf 11 = .ok (.iload_n 1, 1) := by decide +kernel
theorem dX2_unseenIf_12 : decode cX2_unseenIf 12 = .ok (.iload_n 2, 1) := by decide +kernel
theorem dX2_unseenIf_13 : decode cX2_unseenIf 13 = .ok (.invokevirtual 119, 3) := by decide +kernel
theorem dX2_unseenIf_16 : decode cX2_unseenIf 16 = .ok (.aload_n 0, 1) := by decide +kernel
theorem dX2_unseenIf_17 : decode cX2_unseenIf 17 = .ok (.getfield 20, 3) := by decide +kernel
theorem dX2_unseenIf_20 : decode cX2_unseenIf 20 = .ok (.getfield 92, 3) := by decide +kernel
theorem dX2_unseenIf_23 : decode cX2_unseenIf 23 = .ok (.if_icmp .ge 5, 3) := by decide +kernel
theorem dX2_unseenIf_26 : decode cX2_unseenIf 26 = .ok (.lconst 0, 1) := by decide +kernel
theorem dX2_unseenIf_27 : decode cX2_unseenIf 27 = .ok (.lreturn, 1) := by decide +kernel
theorem dX2_unseenIf_28 : decode cX2_unseenIf 28 = .ok (.lconst 1, 1) := by decide +kernel
theorem dX2_unseenIf_29 : decode cX2_unseenIf 29 = .ok (.lstore_n 3, 1) := by decide +kernel
theorem dX2_unseenIf_30 : decode cX2_unseenIf 30 = .ok (.iconst 0, 1) := by decide +kernel
theorem dX2_unseenIf_31 : decode cX2_unseenIf 31 = .ok (.istore 5, 2) := by decide +kernel
theorem dX2_unseenIf_33 : decode cX2_unseenIf 33 = .ok (.iload 5, 2) := by decide +kernel
theorem dX2_unseenIf_35 : decode cX2_unseenIf 35 = .ok (.aload_n 0, 1) := by decide +kernel
theorem dX2_unseenIf_36 : decode cX2_unseenIf 36 = .ok (.invokevirtual 122, 3) := by decide +kernel
theorem dX2_unseenIf_39 : decode cX2_unseenIf 39 = .ok (.if_icmp .ge 28, 3) := by decide +kernel
theorem dX2_unseenIf_42 : decode cX2_unseenIf 42 = .ok (.lload_n 3, 1) := by decide +kernel
theorem dX2_unseenIf_43 : decode cX2_unseenIf 43 = .ok (.bipush 100, 2) := by decide +kernel
theorem dX2_unseenIf_45 : decode cX2_unseenIf 45 = .ok (.aload_n 0, 1) := by decide +kernel
theorem dX2_unseenIf_46 : decode cX2_unseenIf 46 = .ok (.aload_n 0, 1) := by decide +kernel
theorem dX2_unseenIf_47 : decode cX2_unseenIf 47 = .ok (.iload 5, 2) := by decide +kernel
theorem dX2_unseenIf_49 : decode cX2_unseenIf 49 = .ok (.invokevirtual 125, 3) := by decide +kernel
theorem dX2_unseenIf_52 : decode cX2_unseenIf 52 = .ok (.iload_n 1, 1) := by decide +kernel
theorem dX2_unseenIf_53 : decode cX2_unseenIf 53 = .ok (.iload_n 2, 1) := by decide +kernel
theorem dX2_unseenIf_54 : decode cX2_unseenIf 54 = .ok (.invokevirtual 98, 3) := by decide +kernel
theorem dX2_unseenIf_57 : decode cX2_unseenIf 57 = .ok (.isub, 1) := by decide +kernel
theorem dX2_unseenIf_58 : decode cX2_unseenIf 58 = .ok (.i2l, 1) := by decide +kernel
theorem dX2_unseenIf_59 : decode cX2_unseenIf 59 = .ok (.lmul, 1) := by decide +kernel
theorem dX2_unseenIf_60 : decode cX2_unseenIf 60 = .ok (.lstore_n 3, 1) := by decide +kernel
theorem dX2_unseenIf_61 : decode cX2_unseenIf 61 = .ok (.iinc 5 1, 3) := by decide +kernel
theorem dX2_unseenIf_64 : decode cX2_unseenIf 64 = .ok (.goto (-31), 3) := by decide +kernel
theorem dX2_unseenIf_67 : decode cX2_unseenIf 67 = .ok (.lload_n 3, 1) := by decide +kernel
theorem dX2_unseenIf_68 : decode cX2_unseenIf 68 = .ok (.lreturn, 1) := by decide +kernel
theorem dX2_writtenIf_0 : decode cX2_writtenIf 0 = .ok (.iconst 0, 1) := by decide +kernel
theorem dX2_writtenIf_1 : decode cX2_writtenIf 1 = .ok (.istore_n 3, 1) := by decide +kernel
theorem dX2_writtenIf_2 : decode cX2_writtenIf 2 = .ok (.iconst 0, 1) := by decide +kernel
theorem dX2_writtenIf_3 : decode cX2_writtenIf 3 = .ok (.istore 4, 2) := by decide +kernel
theorem dX2_writtenIf_5 : decode cX2_writtenIf 5 = .ok (.iload 4, 2) := by decide +kernel
theorem dX2_writtenIf_7 : decode cX2_writtenIf 7 = .ok (.aload_n 0, 1) := by decide +kernel
theorem dX2_writtenIf_8 : decode cX2_writtenIf 8 = .ok (.getfield 33, 3) := by decide +kernel
theorem dX2_writtenIf_11 : decode cX2_writtenIf 11 = .ok (.invokevirtual 79, 3) := by decide +kernel
theorem dX2_writtenIf_14 : decode cX2_writtenIf 14 = .ok (.if_icmp .ge 24, 3) := by decide +kernel
theorem dX2_writtenIf_17 : decode cX2_writtenIf 17 = .ok (.aload_n 0, 1) := by decide +kernel
theorem dX2_writtenIf_18 : decode cX2_writtenIf 18 = .ok (.iload 4, 2) := by decide +kernel
theorem dX2_writtenIf_20 : decode cX2_writtenIf 20 = .ok (.iload_n 1, 1) := by decide +kernel
theorem dX2_writtenIf_21 : decode cX2_writtenIf 21 = .ok (.iload_n 2, 1) := by decide +kernel
theorem dX2_writtenIf_22 : decode cX2_writtenIf 22 = .ok (.invokevirtual 102, 3) := by decide +kernel
theorem dX2_writtenIf_25 : decode cX2_writtenIf 25 = .ok (.iconst (-1), 1) := by decide +kernel
theorem dX2_writtenIf_26 : decode cX2_writtenIf 26 = .ok (.if_icmp .eq 6, 3) := by decide +kernel
theorem dX2_writtenIf_29 : decode cX2_writtenIf 29 = .ok (.iinc 3 1, 3) := by decide +kernel
theorem dX2_writtenIf_32 : decode cX2_writtenIf 32 = .ok (.iinc 4 1, 3) := by decide +kernel
theorem dX2_writtenIf_35 : decode cX2_writtenIf 35 = .ok (.goto (-30), 3) := by decide +kernel
theorem dX2_writtenIf_38 : decode cX2_writtenIf 38 = .ok (.iload_n 3, 1) := by decide +kernel
theorem dX2_writtenIf_39 : decode cX2_writtenIf 39 = .ok (.ireturn, 1) := by decide +kernel
theorem dX3_init_0 : decode cX3_init 0 = .ok (.aload_n 0, 1) := by decide +kernel
theorem dX3_init_1 : decode cX3_init 1 = .ok (.iload_n 1, 1) := by decide +kernel
theorem dX3_init_2 : decode cX3_init 2 = .ok (.iload_n 2, 1) := by decide +kernel
theorem dX3_init_3 : decode cX3_init 3 = .ok (.iload_n 3, 1) := by decide +kernel
theorem dX3_init_4 : decode cX3_init 4 = .ok (.iload 4, 2) := by decide +kernel
theorem dX3_init_6 : decode cX3_init 6 = .ok (.invokespecial 1, 3) := by decide +kernel
theorem dX3_init_9 : decode cX3_init 9 = .ok (.return_, 1) := by decide +kernel
theorem dX3_seconds_0 : decode cX3_seconds 0 = .ok (.iconst 0, 1) := by decide +kernel
theorem dX3_seconds_1 : decode cX3_seconds 1 = .ok (.ireturn, 1) := by decide +kernel
theorem dX3_pence_0 : decode cX3_pence 0 = .ok (.iload_n 1, 1) := by decide +kernel
theorem dX3_pence_1 : decode cX3_pence 1 = .ok (.aload_n 0, 1) := by decide +kernel
theorem dX3_pence_2 : decode cX3_pence 2 = .ok (.getfield 7, 3) := by decide +kernel
theorem dX3_pence_5 : decode cX3_pence 5 = .ok (.imul, 1) := by decide +kernel
theorem dX3_pence_6 : decode cX3_pence 6 = .ok (.ireturn, 1) := by decide +kernel
theorem dX3_tells_0 : decode cX3_tells 0 = .ok (.aload_n 2, 1) := by decide +kernel
theorem dX3_tells_1 : decode cX3_tells 1 = .ok (.bipush 31, 2) := by decide +kernel
theorem dX3_tells_3 : decode cX3_tells 3 = .ok (.invokevirtual 13, 3) := by decide +kernel
theorem dX3_tells_6 : decode cX3_tells 6 = .ok (.aload_n 0, 1) := by decide +kernel
theorem dX3_tells_7 : decode cX3_tells 7 = .ok (.iload_n 1, 1) := by decide +kernel
theorem dX3_tells_8 : decode cX3_tells 8 = .ok (.aload_n 2, 1) := by decide +kernel
theorem dX3_tells_9 : decode cX3_tells 9 = .ok (.invokespecial 19, 3) := by decide +kernel
theorem dX3_tells_12 : decode cX3_tells 12 = .ok (.bipush 7, 2) := by decide +kernel
theorem dX3_tells_14 : decode cX3_tells 14 = .ok (.ixor, 1) := by decide +kernel
theorem dX3_tells_15 : decode cX3_tells 15 = .ok (.ireturn, 1) := by decide +kernel
theorem dX4_init_0 : decode cX4_init 0 = .ok (.aload_n 0, 1) := by decide +kernel
theorem dX4_init_1 : decode cX4_init 1 = .ok (.invokespecial 1, 3) := by decide +kernel
theorem dX4_init_4 : decode cX4_init 4 = .ok (.aload_n 0, 1) := by decide +kernel
theorem dX4_init_5 : decode cX4_init 5 = .ok (.iload_n 1, 1) := by decide +kernel
theorem dX4_init_6 : decode cX4_init 6 = .ok (.putfield 7, 3) := by decide +kernel
theorem dX4_init_9 : decode cX4_init 9 = .ok (.aload_n 0, 1) := by decide +kernel
theorem dX4_init_10 : decode cX4_init 10 = .ok (.iload_n 2, 1) := by decide +kernel
theorem dX4_init_11 : decode cX4_init 11 = .ok (.putfield 13, 3) := by decide +kernel
theorem dX4_init_14 : decode cX4_init 14 = .ok (.aload_n 0, 1) := by decide +kernel
theorem dX4_init_15 : decode cX4_init 15 = .ok (.iload_n 3, 1) := by decide +kernel
theorem dX4_init_16 : decode cX4_init 16 = .ok (.putfield 16, 3) := by decide +kernel
theorem dX4_init_19 : decode cX4_init 19 = .ok (.aload_n 0, 1) := by decide +kernel
theorem dX4_init_20 : decode cX4_init 20 = .ok (.iload 4, 2) := by decide +kernel
theorem dX4_init_22 : decode cX4_init 22 = .ok (.putfield 19, 3) := by decide +kernel
theorem dX4_init_25 : decode cX4_init 25 = .ok (.return_, 1) := by decide +kernel
theorem dX4_seconds_0 : decode cX4_seconds 0 = .ok (.iload_n 1, 1) := by decide +kernel
theorem dX4_seconds_1 : decode cX4_seconds 1 = .ok (.bipush 10, 2) := by decide +kernel
theorem dX4_seconds_3 : decode cX4_seconds 3 = .ok (.idiv, 1) := by decide +kernel
theorem dX4_seconds_4 : decode cX4_seconds 4 = .ok (.istore_n 2, 1) := by decide +kernel
theorem dX4_seconds_5 : decode cX4_seconds 5 = .ok (.bipush 10, 2) := by decide +kernel
theorem dX4_seconds_7 : decode cX4_seconds 7 = .ok (.iload_n 2, 1) := by decide +kernel
theorem dX4_seconds_8 : decode cX4_seconds 8 = .ok (.iload_n 2, 1) := by decide +kernel
theorem dX4_seconds_9 : decode cX4_seconds 9 = .ok (.iconst 1, 1) := by decide +kernel
theorem dX4_seconds_10 : decode cX4_seconds 10 = .ok (.isub, 1) := by decide +kernel
theorem dX4_seconds_11 : decode cX4_seconds 11 = .ok (.imul, 1) := by decide +kernel
theorem dX4_seconds_12 : decode cX4_seconds 12 = .ok (.iconst 2, 1) := by decide +kernel
theorem dX4_seconds_13 : decode cX4_seconds 13 = .ok (.idiv, 1) := by decide +kernel
theorem dX4_seconds_14 : decode cX4_seconds 14 = .ok (.imul, 1) := by decide +kernel
theorem dX4_seconds_15 : decode cX4_seconds 15 = .ok (.iload_n 1, 1) := by decide +kernel
theorem dX4_seconds_16 : decode cX4_seconds 16 = .ok (.bipush 10, 2) := by decide +kernel
theorem dX4_seconds_18 : decode cX4_seconds 18 = .ok (.irem, 1) := by decide +kernel
theorem dX4_seconds_19 : decode cX4_seconds 19 = .ok (.iload_n 2, 1) := by decide +kernel
theorem dX4_seconds_20 : decode cX4_seconds 20 = .ok (.imul, 1) := by decide +kernel
theorem dX4_seconds_21 : decode cX4_seconds 21 = .ok (.iadd, 1) := by decide +kernel
theorem dX4_seconds_22 : decode cX4_seconds 22 = .ok (.istore_n 3, 1) := by decide +kernel
theorem dX4_seconds_23 : decode cX4_seconds 23 = .ok (.iload_n 1, 1) := by decide +kernel
theorem dX4_seconds_24 : decode cX4_seconds 24 = .ok (.aload_n 0, 1) := by decide +kernel
theorem dX4_seconds_25 : decode cX4_seconds 25 = .ok (.getfield 19, 3) := by decide +kernel
theorem dX4_seconds_28 : decode cX4_seconds 28 = .ok (.imul, 1) := by decide +kernel
theorem dX4_seconds_29 : decode cX4_seconds 29 = .ok (.iload_n 3, 1) := by decide +kernel
theorem dX4_seconds_30 : decode cX4_seconds 30 = .ok (.aload_n 0, 1) := by decide +kernel
theorem dX4_seconds_31 : decode cX4_seconds 31 = .ok (.getfield 16, 3) := by decide +kernel
theorem dX4_seconds_34 : decode cX4_seconds 34 = .ok (.imul, 1) := by decide +kernel
theorem dX4_seconds_35 : decode cX4_seconds 35 = .ok (.iadd, 1) := by decide +kernel
theorem dX4_seconds_36 : decode cX4_seconds 36 = .ok (.ireturn, 1) := by decide +kernel
theorem dX4_pence_0 : decode cX4_pence 0 = .ok (.iconst 0, 1) := by decide +kernel
theorem dX4_pence_1 : decode cX4_pence 1 = .ok (.ireturn, 1) := by decide +kernel
theorem dX4_writes_0 : decode cX4_writes 0 = .ok (.aload_n 2, 1) := by decide +kernel
theorem dX4_writes_1 : decode cX4_writes 1 = .ok (.iconst 1, 1) := by decide +kernel
theorem dX4_writes_2 : decode cX4_writes 2 = .ok (.invokevirtual 22, 3) := by decide +kernel
theorem dX4_writes_5 : decode cX4_writes 5 = .ok (.iload_n 1, 1) := by decide +kernel
theorem dX4_writes_6 : decode cX4_writes 6 = .ok (.aload_n 0, 1) := by decide +kernel
theorem dX4_writes_7 : decode cX4_writes 7 = .ok (.getfield 13, 3) := by decide +kernel
theorem dX4_writes_10 : decode cX4_writes 10 = .ok (.iadd, 1) := by decide +kernel
theorem dX4_writes_11 : decode cX4_writes 11 = .ok (.ireturn, 1) := by decide +kernel
theorem dX4_shows_0 : decode cX4_shows 0 = .ok (.aload_n 2, 1) := by decide +kernel
theorem dX4_shows_1 : decode cX4_shows 1 = .ok (.iconst 2, 1) := by decide +kernel
theorem dX4_shows_2 : decode cX4_shows 2 = .ok (.invokevirtual 22, 3) := by decide +kernel
theorem dX4_shows_5 : decode cX4_shows 5 = .ok (.aload_n 0, 1) := by decide +kernel
theorem dX4_shows_6 : decode cX4_shows 6 = .ok (.iload_n 1, 1) := by decide +kernel
theorem dX4_shows_7 : decode cX4_shows 7 = .ok (.aload_n 2, 1) := by decide +kernel
theorem dX4_shows_8 : decode cX4_shows 8 = .ok (.invokevirtual 28, 3) := by decide +kernel
theorem dX4_shows_11 : decode cX4_shows 11 = .ok (.aload_n 0, 1) := by decide +kernel
theorem dX4_shows_12 : decode cX4_shows 12 = .ok (.getfield 16, 3) := by decide +kernel
theorem dX4_shows_15 : decode cX4_shows 15 = .ok (.isub, 1) := by decide +kernel
theorem dX4_shows_16 : decode cX4_shows 16 = .ok (.ireturn, 1) := by decide +kernel
theorem dX4_tells_0 : decode cX4_tells 0 = .ok (.aload_n 2, 1) := by decide +kernel
theorem dX4_tells_1 : decode cX4_tells 1 = .ok (.iconst 3, 1) := by decide +kernel
theorem dX4_tells_2 : decode cX4_tells 2 = .ok (.invokevirtual 22, 3) := by decide +kernel
theorem dX4_tells_5 : decode cX4_tells 5 = .ok (.aload_n 0, 1) := by decide +kernel
theorem dX4_tells_6 : decode cX4_tells 6 = .ok (.iload_n 1, 1) := by decide +kernel
theorem dX4_tells_7 : decode cX4_tells 7 = .ok (.aload_n 2, 1) := by decide +kernel
theorem dX4_tells_8 : decode cX4_tells 8 = .ok (.invokevirtual 32, 3) := by decide +kernel
theorem dX4_tells_11 : decode cX4_tells 11 = .ok (.iconst 2, 1) := by decide +kernel
theorem dX4_tells_12 : decode cX4_tells 12 = .ok (.imul, 1) := by decide +kernel
theorem dX4_tells_13 : decode cX4_tells 13 = .ok (.ireturn, 1) := by decide +kernel
theorem dX5_init_0 : decode cX5_init 0 = .ok (.aload_n 0, 1) := by decide +kernel
theorem dX5_init_1 : decode cX5_init 1 = .ok (.invokespecial 1, 3) := by decide +kernel
theorem dX5_init_4 : decode cX5_init 4 = .ok (.aload_n 0, 1) := by decide +kernel
theorem dX5_init_5 : decode cX5_init 5 = .ok (.iconst 0, 1) := by decide +kernel
theorem dX5_init_6 : decode cX5_init 6 = .ok (.iload_n 1, 1) := by decide +kernel
theorem dX5_init_7 : decode cX5_init 7 = .ok (.invokestatic 7, 3) := by decide +kernel
theorem dX5_init_10 : decode cX5_init 10 = .ok (.newarray .int, 2) := by decide +kernel
theorem dX5_init_12 : decode cX5_init 12 = .ok (.putfield 13, 3) := by decide +kernel
theorem dX5_init_15 : decode cX5_init 15 = .ok (.return_, 1) := by decide +kernel
theorem dX5_size_0 : decode cX5_size 0 = .ok (.aload_n 0, 1) := by decide +kernel
theorem dX5_size_1 : decode cX5_size 1 = .ok (.getfield 19, 3) := by decide +kernel
theorem dX5_size_4 : decode cX5_size 4 = .ok (.ireturn, 1) := by decide +kernel
theorem dX5_hasPlace_0 : decode cX5_hasPlace 0 = .ok (.iload_n 1, 1) := by decide +kernel
theorem dX5_hasPlace_1 : decode cX5_hasPlace 1 = .ok (.ifCond .lt 15, 3) := by decide +kernel
theorem dX5_hasPlace_4 : decode cX5_hasPlace 4 = .ok (.iload_n 1, 1) := by decide +kernel
theorem dX5_hasPlace_5 : decode cX5_hasPlace 5 = .ok (.aload_n 0, 1) := by decide +kernel
theorem dX5_hasPlace_6 : decode cX5_hasPlace 6 = .ok (.getfield 19, 3) := by decide +kernel
theorem dX5_hasPlace_9 : decode cX5_hasPlace 9 = .ok (.if_icmp .ge 7, 3) := by decide +kernel
theorem dX5_hasPlace_12 : decode cX5_hasPlace 12 = .ok (.iconst 1, 1) := by decide +kernel
theorem dX5_hasPlace_13 : decode cX5_hasPlace 13 = .ok (.goto 4, 3) := by decide +kernel
theorem dX5_hasPlace_16 : decode cX5_hasPlace 16 = .ok (.iconst 0, 1) := by decide +kernel
theorem dX5_hasPlace_17 : decode cX5_hasPlace 17 = .ok (.ireturn, 1) := by decide +kernel
theorem dX5_get_0 : decode cX5_get 0 = .ok (.iload_n 1, 1) := by decide +kernel
theorem dX5_get_1 : decode cX5_get 1 = .ok (.ifCond .lt 29, 3) := by decide +kernel
theorem dX5_get_4 : decode cX5_get 4 = .ok (.iload_n 1, 1) := by decide +kernel
theorem dX5_get_5 : decode cX5_get 5 = .ok (.aload_n 0, 1) := by decide +kernel
theorem dX5_get_6 : decode cX5_get 6 = .ok (.getfield 19, 3) := by decide +kernel
theorem dX5_get_9 : decode cX5_get 9 = .ok (.if_icmp .ge 21, 3) := by decide +kernel
theorem dX5_get_12 : decode cX5_get 12 = .ok (.iload_n 1, 1) := by decide +kernel
theorem dX5_get_13 : decode cX5_get 13 = .ok (.aload_n 0, 1) := by decide +kernel
theorem dX5_get_14 : decode cX5_get 14 = .ok (.getfield 13, 3) := by decide +kernel
theorem dX5_get_17 : decode cX5_get 17 = .ok (.arraylength, 1) := by decide +kernel
theorem dX5_get_18 : decode cX5_get 18 = .ok (.if_icmp .ge 12, 3) := by decide +kernel
theorem dX5_get_21 : decode cX5_get 21 = .ok (.aload_n 0, 1) := by decide +kernel
theorem dX5_get_22 : decode cX5_get 22 = .ok (.getfield 13, 3) := by decide +kernel
theorem dX5_get_25 : decode cX5_get 25 = .ok (.iload_n 1, 1) := by decide +kernel
theorem dX5_get_26 : decode cX5_get 26 = .ok (.iaload, 1) := by decide +kernel
theorem dX5_get_27 : decode cX5_get 27 = .ok (.goto 4, 3) := by decide +kernel
theorem dX5_get_30 : decode cX5_get 30 = .ok (.iconst (-1), 1) := by decide +kernel
theorem dX5_get_31 : decode cX5_get 31 = .ok (.ireturn, 1) := by decide +kernel
theorem dX5_add_0 : decode cX5_add 0 = .ok (.aload_n 0, 1) := by decide +kernel
theorem dX5_add_1 : decode cX5_add 1 = .ok (.getfield 19, 3) := by decide +kernel
theorem dX5_add_4 : decode cX5_add 4 = .ok (.ifCond .lt 15, 3) := by decide +kernel
theorem dX5_add_7 : decode cX5_add 7 = .ok (.aload_n 0, 1) := by decide +kernel
theorem dX5_add_8 : decode cX5_add 8 = .ok (.getfield 19, 3) := by decide +kernel
theorem dX5_add_11 : decode cX5_add 11 = .ok (.aload_n 0, 1) := by decide +kernel
theorem dX5_add_12 : decode cX5_add 12 = .ok (.getfield 13, 3) := by decide +kernel
theorem dX5_add_15 : decode cX5_add 15 = .ok (.arraylength, 1) := by decide +kernel
theorem dX5_add_16 : decode cX5_add 16 = .ok (.if_icmp .lt 5, 3) := by decide +kernel
theorem dX5_add_19 : decode cX5_add 19 = .ok (.iconst 0, 1) := by decide +kernel
theorem dX5_add_20 : decode cX5_add 20 = .ok (.ireturn, 1) := by decide +kernel
theorem dX5_add_21 : decode cX5_add 21 = .ok (.aload_n 0, 1) := by decide +kernel
theorem dX5_add_22 : decode cX5_add 22 = .ok (.getfield 13, 3) := by decide +kernel
theorem dX5_add_25 : decode cX5_add 25 = .ok (.aload_n 0, 1) := by decide +kernel
theorem dX5_add_26 : decode cX5_add 26 = .ok (.getfield 19, 3) := by decide +kernel
theorem dX5_add_29 : decode cX5_add 29 = .ok (.iload_n 1, 1) := by decide +kernel
theorem dX5_add_30 : decode cX5_add 30 = .ok (.iastore, 1) := by decide +kernel
theorem dX5_add_31 : decode cX5_add 31 = .ok (.aload_n 0, 1) := by decide +kernel
theorem dX5_add_32 : decode cX5_add 32 = .ok (.dup, 1) := by decide +kernel
theorem dX5_add_33 : decode cX5_add 33 = .ok (.getfield 19, 3) := by decide +kernel
theorem dX5_add_36 : decode cX5_add 36 = .ok (.iconst 1, 1) := by decide +kernel
theorem dX5_add_37 : decode cX5_add 37 = .ok (.iadd, 1) := by decide +kernel
theorem dX5_add_38 : decode cX5_add 38 = .ok (.putfield 19, 3) := by decide +kernel
theorem dX5_add_41 : decode cX5_add 41 = .ok (.iconst 1, 1) := by decide +kernel
theorem dX5_add_42 : decode cX5_add 42 = .ok (.ireturn, 1) := by decide +kernel
theorem dX5_clear_0 : decode cX5_clear 0 = .ok (.aload_n 0, 1) := by decide +kernel
theorem dX5_clear_1 : decode cX5_clear 1 = .ok (.iconst 0, 1) := by decide +kernel
theorem dX5_clear_2 : decode cX5_clear 2 = .ok (.putfield 19, 3) := by decide +kernel
theorem dX5_clear_5 : decode cX5_clear 5 = .ok (.return_, 1) := by decide +kernel
theorem dX5_timesOf_0 : decode cX5_timesOf 0 = .ok (.iconst 0, 1) := by decide +kernel
theorem dX5_timesOf_1 : decode cX5_timesOf 1 = .ok (.istore_n 2, 1) := by decide +kernel
theorem dX5_timesOf_2 : decode cX5_timesOf 2 = .ok (.iconst 0, 1) := by decide +kernel
theorem dX5_timesOf_3 : decode cX5_timesOf 3 = .ok (.istore_n 3, 1) := by decide +kernel
theorem dX5_timesOf_4 : decode cX5_timesOf 4 = .ok (.iload_n 3, 1) := by decide +kernel
theorem dX5_timesOf_5 : decode cX5_timesOf 5 = .ok (.aload_n 0, 1) := by decide +kernel
theorem dX5_timesOf_6 : decode cX5_timesOf 6 = .ok (.getfield 19, 3) := by decide +kernel
theorem dX5_timesOf_9 : decode cX5_timesOf 9 = .ok (.if_icmp .ge 21, 3) := by decide +kernel
theorem dX5_timesOf_12 : decode cX5_timesOf 12 = .ok (.aload_n 0, 1) := by decide +kernel
theorem dX5_timesOf_13 : decode cX5_timesOf 13 = .ok (.iload_n 3, 1) := by decide +kernel
theorem dX5_timesOf_14 : decode cX5_timesOf 14 = .ok (.invokevirtual 23, 3) := by decide +kernel
theorem dX5_timesOf_17 : decode cX5_timesOf 17 = .ok (.iload_n 1, 1) := by decide +kernel
theorem dX5_timesOf_18 : decode cX5_timesOf 18 = .ok (.if_icmp .ne 6, 3) := by decide +kernel
theorem dX5_timesOf_21 : decode cX5_timesOf 21 = .ok (.iinc 2 1, 3) := by decide +kernel
theorem dX5_timesOf_24 : decode cX5_timesOf 24 = .ok (.iinc 3 1, 3) := by decide +kernel
theorem dX5_timesOf_27 : decode cX5_timesOf 27 = .ok (.goto (-23), 3) := by decide +kernel
theorem dX5_timesOf_30 : decode cX5_timesOf 30 = .ok (.iload_n 2, 1) := by decide +kernel
theorem dX5_timesOf_31 : decode cX5_timesOf 31 = .ok (.ireturn, 1) := by decide +kernel
theorem dX5_copy_0 : decode cX5_copy 0 = .ok (.aload_n 0, 1) := by decide +kernel
theorem dX5_copy_1 : decode cX5_copy 1 = .ok (.invokevirtual 27, 3) := by decide +kernel
theorem dX5_copy_4 : decode cX5_copy 4 = .ok (.iconst 0, 1) := by decide +kernel
theorem dX5_copy_5 : decode cX5_copy 5 = .ok (.istore_n 2, 1) := by decide +kernel
theorem dX5_copy_6 : decode cX5_copy 6 = .ok (.iload_n 2, 1) := by decide +kernel
theorem dX5_copy_7 : decode cX5_copy 7 = .ok (.aload_n 1, 1) := by decide +kernel
theorem dX5_copy_8 : decode cX5_copy 8 = .ok (.getfield 19, 3) := by decide +kernel
theorem dX5_copy_11 : decode cX5_copy 11 = .ok (.if_icmp .ge 19, 3) := by decide +kernel
theorem dX5_copy_14 : decode cX5_copy 14 = .ok (.aload_n 0, 1) := by decide +kernel
theorem dX5_copy_15 : decode cX5_copy 15 = .ok (.aload_n 1, 1) := by decide +kernel
theorem dX5_copy_16 : decode cX5_copy 16 = .ok (.iload_n 2, 1) := by decide +kernel
theorem dX5_copy_17 : decode cX5_copy 17 = .ok (.invokevirtual 23, 3) := by decide +kernel
theorem dX5_copy_20 : decode cX5_copy 20 = .ok (.invokevirtual 30, 3) := by decide +kernel
theorem dX5_copy_23 : decode cX5_copy 23 = .ok (.pop, 1) := by decide +kernel
theorem dX5_copy_24 : decode cX5_copy 24 = .ok (.iinc 2 1, 3) := by decide +kernel
theorem dX5_copy_27 : decode cX5_copy 27 = .ok (.goto (-21), 3) := by decide +kernel
theorem dX5_copy_30 : decode cX5_copy 30 = .ok (.return_, 1) := by decide +kernel
theorem dX6_init_0 : decode cX6_init 0 = .ok (.aload_n 0, 1) := by decide +kernel
theorem dX6_init_1 : decode cX6_init 1 = .ok (.invokespecial 3, 3) := by decide +kernel
theorem dX6_init_4 : decode cX6_init 4 = .ok (.aload_n 0, 1) := by decide +kernel
theorem dX6_init_5 : decode cX6_init 5 = .ok (.bipush 20, 2) := by decide +kernel
theorem dX6_init_7 : decode cX6_init 7 = .ok (.putfield 9, 3) := by decide +kernel
theorem dX6_init_10 : decode cX6_init 10 = .ok (.aload_n 0, 1) := by decide +kernel
theorem dX6_init_11 : decode cX6_init 11 = .ok (.iconst 3, 1) := by decide +kernel
theorem dX6_init_12 : decode cX6_init 12 = .ok (.putfield 15, 3) := by decide +kernel
theorem dX6_init_15 : decode cX6_init 15 = .ok (.aload_n 0, 1) := by decide +kernel
theorem dX6_init_16 : decode cX6_init 16 = .ok (.bipush 100, 2) := by decide +kernel
theorem dX6_init_18 : decode cX6_init 18 = .ok (.newarray .int, 2) := by decide +kernel
theorem dX6_init_20 : decode cX6_init 20 = .ok (.putfield 18, 3) := by decide +kernel
theorem dX6_init_23 : decode cX6_init 23 = .ok (.return_, 1) := by decide +kernel
theorem dX6_read_0 : decode cX6_read 0 = .ok (.iconst 0, 1) := by decide +kernel
theorem dX6_read_1 : decode cX6_read 1 = .ok (.istore_n 2, 1) := by decide +kernel
theorem dX6_read_2 : decode cX6_read 2 = .ok (.iconst 1, 1) := by decide +kernel
theorem dX6_read_3 : decode cX6_read 3 = .ok (.istore_n 3, 1) := by decide +kernel
theorem dX6_read_4 : decode cX6_read 4 = .ok (.iload_n 2, 1) := by decide +kernel
theorem dX6_read_5 : decode cX6_read 5 = .ok (.ifCond .lt 53, 3) := by decide +kernel
theorem dX6_read_8 : decode cX6_read 8 = .ok (.iload_n 3, 1) := by decide +kernel
theorem dX6_read_9 : decode cX6_read 9 = .ok (.bipush 10, 2) := by decide +kernel
theorem dX6_read_11 : decode cX6_read 11 = .ok (.if_icmp .gt 47, 3) := by decide +kernel
theorem dX6_read_14 : decode cX6_read 14 = .ok (.aload_n 0, 1) := by decide +kernel
theorem dX6_read_15 : decode cX6_read 15 = .ok (.aload_n 1, 1) := by decide +kernel
theorem dX6_read_16 : decode cX6_read 16 = .ok (.iload_n 2, 1) := by decide +kernel
theorem dX6_read_17 : decode cX6_read 17 = .ok (.invokevirtual 22, 3) := by decide +kernel
theorem dX6_read_20 : decode cX6_read 20 = .ok (.istore_n 2, 1) := by decide +kernel
theorem dX6_read_21 : decode cX6_read 21 = .ok (.iload_n 2, 1) := by decide +kernel
theorem dX6_read_22 : decode cX6_read 22 = .ok (.aload_n 1, 1) := by decide +kernel
theorem dX6_read_23 : decode cX6_read 23 = .ok (.invokevirtual 26, 3) := by decide +kernel
theorem dX6_read_26 : decode cX6_read 26 = .ok (.if_icmp .ne 5, 3) := by decide +kernel
theorem dX6_read_29 : decode cX6_read 29 = .ok (.iconst (-1), 1) := by decide +kernel
theorem dX6_read_30 : decode cX6_read 30 = .ok (.ireturn, 1) := by decide +kernel
theorem dX6_read_31 : decode cX6_read 31 = .ok (.iload_n 3, 1) := by decide +kernel
theorem dX6_read_32 : decode cX6_read 32 = .ok (.bipush 10, 2) := by decide +kernel
theorem dX6_read_34 : decode cX6_read 34 = .ok (.if_icmp .ne 10, 3) := by decide +kernel
theorem dX6_read_37 : decode cX6_read 37 = .ok (.iload_n 2, 1) := by decide +kernel
theorem dX6_read_38 : decode cX6_read 38 = .ok (.invokestatic 32, 3) := by decide +kernel
theorem dX6_read_41 : decode cX6_read 41 = .ok (.goto 10, 3) := by decide +kernel
theorem dX6_read_44 : decode cX6_read 44 = .ok (.aload_n 1, 1) := by decide +kernel
theorem dX6_read_45 : decode cX6_read 45 = .ok (.iload_n 2, 1) := by decide +kernel
theorem dX6_read_46 : decode cX6_read 46 = .ok (.bipush 59, 2) := by decide +kernel
theorem dX6_read_48 : decode cX6_read 48 = .ok (.invokestatic 36, 3) := by decide +kernel
theorem dX6_read_51 : decode cX6_read 51 = .ok (.istore_n 2, 1) := by decide +kernel
theorem dX6_read_52 : decode cX6_read 52 = .ok (.iinc 3 1, 3) := by decide +kernel
theorem dX6_read_55 : decode cX6_read 55 = .ok (.goto (-51), 3) := by decide +kernel
theorem dX6_read_58 : decode cX6_read 58 = .ok (.iconst (-1), 1) := by decide +kernel
theorem dX6_read_59 : decode cX6_read 59 = .ok (.iload_n 2, 1) := by decide +kernel
theorem dX6_read_60 : decode cX6_read 60 = .ok (.isub, 1) := by decide +kernel
theorem dX6_read_61 : decode cX6_read 61 = .ok (.ireturn, 1) := by decide +kernel
theorem dX6_stuck_0 : decode cX6_stuck 0 = .ok (.iload_n 0, 1) := by decide +kernel
theorem dX6_stuck_1 : decode cX6_stuck 1 = .ok (.ifCond .ge 7, 3) := by decide +kernel
theorem dX6_stuck_4 : decode cX6_stuck 4 = .ok (.iload_n 0, 1) := by decide +kernel
theorem dX6_stuck_5 : decode cX6_stuck 5 = .ok (.goto 6, 3) := by decide +kernel
theorem dX6_stuck_8 : decode cX6_stuck 8 = .ok (.iconst (-1), 1) := by decide +kernel
theorem dX6_stuck_9 : decode cX6_stuck 9 = .ok (.iload_n 0, 1) := by decide +kernel
theorem dX6_stuck_10 : decode cX6_stuck 10 = .ok (.isub, 1) := by decide +kernel
theorem dX6_stuck_11 : decode cX6_stuck 11 = .ok (.ireturn, 1) := by decide +kernel
theorem dX6_expect_0 : decode cX6_expect 0 = .ok (.iload_n 1, 1) := by decide +kernel
theorem dX6_expect_1 : decode cX6_expect 1 = .ok (.ifCond .lt 18, 3) := by decide +kernel
theorem dX6_expect_4 : decode cX6_expect 4 = .ok (.aload_n 0, 1) := by decide +kernel
theorem dX6_expect_5 : decode cX6_expect 5 = .ok (.iload_n 1, 1) := by decide +kernel
theorem dX6_expect_6 : decode cX6_expect 6 = .ok (.invokevirtual 40, 3) := by decide +kernel
theorem dX6_expect_9 : decode cX6_expect 9 = .ok (.iload_n 2, 1) := by decide +kernel
theorem dX6_expect_10 : decode cX6_expect 10 = .ok (.if_icmp .ne 9, 3) := by decide +kernel
theorem dX6_expect_13 : decode cX6_expect 13 = .ok (.iload_n 1, 1) := by decide +kernel
theorem dX6_expect_14 : decode cX6_expect 14 = .ok (.iconst 1, 1) := by decide +kernel
theorem dX6_expect_15 : decode cX6_expect 15 = .ok (.iadd, 1) := by decide +kernel
theorem dX6_expect_16 : decode cX6_expect 16 = .ok (.goto 7, 3) := by decide +kernel
theorem dX6_expect_19 : decode cX6_expect 19 = .ok (.iload_n 1, 1) := by decide +kernel
theorem dX6_expect_20 : decode cX6_expect 20 = .ok (.invokestatic 32, 3) := by decide +kernel
theorem dX6_expect_23 : decode cX6_expect 23 = .ok (.ireturn, 1) := by decide +kernel
theorem dX6_clause_0 : decode cX6_clause 0 = .ok (.aload_n 1, 1) := by decide +kernel
theorem dX6_clause_1 : decode cX6_clause 1 = .ok (.iload_n 2, 1) := by decide +kernel
theorem dX6_clause_2 : decode cX6_clause 2 = .ok (.invokevirtual 40, 3) := by decide +kernel
theorem dX6_clause_5 : decode cX6_clause 5 = .ok (.lookupswitch 77 #[(99, 61), (108, 52), (115, 70), (119, 43)], 43) := by decide +kernel
theorem dX6_clause_48 : decode cX6_clause 48 = .ok (.aload_n 0, 1) := by decide +kernel
theorem dX6_clause_49 : decode cX6_clause 49 = .ok (.aload_n 1, 1) := by decide +kernel
theorem dX6_clause_50 : decode cX6_clause 50 = .ok (.iload_n 2, 1) := by decide +kernel
theorem dX6_clause_51 : decode cX6_clause 51 = .ok (.ldc 43, 2) := by decide +kernel
theorem dX6_clause_53 : decode cX6_clause 53 = .ok (.invokevirtual 45, 3) := by decide +kernel
theorem dX6_clause_56 : decode cX6_clause 56 = .ok (.ireturn, 1) := by decide +kernel
theorem dX6_clause_57 : decode cX6_clause 57 = .ok (.aload_n 0, 1) := by decide +kernel
theorem dX6_clause_58 : decode cX6_clause 58 = .ok (.aload_n 1, 1) := by decide +kernel
theorem dX6_clause_59 : decode cX6_clause 59 = .ok (.iload_n 2, 1) := by decide +kernel
theorem dX6_clause_60 : decode cX6_clause 60 = .ok (.ldc 49, 2) := by decide +kernel
theorem dX6_clause_62 : decode cX6_clause 62 = .ok (.invokevirtual 45, 3) := by decide +kernel
theorem dX6_clause_65 : decode cX6_clause 65 = .ok (.ireturn, 1) := by decide +kernel
theorem dX6_clause_66 : decode cX6_clause 66 = .ok (.aload_n 0, 1) := by decide +kernel
theorem dX6_clause_67 : decode cX6_clause 67 = .ok (.aload_n 1, 1) := by decide +kernel
theorem dX6_clause_68 : decode cX6_clause 68 = .ok (.iload_n 2, 1) := by decide +kernel
theorem dX6_clause_69 : decode cX6_clause 69 = .ok (.ldc 51, 2) := by decide +kernel
theorem dX6_clause_71 : decode cX6_clause 71 = .ok (.invokevirtual 45, 3) := by decide +kernel
theorem dX6_clause_74 : decode cX6_clause 74 = .ok (.ireturn, 1) := by decide +kernel
theorem dX6_clause_75 : decode cX6_clause 75 = .ok (.aload_n 0, 1) := by decide +kernel
theorem dX6_clause_76 : decode cX6_clause 76 = .ok (.aload_n 1, 1) := by decide +kernel
theorem dX6_clause_77 : decode cX6_clause 77 = .ok (.iload_n 2, 1) := by decide +kernel
theorem dX6_clause_78 : decode cX6_clause 78 = .ok (.invokevirtual 53, 3) := by decide +kernel
theorem dX6_clause_81 : decode cX6_clause 81 = .ok (.ireturn, 1) := by decide +kernel
theorem dX6_clause_82 : decode cX6_clause 82 = .ok (.iload_n 2, 1) := by decide +kernel
theorem dX6_clause_83 : decode cX6_clause 83 = .ok (.invokestatic 32, 3) := by decide +kernel
theorem dX6_clause_86 : decode cX6_clause 86 = .ok (.ireturn, 1) := by decide +kernel
theorem dX6_setting_0 : decode cX6_setting 0 = .ok (.aload_n 1, 1) := by decide +kernel
theorem dX6_setting_1 : decode cX6_setting 1 = .ok (.iload_n 2, 1) := by decide +kernel
theorem dX6_setting_2 : decode cX6_setting 2 = .ok (.aload_n 3, 1) := by decide +kernel
theorem dX6_setting_3 : decode cX6_setting 3 = .ok (.invokestatic 56, 3) := by decide +kernel
theorem dX6_setting_6 : decode cX6_setting 6 = .ok (.istore 4, 2) := by decide +kernel
theorem dX6_setting_8 : decode cX6_setting 8 = .ok (.aload_n 1, 1) := by decide +kernel
theorem dX6_setting_9 : decode cX6_setting 9 = .ok (.iload 4, 2) := by decide +kernel
theorem dX6_setting_11 : decode cX6_setting 11 = .ok (.invokestatic 59, 3) := by decide +kernel
theorem dX6_setting_14 : decode cX6_setting 14 = .ok (.istore 5, 2) := by decide +kernel
theorem dX6_setting_16 : decode cX6_setting 16 = .ok (.iload 5, 2) := by decide +kernel
theorem dX6_setting_18 : decode cX6_setting 18 = .ok (.ifCond .ge 6, 3) := by decide +kernel
theorem dX6_setting_21 : decode cX6_setting 21 = .ok (.iload 5, 2) := by decide +kernel
theorem dX6_setting_23 : decode cX6_setting 23 = .ok (.ireturn, 1) := by decide +kernel
theorem dX6_setting_24 : decode cX6_setting 24 = .ok (.aload_n 1, 1) := by decide +kernel
theorem dX6_setting_25 : decode cX6_setting 25 = .ok (.iload 4, 2) := by decide +kernel
theorem dX6_setting_27 : decode cX6_setting 27 = .ok (.iload 5, 2) := by decide +kernel
theorem dX6_setting_29 : decode cX6_setting 29 = .ok (.invokestatic 62, 3) := by decide +kernel
theorem dX6_setting_32 : decode cX6_setting 32 = .ok (.istore 6, 2) := by decide +kernel
theorem dX6_setting_34 : decode cX6_setting 34 = .ok (.aload_n 1, 1) := by decide +kernel
theorem dX6_setting_35 : decode cX6_setting 35 = .ok (.iload_n 2, 1) := by decide +kernel
theorem dX6_setting_36 : decode cX6_setting 36 = .ok (.invokevirtual 40, 3) := by decide +kernel
theorem dX6_setting_39 : decode cX6_setting 39 = .ok (.lookupswitch 60 #[(108, 43), (119, 25)], 25) := by decide +kernel
theorem dX6_setting_64 : decode cX6_setting 64 = .ok (.aload_n 0, 1) := by decide +kernel
theorem dX6_setting_65 : decode cX6_setting 65 = .ok (.iconst 1, 1) := by decide +kernel
theorem dX6_setting_66 : decode cX6_setting 66 = .ok (.bipush 40, 2) := by decide +kernel
theorem dX6_setting_68 : decode cX6_setting 68 = .ok (.iload 6, 2) := by decide +kernel
theorem dX6_setting_70 : decode cX6_setting 70 = .ok (.invokestatic 65, 3) := by decide +kernel
theorem dX6_setting_73 : decode cX6_setting 73 = .ok (.invokestatic 71, 3) := by decide +kernel
theorem dX6_setting_76 : decode cX6_setting 76 = .ok (.putfield 9, 3) := by decide +kernel
theorem dX6_setting_79 : decode cX6_setting 79 = .ok (.goto 26, 3) := by decide +kernel
theorem dX6_setting_82 : decode cX6_setting 82 = .ok (.aload_n 0, 1) := by decide +kernel
theorem dX6_setting_83 : decode cX6_setting 83 = .ok (.iconst 1, 1) := by decide +kernel
theorem dX6_setting_84 : decode cX6_setting 84 = .ok (.iconst 5, 1) := by decide +kernel
theorem dX6_setting_85 : decode cX6_setting 85 = .ok (.iload 6, 2) := by decide +kernel
theorem dX6_setting_87 : decode cX6_setting 87 = .ok (.invokestatic 65, 3) := by decide +kernel
theorem dX6_setting_90 : decode cX6_setting 90 = .ok (.invokestatic 71, 3) := by decide +kernel
theorem dX6_setting_93 : decode cX6_setting 93 = .ok (.putfield 15, 3) := by decide +kernel
theorem dX6_setting_96 : decode cX6_setting 96 = .ok (.goto 9, 3) := by decide +kernel
theorem dX6_setting_99 : decode cX6_setting 99 = .ok (.aload_n 0, 1) := by decide +kernel
theorem dX6_setting_100 : decode cX6_setting 100 = .ok (.iload 6, 2) := by decide +kernel
theorem dX6_setting_102 : decode cX6_setting 102 = .ok (.putfield 74, 3) := by decide +kernel
theorem dX6_setting_105 : decode cX6_setting 105 = .ok (.iload 5, 2) := by decide +kernel
theorem dX6_setting_107 : decode cX6_setting 107 = .ok (.ireturn, 1) := by decide +kernel
theorem dX6_sees_0 : decode cX6_sees 0 = .ok (.aload_n 1, 1) := by decide +kernel
theorem dX6_sees_1 : decode cX6_sees 1 = .ok (.iload_n 2, 1) := by decide +kernel
theorem dX6_sees_2 : decode cX6_sees 2 = .ok (.ldc 77, 2) := by decide +kernel
theorem dX6_sees_4 : decode cX6_sees 4 = .ok (.invokestatic 56, 3) := by decide +kernel
theorem dX6_sees_7 : decode cX6_sees 7 = .ok (.istore_n 3, 1) := by decide +kernel
theorem dX6_sees_8 : decode cX6_sees 8 = .ok (.aload_n 1, 1) := by decide +kernel
theorem dX6_sees_9 : decode cX6_sees 9 = .ok (.iload_n 3, 1) := by decide +kernel
theorem dX6_sees_10 : decode cX6_sees 10 = .ok (.invokestatic 59, 3) := by decide +kernel
theorem dX6_sees_13 : decode cX6_sees 13 = .ok (.istore 4, 2) := by decide +kernel
theorem dX6_sees_15 : decode cX6_sees 15 = .ok (.aload_n 0, 1) := by decide +kernel
theorem dX6_sees_16 : decode cX6_sees 16 = .ok (.aload_n 1, 1) := by decide +kernel
theorem dX6_sees_17 : decode cX6_sees 17 = .ok (.aload_n 1, 1) := by decide +kernel
theorem dX6_sees_18 : decode cX6_sees 18 = .ok (.iload 4, 2) := by decide +kernel
theorem dX6_sees_20 : decode cX6_sees 20 = .ok (.bipush 32, 2) := by decide +kernel
theorem dX6_sees_22 : decode cX6_sees 22 = .ok (.invokestatic 36, 3) := by decide +kernel
theorem dX6_sees_25 : decode cX6_sees 25 = .ok (.iconst 0, 1) := by decide +kernel
theorem dX6_sees_26 : decode cX6_sees 26 = .ok (.invokevirtual 79, 3) := by decide +kernel
theorem dX6_sees_29 : decode cX6_sees 29 = .ok (.istore 5, 2) := by decide +kernel
theorem dX6_sees_31 : decode cX6_sees 31 = .ok (.iload 5, 2) := by decide +kernel
theorem dX6_sees_33 : decode cX6_sees 33 = .ok (.ifCond .lt 18, 3) := by decide +kernel
theorem dX6_sees_36 : decode cX6_sees 36 = .ok (.aload_n 0, 1) := by decide +kernel
theorem dX6_sees_37 : decode cX6_sees 37 = .ok (.sipush 3000, 3) := by decide +kernel
theorem dX6_sees_40 : decode cX6_sees 40 = .ok (.aload_n 1, 1) := by decide +kernel
theorem dX6_sees_41 : decode cX6_sees 41 = .ok (.iload_n 3, 1) := by decide +kernel
theorem dX6_sees_42 : decode cX6_sees 42 = .ok (.iload 4, 2) := by decide +kernel
theorem dX6_sees_44 : decode cX6_sees 44 = .ok (.invokestatic 62, 3) := by decide +kernel
theorem dX6_sees_47 : decode cX6_sees 47 = .ok (.iadd, 1) := by decide +kernel
theorem dX6_sees_48 : decode cX6_sees 48 = .ok (.invokevirtual 82, 3) := by decide +kernel
theorem dX6_sees_51 : decode cX6_sees 51 = .ok (.iload 5, 2) := by decide +kernel
theorem dX6_sees_53 : decode cX6_sees 53 = .ok (.ireturn, 1) := by decide +kernel
theorem dX6_words_0 : decode cX6_words 0 = .ok (.iload_n 1, 1) := by decide +kernel
theorem dX6_words_1 : decode cX6_words 1 = .ok (.istore_n 3, 1) := by decide +kernel
theorem dX6_words_2 : decode cX6_words 2 = .ok (.iconst 0, 1) := by decide +kernel
theorem dX6_words_3 : decode cX6_words 3 = .ok (.istore 4, 2) := by decide +kernel
theorem dX6_words_5 : decode cX6_words 5 = .ok (.iload 4, 2) := by decide +kernel
theorem dX6_words_7 : decode cX6_words 7 = .ok (.aload_n 2, 1) := by decide +kernel
theorem dX6_words_8 : decode cX6_words 8 = .ok (.invokevirtual 86, 3) := by decide +kernel
theorem dX6_words_11 : decode cX6_words 11 = .ok (.if_icmp .ge 21, 3) := by decide +kernel
theorem dX6_words_14 : decode cX6_words 14 = .ok (.aload_n 0, 1) := by decide +kernel
theorem dX6_words_15 : decode cX6_words 15 = .ok (.iload_n 3, 1) := by decide +kernel
theorem dX6_words_16 : decode cX6_words 16 = .ok (.aload_n 2, 1) := by decide +kernel
theorem dX6_words_17 : decode cX6_words 17 = .ok (.iload 4, 2) := by decide +kernel
theorem dX6_words_19 : decode cX6_words 19 = .ok (.invokevirtual 91, 3) := by decide +kernel
theorem dX6_words_22 : decode cX6_words 22 = .ok (.invokestatic 36, 3) := by decide +kernel
theorem dX6_words_25 : decode cX6_words 25 = .ok (.istore_n 3, 1) := by decide +kernel
theorem dX6_words_26 : decode cX6_words 26 = .ok (.iinc 4 1, 3) := by decide +kernel
theorem dX6_words_29 : decode cX6_words 29 = .ok (.goto (-24), 3) := by decide +kernel
theorem dX6_words_32 : decode cX6_words 32 = .ok (.iload_n 3, 1) := by decide +kernel
theorem dX6_words_33 : decode cX6_words 33 = .ok (.ireturn, 1) := by decide +kernel
theorem dX6_digits_0 : decode cX6_digits 0 = .ok (.aload_n 0, 1) := by decide +kernel
theorem dX6_digits_1 : decode cX6_digits 1 = .ok (.iload_n 1, 1) := by decide +kernel
theorem dX6_digits_2 : decode cX6_digits 2 = .ok (.invokevirtual 40, 3) := by decide +kernel
theorem dX6_digits_5 : decode cX6_digits 5 = .ok (.invokestatic 95, 3) := by decide +kernel
theorem dX6_digits_8 : decode cX6_digits 8 = .ok (.ifCond .ne 8, 3) := by decide +kernel
theorem dX6_digits_11 : decode cX6_digits 11 = .ok (.iload_n 1, 1) := by decide +kernel
theorem dX6_digits_12 : decode cX6_digits 12 = .ok (.invokestatic 32, 3) := by decide +kernel
theorem dX6_digits_15 : decode cX6_digits 15 = .ok (.ireturn, 1) := by decide +kernel
theorem dX6_digits_16 : decode cX6_digits 16 = .ok (.aload_n 0, 1) := by decide +kernel
theorem dX6_digits_17 : decode cX6_digits 17 = .ok (.iload_n 1, 1) := by decide +kernel
theorem dX6_digits_18 : decode cX6_digits 18 = .ok (.invokevirtual 40, 3) := by decide +kernel
theorem dX6_digits_21 : decode cX6_digits 21 = .ok (.bipush 48, 2) := by decide +kernel
theorem dX6_digits_23 : decode cX6_digits 23 = .ok (.if_icmp .eq 22, 3) := by decide +kernel
theorem dX6_digits_26 : decode cX6_digits 26 = .ok (.aload_n 0, 1) := by decide +kernel
theorem dX6_digits_27 : decode cX6_digits 27 = .ok (.iload_n 1, 1) := by decide +kernel
theorem dX6_digits_28 : decode cX6_digits 28 = .ok (.iconst 1, 1) := by decide +kernel
theorem dX6_digits_29 : decode cX6_digits 29 = .ok (.iadd, 1) := by decide +kernel
theorem dX6_digits_30 : decode cX6_digits 30 = .ok (.invokevirtual 40, 3) := by decide +kernel
theorem dX6_digits_33 : decode cX6_digits 33 = .ok (.invokestatic 95, 3) := by decide +kernel
theorem dX6_digits_36 : decode cX6_digits 36 = .ok (.ifCond .eq 9, 3) := by decide +kernel
theorem dX6_digits_39 : decode cX6_digits 39 = .ok (.iload_n 1, 1) := by decide +kernel
theorem dX6_digits_40 : decode cX6_digits 40 = .ok (.iconst 2, 1) := by decide +kernel
theorem dX6_digits_41 : decode cX6_digits 41 = .ok (.iadd, 1) := by decide +kernel
theorem dX6_digits_42 : decode cX6_digits 42 = .ok (.goto 6, 3) := by decide +kernel
theorem dX6_digits_45 : decode cX6_digits 45 = .ok (.iload_n 1, 1) := by decide +kernel
theorem dX6_digits_46 : decode cX6_digits 46 = .ok (.iconst 1, 1) := by decide +kernel
theorem dX6_digits_47 : decode cX6_digits 47 = .ok (.iadd, 1) := by decide +kernel
theorem dX6_digits_48 : decode cX6_digits 48 = .ok (.ireturn, 1) := by decide +kernel
theorem dX6_isFigure_0 : decode cX6_isFigure 0 = .ok (.iload_n 0, 1) := by decide +kernel
theorem dX6_isFigure_1 : decode cX6_isFigure 1 = .ok (.bipush 48, 2) := by decide +kernel
theorem dX6_isFigure_3 : decode cX6_isFigure 3 = .ok (.if_icmp .lt 13, 3) := by decide +kernel
theorem dX6_isFigure_6 : decode cX6_isFigure 6 = .ok (.iload_n 0, 1) := by decide +kernel
theorem dX6_isFigure_7 : decode cX6_isFigure 7 = .ok (.bipush 57, 2) := by decide +kernel
theorem dX6_isFigure_9 : decode cX6_isFigure 9 = .ok (.if_icmp .gt 7, 3) := by decide +kernel
theorem dX6_isFigure_12 : decode cX6_isFigure 12 = .ok (.iconst 1, 1) := by decide +kernel
theorem dX6_isFigure_13 : decode cX6_isFigure 13 = .ok (.goto 4, 3) := by decide +kernel
theorem dX6_isFigure_16 : decode cX6_isFigure 16 = .ok (.iconst 0, 1) := by decide +kernel
theorem dX6_isFigure_17 : decode cX6_isFigure 17 = .ok (.ireturn, 1) := by decide +kernel
theorem dX6_valueOf_0 : decode cX6_valueOf 0 = .ok (.iconst 0, 1) := by decide +kernel
theorem dX6_valueOf_1 : decode cX6_valueOf 1 = .ok (.istore_n 3, 1) := by decide +kernel
theorem dX6_valueOf_2 : decode cX6_valueOf 2 = .ok (.iload_n 1, 1) := by decide +kernel
theorem dX6_valueOf_3 : decode cX6_valueOf 3 = .ok (.istore 4, 2) := by decide +kernel
theorem dX6_valueOf_5 : decode cX6_valueOf 5 = .ok (.iload 4, 2) := by decide +kernel
theorem dX6_valueOf_7 : decode cX6_valueOf 7 = .ok (.iload_n 2, 1) := by decide +kernel
theorem dX6_valueOf_8 : decode cX6_valueOf 8 = .ok (.if_icmp .ge 24, 3) := by decide +kernel
theorem dX6_valueOf_11 : decode cX6_valueOf 11 = .ok (.iload_n 3, 1) := by decide +kernel
theorem dX6_valueOf_12 : decode cX6_valueOf 12 = .ok (.bipush 10, 2) := by decide +kernel
theorem dX6_valueOf_14 : decode cX6_valueOf 14 = .ok (.imul, 1) := by decide +kernel
theorem dX6_valueOf_15 : decode cX6_valueOf 15 = .ok (.aload_n 0, 1) := by decide +kernel
theorem dX6_valueOf_16 : decode cX6_valueOf 16 = .ok (.iload 4, 2) := by decide +kernel
theorem dX6_valueOf_18 : decode cX6_valueOf 18 = .ok (.invokevirtual 40, 3) := by decide +kernel
theorem dX6_valueOf_21 : decode cX6_valueOf 21 = .ok (.iadd, 1) := by decide +kernel
theorem dX6_valueOf_22 : decode cX6_valueOf 22 = .ok (.bipush 48, 2) := by decide +kernel
theorem dX6_valueOf_24 : decode cX6_valueOf 24 = .ok (.isub, 1) := by decide +kernel
theorem dX6_valueOf_25 : decode cX6_valueOf 25 = .ok (.istore_n 3, 1) := by decide +kernel
theorem dX6_valueOf_26 : decode cX6_valueOf 26 = .ok (.iinc 4 1, 3) := by decide +kernel
theorem dX6_valueOf_29 : decode cX6_valueOf 29 = .ok (.goto (-24), 3) := by decide +kernel
theorem dX6_valueOf_32 : decode cX6_valueOf 32 = .ok (.iload_n 3, 1) := by decide +kernel
theorem dX6_valueOf_33 : decode cX6_valueOf 33 = .ok (.ireturn, 1) := by decide +kernel
theorem dX6_either_0 : decode cX6_either 0 = .ok (.aload_n 0, 1) := by decide +kernel
theorem dX6_either_1 : decode cX6_either 1 = .ok (.aload_n 1, 1) := by decide +kernel
theorem dX6_either_2 : decode cX6_either 2 = .ok (.iload_n 2, 1) := by decide +kernel
theorem dX6_either_3 : decode cX6_either 3 = .ok (.iload_n 3, 1) := by decide +kernel
theorem dX6_either_4 : decode cX6_either 4 = .ok (.invokevirtual 99, 3) := by decide +kernel
theorem dX6_either_7 : decode cX6_either 7 = .ok (.istore 4, 2) := by decide +kernel
theorem dX6_either_9 : decode cX6_either 9 = .ok (.iconst 0, 1) := by decide +kernel
theorem dX6_either_10 : decode cX6_either 10 = .ok (.istore 5, 2) := by decide +kernel
theorem dX6_either_12 : decode cX6_either 12 = .ok (.iload 5, 2) := by decide +kernel
theorem dX6_either_14 : decode cX6_either 14 = .ok (.bipush 100, 2) := by decide +kernel
theorem dX6_either_16 : decode cX6_either 16 = .ok (.if_icmp .ge 39, 3) := by decide +kernel
theorem dX6_either_19 : decode cX6_either 19 = .ok (.aload_n 1, 1) := by decide +kernel
theorem dX6_either_20 : decode cX6_either 20 = .ok (.iload 4, 2) := by decide +kernel
theorem dX6_either_22 : decode cX6_either 22 = .ok (.invokevirtual 40, 3) := by decide +kernel
theorem dX6_either_25 : decode cX6_either 25 = .ok (.bipush 124, 2) := by decide +kernel
theorem dX6_either_27 : decode cX6_either 27 = .ok (.if_icmp .ne 28, 3) := by decide +kernel
theorem dX6_either_30 : decode cX6_either 30 = .ok (.aload_n 0, 1) := by decide +kernel
theorem dX6_either_31 : decode cX6_either 31 = .ok (.aload_n 1, 1) := by decide +kernel
theorem dX6_either_32 : decode cX6_either 32 = .ok (.iload 4, 2) := by decide +kernel
theorem dX6_either_34 : decode cX6_either 34 = .ok (.iconst 1, 1) := by decide +kernel
theorem dX6_either_35 : decode cX6_either 35 = .ok (.iadd, 1) := by decide +kernel
theorem dX6_either_36 : decode cX6_either 36 = .ok (.iload_n 3, 1) := by decide +kernel
theorem dX6_either_37 : decode cX6_either 37 = .ok (.invokevirtual 99, 3) := by decide +kernel
theorem dX6_either_40 : decode cX6_either 40 = .ok (.istore 4, 2) := by decide +kernel
theorem dX6_either_42 : decode cX6_either 42 = .ok (.aload_n 0, 1) := by decide +kernel
theorem dX6_either_43 : decode cX6_either 43 = .ok (.sipush 2002, 3) := by decide +kernel
theorem dX6_either_46 : decode cX6_either 46 = .ok (.invokevirtual 82, 3) := by decide +kernel
theorem dX6_either_49 : decode cX6_either 49 = .ok (.iinc 5 1, 3) := by decide +kernel
theorem dX6_either_52 : decode cX6_either 52 = .ok (.goto (-40), 3) := by decide +kernel
theorem dX6_either_55 : decode cX6_either 55 = .ok (.iload 4, 2) := by decide +kernel
theorem dX6_either_57 : decode cX6_either 57 = .ok (.ireturn, 1) := by decide +kernel
theorem dX6_both_0 : decode cX6_both 0 = .ok (.aload_n 0, 1) := by decide +kernel
theorem dX6_both_1 : decode cX6_both 1 = .ok (.aload_n 1, 1) := by decide +kernel
theorem dX6_both_2 : decode cX6_both 2 = .ok (.iload_n 2, 1) := by decide +kernel
theorem dX6_both_3 : decode cX6_both 3 = .ok (.iload_n 3, 1) := by decide +kernel
theorem dX6_both_4 : decode cX6_both 4 = .ok (.invokevirtual 102, 3) := by decide +kernel
theorem dX6_both_7 : decode cX6_both 7 = .ok (.istore 4, 2) := by decide +kernel
theorem dX6_both_9 : decode cX6_both 9 = .ok (.iconst 0, 1) := by decide +kernel
theorem dX6_both_10 : decode cX6_both 10 = .ok (.istore 5, 2) := by decide +kernel
theorem dX6_both_12 : decode cX6_both 12 = .ok (.iload 5, 2) := by decide +kernel
theorem dX6_both_14 : decode cX6_both 14 = .ok (.bipush 100, 2) := by decide +kernel
theorem dX6_both_16 : decode cX6_both 16 = .ok (.if_icmp .ge 39, 3) := by decide +kernel
theorem dX6_both_19 : decode cX6_both 19 = .ok (.aload_n 1, 1) := by decide +kernel
theorem dX6_both_20 : decode cX6_both 20 = .ok (.iload 4, 2) := by decide +kernel
theorem dX6_both_22 : decode cX6_both 22 = .ok (.invokevirtual 40, 3) := by decide +kernel
theorem dX6_both_25 : decode cX6_both 25 = .ok (.bipush 38, 2) := by decide +kernel
theorem dX6_both_27 : decode cX6_both 27 = .ok (.if_icmp .ne 28, 3) := by decide +kernel
theorem dX6_both_30 : decode cX6_both 30 = .ok (.aload_n 0, 1) := by decide +kernel
theorem dX6_both_31 : decode cX6_both 31 = .ok (.aload_n 1, 1) := by decide +kernel
theorem dX6_both_32 : decode cX6_both 32 = .ok (.iload 4, 2) := by decide +kernel
theorem dX6_both_34 : decode cX6_both 34 = .ok (.iconst 1, 1) := by decide +kernel
theorem dX6_both_35 : decode cX6_both 35 = .ok (.iadd, 1) := by decide +kernel
theorem dX6_both_36 : decode cX6_both 36 = .ok (.iload_n 3, 1) := by decide +kernel
theorem dX6_both_37 : decode cX6_both 37 = .ok (.invokevirtual 102, 3) := by decide +kernel
theorem dX6_both_40 : decode cX6_both 40 = .ok (.istore 4, 2) := by decide +kernel
theorem dX6_both_42 : decode cX6_both 42 = .ok (.aload_n 0, 1) := by decide +kernel
theorem dX6_both_43 : decode cX6_both 43 = .ok (.sipush 2001, 3) := by decide +kernel
theorem dX6_both_46 : decode cX6_both 46 = .ok (.invokevirtual 82, 3) := by decide +kernel
theorem dX6_both_49 : decode cX6_both 49 = .ok (.iinc 5 1, 3) := by decide +kernel
theorem dX6_both_52 : decode cX6_both 52 = .ok (.goto (-40), 3) := by decide +kernel
theorem dX6_both_55 : decode cX6_both 55 = .ok (.iload 4, 2) := by decide +kernel
theorem dX6_both_57 : decode cX6_both 57 = .ok (.ireturn, 1) := by decide +kernel
theorem dX6_single_0 : decode cX6_single 0 = .ok (.aload_n 1, 1) := by decide +kernel
theorem dX6_single_1 : decode cX6_single 1 = .ok (.iload_n 2, 1) := by decide +kernel
theorem dX6_single_2 : decode cX6_single 2 = .ok (.invokevirtual 40, 3) := by decide +kernel
theorem dX6_single_5 : decode cX6_single 5 = .ok (.istore 4, 2) := by decide +kernel
theorem dX6_single_7 : decode cX6_single 7 = .ok (.iload 4, 2) := by decide +kernel
theorem dX6_single_9 : decode cX6_single 9 = .ok (.bipush 33, 2) := by decide +kernel
theorem dX6_single_11 : decode cX6_single 11 = .ok (.if_icmp .eq 17, 3) := by decide +kernel
theorem dX6_single_14 : decode cX6_single 14 = .ok (.iload 4, 2) := by decide +kernel
theorem dX6_single_16 : decode cX6_single 16 = .ok (.bipush 40, 2) := by decide +kernel
theorem dX6_single_18 : decode cX6_single 18 = .ok (.if_icmp .eq 10, 3) := by decide +kernel
theorem dX6_single_21 : decode cX6_single 21 = .ok (.aload_n 0, 1) := by decide +kernel
theorem dX6_single_22 : decode cX6_single 22 = .ok (.aload_n 1, 1) := by decide +kernel
theorem dX6_single_23 : decode cX6_single 23 = .ok (.iload_n 2, 1) := by decide +kernel
theorem dX6_single_24 : decode cX6_single 24 = .ok (.invokevirtual 105, 3) := by decide +kernel
theorem dX6_single_27 : decode cX6_single 27 = .ok (.ireturn, 1) := by decide +kernel
theorem dX6_single_28 : decode cX6_single 28 = .ok (.iload_n 3, 1) := by decide +kernel
theorem dX6_single_29 : decode cX6_single 29 = .ok (.iconst 5, 1) := by decide +kernel
theorem dX6_single_30 : decode cX6_single 30 = .ok (.if_icmp .lt 8, 3) := by decide +kernel
theorem dX6_single_33 : decode cX6_single 33 = .ok (.iload_n 2, 1) := by decide +kernel
theorem dX6_single_34 : decode cX6_single 34 = .ok (.invokestatic 32, 3) := by decide +kernel
theorem dX6_single_37 : decode cX6_single 37 = .ok (.ireturn, 1) := by decide +kernel
theorem dX6_single_38 : decode cX6_single 38 = .ok (.iload 4, 2) := by decide +kernel
theorem dX6_single_40 : decode cX6_single 40 = .ok (.bipush 40, 2) := by decide +kernel
theorem dX6_single_42 : decode cX6_single 42 = .ok (.if_icmp .ne 21, 3) := by decide +kernel
theorem dX6_single_45 : decode cX6_single 45 = .ok (.aload_n 1, 1) := by decide +kernel
theorem dX6_single_46 : decode cX6_single 46 = .ok (.aload_n 0, 1) := by decide +kernel
theorem dX6_single_47 : decode cX6_single 47 = .ok (.aload_n 1, 1) := by decide +kernel
theorem dX6_single_48 : decode cX6_single 48 = .ok (.iload_n 2, 1) := by decide +kernel
theorem dX6_single_49 : decode cX6_single 49 = .ok (.iconst 1, 1) := by decide +kernel
theorem dX6_single_50 : decode cX6_single 50 = .ok (.iadd, 1) := by decide +kernel
theorem dX6_single_51 : decode cX6_single 51 = .ok (.iload_n 3, 1) := by decide +kernel
theorem dX6_single_52 : decode cX6_single 52 = .ok (.iconst 1, 1) := by decide +kernel
theorem dX6_single_53 : decode cX6_single 53 = .ok (.iadd, 1) := by decide +kernel
theorem dX6_single_54 : decode cX6_single 54 = .ok (.invokevirtual 79, 3) := by decide +kernel
theorem dX6_single_57 : decode cX6_single 57 = .ok (.bipush 41, 2) := by decide +kernel
theorem dX6_single_59 : decode cX6_single 59 = .ok (.invokestatic 36, 3) := by decide +kernel
theorem dX6_single_62 : decode cX6_single 62 = .ok (.ireturn, 1) := by decide +kernel
theorem dX6_single_63 : decode cX6_single 63 = .ok (.aload_n 0, 1) := by decide +kernel
theorem dX6_single_64 : decode cX6_single 64 = .ok (.aload_n 1, 1) := by decide +kernel
theorem dX6_single_65 : decode cX6_single 65 = .ok (.iload_n 2, 1) := by decide +kernel
theorem dX6_single_66 : decode cX6_single 66 = .ok (.iconst 1, 1) := by decide +kernel
theorem dX6_single_67 : decode cX6_single 67 = .ok (.iadd, 1) := by decide +kernel
theorem dX6_single_68 : decode cX6_single 68 = .ok (.iload_n 3, 1) := by decide +kernel
theorem dX6_single_69 : decode cX6_single 69 = .ok (.iconst 1, 1) := by decide +kernel
theorem dX6_single_70 : decode cX6_single 70 = .ok (.iadd, 1) := by decide +kernel
theorem dX6_single_71 : decode cX6_single 71 = .ok (.invokevirtual 102, 3) := by decide +kernel
theorem dX6_single_74 : decode cX6_single 74 = .ok (.istore 5, 2) := by decide +kernel
theorem dX6_single_76 : decode cX6_single 76 = .ok (.aload_n 0, 1) := by decide +kernel
theorem dX6_single_77 : decode cX6_single 77 = .ok (.sipush 2000, 3) := by decide +kernel
theorem dX6_single_80 : decode cX6_single 80 = .ok (.invokevirtual 82, 3) := by decide +kernel
theorem dX6_single_83 : decode cX6_single 83 = .ok (.iload 5, 2) := by decide +kernel
theorem dX6_single_85 : decode cX6_single 85 = .ok (.ireturn, 1) := by decide +kernel
theorem dX6_test_0 : decode cX6_test 0 = .ok (.ldc 108, 2) := by decide +kernel
theorem dX6_test_2 : decode cX6_test 2 = .ok (.aload_n 1, 1) := by decide +kernel
theorem dX6_test_3 : decode cX6_test 3 = .ok (.iload_n 2, 1) := by decide +kernel
theorem dX6_test_4 : decode cX6_test 4 = .ok (.invokevirtual 40, 3) := by decide +kernel
theorem dX6_test_7 : decode cX6_test 7 = .ok (.invokestatic 110, 3) := by decide +kernel
theorem dX6_test_10 : decode cX6_test 10 = .ok (.istore_n 3, 1) := by decide +kernel
theorem dX6_test_11 : decode cX6_test 11 = .ok (.iload_n 3, 1) := by decide +kernel
theorem dX6_test_12 : decode cX6_test 12 = .ok (.ifCond .ge 8, 3) := by decide +kernel
theorem dX6_test_15 : decode cX6_test 15 = .ok (.iload_n 2, 1) := by decide +kernel
theorem dX6_test_16 : decode cX6_test 16 = .ok (.invokestatic 32, 3) := by decide +kernel
theorem dX6_test_19 : decode cX6_test 19 = .ok (.ireturn, 1) := by decide +kernel
theorem dX6_test_20 : decode cX6_test 20 = .ok (.ldc 114, 2) := by decide +kernel
theorem dX6_test_22 : decode cX6_test 22 = .ok (.aload_n 1, 1) := by decide +kernel
theorem dX6_test_23 : decode cX6_test 23 = .ok (.iload_n 2, 1) := by decide +kernel
theorem dX6_test_24 : decode cX6_test 24 = .ok (.iconst 1, 1) := by decide +kernel
theorem dX6_test_25 : decode cX6_test 25 = .ok (.iadd, 1) := by decide +kernel
theorem dX6_test_26 : decode cX6_test 26 = .ok (.invokevirtual 40, 3) := by decide +kernel
theorem dX6_test_29 : decode cX6_test 29 = .ok (.invokestatic 110, 3) := by decide +kernel
theorem dX6_test_32 : decode cX6_test 32 = .ok (.istore 4, 2) := by decide +kernel
theorem dX6_test_34 : decode cX6_test 34 = .ok (.iload 4, 2) := by decide +kernel
theorem dX6_test_36 : decode cX6_test 36 = .ok (.ifCond .ge 10, 3) := by decide +kernel
theorem dX6_test_39 : decode cX6_test 39 = .ok (.iload_n 2, 1) := by decide +kernel
theorem dX6_test_40 : decode cX6_test 40 = .ok (.iconst 1, 1) := by decide +kernel
theorem dX6_test_41 : decode cX6_test 41 = .ok (.iadd, 1) := by decide +kernel
theorem dX6_test_42 : decode cX6_test 42 = .ok (.invokestatic 32, 3) := by decide +kernel
theorem dX6_test_45 : decode cX6_test 45 = .ok (.ireturn, 1) := by decide +kernel
theorem dX6_test_46 : decode cX6_test 46 = .ok (.aload_n 1, 1) := by decide +kernel
theorem dX6_test_47 : decode cX6_test 47 = .ok (.iload_n 2, 1) := by decide +kernel
theorem dX6_test_48 : decode cX6_test 48 = .ok (.iconst 2, 1) := by decide +kernel
theorem dX6_test_49 : decode cX6_test 49 = .ok (.iadd, 1) := by decide +kernel
theorem dX6_test_50 : decode cX6_test 50 = .ok (.invokestatic 59, 3) := by decide +kernel
theorem dX6_test_53 : decode cX6_test 53 = .ok (.istore 5, 2) := by decide +kernel
theorem dX6_test_55 : decode cX6_test 55 = .ok (.iload 5, 2) := by decide +kernel
theorem dX6_test_57 : decode cX6_test 57 = .ok (.ifCond .lt 28, 3) := by decide +kernel
theorem dX6_test_60 : decode cX6_test 60 = .ok (.aload_n 0, 1) := by decide +kernel
theorem dX6_test_61 : decode cX6_test 61 = .ok (.iload_n 3, 1) := by decide +kernel
theorem dX6_test_62 : decode cX6_test 62 = .ok (.sipush 300, 3) := by decide +kernel
theorem dX6_test_65 : decode cX6_test 65 = .ok (.imul, 1) := by decide +kernel
theorem dX6_test_66 : decode cX6_test 66 = .ok (.iload 4, 2) := by decide +kernel
theorem dX6_test_68 : decode cX6_test 68 = .ok (.bipush 100, 2) := by decide +kernel
theorem dX6_test_70 : decode cX6_test 70 = .ok (.imul, 1) := by decide +kernel
theorem dX6_test_71 : decode cX6_test 71 = .ok (.iadd, 1) := by decide +kernel
theorem dX6_test_72 : decode cX6_test 72 = .ok (.aload_n 1, 1) := by decide +kernel
theorem dX6_test_73 : decode cX6_test 73 = .ok (.iload_n 2, 1) := by decide +kernel
theorem dX6_test_74 : decode cX6_test 74 = .ok (.iconst 2, 1) := by decide +kernel
theorem dX6_test_75 : decode cX6_test 75 = .ok (.iadd, 1) := by decide +kernel
theorem dX6_test_76 : decode cX6_test 76 = .ok (.iload 5, 2) := by decide +kernel
theorem dX6_test_78 : decode cX6_test 78 = .ok (.invokestatic 62, 3) := by decide +kernel
theorem dX6_test_81 : decode cX6_test 81 = .ok (.iadd, 1) := by decide +kernel
theorem dX6_test_82 : decode cX6_test 82 = .ok (.invokevirtual 82, 3) := by decide +kernel
theorem dX6_test_85 : decode cX6_test 85 = .ok (.iload 5, 2) := by decide +kernel
theorem dX6_test_87 : decode cX6_test 87 = .ok (.ireturn, 1) := by decide +kernel
theorem dX6_placeIn_0 : decode cX6_placeIn 0 = .ok (.iload_n 1, 1) := by decide +kernel
theorem dX6_placeIn_1 : decode cX6_placeIn 1 = .ok (.ifCond .ge 7, 3) := by decide +kernel
theorem dX6_placeIn_4 : decode cX6_placeIn 4 = .ok (.iconst (-1), 1) := by decide +kernel
theorem dX6_placeIn_5 : decode cX6_placeIn 5 = .ok (.goto 9, 3) := by decide +kernel
theorem dX6_placeIn_8 : decode cX6_placeIn 8 = .ok (.aload_n 0, 1) := by decide +kernel
theorem dX6_placeIn_9 : decode cX6_placeIn 9 = .ok (.iload_n 1, 1) := by decide +kernel
theorem dX6_placeIn_10 : decode cX6_placeIn 10 = .ok (.i2c, 1) := by decide +kernel
theorem dX6_placeIn_11 : decode cX6_placeIn 11 = .ok (.invokevirtual 116, 3) := by decide +kernel
theorem dX6_placeIn_14 : decode cX6_placeIn 14 = .ok (.ireturn, 1) := by decide +kernel
theorem dX6_put_0 : decode cX6_put 0 = .ok (.aload_n 0, 1) := by decide +kernel
theorem dX6_put_1 : decode cX6_put 1 = .ok (.getfield 119, 3) := by decide +kernel
theorem dX6_put_4 : decode cX6_put 4 = .ok (.ifCond .lt 35, 3) := by decide +kernel
theorem dX6_put_7 : decode cX6_put 7 = .ok (.aload_n 0, 1) := by decide +kernel
theorem dX6_put_8 : decode cX6_put 8 = .ok (.getfield 119, 3) := by decide +kernel
theorem dX6_put_11 : decode cX6_put 11 = .ok (.aload_n 0, 1) := by decide +kernel
theorem dX6_put_12 : decode cX6_put 12 = .ok (.getfield 18, 3) := by decide +kernel
theorem dX6_put_15 : decode cX6_put 15 = .ok (.arraylength, 1) := by decide +kernel
theorem dX6_put_16 : decode cX6_put 16 = .ok (.if_icmp .ge 23, 3) := by decide +kernel
theorem dX6_put_19 : decode cX6_put 19 = .ok (.aload_n 0, 1) := by decide +kernel
theorem dX6_put_20 : decode cX6_put 20 = .ok (.getfield 18, 3) := by decide +kernel
theorem dX6_put_23 : decode cX6_put 23 = .ok (.aload_n 0, 1) := by decide +kernel
theorem dX6_put_24 : decode cX6_put 24 = .ok (.getfield 119, 3) := by decide +kernel
theorem dX6_put_27 : decode cX6_put 27 = .ok (.iload_n 1, 1) := by decide +kernel
theorem dX6_put_28 : decode cX6_put 28 = .ok (.iastore, 1) := by decide +kernel
theorem dX6_put_29 : decode cX6_put 29 = .ok (.aload_n 0, 1) := by decide +kernel
theorem dX6_put_30 : decode cX6_put 30 = .ok (.dup, 1) := by decide +kernel
theorem dX6_put_31 : decode cX6_put 31 = .ok (.getfield 119, 3) := by decide +kernel
theorem dX6_put_34 : decode cX6_put 34 = .ok (.iconst 1, 1) := by decide +kernel
theorem dX6_put_35 : decode cX6_put 35 = .ok (.iadd, 1) := by decide +kernel
theorem dX6_put_36 : decode cX6_put 36 = .ok (.putfield 119, 3) := by decide +kernel
theorem dX6_put_39 : decode cX6_put 39 = .ok (.return_, 1) := by decide +kernel
theorem dX6_signOf_0 : decode cX6_signOf 0 = .ok (.iconst 0, 1) := by decide +kernel
theorem dX6_signOf_1 : decode cX6_signOf 1 = .ok (.istore 4, 2) := by decide +kernel
theorem dX6_signOf_3 : decode cX6_signOf 3 = .ok (.iconst 0, 1) := by decide +kernel
theorem dX6_signOf_4 : decode cX6_signOf 4 = .ok (.istore 5, 2) := by decide +kernel
theorem dX6_signOf_6 : decode cX6_signOf 6 = .ok (.iconst 0, 1) := by decide +kernel
theorem dX6_signOf_7 : decode cX6_signOf 7 = .ok (.istore 6, 2) := by decide +kernel
theorem dX6_signOf_9 : decode cX6_signOf 9 = .ok (.iload 6, 2) := by decide +kernel
theorem dX6_signOf_11 : decode cX6_signOf 11 = .ok (.aload_n 0, 1) := by decide +kernel
theorem dX6_signOf_12 : decode cX6_signOf 12 = .ok (.getfield 119, 3) := by decide +kernel
theorem dX6_signOf_15 : decode cX6_signOf 15 = .ok (.if_icmp .ge 152, 3) := by decide +kernel
theorem dX6_signOf_18 : decode cX6_signOf 18 = .ok (.iload 6, 2) := by decide +kernel
theorem dX6_signOf_20 : decode cX6_signOf 20 = .ok (.aload_n 0, 1) := by decide +kernel
theorem dX6_signOf_21 : decode cX6_signOf 21 = .ok (.getfield 18, 3) := by decide +kernel
theorem dX6_signOf_24 : decode cX6_signOf 24 = .ok (.arraylength, 1) := by decide +kernel
theorem dX6_signOf_25 : decode cX6_signOf 25 = .ok (.if_icmp .ge 142, 3) := by decide +kernel
theorem dX6_signOf_28 : decode cX6_signOf 28 = .ok (.aload_n 0, 1) := by decide +kernel
theorem dX6_signOf_29 : decode cX6_signOf 29 = .ok (.getfield 18, 3) := by decide +kernel
theorem dX6_signOf_32 : decode cX6_signOf 32 = .ok (.iload 6, 2) := by decide +kernel
theorem dX6_signOf_34 : decode cX6_signOf 34 = .ok (.iaload, 1) := by decide +kernel
theorem dX6_signOf_35 : decode cX6_signOf 35 = .ok (.istore 7, 2) := by decide +kernel
theorem dX6_signOf_37 : decode cX6_signOf 37 = .ok (.iload 4, 2) := by decide +kernel
theorem dX6_signOf_39 : decode cX6_signOf 39 = .ok (.iconst 1, 1) := by decide +kernel
theorem dX6_signOf_40 : decode cX6_signOf 40 = .ok (.iand, 1) := by decide +kernel
theorem dX6_signOf_41 : decode cX6_signOf 41 = .ok (.istore 8, 2) := by decide +kernel
theorem dX6_signOf_43 : decode cX6_signOf 43 = .ok (.iload 7, 2) := by decide +kernel
theorem dX6_signOf_45 : decode cX6_signOf 45 = .ok (.sipush 3000, 3) := by decide +kernel
theorem dX6_signOf_48 : decode cX6_signOf 48 = .ok (.if_icmp .lt 30, 3) := by decide +kernel
theorem dX6_signOf_51 : decode cX6_signOf 51 = .ok (.iload 5, 2) := by decide +kernel
theorem dX6_signOf_53 : decode cX6_signOf 53 = .ok (.iload 8, 2) := by decide +kernel
theorem dX6_signOf_55 : decode cX6_signOf 55 = .ok (.iconst 1, 1) := by decide +kernel
theorem dX6_signOf_56 : decode cX6_signOf 56 = .ok (.if_icmp .ne 12, 3) := by decide +kernel
theorem dX6_signOf_59 : decode cX6_signOf 59 = .ok (.iload 7, 2) := by decide +kernel
theorem dX6_signOf_61 : decode cX6_signOf 61 = .ok (.sipush 3000, 3) := by decide +kernel
theorem dX6_signOf_64 : decode cX6_signOf 64 = .ok (.isub, 1) := by decide +kernel
theorem dX6_signOf_65 : decode cX6_signOf 65 = .ok (.goto 4, 3) := by decide +kernel
theorem dX6_signOf_68 : decode cX6_signOf 68 = .ok (.iconst 0, 1) := by decide +kernel
theorem dX6_signOf_69 : decode cX6_signOf 69 = .ok (.iadd, 1) := by decide +kernel
theorem dX6_signOf_70 : decode cX6_signOf 70 = .ok (.istore 5, 2) := by decide +kernel
theorem dX6_signOf_72 : decode cX6_signOf 72 = .ok (.iconst 0, 1) := by decide +kernel
theorem dX6_signOf_73 : decode cX6_signOf 73 = .ok (.istore 4, 2) := by decide +kernel
theorem dX6_signOf_75 : decode cX6_signOf 75 = .ok (.goto 86, 3) := by decide +kernel
theorem dX6_signOf_78 : decode cX6_signOf 78 = .ok (.iload 7, 2) := by decide +kernel
theorem dX6_signOf_80 : decode cX6_signOf 80 = .ok (.sipush 2000, 3) := by decide +kernel
theorem dX6_signOf_83 : decode cX6_signOf 83 = .ok (.if_icmp .ne 12, 3) := by decide +kernel
theorem dX6_signOf_86 : decode cX6_signOf 86 = .ok (.iload 4, 2) := by decide +kernel
theorem dX6_signOf_88 : decode cX6_signOf 88 = .ok (.iconst 1, 1) := by decide +kernel
theorem dX6_signOf_89 : decode cX6_signOf 89 = .ok (.ixor, 1) := by decide +kernel
theorem dX6_signOf_90 : decode cX6_signOf 90 = .ok (.istore 4, 2) := by decide +kernel
theorem dX6_signOf_92 : decode cX6_signOf 92 = .ok (.goto 69, 3) := by decide +kernel
theorem dX6_signOf_95 : decode cX6_signOf 95 = .ok (.iload 7, 2) := by decide +kernel
theorem dX6_signOf_97 : decode cX6_signOf 97 = .ok (.sipush 2001, 3) := by decide +kernel
theorem dX6_signOf_100 : decode cX6_signOf 100 = .ok (.if_icmp .ne 18, 3) := by decide +kernel
theorem dX6_signOf_103 : decode cX6_signOf 103 = .ok (.iload 4, 2) := by decide +kernel
theorem dX6_signOf_105 : decode cX6_signOf 105 = .ok (.iconst 1, 1) := by decide +kernel
theorem dX6_signOf_106 : decode cX6_signOf 106 = .ok (.ishr, 1) := by decide +kernel
theorem dX6_signOf_107 : decode cX6_signOf 107 = .ok (.iload 8, 2) := by decide +kernel
theorem dX6_signOf_109 : decode cX6_signOf 109 = .ok (.bipush (-2), 2) := by decide +kernel
theorem dX6_signOf_111 : decode cX6_signOf 111 = .ok (.ior, 1) := by decide +kernel
theorem dX6_signOf_112 : decode cX6_signOf 112 = .ok (.iand, 1) := by decide +kernel
theorem dX6_signOf_113 : decode cX6_signOf 113 = .ok (.istore 4, 2) := by decide +kernel
theorem dX6_signOf_115 : decode cX6_signOf 115 = .ok (.goto 46, 3) := by decide +kernel
theorem dX6_signOf_118 : decode cX6_signOf 118 = .ok (.iload 7, 2) := by decide +kernel
theorem dX6_signOf_120 : decode cX6_signOf 120 = .ok (.sipush 2002, 3) := by decide +kernel
theorem dX6_signOf_123 : decode cX6_signOf 123 = .ok (.if_icmp .ne 15, 3) := by decide +kernel
theorem dX6_signOf_126 : decode cX6_signOf 126 = .ok (.iload 4, 2) := by decide +kernel
theorem dX6_signOf_128 : decode cX6_signOf 128 = .ok (.iconst 1, 1) := by decide +kernel
theorem dX6_signOf_129 : decode cX6_signOf 129 = .ok (.ishr, 1) := by decide +kernel
theorem dX6_signOf_130 : decode cX6_signOf 130 = .ok (.iload 8, 2) := by decide +kernel
theorem dX6_signOf_132 : decode cX6_signOf 132 = .ok (.ior, 1) := by decide +kernel
theorem dX6_signOf_133 : decode cX6_signOf 133 = .ok (.istore 4, 2) := by decide +kernel
theorem dX6_signOf_135 : decode cX6_signOf 135 = .ok (.goto 26, 3) := by decide +kernel
theorem dX6_signOf_138 : decode cX6_signOf 138 = .ok (.iload 4, 2) := by decide +kernel
theorem dX6_signOf_140 : decode cX6_signOf 140 = .ok (.iconst 1, 1) := by decide +kernel
theorem dX6_signOf_141 : decode cX6_signOf 141 = .ok (.ishl, 1) := by decide +kernel
theorem dX6_signOf_142 : decode cX6_signOf 142 = .ok (.iload 7, 2) := by decide +kernel
theorem dX6_signOf_144 : decode cX6_signOf 144 = .ok (.aload_n 1, 1) := by decide +kernel
theorem dX6_signOf_145 : decode cX6_signOf 145 = .ok (.iload_n 2, 1) := by decide +kernel
theorem dX6_signOf_146 : decode cX6_signOf 146 = .ok (.iload_n 3, 1) := by decide +kernel
theorem dX6_signOf_147 : decode cX6_signOf 147 = .ok (.invokestatic 121, 3) := by decide +kernel
theorem dX6_signOf_150 : decode cX6_signOf 150 = .ok (.ifCond .eq 7, 3) := by decide +kernel
theorem dX6_signOf_153 : decode cX6_signOf 153 = .ok (.iconst 1, 1) := by decide +kernel
theorem dX6_signOf_154 : decode cX6_signOf 154 = .ok (.goto 4, 3) := by decide +kernel
theorem dX6_signOf_157 : decode cX6_signOf 157 = .ok (.iconst 0, 1) := by decide +kernel
theorem dX6_signOf_158 : decode cX6_signOf 158 = .ok (.ior, 1) := by decide +kernel
theorem dX6_signOf_159 : decode cX6_signOf 159 = .ok (.istore 4, 2) := by decide +kernel
theorem dX6_signOf_161 : decode cX6_signOf 161 = .ok (.iinc 6 1, 3) := by decide +kernel
theorem dX6_signOf_164 : decode cX6_signOf 164 = .ok (.goto (-155), 3) := by decide +kernel
theorem dX6_signOf_167 : decode cX6_signOf 167 = .ok (.iload 5, 2) := by decide +kernel
theorem dX6_signOf_169 : decode cX6_signOf 169 = .ok (.bipush 100, 2) := by decide +kernel
theorem dX6_signOf_171 : decode cX6_signOf 171 = .ok (.invokestatic 65, 3) := by decide +kernel
theorem dX6_signOf_174 : decode cX6_signOf 174 = .ok (.ireturn, 1) := by decide +kernel
theorem dX6_holds_0 : decode cX6_holds 0 = .ok (.iload_n 0, 1) := by decide +kernel
theorem dX6_holds_1 : decode cX6_holds 1 = .ok (.sipush 300, 3) := by decide +kernel
theorem dX6_holds_4 : decode cX6_holds 4 = .ok (.idiv, 1) := by decide +kernel
theorem dX6_holds_5 : decode cX6_holds 5 = .ok (.aload_n 1, 1) := by decide +kernel
theorem dX6_holds_6 : decode cX6_holds 6 = .ok (.iload_n 2, 1) := by decide +kernel
theorem dX6_holds_7 : decode cX6_holds 7 = .ok (.iload_n 3, 1) := by decide +kernel
theorem dX6_holds_8 : decode cX6_holds 8 = .ok (.invokestatic 125, 3) := by decide +kernel
theorem dX6_holds_11 : decode cX6_holds 11 = .ok (.istore 4, 2) := by decide +kernel
theorem dX6_holds_13 : decode cX6_holds 13 = .ok (.iload_n 0, 1) := by decide +kernel
theorem dX6_holds_14 : decode cX6_holds 14 = .ok (.bipush 100, 2) := by decide +kernel
theorem dX6_holds_16 : decode cX6_holds 16 = .ok (.irem, 1) := by decide +kernel
theorem dX6_holds_17 : decode cX6_holds 17 = .ok (.istore 5, 2) := by decide +kernel
theorem dX6_holds_19 : decode cX6_holds 19 = .ok (.iload_n 0, 1) := by decide +kernel
theorem dX6_holds_20 : decode cX6_holds 20 = .ok (.bipush 100, 2) := by decide +kernel
theorem dX6_holds_22 : decode cX6_holds 22 = .ok (.idiv, 1) := by decide +kernel
theorem dX6_holds_23 : decode cX6_holds 23 = .ok (.iconst 3, 1) := by decide +kernel
theorem dX6_holds_24 : decode cX6_holds 24 = .ok (.irem, 1) := by decide +kernel
theorem dX6_holds_25 : decode cX6_holds 25 = .ok (.lookupswitch 53 #[(0, 27), (1, 40)], 27) := by decide +kernel
theorem dX6_holds_52 : decode cX6_holds 52 = .ok (.iload 4, 2) := by decide +kernel
theorem dX6_holds_54 : decode cX6_holds 54 = .ok (.iload 5, 2) := by decide +kernel
theorem dX6_holds_56 : decode cX6_holds 56 = .ok (.if_icmp .ge 7, 3) := by decide +kernel
theorem dX6_holds_59 : decode cX6_holds 59 = .ok (.iconst 1, 1) := by decide +kernel
theorem dX6_holds_60 : decode cX6_holds 60 = .ok (.goto 4, 3) := by decide +kernel
theorem dX6_holds_63 : decode cX6_holds 63 = .ok (.iconst 0, 1) := by decide +kernel
theorem dX6_holds_64 : decode cX6_holds 64 = .ok (.ireturn, 1) := by decide +kernel
theorem dX6_holds_65 : decode cX6_holds 65 = .ok (.iload 4, 2) := by decide +kernel
theorem dX6_holds_67 : decode cX6_holds 67 = .ok (.iload 5, 2) := by decide +kernel
theorem dX6_holds_69 : decode cX6_holds 69 = .ok (.if_icmp .ne 7, 3) := by decide +kernel
theorem dX6_holds_72 : decode cX6_holds 72 = .ok (.iconst 1, 1) := by decide +kernel
theorem dX6_holds_73 : decode cX6_holds 73 = .ok (.goto 4, 3) := by decide +kernel
theorem dX6_holds_76 : decode cX6_holds 76 = .ok (.iconst 0, 1) := by decide +kernel
theorem dX6_holds_77 : decode cX6_holds 77 = .ok (.ireturn, 1) := by decide +kernel
theorem dX6_holds_78 : decode cX6_holds 78 = .ok (.iload 4, 2) := by decide +kernel
theorem dX6_holds_80 : decode cX6_holds 80 = .ok (.iload 5, 2) := by decide +kernel
theorem dX6_holds_82 : decode cX6_holds 82 = .ok (.if_icmp .le 7, 3) := by decide +kernel
theorem dX6_holds_85 : decode cX6_holds 85 = .ok (.iconst 1, 1) := by decide +kernel
theorem dX6_holds_86 : decode cX6_holds 86 = .ok (.goto 4, 3) := by decide +kernel
theorem dX6_holds_89 : decode cX6_holds 89 = .ok (.iconst 0, 1) := by decide +kernel
theorem dX6_holds_90 : decode cX6_holds 90 = .ok (.ireturn, 1) := by decide +kernel
theorem dX6_valueAsked_0 : decode cX6_valueAsked 0 = .ok (.iload_n 0, 1) := by decide +kernel
theorem dX6_valueAsked_1 : decode cX6_valueAsked 1 = .ok (.tableswitch 60 0 4 #[35, 40, 45, 50, 55], 35) := by decide +kernel
theorem dX6_valueAsked_36 : decode cX6_valueAsked 36 = .ok (.aload_n 1, 1) := by decide +kernel
theorem dX6_valueAsked_37 : decode cX6_valueAsked 37 = .ok (.getfield 129, 3) := by decide +kernel
theorem dX6_valueAsked_40 : decode cX6_valueAsked 40 = .ok (.ireturn, 1) := by decide +kernel
theorem dX6_valueAsked_41 : decode cX6_valueAsked 41 = .ok (.aload_n 1, 1) := by decide +kernel
theorem dX6_valueAsked_42 : decode cX6_valueAsked 42 = .ok (.getfield 134, 3) := by decide +kernel
theorem dX6_valueAsked_45 : decode cX6_valueAsked 45 = .ok (.ireturn, 1) := by decide +kernel
theorem dX6_valueAsked_46 : decode cX6_valueAsked 46 = .ok (.aload_n 1, 1) := by decide +kernel
theorem dX6_valueAsked_47 : decode cX6_valueAsked 47 = .ok (.getfield 137, 3) := by decide +kernel
theorem dX6_valueAsked_50 : decode cX6_valueAsked 50 = .ok (.ireturn, 1) := by decide +kernel
theorem dX6_valueAsked_51 : decode cX6_valueAsked 51 = .ok (.iload_n 2, 1) := by decide +kernel
theorem dX6_valueAsked_52 : decode cX6_valueAsked 52 = .ok (.bipush 10, 2) := by decide +kernel
theorem dX6_valueAsked_54 : decode cX6_valueAsked 54 = .ok (.idiv, 1) := by decide +kernel
theorem dX6_valueAsked_55 : decode cX6_valueAsked 55 = .ok (.ireturn, 1) := by decide +kernel
theorem dX6_valueAsked_56 : decode cX6_valueAsked 56 = .ok (.iload_n 2, 1) := by decide +kernel
theorem dX6_valueAsked_57 : decode cX6_valueAsked 57 = .ok (.bipush 10, 2) := by decide +kernel
theorem dX6_valueAsked_59 : decode cX6_valueAsked 59 = .ok (.irem, 1) := by decide +kernel
theorem dX6_valueAsked_60 : decode cX6_valueAsked 60 = .ok (.ireturn, 1) := by decide +kernel
theorem dX6_valueAsked_61 : decode cX6_valueAsked 61 = .ok (.iload_n 3, 1) := by decide +kernel
theorem dX6_valueAsked_62 : decode cX6_valueAsked 62 = .ok (.ireturn, 1) := by decide +kernel
theorem dX7_init_0 : decode cX7_init 0 = .ok (.aload_n 0, 1) := by decide +kernel
theorem dX7_init_1 : decode cX7_init 1 = .ok (.bipush 6, 2) := by decide +kernel
theorem dX7_init_3 : decode cX7_init 3 = .ok (.iload_n 1, 1) := by decide +kernel
theorem dX7_init_4 : decode cX7_init 4 = .ok (.iload_n 2, 1) := by decide +kernel
theorem dX7_init_5 : decode cX7_init 5 = .ok (.iload_n 3, 1) := by decide +kernel
theorem dX7_init_6 : decode cX7_init 6 = .ok (.invokespecial 1, 3) := by decide +kernel
theorem dX7_init_9 : decode cX7_init 9 = .ok (.aload_n 0, 1) := by decide +kernel
theorem dX7_init_10 : decode cX7_init 10 = .ok (.aload 4, 2) := by decide +kernel
theorem dX7_init_12 : decode cX7_init 12 = .ok (.putfield 7, 3) := by decide +kernel
theorem dX7_init_15 : decode cX7_init 15 = .ok (.return_, 1) := by decide +kernel
theorem dX7_rowAt_0 : decode cX7_rowAt 0 = .ok (.iload_n 1, 1) := by decide +kernel
theorem dX7_rowAt_1 : decode cX7_rowAt 1 = .ok (.ifCond .lt 21, 3) := by decide +kernel
theorem dX7_rowAt_4 : decode cX7_rowAt 4 = .ok (.iload_n 1, 1) := by decide +kernel
theorem dX7_rowAt_5 : decode cX7_rowAt 5 = .ok (.aload_n 0, 1) := by decide +kernel
theorem dX7_rowAt_6 : decode cX7_rowAt 6 = .ok (.getfield 7, 3) := by decide +kernel
theorem dX7_rowAt_9 : decode cX7_rowAt 9 = .ok (.arraylength, 1) := by decide +kernel
theorem dX7_rowAt_10 : decode cX7_rowAt 10 = .ok (.if_icmp .ge 12, 3) := by decide +kernel
theorem dX7_rowAt_13 : decode cX7_rowAt 13 = .ok (.aload_n 0, 1) := by decide +kernel
theorem dX7_rowAt_14 : decode cX7_rowAt 14 = .ok (.getfield 7, 3) := by decide +kernel
theorem dX7_rowAt_17 : decode cX7_rowAt 17 = .ok (.iload_n 1, 1) := by decide +kernel
theorem dX7_rowAt_18 : decode cX7_rowAt 18 = .ok (.iaload, 1) := by decide +kernel
theorem dX7_rowAt_19 : decode cX7_rowAt 19 = .ok (.goto 4, 3) := by decide +kernel
theorem dX7_rowAt_22 : decode cX7_rowAt 22 = .ok (.iconst 0, 1) := by decide +kernel
theorem dX7_rowAt_23 : decode cX7_rowAt 23 = .ok (.ireturn, 1) := by decide +kernel
theorem dX7_withRow_0 : decode cX7_withRow 0 = .ok (.aload_n 0, 1) := by decide +kernel
theorem dX7_withRow_1 : decode cX7_withRow 1 = .ok (.getfield 7, 3) := by decide +kernel
theorem dX7_withRow_4 : decode cX7_withRow 4 = .ok (.invokevirtual 13, 3) := by decide +kernel
theorem dX7_withRow_7 : decode cX7_withRow 7 = .ok (.checkcast 14, 3) := by decide +kernel
theorem dX7_withRow_10 : decode cX7_withRow 10 = .ok (.astore_n 3, 1) := by decide +kernel
theorem dX7_withRow_11 : decode cX7_withRow 11 = .ok (.iload_n 1, 1) := by decide +kernel
theorem dX7_withRow_12 : decode cX7_withRow 12 = .ok (.ifCond .lt 13, 3) := by decide +kernel
theorem dX7_withRow_15 : decode cX7_withRow 15 = .ok (.iload_n 1, 1) := by decide +kernel
theorem dX7_withRow_16 : decode cX7_withRow 16 = .ok (.aload_n 3, 1) := by decide +kernel
theorem dX7_withRow_17 : decode cX7_withRow 17 = .ok (.arraylength, 1) := by decide +kernel
theorem dX7_withRow_18 : decode cX7_withRow 18 = .ok (.if_icmp .ge 7, 3) := by decide +kernel
theorem dX7_withRow_21 : decode cX7_withRow 21 = .ok (.aload_n 3, 1) := by decide +kernel
theorem dX7_withRow_22 : decode cX7_withRow 22 = .ok (.iload_n 1, 1) := by decide +kernel
theorem dX7_withRow_23 : decode cX7_withRow 23 = .ok (.iload_n 2, 1) := by decide +kernel
theorem dX7_withRow_24 : decode cX7_withRow 24 = .ok (.iastore, 1) := by decide +kernel
theorem dX7_withRow_25 : decode cX7_withRow 25 = .ok (.new 8, 3) := by decide +kernel
theorem dX7_withRow_28 : decode cX7_withRow 28 = .ok (.dup, 1) := by decide +kernel
theorem dX7_withRow_29 : decode cX7_withRow 29 = .ok (.aload_n 0, 1) := by decide +kernel
theorem dX7_withRow_30 : decode cX7_withRow 30 = .ok (.getfield 18, 3) := by decide +kernel
theorem dX7_withRow_33 : decode cX7_withRow 33 = .ok (.aload_n 0, 1) := by decide +kernel
theorem dX7_withRow_34 : decode cX7_withRow 34 = .ok (.getfield 22, 3) := by decide +kernel
theorem dX7_withRow_37 : decode cX7_withRow 37 = .ok (.aload_n 0, 1) := by decide +kernel
theorem dX7_withRow_38 : decode cX7_withRow 38 = .ok (.getfield 25, 3) := by decide +kernel
theorem dX7_withRow_41 : decode cX7_withRow 41 = .ok (.aload_n 3, 1) := by decide +kernel
theorem dX7_withRow_42 : decode cX7_withRow 42 = .ok (.invokespecial 28, 3) := by decide +kernel
theorem dX7_withRow_45 : decode cX7_withRow 45 = .ok (.areturn, 1) := by decide +kernel
theorem dX7_seconds_0 : decode cX7_seconds 0 = .ok (.aload_n 0, 1) := by decide +kernel
theorem dX7_seconds_1 : decode cX7_seconds 1 = .ok (.iload_n 1, 1) := by decide +kernel
theorem dX7_seconds_2 : decode cX7_seconds 2 = .ok (.iconst 4, 1) := by decide +kernel
theorem dX7_seconds_3 : decode cX7_seconds 3 = .ok (.irem, 1) := by decide +kernel
theorem dX7_seconds_4 : decode cX7_seconds 4 = .ok (.invokevirtual 31, 3) := by decide +kernel
theorem dX7_seconds_7 : decode cX7_seconds 7 = .ok (.ireturn, 1) := by decide +kernel
theorem dX7_shows_0 : decode cX7_shows 0 = .ok (.aload_n 2, 1) := by decide +kernel
theorem dX7_shows_1 : decode cX7_shows 1 = .ok (.bipush 61, 2) := by decide +kernel
theorem dX7_shows_3 : decode cX7_shows 3 = .ok (.invokevirtual 35, 3) := by decide +kernel
theorem dX7_shows_6 : decode cX7_shows 6 = .ok (.aload_n 0, 1) := by decide +kernel
theorem dX7_shows_7 : decode cX7_shows 7 = .ok (.iload_n 1, 1) := by decide +kernel
theorem dX7_shows_8 : decode cX7_shows 8 = .ok (.aload_n 2, 1) := by decide +kernel
theorem dX7_shows_9 : decode cX7_shows 9 = .ok (.invokespecial 41, 3) := by decide +kernel
theorem dX7_shows_12 : decode cX7_shows 12 = .ok (.aload_n 0, 1) := by decide +kernel
theorem dX7_shows_13 : decode cX7_shows 13 = .ok (.getfield 22, 3) := by decide +kernel
theorem dX7_shows_16 : decode cX7_shows 16 = .ok (.iadd, 1) := by decide +kernel
theorem dX7_shows_17 : decode cX7_shows 17 = .ok (.ireturn, 1) := by decide +kernel
theorem dX8_init_0 : decode cX8_init 0 = .ok (.aload_n 0, 1) := by decide +kernel
theorem dX8_init_1 : decode cX8_init 1 = .ok (.invokespecial 3, 3) := by decide +kernel
theorem dX8_init_4 : decode cX8_init 4 = .ok (.aload_n 0, 1) := by decide +kernel
theorem dX8_init_5 : decode cX8_init 5 = .ok (.bipush 20, 2) := by decide +kernel
theorem dX8_init_7 : decode cX8_init 7 = .ok (.newarray .int, 2) := by decide +kernel
theorem dX8_init_9 : decode cX8_init 9 = .ok (.putfield 9, 3) := by decide +kernel
theorem dX8_init_12 : decode cX8_init 12 = .ok (.return_, 1) := by decide +kernel
theorem dX8_clear_0 : decode cX8_clear 0 = .ok (.aload_n 0, 1) := by decide +kernel
theorem dX8_clear_1 : decode cX8_clear 1 = .ok (.iconst 0, 1) := by decide +kernel
theorem dX8_clear_2 : decode cX8_clear 2 = .ok (.putfield 15, 3) := by decide +kernel
theorem dX8_clear_5 : decode cX8_clear 5 = .ok (.return_, 1) := by decide +kernel
theorem dX8_ran_0 : decode cX8_ran 0 = .ok (.aload_n 0, 1) := by decide +kernel
theorem dX8_ran_1 : decode cX8_ran 1 = .ok (.getfield 15, 3) := by decide +kernel
theorem dX8_ran_4 : decode cX8_ran 4 = .ok (.ifCond .lt 25, 3) := by decide +kernel
theorem dX8_ran_7 : decode cX8_ran 7 = .ok (.aload_n 0, 1) := by decide +kernel
theorem dX8_ran_8 : decode cX8_ran 8 = .ok (.getfield 15, 3) := by decide +kernel
theorem dX8_ran_11 : decode cX8_ran 11 = .ok (.aload_n 0, 1) := by decide +kernel
theorem dX8_ran_12 : decode cX8_ran 12 = .ok (.getfield 9, 3) := by decide +kernel
theorem dX8_ran_15 : decode cX8_ran 15 = .ok (.arraylength, 1) := by decide +kernel
theorem dX8_ran_16 : decode cX8_ran 16 = .ok (.if_icmp .ge 13, 3) := by decide +kernel
theorem dX8_ran_19 : decode cX8_ran 19 = .ok (.aload_n 0, 1) := by decide +kernel
theorem dX8_ran_20 : decode cX8_ran 20 = .ok (.getfield 9, 3) := by decide +kernel
theorem dX8_ran_23 : decode cX8_ran 23 = .ok (.aload_n 0, 1) := by decide +kernel
theorem dX8_ran_24 : decode cX8_ran 24 = .ok (.getfield 15, 3) := by decide +kernel
theorem dX8_ran_27 : decode cX8_ran 27 = .ok (.iload_n 1, 1) := by decide +kernel
theorem dX8_ran_28 : decode cX8_ran 28 = .ok (.iastore, 1) := by decide +kernel
theorem dX8_ran_29 : decode cX8_ran 29 = .ok (.aload_n 0, 1) := by decide +kernel
theorem dX8_ran_30 : decode cX8_ran 30 = .ok (.dup, 1) := by decide +kernel
theorem dX8_ran_31 : decode cX8_ran 31 = .ok (.getfield 15, 3) := by decide +kernel
theorem dX8_ran_34 : decode cX8_ran 34 = .ok (.iconst 1, 1) := by decide +kernel
theorem dX8_ran_35 : decode cX8_ran 35 = .ok (.iadd, 1) := by decide +kernel
theorem dX8_ran_36 : decode cX8_ran 36 = .ok (.putfield 15, 3) := by decide +kernel
theorem dX8_ran_39 : decode cX8_ran 39 = .ok (.return_, 1) := by decide +kernel
theorem dX8_bodyAt_0 : decode cX8_bodyAt 0 = .ok (.iload_n 1, 1) := by decide +kernel
theorem dX8_bodyAt_1 : decode cX8_bodyAt 1 = .ok (.ifCond .lt 29, 3) := by decide +kernel
theorem dX8_bodyAt_4 : decode cX8_bodyAt 4 = .ok (.iload_n 1, 1) := by decide +kernel
theorem dX8_bodyAt_5 : decode cX8_bodyAt 5 = .ok (.aload_n 0, 1) := by decide +kernel
theorem dX8_bodyAt_6 : decode cX8_bodyAt 6 = .ok (.getfield 15, 3) := by decide +kernel
theorem dX8_bodyAt_9 : decode cX8_bodyAt 9 = .ok (.if_icmp .ge 21, 3) := by decide +kernel
theorem dX8_bodyAt_12 : decode cX8_bodyAt 12 = .ok (.iload_n 1, 1) := by decide +kernel
theorem dX8_bodyAt_13 : decode cX8_bodyAt 13 = .ok (.aload_n 0, 1) := by decide +kernel
theorem dX8_bodyAt_14 : decode cX8_bodyAt 14 = .ok (.getfield 9, 3) := by decide +kernel
theorem dX8_bodyAt_17 : decode cX8_bodyAt 17 = .ok (.arraylength, 1) := by decide +kernel
theorem dX8_bodyAt_18 : decode cX8_bodyAt 18 = .ok (.if_icmp .ge 12, 3) := by decide +kernel
theorem dX8_bodyAt_21 : decode cX8_bodyAt 21 = .ok (.aload_n 0, 1) := by decide +kernel
theorem dX8_bodyAt_22 : decode cX8_bodyAt 22 = .ok (.getfield 9, 3) := by decide +kernel
theorem dX8_bodyAt_25 : decode cX8_bodyAt 25 = .ok (.iload_n 1, 1) := by decide +kernel
theorem dX8_bodyAt_26 : decode cX8_bodyAt 26 = .ok (.iaload, 1) := by decide +kernel
theorem dX8_bodyAt_27 : decode cX8_bodyAt 27 = .ok (.goto 4, 3) := by decide +kernel
theorem dX8_bodyAt_30 : decode cX8_bodyAt 30 = .ok (.iconst (-1), 1) := by decide +kernel
theorem dX8_bodyAt_31 : decode cX8_bodyAt 31 = .ok (.ireturn, 1) := by decide +kernel
theorem dX9_init_0 : decode cX9_init 0 = .ok (.aload_n 0, 1) := by decide +kernel
theorem dX9_init_1 : decode cX9_init 1 = .ok (.iconst 4, 1) := by decide +kernel
theorem dX9_init_2 : decode cX9_init 2 = .ok (.iload_n 1, 1) := by decide +kernel
theorem dX9_init_3 : decode cX9_init 3 = .ok (.iload_n 2, 1) := by decide +kernel
theorem dX9_init_4 : decode cX9_init 4 = .ok (.iload_n 3, 1) := by decide +kernel
theorem dX9_init_5 : decode cX9_init 5 = .ok (.invokespecial 1, 3) := by decide +kernel
theorem dX9_init_8 : decode cX9_init 8 = .ok (.return_, 1) := by decide +kernel
theorem dX9_seconds_0 : decode cX9_seconds 0 = .ok (.iload_n 1, 1) := by decide +kernel
theorem dX9_seconds_1 : decode cX9_seconds 1 = .ok (.iconst 3, 1) := by decide +kernel
theorem dX9_seconds_2 : decode cX9_seconds 2 = .ok (.idiv, 1) := by decide +kernel
theorem dX9_seconds_3 : decode cX9_seconds 3 = .ok (.aload_n 0, 1) := by decide +kernel
theorem dX9_seconds_4 : decode cX9_seconds 4 = .ok (.getfield 7, 3) := by decide +kernel
theorem dX9_seconds_7 : decode cX9_seconds 7 = .ok (.iconst 2, 1) := by decide +kernel
theorem dX9_seconds_8 : decode cX9_seconds 8 = .ok (.aload_n 0, 1) := by decide +kernel
theorem dX9_seconds_9 : decode cX9_seconds 9 = .ok (.getfield 13, 3) := by decide +kernel
theorem dX9_seconds_12 : decode cX9_seconds 12 = .ok (.imul, 1) := by decide +kernel
theorem dX9_seconds_13 : decode cX9_seconds 13 = .ok (.iadd, 1) := by decide +kernel
theorem dX9_seconds_14 : decode cX9_seconds 14 = .ok (.imul, 1) := by decide +kernel
theorem dX9_seconds_15 : decode cX9_seconds 15 = .ok (.aload_n 0, 1) := by decide +kernel
theorem dX9_seconds_16 : decode cX9_seconds 16 = .ok (.iload_n 1, 1) := by decide +kernel
theorem dX9_seconds_17 : decode cX9_seconds 17 = .ok (.iconst 3, 1) := by decide +kernel
theorem dX9_seconds_18 : decode cX9_seconds 18 = .ok (.irem, 1) := by decide +kernel
theorem dX9_seconds_19 : decode cX9_seconds 19 = .ok (.invokespecial 16, 3) := by decide +kernel
theorem dX9_seconds_22 : decode cX9_seconds 22 = .ok (.iadd, 1) := by decide +kernel
theorem dX9_seconds_23 : decode cX9_seconds 23 = .ok (.ireturn, 1) := by decide +kernel
theorem dX9_tells_0 : decode cX9_tells 0 = .ok (.aload_n 2, 1) := by decide +kernel
theorem dX9_tells_1 : decode cX9_tells 1 = .ok (.bipush 41, 2) := by decide +kernel
theorem dX9_tells_3 : decode cX9_tells 3 = .ok (.invokevirtual 20, 3) := by decide +kernel
theorem dX9_tells_6 : decode cX9_tells 6 = .ok (.aload_n 0, 1) := by decide +kernel
theorem dX9_tells_7 : decode cX9_tells 7 = .ok (.iload_n 1, 1) := by decide +kernel
theorem dX9_tells_8 : decode cX9_tells 8 = .ok (.iconst 1, 1) := by decide +kernel
theorem dX9_tells_9 : decode cX9_tells 9 = .ok (.isub, 1) := by decide +kernel
theorem dX9_tells_10 : decode cX9_tells 10 = .ok (.aload_n 2, 1) := by decide +kernel
theorem dX9_tells_11 : decode cX9_tells 11 = .ok (.invokespecial 26, 3) := by decide +kernel
theorem dX9_tells_14 : decode cX9_tells 14 = .ok (.aload_n 0, 1) := by decide +kernel
theorem dX9_tells_15 : decode cX9_tells 15 = .ok (.iconst 2, 1) := by decide +kernel
theorem dX9_tells_16 : decode cX9_tells 16 = .ok (.aload_n 2, 1) := by decide +kernel
theorem dX9_tells_17 : decode cX9_tells 17 = .ok (.invokevirtual 30, 3) := by decide +kernel
theorem dX9_tells_20 : decode cX9_tells 20 = .ok (.iadd, 1) := by decide +kernel
theorem dX9_tells_21 : decode cX9_tells 21 = .ok (.ireturn, 1) := by decide +kernel
theorem dX10_init_0 : decode cX10_init 0 = .ok (.aload_n 0, 1) := by decide +kernel
theorem dX10_init_1 : decode cX10_init 1 = .ok (.iload_n 1, 1) := by decide +kernel
theorem dX10_init_2 : decode cX10_init 2 = .ok (.iload_n 2, 1) := by decide +kernel
theorem dX10_init_3 : decode cX10_init 3 = .ok (.iload_n 3, 1) := by decide +kernel
theorem dX10_init_4 : decode cX10_init 4 = .ok (.iload 4, 2) := by decide +kernel
theorem dX10_init_6 : decode cX10_init 6 = .ok (.invokespecial 1, 3) := by decide +kernel
theorem dX10_init_9 : decode cX10_init 9 = .ok (.return_, 1) := by decide +kernel
theorem dX10_seconds_0 : decode cX10_seconds 0 = .ok (.iload_n 1, 1) := by decide +kernel
theorem dX10_seconds_1 : decode cX10_seconds 1 = .ok (.iconst 2, 1) := by decide +kernel
theorem dX10_seconds_2 : decode cX10_seconds 2 = .ok (.idiv, 1) := by decide +kernel
theorem dX10_seconds_3 : decode cX10_seconds 3 = .ok (.aload_n 0, 1) := by decide +kernel
theorem dX10_seconds_4 : decode cX10_seconds 4 = .ok (.getfield 7, 3) := by decide +kernel
theorem dX10_seconds_7 : decode cX10_seconds 7 = .ok (.aload_n 0, 1) := by decide +kernel
theorem dX10_seconds_8 : decode cX10_seconds 8 = .ok (.getfield 13, 3) := by decide +kernel
theorem dX10_seconds_11 : decode cX10_seconds 11 = .ok (.iadd, 1) := by decide +kernel
theorem dX10_seconds_12 : decode cX10_seconds 12 = .ok (.imul, 1) := by decide +kernel
theorem dX10_seconds_13 : decode cX10_seconds 13 = .ok (.iload_n 1, 1) := by decide +kernel
theorem dX10_seconds_14 : decode cX10_seconds 14 = .ok (.iconst 2, 1) := by decide +kernel
theorem dX10_seconds_15 : decode cX10_seconds 15 = .ok (.irem, 1) := by decide +kernel
theorem dX10_seconds_16 : decode cX10_seconds 16 = .ok (.aload_n 0, 1) := by decide +kernel
theorem dX10_seconds_17 : decode cX10_seconds 17 = .ok (.getfield 7, 3) := by decide +kernel
theorem dX10_seconds_20 : decode cX10_seconds 20 = .ok (.imul, 1) := by decide +kernel
theorem dX10_seconds_21 : decode cX10_seconds 21 = .ok (.iadd, 1) := by decide +kernel
theorem dX10_seconds_22 : decode cX10_seconds 22 = .ok (.ireturn, 1) := by decide +kernel
theorem dX10_writes_0 : decode cX10_writes 0 = .ok (.aload_n 2, 1) := by decide +kernel
theorem dX10_writes_1 : decode cX10_writes 1 = .ok (.bipush 11, 2) := by decide +kernel
theorem dX10_writes_3 : decode cX10_writes 3 = .ok (.invokevirtual 16, 3) := by decide +kernel
theorem dX10_writes_6 : decode cX10_writes 6 = .ok (.aload_n 0, 1) := by decide +kernel
theorem dX10_writes_7 : decode cX10_writes 7 = .ok (.iload_n 1, 1) := by decide +kernel
theorem dX10_writes_8 : decode cX10_writes 8 = .ok (.iconst 3, 1) := by decide +kernel
theorem dX10_writes_9 : decode cX10_writes 9 = .ok (.imul, 1) := by decide +kernel
theorem dX10_writes_10 : decode cX10_writes 10 = .ok (.aload_n 2, 1) := by decide +kernel
theorem dX10_writes_11 : decode cX10_writes 11 = .ok (.invokespecial 22, 3) := by decide +kernel
theorem dX10_writes_14 : decode cX10_writes 14 = .ok (.ireturn, 1) := by decide +kernel
theorem dX11_init_0 : decode cX11_init 0 = .ok (.aload_n 0, 1) := by decide +kernel
theorem dX11_init_1 : decode cX11_init 1 = .ok (.invokespecial 3, 3) := by decide +kernel
theorem dX11_init_4 : decode cX11_init 4 = .ok (.aload_n 0, 1) := by decide +kernel
theorem dX11_init_5 : decode cX11_init 5 = .ok (.new 9, 3) := by decide +kernel
theorem dX11_init_8 : decode cX11_init 8 = .ok (.dup, 1) := by decide +kernel
theorem dX11_init_9 : decode cX11_init 9 = .ok (.invokespecial 11, 3) := by decide +kernel
theorem dX11_init_12 : decode cX11_init 12 = .ok (.putfield 12, 3) := by decide +kernel
theorem dX11_init_15 : decode cX11_init 15 = .ok (.aload_n 0, 1) := by decide +kernel
theorem dX11_init_16 : decode cX11_init 16 = .ok (.new 9, 3) := by decide +kernel
theorem dX11_init_19 : decode cX11_init 19 = .ok (.dup, 1) := by decide +kernel
theorem dX11_init_20 : decode cX11_init 20 = .ok (.invokespecial 11, 3) := by decide +kernel
theorem dX11_init_23 : decode cX11_init 23 = .ok (.putfield 18, 3) := by decide +kernel
theorem dX11_init_26 : decode cX11_init 26 = .ok (.aload_n 0, 1) := by decide +kernel
theorem dX11_init_27 : decode cX11_init 27 = .ok (.new 21, 3) := by decide +kernel
theorem dX11_init_30 : decode cX11_init 30 = .ok (.dup, 1) := by decide +kernel
theorem dX11_init_31 : decode cX11_init 31 = .ok (.invokespecial 23, 3) := by decide +kernel
theorem dX11_init_34 : decode cX11_init 34 = .ok (.putfield 24, 3) := by decide +kernel
theorem dX11_init_37 : decode cX11_init 37 = .ok (.return_, 1) := by decide +kernel
theorem dX11_feed_0 : decode cX11_feed 0 = .ok (.iload_n 1, 1) := by decide +kernel
theorem dX11_feed_1 : decode cX11_feed 1 = .ok (.ifCond .lt 9, 3) := by decide +kernel
theorem dX11_feed_4 : decode cX11_feed 4 = .ok (.iload_n 1, 1) := by decide +kernel
theorem dX11_feed_5 : decode cX11_feed 5 = .ok (.bipush 127, 2) := by decide +kernel
theorem dX11_feed_7 : decode cX11_feed 7 = .ok (.if_icmp .le 6, 3) := by decide +kernel
theorem dX11_feed_10 : decode cX11_feed 10 = .ok (.bipush (-2), 2) := by decide +kernel
theorem dX11_feed_12 : decode cX11_feed 12 = .ok (.ireturn, 1) := by decide +kernel
theorem dX11_feed_13 : decode cX11_feed 13 = .ok (.aload_n 0, 1) := by decide +kernel
theorem dX11_feed_14 : decode cX11_feed 14 = .ok (.getfield 12, 3) := by decide +kernel
theorem dX11_feed_17 : decode cX11_feed 17 = .ok (.getfield 28, 3) := by decide +kernel
theorem dX11_feed_20 : decode cX11_feed 20 = .ok (.iload_n 1, 1) := by decide +kernel
theorem dX11_feed_21 : decode cX11_feed 21 = .ok (.invokevirtual 32, 3) := by decide +kernel
theorem dX11_feed_24 : decode cX11_feed 24 = .ok (.ifCond .eq 16, 3) := by decide +kernel
theorem dX11_feed_27 : decode cX11_feed 27 = .ok (.aload_n 0, 1) := by decide +kernel
theorem dX11_feed_28 : decode cX11_feed 28 = .ok (.getfield 12, 3) := by decide +kernel
theorem dX11_feed_31 : decode cX11_feed 31 = .ok (.getfield 28, 3) := by decide +kernel
theorem dX11_feed_34 : decode cX11_feed 34 = .ok (.invokevirtual 38, 3) := by decide +kernel
theorem dX11_feed_37 : decode cX11_feed 37 = .ok (.goto 5, 3) := by decide +kernel
theorem dX11_feed_40 : decode cX11_feed 40 = .ok (.bipush (-4), 2) := by decide +kernel
theorem dX11_feed_42 : decode cX11_feed 42 = .ok (.ireturn, 1) := by decide +kernel
theorem dX11_school_0 : decode cX11_school 0 = .ok (.aload_n 0, 1) := by decide +kernel
theorem dX11_school_1 : decode cX11_school 1 = .ok (.getfield 12, 3) := by decide +kernel
theorem dX11_school_4 : decode cX11_school 4 = .ok (.getfield 42, 3) := by decide +kernel
theorem dX11_school_7 : decode cX11_school 7 = .ok (.iconst 5, 1) := by decide +kernel
theorem dX11_school_8 : decode cX11_school 8 = .ok (.if_icmp .lt 6, 3) := by decide +kernel
theorem dX11_school_11 : decode cX11_school 11 = .ok (.bipush (-4), 2) := by decide +kernel
theorem dX11_school_13 : decode cX11_school 13 = .ok (.ireturn, 1) := by decide +kernel
theorem dX11_school_14 : decode cX11_school 14 = .ok (.new 46, 3) := by decide +kernel
theorem dX11_school_17 : decode cX11_school 17 = .ok (.dup, 1) := by decide +kernel
theorem dX11_school_18 : decode cX11_school 18 = .ok (.invokespecial 48, 3) := by decide +kernel
theorem dX11_school_21 : decode cX11_school 21 = .ok (.astore_n 1, 1) := by decide +kernel
theorem dX11_school_22 : decode cX11_school 22 = .ok (.aload_n 1, 1) := by decide +kernel
theorem dX11_school_23 : decode cX11_school 23 = .ok (.aload_n 0, 1) := by decide +kernel
theorem dX11_school_24 : decode cX11_school 24 = .ok (.getfield 12, 3) := by decide +kernel
theorem dX11_school_27 : decode cX11_school 27 = .ok (.getfield 28, 3) := by decide +kernel
theorem dX11_school_30 : decode cX11_school 30 = .ok (.invokevirtual 49, 3) := by decide +kernel
theorem dX11_school_33 : decode cX11_school 33 = .ok (.istore_n 2, 1) := by decide +kernel
theorem dX11_school_34 : decode cX11_school 34 = .ok (.aload_n 0, 1) := by decide +kernel
theorem dX11_school_35 : decode cX11_school 35 = .ok (.getfield 12, 3) := by decide +kernel
theorem dX11_school_38 : decode cX11_school 38 = .ok (.getfield 28, 3) := by decide +kernel
theorem dX11_school_41 : decode cX11_school 41 = .ok (.invokevirtual 53, 3) := by decide +kernel
theorem dX11_school_44 : decode cX11_school 44 = .ok (.iload_n 2, 1) := by decide +kernel
theorem dX11_school_45 : decode cX11_school 45 = .ok (.ifCond .lt 8, 3) := by decide +kernel
theorem dX11_school_48 : decode cX11_school 48 = .ok (.bipush (-10), 2) := by decide +kernel
theorem dX11_school_50 : decode cX11_school 50 = .ok (.iload_n 2, 1) := by decide +kernel
theorem dX11_school_51 : decode cX11_school 51 = .ok (.isub, 1) := by decide +kernel
theorem dX11_school_52 : decode cX11_school 52 = .ok (.ireturn, 1) := by decide +kernel
theorem dX11_school_53 : decode cX11_school 53 = .ok (.aload_n 0, 1) := by decide +kernel
theorem dX11_school_54 : decode cX11_school 54 = .ok (.getfield 12, 3) := by decide +kernel
theorem dX11_school_57 : decode cX11_school 57 = .ok (.aload_n 1, 1) := by decide +kernel
theorem dX11_school_58 : decode cX11_school 58 = .ok (.putfield 56, 3) := by decide +kernel
theorem dX11_school_61 : decode cX11_school 61 = .ok (.aload_n 0, 1) := by decide +kernel
theorem dX11_school_62 : decode cX11_school 62 = .ok (.getfield 12, 3) := by decide +kernel
theorem dX11_school_65 : decode cX11_school 65 = .ok (.dup, 1) := by decide +kernel
theorem dX11_school_66 : decode cX11_school 66 = .ok (.getfield 42, 3) := by decide +kernel
theorem dX11_school_69 : decode cX11_school 69 = .ok (.iconst 1, 1) := by decide +kernel
theorem dX11_school_70 : decode cX11_school 70 = .ok (.iadd, 1) := by decide +kernel
theorem dX11_school_71 : decode cX11_school 71 = .ok (.putfield 42, 3) := by decide +kernel
theorem dX11_school_74 : decode cX11_school 74 = .ok (.aload_n 0, 1) := by decide +kernel
theorem dX11_school_75 : decode cX11_school 75 = .ok (.getfield 12, 3) := by decide +kernel
theorem dX11_school_78 : decode cX11_school 78 = .ok (.getfield 42, 3) := by decide +kernel
theorem dX11_school_81 : decode cX11_school 81 = .ok (.iconst 1, 1) := by decide +kernel
theorem dX11_school_82 : decode cX11_school 82 = .ok (.isub, 1) := by decide +kernel
theorem dX11_school_83 : decode cX11_school 83 = .ok (.ireturn, 1) := by decide +kernel
theorem dX11_way_0 : decode cX11_way 0 = .ok (.iload_n 1, 1) := by decide +kernel
theorem dX11_way_1 : decode cX11_way 1 = .ok (.ifCond .lt 9, 3) := by decide +kernel
theorem dX11_way_4 : decode cX11_way 4 = .ok (.iload_n 1, 1) := by decide +kernel
theorem dX11_way_5 : decode cX11_way 5 = .ok (.bipush 6, 2) := by decide +kernel
theorem dX11_way_7 : decode cX11_way 7 = .ok (.if_icmp .le 5, 3) := by decide +kernel
theorem dX11_way_10 : decode cX11_way 10 = .ok (.iconst (-1), 1) := by decide +kernel
theorem dX11_way_11 : decode cX11_way 11 = .ok (.ireturn, 1) := by decide +kernel
theorem dX11_way_12 : decode cX11_way 12 = .ok (.iload_n 2, 1) := by decide +kernel
theorem dX11_way_13 : decode cX11_way 13 = .ok (.invokestatic 60, 3) := by decide +kernel
theorem dX11_way_16 : decode cX11_way 16 = .ok (.ifCond .eq 14, 3) := by decide +kernel
theorem dX11_way_19 : decode cX11_way 19 = .ok (.iload_n 3, 1) := by decide +kernel
theorem dX11_way_20 : decode cX11_way 20 = .ok (.iconst 1, 1) := by decide +kernel
theorem dX11_way_21 : decode cX11_way 21 = .ok (.if_icmp .lt 9, 3) := by decide +kernel
theorem dX11_way_24 : decode cX11_way 24 = .ok (.iload_n 3, 1) := by decide +kernel
theorem dX11_way_25 : decode cX11_way 25 = .ok (.bipush 60, 2) := by decide +kernel
theorem dX11_way_27 : decode cX11_way 27 = .ok (.if_icmp .le 6, 3) := by decide +kernel
theorem dX11_way_30 : decode cX11_way 30 = .ok (.bipush (-2), 2) := by decide +kernel
theorem dX11_way_32 : decode cX11_way 32 = .ok (.ireturn, 1) := by decide +kernel
theorem dX11_way_33 : decode cX11_way 33 = .ok (.aload_n 0, 1) := by decide +kernel
theorem dX11_way_34 : decode cX11_way 34 = .ok (.getfield 12, 3) := by decide +kernel
theorem dX11_way_37 : decode cX11_way 37 = .ok (.invokevirtual 63, 3) := by decide +kernel
theorem dX11_way_40 : decode cX11_way 40 = .ok (.istore 4, 2) := by decide +kernel
theorem dX11_way_42 : decode cX11_way 42 = .ok (.aload_n 0, 1) := by decide +kernel
theorem dX11_way_43 : decode cX11_way 43 = .ok (.getfield 12, 3) := by decide +kernel
theorem dX11_way_46 : decode cX11_way 46 = .ok (.iload_n 1, 1) := by decide +kernel
theorem dX11_way_47 : decode cX11_way 47 = .ok (.iload 4, 2) := by decide +kernel
theorem dX11_way_49 : decode cX11_way 49 = .ok (.iload_n 2, 1) := by decide +kernel
theorem dX11_way_50 : decode cX11_way 50 = .ok (.iload_n 3, 1) := by decide +kernel
theorem dX11_way_51 : decode cX11_way 51 = .ok (.invokestatic 66, 3) := by decide +kernel
theorem dX11_way_54 : decode cX11_way 54 = .ok (.invokevirtual 70, 3) := by decide +kernel
theorem dX11_way_57 : decode cX11_way 57 = .ok (.ifCond .eq 8, 3) := by decide +kernel
theorem dX11_way_60 : decode cX11_way 60 = .ok (.iload 4, 2) := by decide +kernel
theorem dX11_way_62 : decode cX11_way 62 = .ok (.goto 5, 3) := by decide +kernel
theorem dX11_way_65 : decode cX11_way 65 = .ok (.bipush (-4), 2) := by decide +kernel
theorem dX11_way_67 : decode cX11_way 67 = .ok (.ireturn, 1) := by decide +kernel
theorem dX11_of_0 : decode cX11_of 0 = .ok (.aload_n 0, 1) := by decide +kernel
theorem dX11_of_1 : decode cX11_of 1 = .ok (.getfield 12, 3) := by decide +kernel
theorem dX11_of_4 : decode cX11_of 4 = .ok (.iload_n 1, 1) := by decide +kernel
theorem dX11_of_5 : decode cX11_of 5 = .ok (.invokevirtual 74, 3) := by decide +kernel
theorem dX11_of_8 : decode cX11_of 8 = .ok (.astore_n 3, 1) := by decide +kernel
theorem dX11_of_9 : decode cX11_of 9 = .ok (.aload_n 3, 1) := by decide +kernel
theorem dX11_of_10 : decode cX11_of 10 = .ok (.ifnonnull 5, 3) := by decide +kernel
theorem dX11_of_13 : decode cX11_of 13 = .ok (.iconst (-1), 1) := by decide +kernel
theorem dX11_of_14 : decode cX11_of 14 = .ok (.ireturn, 1) := by decide +kernel
theorem dX11_of_15 : decode cX11_of 15 = .ok (.iload_n 2, 1) := by decide +kernel
theorem dX11_of_16 : decode cX11_of 16 = .ok (.tableswitch 59 0 3 #[32, 37, 42, 47], 32) := by decide +kernel
theorem dX11_of_48 : decode cX11_of 48 = .ok (.aload_n 3, 1) := by decide +kernel
theorem dX11_of_49 : decode cX11_of 49 = .ok (.getfield 78, 3) := by decide +kernel
theorem dX11_of_52 : decode cX11_of 52 = .ok (.ireturn, 1) := by decide +kernel
theorem dX11_of_53 : decode cX11_of 53 = .ok (.aload_n 3, 1) := by decide +kernel
theorem dX11_of_54 : decode cX11_of 54 = .ok (.getfield 83, 3) := by decide +kernel
theorem dX11_of_57 : decode cX11_of 57 = .ok (.ireturn, 1) := by decide +kernel
theorem dX11_of_58 : decode cX11_of 58 = .ok (.aload_n 3, 1) := by decide +kernel
theorem dX11_of_59 : decode cX11_of 59 = .ok (.getfield 86, 3) := by decide +kernel
theorem dX11_of_62 : decode cX11_of 62 = .ok (.ireturn, 1) := by decide +kernel
theorem dX11_of_63 : decode cX11_of 63 = .ok (.aload_n 0, 1) := by decide +kernel
theorem dX11_of_64 : decode cX11_of 64 = .ok (.getfield 12, 3) := by decide +kernel
theorem dX11_of_67 : decode cX11_of 67 = .ok (.getfield 89, 3) := by decide +kernel
theorem dX11_of_70 : decode cX11_of 70 = .ok (.iload_n 1, 1) := by decide +kernel
theorem dX11_of_71 : decode cX11_of 71 = .ok (.invokevirtual 92, 3) := by decide +kernel
theorem dX11_of_74 : decode cX11_of 74 = .ok (.ireturn, 1) := by decide +kernel
theorem dX11_of_75 : decode cX11_of 75 = .ok (.iconst (-1), 1) := by decide +kernel
theorem dX11_of_76 : decode cX11_of 76 = .ok (.ireturn, 1) := by decide +kernel
theorem dX11_row_0 : decode cX11_row 0 = .ok (.aload_n 0, 1) := by decide +kernel
theorem dX11_row_1 : decode cX11_row 1 = .ok (.getfield 12, 3) := by decide +kernel
theorem dX11_row_4 : decode cX11_row 4 = .ok (.iload_n 1, 1) := by decide +kernel
theorem dX11_row_5 : decode cX11_row 5 = .ok (.invokevirtual 74, 3) := by decide +kernel
theorem dX11_row_8 : decode cX11_row 8 = .ok (.astore 4, 2) := by decide +kernel
theorem dX11_row_10 : decode cX11_row 10 = .ok (.aload 4, 2) := by decide +kernel
theorem dX11_row_12 : decode cX11_row 12 = .ok (.ifnull 12, 3) := by decide +kernel
theorem dX11_row_15 : decode cX11_row 15 = .ok (.iload_n 2, 1) := by decide +kernel
theorem dX11_row_16 : decode cX11_row 16 = .ok (.ifCond .lt 8, 3) := by decide +kernel
theorem dX11_row_19 : decode cX11_row 19 = .ok (.iload_n 2, 1) := by decide +kernel
theorem dX11_row_20 : decode cX11_row 20 = .ok (.iconst 3, 1) := by decide +kernel
theorem dX11_row_21 : decode cX11_row 21 = .ok (.if_icmp .le 5, 3) := by decide +kernel
theorem dX11_row_24 : decode cX11_row 24 = .ok (.iconst (-1), 1) := by decide +kernel
theorem dX11_row_25 : decode cX11_row 25 = .ok (.ireturn, 1) := by decide +kernel
theorem dX11_row_26 : decode cX11_row 26 = .ok (.iload_n 3, 1) := by decide +kernel
theorem dX11_row_27 : decode cX11_row 27 = .ok (.invokestatic 60, 3) := by decide +kernel
theorem dX11_row_30 : decode cX11_row 30 = .ok (.ifCond .ne 6, 3) := by decide +kernel
theorem dX11_row_33 : decode cX11_row 33 = .ok (.bipush (-2), 2) := by decide +kernel
theorem dX11_row_35 : decode cX11_row 35 = .ok (.ireturn, 1) := by decide +kernel
theorem dX11_row_36 : decode cX11_row 36 = .ok (.aload 4, 2) := by decide +kernel
theorem dX11_row_38 : decode cX11_row 38 = .ok (.instanceof 96, 3) := by decide +kernel
theorem dX11_row_41 : decode cX11_row 41 = .ok (.ifCond .eq 32, 3) := by decide +kernel
theorem dX11_row_44 : decode cX11_row 44 = .ok (.aload 4, 2) := by decide +kernel
theorem dX11_row_46 : decode cX11_row 46 = .ok (.checkcast 96, 3) := by decide +kernel
theorem dX11_row_49 : decode cX11_row 49 = .ok (.astore 5, 2) := by decide +kernel
theorem dX11_row_51 : decode cX11_row 51 = .ok (.aload_n 0, 1) := by decide +kernel
theorem dX11_row_52 : decode cX11_row 52 = .ok (.getfield 12, 3) := by decide +kernel
theorem dX11_row_55 : decode cX11_row 55 = .ok (.iload_n 1, 1) := by decide +kernel
theorem dX11_row_56 : decode cX11_row 56 = .ok (.aload 5, 2) := by decide +kernel
theorem dX11_row_58 : decode cX11_row 58 = .ok (.iload_n 2, 1) := by decide +kernel
theorem dX11_row_59 : decode cX11_row 59 = .ok (.iload_n 3, 1) := by decide +kernel
theorem dX11_row_60 : decode cX11_row 60 = .ok (.invokevirtual 98, 3) := by decide +kernel
theorem dX11_row_63 : decode cX11_row 63 = .ok (.invokevirtual 102, 3) := by decide +kernel
theorem dX11_row_66 : decode cX11_row 66 = .ok (.aload 5, 2) := by decide +kernel
theorem dX11_row_68 : decode cX11_row 68 = .ok (.iload_n 2, 1) := by decide +kernel
theorem dX11_row_69 : decode cX11_row 69 = .ok (.invokevirtual 106, 3) := by decide +kernel
theorem dX11_row_72 : decode cX11_row 72 = .ok (.ireturn, 1) := by decide +kernel
theorem dX11_row_73 : decode cX11_row 73 = .ok (.bipush (-3), 2) := by decide +kernel
theorem dX11_row_75 : decode cX11_row 75 = .ok (.ireturn, 1) := by decide +kernel
theorem dX11_write_0 : decode cX11_write 0 = .ok (.aload_n 0, 1) := by decide +kernel
theorem dX11_write_1 : decode cX11_write 1 = .ok (.getfield 12, 3) := by decide +kernel
theorem dX11_write_4 : decode cX11_write 4 = .ok (.iload_n 1, 1) := by decide +kernel
theorem dX11_write_5 : decode cX11_write 5 = .ok (.invokevirtual 74, 3) := by decide +kernel
theorem dX11_write_8 : decode cX11_write 8 = .ok (.astore_n 3, 1) := by decide +kernel
theorem dX11_write_9 : decode cX11_write 9 = .ok (.aload_n 3, 1) := by decide +kernel
theorem dX11_write_10 : decode cX11_write 10 = .ok (.ifnonnull 10, 3) := by decide +kernel
theorem dX11_write_13 : decode cX11_write 13 = .ok (.iload_n 1, 1) := by decide +kernel
theorem dX11_write_14 : decode cX11_write 14 = .ok (.iconst (-1), 1) := by decide +kernel
theorem dX11_write_15 : decode cX11_write 15 = .ok (.if_icmp .eq 5, 3) := by decide +kernel
theorem dX11_write_18 : decode cX11_write 18 = .ok (.iconst (-1), 1) := by decide +kernel
theorem dX11_write_19 : decode cX11_write 19 = .ok (.ireturn, 1) := by decide +kernel
theorem dX11_write_20 : decode cX11_write 20 = .ok (.iload_n 2, 1) := by decide +kernel
theorem dX11_write_21 : decode cX11_write 21 = .ok (.invokestatic 109, 3) := by decide +kernel
theorem dX11_write_24 : decode cX11_write 24 = .ok (.ifCond .ne 6, 3) := by decide +kernel
theorem dX11_write_27 : decode cX11_write 27 = .ok (.bipush (-2), 2) := by decide +kernel
theorem dX11_write_29 : decode cX11_write 29 = .ok (.ireturn, 1) := by decide +kernel
theorem dX11_write_30 : decode cX11_write 30 = .ok (.aload_n 0, 1) := by decide +kernel
theorem dX11_write_31 : decode cX11_write 31 = .ok (.getfield 12, 3) := by decide +kernel
theorem dX11_write_34 : decode cX11_write 34 = .ok (.getfield 89, 3) := by decide +kernel
theorem dX11_write_37 : decode cX11_write 37 = .ok (.invokevirtual 38, 3) := by decide +kernel
theorem dX11_write_40 : decode cX11_write 40 = .ok (.iload_n 2, 1) := by decide +kernel
theorem dX11_write_41 : decode cX11_write 41 = .ok (.iadd, 1) := by decide +kernel
theorem dX11_write_42 : decode cX11_write 42 = .ok (.bipush 40, 2) := by decide +kernel
theorem dX11_write_44 : decode cX11_write 44 = .ok (.if_icmp .le 6, 3) := by decide +kernel
theorem dX11_write_47 : decode cX11_write 47 = .ok (.bipush (-4), 2) := by decide +kernel
theorem dX11_write_49 : decode cX11_write 49 = .ok (.ireturn, 1) := by decide +kernel
theorem dX11_write_50 : decode cX11_write 50 = .ok (.iconst 0, 1) := by decide +kernel
theorem dX11_write_51 : decode cX11_write 51 = .ok (.istore 4, 2) := by decide +kernel
theorem dX11_write_53 : decode cX11_write 53 = .ok (.iload 4, 2) := by decide +kernel
theorem dX11_write_55 : decode cX11_write 55 = .ok (.iload_n 2, 1) := by decide +kernel
theorem dX11_write_56 : decode cX11_write 56 = .ok (.if_icmp .ge 21, 3) := by decide +kernel
theorem dX11_write_59 : decode cX11_write 59 = .ok (.aload_n 0, 1) := by decide +kernel
theorem dX11_write_60 : decode cX11_write 60 = .ok (.getfield 12, 3) := by decide +kernel
theorem dX11_write_63 : decode cX11_write 63 = .ok (.getfield 89, 3) := by decide +kernel
theorem dX11_write_66 : decode cX11_write 66 = .ok (.iload_n 1, 1) := by decide +kernel
theorem dX11_write_67 : decode cX11_write 67 = .ok (.invokevirtual 32, 3) := by decide +kernel
theorem dX11_write_70 : decode cX11_write 70 = .ok (.pop, 1) := by decide +kernel
theorem dX11_write_71 : decode cX11_write 71 = .ok (.iinc 4 1, 3) := by decide +kernel
theorem dX11_write_74 : decode cX11_write 74 = .ok (.goto (-21), 3) := by decide +kernel
theorem dX11_write_77 : decode cX11_write 77 = .ok (.aload_n 0, 1) := by decide +kernel
theorem dX11_write_78 : decode cX11_write 78 = .ok (.getfield 12, 3) := by decide +kernel
theorem dX11_write_81 : decode cX11_write 81 = .ok (.dup, 1) := by decide +kernel
theorem dX11_write_82 : decode cX11_write 82 = .ok (.getfield 112, 3) := by decide +kernel
theorem dX11_write_85 : decode cX11_write 85 = .ok (.aload_n 0, 1) := by decide +kernel
theorem dX11_write_86 : decode cX11_write 86 = .ok (.getfield 12, 3) := by decide +kernel
theorem dX11_write_89 : decode cX11_write 89 = .ok (.iload_n 1, 1) := by decide +kernel
theorem dX11_write_90 : decode cX11_write 90 = .ok (.iload_n 2, 1) := by decide +kernel
theorem dX11_write_91 : decode cX11_write 91 = .ok (.invokevirtual 115, 3) := by decide +kernel
theorem dX11_write_94 : decode cX11_write 94 = .ok (.iadd, 1) := by decide +kernel
theorem dX11_write_95 : decode cX11_write 95 = .ok (.putfield 112, 3) := by decide +kernel
theorem dX11_write_98 : decode cX11_write 98 = .ok (.aload_n 0, 1) := by decide +kernel
theorem dX11_write_99 : decode cX11_write 99 = .ok (.getfield 12, 3) := by decide +kernel
theorem dX11_write_102 : decode cX11_write 102 = .ok (.dup, 1) := by decide +kernel
theorem dX11_write_103 : decode cX11_write 103 = .ok (.getfield 119, 3) := by decide +kernel
theorem dX11_write_106 : decode cX11_write 106 = .ok (.aload_n 0, 1) := by decide +kernel
theorem dX11_write_107 : decode cX11_write 107 = .ok (.getfield 12, 3) := by decide +kernel
theorem dX11_write_110 : decode cX11_write 110 = .ok (.iload_n 1, 1) := by decide +kernel
theorem dX11_write_111 : decode cX11_write 111 = .ok (.iload_n 2, 1) := by decide +kernel
theorem dX11_write_112 : decode cX11_write 112 = .ok (.invokevirtual 122, 3) := by decide +kernel
theorem dX11_write_115 : decode cX11_write 115 = .ok (.iadd, 1) := by decide +kernel
theorem dX11_write_116 : decode cX11_write 116 = .ok (.putfield 119, 3) := by decide +kernel
theorem dX11_write_119 : decode cX11_write 119 = .ok (.aload_n 0, 1) := by decide +kernel
theorem dX11_write_120 : decode cX11_write 120 = .ok (.getfield 12, 3) := by decide +kernel
theorem dX11_write_123 : decode cX11_write 123 = .ok (.getfield 89, 3) := by decide +kernel
theorem dX11_write_126 : decode cX11_write 126 = .ok (.invokevirtual 38, 3) := by decide +kernel
theorem dX11_write_129 : decode cX11_write 129 = .ok (.ireturn, 1) := by decide +kernel
theorem dX11_tear_0 : decode cX11_tear 0 = .ok (.aload_n 0, 1) := by decide +kernel
theorem dX11_tear_1 : decode cX11_tear 1 = .ok (.getfield 12, 3) := by decide +kernel
theorem dX11_tear_4 : decode cX11_tear 4 = .ok (.getfield 89, 3) := by decide +kernel
theorem dX11_tear_7 : decode cX11_tear 7 = .ok (.invokevirtual 38, 3) := by decide +kernel
theorem dX11_tear_10 : decode cX11_tear 10 = .ok (.istore_n 1, 1) := by decide +kernel
theorem dX11_tear_11 : decode cX11_tear 11 = .ok (.aload_n 0, 1) := by decide +kernel
theorem dX11_tear_12 : decode cX11_tear 12 = .ok (.getfield 12, 3) := by decide +kernel
theorem dX11_tear_15 : decode cX11_tear 15 = .ok (.getfield 89, 3) := by decide +kernel
theorem dX11_tear_18 : decode cX11_tear 18 = .ok (.invokevirtual 53, 3) := by decide +kernel
theorem dX11_tear_21 : decode cX11_tear 21 = .ok (.aload_n 0, 1) := by decide +kernel
theorem dX11_tear_22 : decode cX11_tear 22 = .ok (.getfield 12, 3) := by decide +kernel
theorem dX11_tear_25 : decode cX11_tear 25 = .ok (.getfield 125, 3) := by decide +kernel
theorem dX11_tear_28 : decode cX11_tear 28 = .ok (.invokevirtual 53, 3) := by decide +kernel
theorem dX11_tear_31 : decode cX11_tear 31 = .ok (.aload_n 0, 1) := by decide +kernel
theorem dX11_tear_32 : decode cX11_tear 32 = .ok (.getfield 12, 3) := by decide +kernel
theorem dX11_tear_35 : decode cX11_tear 35 = .ok (.iconst 0, 1) := by decide +kernel
theorem dX11_tear_36 : decode cX11_tear 36 = .ok (.putfield 112, 3) := by decide +kernel
theorem dX11_tear_39 : decode cX11_tear 39 = .ok (.aload_n 0, 1) := by decide +kernel
theorem dX11_tear_40 : decode cX11_tear 40 = .ok (.getfield 12, 3) := by decide +kernel
theorem dX11_tear_43 : decode cX11_tear 43 = .ok (.iconst 0, 1) := by decide +kernel
theorem dX11_tear_44 : decode cX11_tear 44 = .ok (.putfield 119, 3) := by decide +kernel
theorem dX11_tear_47 : decode cX11_tear 47 = .ok (.iload_n 1, 1) := by decide +kernel
theorem dX11_tear_48 : decode cX11_tear 48 = .ok (.ireturn, 1) := by decide +kernel
theorem dX11_line_0 : decode cX11_line 0 = .ok (.aload_n 0, 1) := by decide +kernel
theorem dX11_line_1 : decode cX11_line 1 = .ok (.getfield 12, 3) := by decide +kernel
theorem dX11_line_4 : decode cX11_line 4 = .ok (.getfield 89, 3) := by decide +kernel
theorem dX11_line_7 : decode cX11_line 7 = .ok (.iload_n 1, 1) := by decide +kernel
theorem dX11_line_8 : decode cX11_line 8 = .ok (.invokevirtual 128, 3) := by decide +kernel
theorem dX11_line_11 : decode cX11_line 11 = .ok (.ifCond .eq 10, 3) := by decide +kernel
theorem dX11_line_14 : decode cX11_line 14 = .ok (.iload_n 2, 1) := by decide +kernel
theorem dX11_line_15 : decode cX11_line 15 = .ok (.invokestatic 131, 3) := by decide +kernel
theorem dX11_line_18 : decode cX11_line 18 = .ok (.ifCond .ne 5, 3) := by decide +kernel
theorem dX11_line_21 : decode cX11_line 21 = .ok (.iconst (-1), 1) := by decide +kernel
theorem dX11_line_22 : decode cX11_line 22 = .ok (.ireturn, 1) := by decide +kernel
theorem dX11_line_23 : decode cX11_line 23 = .ok (.iload_n 2, 1) := by decide +kernel
theorem dX11_line_24 : decode cX11_line 24 = .ok (.iconst 1, 1) := by decide +kernel
theorem dX11_line_25 : decode cX11_line 25 = .ok (.if_icmp .ne 12, 3) := by decide +kernel
theorem dX11_line_28 : decode cX11_line 28 = .ok (.aload_n 0, 1) := by decide +kernel
theorem dX11_line_29 : decode cX11_line 29 = .ok (.getfield 12, 3) := by decide +kernel
theorem dX11_line_32 : decode cX11_line 32 = .ok (.iload_n 1, 1) := by decide +kernel
theorem dX11_line_33 : decode cX11_line 33 = .ok (.invokevirtual 134, 3) := by decide +kernel
theorem dX11_line_36 : decode cX11_line 36 = .ok (.ireturn, 1) := by decide +kernel
theorem dX11_line_37 : decode cX11_line 37 = .ok (.aload_n 0, 1) := by decide +kernel
theorem dX11_line_38 : decode cX11_line 38 = .ok (.getfield 12, 3) := by decide +kernel
theorem dX11_line_41 : decode cX11_line 41 = .ok (.getfield 89, 3) := by decide +kernel
theorem dX11_line_44 : decode cX11_line 44 = .ok (.iload_n 1, 1) := by decide +kernel
theorem dX11_line_45 : decode cX11_line 45 = .ok (.invokevirtual 137, 3) := by decide +kernel
theorem dX11_line_48 : decode cX11_line 48 = .ok (.istore_n 3, 1) := by decide +kernel
theorem dX11_line_49 : decode cX11_line 49 = .ok (.iload_n 3, 1) := by decide +kernel
theorem dX11_line_50 : decode cX11_line 50 = .ok (.iconst (-1), 1) := by decide +kernel
theorem dX11_line_51 : decode cX11_line 51 = .ok (.if_icmp .ne 8, 3) := by decide +kernel
theorem dX11_line_54 : decode cX11_line 54 = .ok (.bipush (-5), 2) := by decide +kernel
theorem dX11_line_56 : decode cX11_line 56 = .ok (.goto 4, 3) := by decide +kernel
theorem dX11_line_59 : decode cX11_line 59 = .ok (.iload_n 3, 1) := by decide +kernel
theorem dX11_line_60 : decode cX11_line 60 = .ok (.ireturn, 1) := by decide +kernel
theorem dX11_told_0 : decode cX11_told 0 = .ok (.iload_n 1, 1) := by decide +kernel
theorem dX11_told_1 : decode cX11_told 1 = .ok (.tableswitch 115 0 6 #[43, 54, 62, 70, 81, 92, 103], 43) := by decide +kernel
theorem dX11_told_44 : decode cX11_told 44 = .ok (.aload_n 0, 1) := by decide +kernel
theorem dX11_told_45 : decode cX11_told 45 = .ok (.getfield 12, 3) := by decide +kernel
theorem dX11_told_48 : decode cX11_told 48 = .ok (.getfield 89, 3) := by decide +kernel
theorem dX11_told_51 : decode cX11_told 51 = .ok (.invokevirtual 38, 3) := by decide +kernel
theorem dX11_told_54 : decode cX11_told 54 = .ok (.ireturn, 1) := by decide +kernel
theorem dX11_told_55 : decode cX11_told 55 = .ok (.aload_n 0, 1) := by decide +kernel
theorem dX11_told_56 : decode cX11_told 56 = .ok (.getfield 12, 3) := by decide +kernel
theorem dX11_told_59 : decode cX11_told 59 = .ok (.getfield 112, 3) := by decide +kernel
theorem dX11_told_62 : decode cX11_told 62 = .ok (.ireturn, 1) := by decide +kernel
theorem dX11_told_63 : decode cX11_told 63 = .ok (.aload_n 0, 1) := by decide +kernel
theorem dX11_told_64 : decode cX11_told 64 = .ok (.getfield 12, 3) := by decide +kernel
theorem dX11_told_67 : decode cX11_told 67 = .ok (.getfield 119, 3) := by decide +kernel
theorem dX11_told_70 : decode cX11_told 70 = .ok (.ireturn, 1) := by decide +kernel
theorem dX11_told_71 : decode cX11_told 71 = .ok (.aload_n 0, 1) := by decide +kernel
theorem dX11_told_72 : decode cX11_told 72 = .ok (.getfield 12, 3) := by decide +kernel
theorem dX11_told_75 : decode cX11_told 75 = .ok (.getfield 56, 3) := by decide +kernel
theorem dX11_told_78 : decode cX11_told 78 = .ok (.getfield 140, 3) := by decide +kernel
theorem dX11_told_81 : decode cX11_told 81 = .ok (.ireturn, 1) := by decide +kernel
theorem dX11_told_82 : decode cX11_told 82 = .ok (.aload_n 0, 1) := by decide +kernel
theorem dX11_told_83 : decode cX11_told 83 = .ok (.getfield 12, 3) := by decide +kernel
theorem dX11_told_86 : decode cX11_told 86 = .ok (.getfield 56, 3) := by decide +kernel
theorem dX11_told_89 : decode cX11_told 89 = .ok (.getfield 143, 3) := by decide +kernel
theorem dX11_told_92 : decode cX11_told 92 = .ok (.ireturn, 1) := by decide +kernel
theorem dX11_told_93 : decode cX11_told 93 = .ok (.aload_n 0, 1) := by decide +kernel
theorem dX11_told_94 : decode cX11_told 94 = .ok (.getfield 12, 3) := by decide +kernel
theorem dX11_told_97 : decode cX11_told 97 = .ok (.getfield 56, 3) := by decide +kernel
theorem dX11_told_100 : decode cX11_told 100 = .ok (.getfield 146, 3) := by decide +kernel
theorem dX11_told_103 : decode cX11_told 103 = .ok (.ireturn, 1) := by decide +kernel
theorem dX11_told_104 : decode cX11_told 104 = .ok (.aload_n 0, 1) := by decide +kernel
theorem dX11_told_105 : decode cX11_told 105 = .ok (.getfield 12, 3) := by decide +kernel
theorem dX11_told_108 : decode cX11_told 108 = .ok (.getfield 89, 3) := by decide +kernel
theorem dX11_told_111 : decode cX11_told 111 = .ok (.iconst (-1), 1) := by decide +kernel
theorem dX11_told_112 : decode cX11_told 112 = .ok (.invokevirtual 92, 3) := by decide +kernel
theorem dX11_told_115 : decode cX11_told 115 = .ok (.ireturn, 1) := by decide +kernel
theorem dX11_told_116 : decode cX11_told 116 = .ok (.iload_n 1, 1) := by decide +kernel
theorem dX11_told_117 : decode cX11_told 117 = .ok (.bipush 10, 2) := by decide +kernel
theorem dX11_told_119 : decode cX11_told 119 = .ok (.if_icmp .lt 17, 3) := by decide +kernel
theorem dX11_told_122 : decode cX11_told 122 = .ok (.iload_n 1, 1) := by decide +kernel
theorem dX11_told_123 : decode cX11_told 123 = .ok (.bipush 10, 2) := by decide +kernel
theorem dX11_told_125 : decode cX11_told 125 = .ok (.isub, 1) := by decide +kernel
theorem dX11_told_126 : decode cX11_told 126 = .ok (.aload_n 0, 1) := by decide +kernel
theorem dX11_told_127 : decode cX11_told 127 = .ok (.getfield 12, 3) := by decide +kernel
theorem dX11_told_130 : decode cX11_told 130 = .ok (.invokevirtual 149, 3) := by decide +kernel
theorem dX11_told_133 : decode cX11_told 133 = .ok (.if_icmp .lt 5, 3) := by decide +kernel
theorem dX11_told_136 : decode cX11_told 136 = .ok (.iconst (-1), 1) := by decide +kernel
theorem dX11_told_137 : decode cX11_told 137 = .ok (.ireturn, 1) := by decide +kernel
theorem dX11_told_138 : decode cX11_told 138 = .ok (.aload_n 0, 1) := by decide +kernel
theorem dX11_told_139 : decode cX11_told 139 = .ok (.getfield 12, 3) := by decide +kernel
theorem dX11_told_142 : decode cX11_told 142 = .ok (.iload_n 1, 1) := by decide +kernel
theorem dX11_told_143 : decode cX11_told 143 = .ok (.bipush 10, 2) := by decide +kernel
theorem dX11_told_145 : decode cX11_told 145 = .ok (.isub, 1) := by decide +kernel
