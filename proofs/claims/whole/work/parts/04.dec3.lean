theorem dX12_mend_38 : decode cX12_mend 38 = .ok (.istore 6, 2) := by decide +kernel
theorem dX12_mend_40 : decode cX12_mend 40 = .ok (.iload 6, 2) := by decide +kernel
theorem dX12_mend_42 : decode cX12_mend 42 = .ok (.aload_n 0, 1) := by decide +kernel
theorem dX12_mend_43 : decode cX12_mend 43 = .ok (.getfield 9, 3) := by decide +kernel
theorem dX12_mend_46 : decode cX12_mend 46 = .ok (.bipush 8, 2) := by decide +kernel
theorem dX12_mend_48 : decode cX12_mend 48 = .ok (.iaload, 1) := by decide +kernel
theorem dX12_mend_49 : decode cX12_mend 49 = .ok (.if_icmp .ge 74, 3) := by decide +kernel
theorem dX12_mend_52 : decode cX12_mend 52 = .ok (.aload_n 0, 1) := by decide +kernel
theorem dX12_mend_53 : decode cX12_mend 53 = .ok (.getfield 9, 3) := by decide +kernel
theorem dX12_mend_56 : decode cX12_mend 56 = .ok (.bipush 53, 2) := by decide +kernel
theorem dX12_mend_58 : decode cX12_mend 58 = .ok (.iload 6, 2) := by decide +kernel
theorem dX12_mend_60 : decode cX12_mend 60 = .ok (.iadd, 1) := by decide +kernel
theorem dX12_mend_61 : decode cX12_mend 61 = .ok (.iaload, 1) := by decide +kernel
theorem dX12_mend_62 : decode cX12_mend 62 = .ok (.istore 7, 2) := by decide +kernel
theorem dX12_mend_64 : decode cX12_mend 64 = .ok (.aload_n 0, 1) := by decide +kernel
theorem dX12_mend_65 : decode cX12_mend 65 = .ok (.getfield 9, 3) := by decide +kernel
theorem dX12_mend_68 : decode cX12_mend 68 = .ok (.bipush 53, 2) := by decide +kernel
theorem dX12_mend_70 : decode cX12_mend 70 = .ok (.iload 6, 2) := by decide +kernel
theorem dX12_mend_72 : decode cX12_mend 72 = .ok (.iadd, 1) := by decide +kernel
theorem dX12_mend_73 : decode cX12_mend 73 = .ok (.iload_n 1, 1) := by decide +kernel
theorem dX12_mend_74 : decode cX12_mend 74 = .ok (.iastore, 1) := by decide +kernel
theorem dX12_mend_75 : decode cX12_mend 75 = .ok (.aload_n 0, 1) := by decide +kernel
theorem dX12_mend_76 : decode cX12_mend 76 = .ok (.invokevirtual 178, 3) := by decide +kernel
theorem dX12_mend_79 : decode cX12_mend 79 = .ok (.lstore 8, 2) := by decide +kernel
theorem dX12_mend_81 : decode cX12_mend 81 = .ok (.aload_n 0, 1) := by decide +kernel
theorem dX12_mend_82 : decode cX12_mend 82 = .ok (.getfield 9, 3) := by decide +kernel
theorem dX12_mend_85 : decode cX12_mend 85 = .ok (.bipush 53, 2) := by decide +kernel
theorem dX12_mend_87 : decode cX12_mend 87 = .ok (.iload 6, 2) := by decide +kernel
theorem dX12_mend_89 : decode cX12_mend 89 = .ok (.iadd, 1) := by decide +kernel
theorem dX12_mend_90 : decode cX12_mend 90 = .ok (.iload 7, 2) := by decide +kernel
theorem dX12_mend_92 : decode cX12_mend 92 = .ok (.iastore, 1) := by decide +kernel
theorem dX12_mend_93 : decode cX12_mend 93 = .ok (.lload 8, 2) := by decide +kernel
theorem dX12_mend_95 : decode cX12_mend 95 = .ok (.lload_n 2, 1) := by decide +kernel
theorem dX12_mend_96 : decode cX12_mend 96 = .ok (.lcmp, 1) := by decide +kernel
theorem dX12_mend_97 : decode cX12_mend 97 = .ok (.ifCond .le 8, 3) := by decide +kernel
theorem dX12_mend_100 : decode cX12_mend 100 = .ok (.iload 6, 2) := by decide +kernel
theorem dX12_mend_102 : decode cX12_mend 102 = .ok (.goto 5, 3) := by decide +kernel
theorem dX12_mend_105 : decode cX12_mend 105 = .ok (.iload 4, 2) := by decide +kernel
theorem dX12_mend_107 : decode cX12_mend 107 = .ok (.istore 4, 2) := by decide +kernel
theorem dX12_mend_109 : decode cX12_mend 109 = .ok (.lload 8, 2) := by decide +kernel
theorem dX12_mend_111 : decode cX12_mend 111 = .ok (.lload_n 2, 1) := by decide +kernel
theorem dX12_mend_112 : decode cX12_mend 112 = .ok (.lcmp, 1) := by decide +kernel
theorem dX12_mend_113 : decode cX12_mend 113 = .ok (.ifCond .le 8, 3) := by decide +kernel
theorem dX12_mend_116 : decode cX12_mend 116 = .ok (.lload 8, 2) := by decide +kernel
theorem dX12_mend_118 : decode cX12_mend 118 = .ok (.goto 4, 3) := by decide +kernel
theorem dX12_mend_121 : decode cX12_mend 121 = .ok (.lload_n 2, 1) := by decide +kernel
theorem dX12_mend_122 : decode cX12_mend 122 = .ok (.lstore_n 2, 1) := by decide +kernel
theorem dX12_mend_123 : decode cX12_mend 123 = .ok (.iinc 5 1, 3) := by decide +kernel
theorem dX12_mend_126 : decode cX12_mend 126 = .ok (.goto (-104), 3) := by decide +kernel
theorem dX12_mend_129 : decode cX12_mend 129 = .ok (.iload 4, 2) := by decide +kernel
theorem dX12_mend_131 : decode cX12_mend 131 = .ok (.ireturn, 1) := by decide +kernel
theorem dX12_where_0 : decode cX12_where 0 = .ok (.aload_n 0, 1) := by decide +kernel
theorem dX12_where_1 : decode cX12_where 1 = .ok (.invokevirtual 154, 3) := by decide +kernel
theorem dX12_where_4 : decode cX12_where 4 = .ok (.istore_n 2, 1) := by decide +kernel
theorem dX12_where_5 : decode cX12_where 5 = .ok (.iload_n 1, 1) := by decide +kernel
theorem dX12_where_6 : decode cX12_where 6 = .ok (.iconst 0, 1) := by decide +kernel
theorem dX12_where_7 : decode cX12_where 7 = .ok (.aload_n 0, 1) := by decide +kernel
theorem dX12_where_8 : decode cX12_where 8 = .ok (.invokevirtual 157, 3) := by decide +kernel
theorem dX12_where_11 : decode cX12_where 11 = .ok (.iconst 1, 1) := by decide +kernel
theorem dX12_where_12 : decode cX12_where 12 = .ok (.isub, 1) := by decide +kernel
theorem dX12_where_13 : decode cX12_where 13 = .ok (.invokestatic 38, 3) := by decide +kernel
theorem dX12_where_16 : decode cX12_where 16 = .ok (.ifCond .eq 8, 3) := by decide +kernel
theorem dX12_where_19 : decode cX12_where 19 = .ok (.iload_n 1, 1) := by decide +kernel
theorem dX12_where_20 : decode cX12_where 20 = .ok (.iload_n 2, 1) := by decide +kernel
theorem dX12_where_21 : decode cX12_where 21 = .ok (.if_icmp .lt 5, 3) := by decide +kernel
theorem dX12_where_24 : decode cX12_where 24 = .ok (.iconst (-1), 1) := by decide +kernel
theorem dX12_where_25 : decode cX12_where 25 = .ok (.ireturn, 1) := by decide +kernel
theorem dX12_where_26 : decode cX12_where 26 = .ok (.iconst 0, 1) := by decide +kernel
theorem dX12_where_27 : decode cX12_where 27 = .ok (.istore_n 3, 1) := by decide +kernel
theorem dX12_where_28 : decode cX12_where 28 = .ok (.iload_n 3, 1) := by decide +kernel
theorem dX12_where_29 : decode cX12_where 29 = .ok (.iload_n 2, 1) := by decide +kernel
theorem dX12_where_30 : decode cX12_where 30 = .ok (.if_icmp .ge 20, 3) := by decide +kernel
theorem dX12_where_33 : decode cX12_where 33 = .ok (.aload_n 0, 1) := by decide +kernel
theorem dX12_where_34 : decode cX12_where 34 = .ok (.getfield 28, 3) := by decide +kernel
theorem dX12_where_37 : decode cX12_where 37 = .ok (.iload_n 3, 1) := by decide +kernel
theorem dX12_where_38 : decode cX12_where 38 = .ok (.aload_n 0, 1) := by decide +kernel
theorem dX12_where_39 : decode cX12_where 39 = .ok (.iload_n 3, 1) := by decide +kernel
theorem dX12_where_40 : decode cX12_where 40 = .ok (.invokevirtual 148, 3) := by decide +kernel
theorem dX12_where_43 : decode cX12_where 43 = .ok (.iastore, 1) := by decide +kernel
theorem dX12_where_44 : decode cX12_where 44 = .ok (.iinc 3 1, 3) := by decide +kernel
theorem dX12_where_47 : decode cX12_where 47 = .ok (.goto (-19), 3) := by decide +kernel
theorem dX12_where_50 : decode cX12_where 50 = .ok (.iconst 0, 1) := by decide +kernel
theorem dX12_where_51 : decode cX12_where 51 = .ok (.istore_n 3, 1) := by decide +kernel
theorem dX12_where_52 : decode cX12_where 52 = .ok (.iload_n 3, 1) := by decide +kernel
theorem dX12_where_53 : decode cX12_where 53 = .ok (.iload_n 2, 1) := by decide +kernel
theorem dX12_where_54 : decode cX12_where 54 = .ok (.if_icmp .ge 83, 3) := by decide +kernel
theorem dX12_where_57 : decode cX12_where 57 = .ok (.iconst 0, 1) := by decide +kernel
theorem dX12_where_58 : decode cX12_where 58 = .ok (.istore 4, 2) := by decide +kernel
theorem dX12_where_60 : decode cX12_where 60 = .ok (.iconst 0, 1) := by decide +kernel
theorem dX12_where_61 : decode cX12_where 61 = .ok (.istore 5, 2) := by decide +kernel
theorem dX12_where_63 : decode cX12_where 63 = .ok (.iload 5, 2) := by decide +kernel
theorem dX12_where_65 : decode cX12_where 65 = .ok (.iload_n 2, 1) := by decide +kernel
theorem dX12_where_66 : decode cX12_where 66 = .ok (.if_icmp .ge 57, 3) := by decide +kernel
theorem dX12_where_69 : decode cX12_where 69 = .ok (.iload 4, 2) := by decide +kernel
theorem dX12_where_71 : decode cX12_where 71 = .ok (.aload_n 0, 1) := by decide +kernel
theorem dX12_where_72 : decode cX12_where 72 = .ok (.getfield 28, 3) := by decide +kernel
theorem dX12_where_75 : decode cX12_where 75 = .ok (.iload 5, 2) := by decide +kernel
theorem dX12_where_77 : decode cX12_where 77 = .ok (.iaload, 1) := by decide +kernel
theorem dX12_where_78 : decode cX12_where 78 = .ok (.aload_n 0, 1) := by decide +kernel
theorem dX12_where_79 : decode cX12_where 79 = .ok (.getfield 28, 3) := by decide +kernel
theorem dX12_where_82 : decode cX12_where 82 = .ok (.iload_n 3, 1) := by decide +kernel
theorem dX12_where_83 : decode cX12_where 83 = .ok (.iaload, 1) := by decide +kernel
theorem dX12_where_84 : decode cX12_where 84 = .ok (.if_icmp .gt 25, 3) := by decide +kernel
theorem dX12_where_87 : decode cX12_where 87 = .ok (.aload_n 0, 1) := by decide +kernel
theorem dX12_where_88 : decode cX12_where 88 = .ok (.getfield 28, 3) := by decide +kernel
theorem dX12_where_91 : decode cX12_where 91 = .ok (.iload 5, 2) := by decide +kernel
theorem dX12_where_93 : decode cX12_where 93 = .ok (.iaload, 1) := by decide +kernel
theorem dX12_where_94 : decode cX12_where 94 = .ok (.aload_n 0, 1) := by decide +kernel
theorem dX12_where_95 : decode cX12_where 95 = .ok (.getfield 28, 3) := by decide +kernel
theorem dX12_where_98 : decode cX12_where 98 = .ok (.iload_n 3, 1) := by decide +kernel
theorem dX12_where_99 : decode cX12_where 99 = .ok (.iaload, 1) := by decide +kernel
theorem dX12_where_100 : decode cX12_where 100 = .ok (.if_icmp .ne 13, 3) := by decide +kernel
theorem dX12_where_103 : decode cX12_where 103 = .ok (.iload 5, 2) := by decide +kernel
theorem dX12_where_105 : decode cX12_where 105 = .ok (.iload_n 3, 1) := by decide +kernel
theorem dX12_where_106 : decode cX12_where 106 = .ok (.if_icmp .ge 7, 3) := by decide +kernel
theorem dX12_where_109 : decode cX12_where 109 = .ok (.iconst 1, 1) := by decide +kernel
theorem dX12_where_110 : decode cX12_where 110 = .ok (.goto 4, 3) := by decide +kernel
theorem dX12_where_113 : decode cX12_where 113 = .ok (.iconst 0, 1) := by decide +kernel
theorem dX12_where_114 : decode cX12_where 114 = .ok (.iadd, 1) := by decide +kernel
theorem dX12_where_115 : decode cX12_where 115 = .ok (.istore 4, 2) := by decide +kernel
theorem dX12_where_117 : decode cX12_where 117 = .ok (.iinc 5 1, 3) := by decide +kernel
theorem dX12_where_120 : decode cX12_where 120 = .ok (.goto (-57), 3) := by decide +kernel
theorem dX12_where_123 : decode cX12_where 123 = .ok (.iload 4, 2) := by decide +kernel
theorem dX12_where_125 : decode cX12_where 125 = .ok (.iload_n 1, 1) := by decide +kernel
theorem dX12_where_126 : decode cX12_where 126 = .ok (.if_icmp .ne 5, 3) := by decide +kernel
theorem dX12_where_129 : decode cX12_where 129 = .ok (.iload_n 3, 1) := by decide +kernel
theorem dX12_where_130 : decode cX12_where 130 = .ok (.ireturn, 1) := by decide +kernel
theorem dX12_where_131 : decode cX12_where 131 = .ok (.iinc 3 1, 3) := by decide +kernel
theorem dX12_where_134 : decode cX12_where 134 = .ok (.goto (-82), 3) := by decide +kernel
theorem dX12_where_137 : decode cX12_where 137 = .ok (.bipush (-5), 2) := by decide +kernel
theorem dX12_where_139 : decode cX12_where 139 = .ok (.ireturn, 1) := by decide +kernel
theorem dX12_left_0 : decode cX12_left 0 = .ok (.aload_n 0, 1) := by decide +kernel
theorem dX12_left_1 : decode cX12_left 1 = .ok (.invokevirtual 163, 3) := by decide +kernel
theorem dX12_left_4 : decode cX12_left 4 = .ok (.iconst 0, 1) := by decide +kernel
theorem dX12_left_5 : decode cX12_left 5 = .ok (.istore_n 1, 1) := by decide +kernel
theorem dX12_left_6 : decode cX12_left 6 = .ok (.iconst 0, 1) := by decide +kernel
theorem dX12_left_7 : decode cX12_left 7 = .ok (.istore_n 2, 1) := by decide +kernel
theorem dX12_left_8 : decode cX12_left 8 = .ok (.iload_n 2, 1) := by decide +kernel
theorem dX12_left_9 : decode cX12_left 9 = .ok (.aload_n 0, 1) := by decide +kernel
theorem dX12_left_10 : decode cX12_left 10 = .ok (.getfield 9, 3) := by decide +kernel
theorem dX12_left_13 : decode cX12_left 13 = .ok (.bipush 8, 2) := by decide +kernel
theorem dX12_left_15 : decode cX12_left 15 = .ok (.iaload, 1) := by decide +kernel
theorem dX12_left_16 : decode cX12_left 16 = .ok (.if_icmp .ge 38, 3) := by decide +kernel
theorem dX12_left_19 : decode cX12_left 19 = .ok (.iload_n 1, 1) := by decide +kernel
theorem dX12_left_20 : decode cX12_left 20 = .ok (.aload_n 0, 1) := by decide +kernel
theorem dX12_left_21 : decode cX12_left 21 = .ok (.getfield 9, 3) := by decide +kernel
theorem dX12_left_24 : decode cX12_left 24 = .ok (.bipush 53, 2) := by decide +kernel
theorem dX12_left_26 : decode cX12_left 26 = .ok (.iload_n 2, 1) := by decide +kernel
theorem dX12_left_27 : decode cX12_left 27 = .ok (.iadd, 1) := by decide +kernel
theorem dX12_left_28 : decode cX12_left 28 = .ok (.iaload, 1) := by decide +kernel
theorem dX12_left_29 : decode cX12_left 29 = .ok (.iconst (-1), 1) := by decide +kernel
theorem dX12_left_30 : decode cX12_left 30 = .ok (.if_icmp .eq 15, 3) := by decide +kernel
theorem dX12_left_33 : decode cX12_left 33 = .ok (.aload_n 0, 1) := by decide +kernel
theorem dX12_left_34 : decode cX12_left 34 = .ok (.iload_n 2, 1) := by decide +kernel
theorem dX12_left_35 : decode cX12_left 35 = .ok (.invokevirtual 160, 3) := by decide +kernel
theorem dX12_left_38 : decode cX12_left 38 = .ok (.ifCond .ne 7, 3) := by decide +kernel
theorem dX12_left_41 : decode cX12_left 41 = .ok (.iconst 1, 1) := by decide +kernel
theorem dX12_left_42 : decode cX12_left 42 = .ok (.goto 4, 3) := by decide +kernel
theorem dX12_left_45 : decode cX12_left 45 = .ok (.iconst 0, 1) := by decide +kernel
theorem dX12_left_46 : decode cX12_left 46 = .ok (.iadd, 1) := by decide +kernel
theorem dX12_left_47 : decode cX12_left 47 = .ok (.istore_n 1, 1) := by decide +kernel
theorem dX12_left_48 : decode cX12_left 48 = .ok (.iinc 2 1, 3) := by decide +kernel
theorem dX12_left_51 : decode cX12_left 51 = .ok (.goto (-43), 3) := by decide +kernel
theorem dX12_left_54 : decode cX12_left 54 = .ok (.aload_n 0, 1) := by decide +kernel
theorem dX12_left_55 : decode cX12_left 55 = .ok (.invokevirtual 169, 3) := by decide +kernel
theorem dX12_left_58 : decode cX12_left 58 = .ok (.ifCond .eq 7, 3) := by decide +kernel
theorem dX12_left_61 : decode cX12_left 61 = .ok (.iconst 0, 1) := by decide +kernel
theorem dX12_left_62 : decode cX12_left 62 = .ok (.goto 4, 3) := by decide +kernel
theorem dX12_left_65 : decode cX12_left 65 = .ok (.iload_n 1, 1) := by decide +kernel
theorem dX12_left_66 : decode cX12_left 66 = .ok (.ireturn, 1) := by decide +kernel
theorem dX12_longest_0 : decode cX12_longest 0 = .ok (.iload_n 1, 1) := by decide +kernel
theorem dX12_longest_1 : decode cX12_longest 1 = .ok (.iconst 0, 1) := by decide +kernel
theorem dX12_longest_2 : decode cX12_longest 2 = .ok (.iconst 1, 1) := by decide +kernel
theorem dX12_longest_3 : decode cX12_longest 3 = .ok (.invokestatic 38, 3) := by decide +kernel
theorem dX12_longest_6 : decode cX12_longest 6 = .ok (.ifCond .ne 5, 3) := by decide +kernel
theorem dX12_longest_9 : decode cX12_longest 9 = .ok (.iconst (-1), 1) := by decide +kernel
theorem dX12_longest_10 : decode cX12_longest 10 = .ok (.ireturn, 1) := by decide +kernel
theorem dX12_longest_11 : decode cX12_longest 11 = .ok (.iconst 0, 1) := by decide +kernel
theorem dX12_longest_12 : decode cX12_longest 12 = .ok (.istore_n 2, 1) := by decide +kernel
theorem dX12_longest_13 : decode cX12_longest 13 = .ok (.bipush (-5), 2) := by decide +kernel
theorem dX12_longest_15 : decode cX12_longest 15 = .ok (.istore_n 3, 1) := by decide +kernel
theorem dX12_longest_16 : decode cX12_longest 16 = .ok (.iconst 0, 1) := by decide +kernel
theorem dX12_longest_17 : decode cX12_longest 17 = .ok (.istore 4, 2) := by decide +kernel
theorem dX12_longest_19 : decode cX12_longest 19 = .ok (.iconst 0, 1) := by decide +kernel
theorem dX12_longest_20 : decode cX12_longest 20 = .ok (.istore 5, 2) := by decide +kernel
theorem dX12_longest_22 : decode cX12_longest 22 = .ok (.iload 5, 2) := by decide +kernel
theorem dX12_longest_24 : decode cX12_longest 24 = .ok (.aload_n 0, 1) := by decide +kernel
theorem dX12_longest_25 : decode cX12_longest 25 = .ok (.getfield 9, 3) := by decide +kernel
theorem dX12_longest_28 : decode cX12_longest 28 = .ok (.bipush 8, 2) := by decide +kernel
theorem dX12_longest_30 : decode cX12_longest 30 = .ok (.iaload, 1) := by decide +kernel
theorem dX12_longest_31 : decode cX12_longest 31 = .ok (.if_icmp .ge 84, 3) := by decide +kernel
theorem dX12_longest_34 : decode cX12_longest 34 = .ok (.iload 5, 2) := by decide +kernel
theorem dX12_longest_36 : decode cX12_longest 36 = .ok (.ifCond .le 33, 3) := by decide +kernel
theorem dX12_longest_39 : decode cX12_longest 39 = .ok (.aload_n 0, 1) := by decide +kernel
theorem dX12_longest_40 : decode cX12_longest 40 = .ok (.getfield 9, 3) := by decide +kernel
theorem dX12_longest_43 : decode cX12_longest 43 = .ok (.bipush 53, 2) := by decide +kernel
theorem dX12_longest_45 : decode cX12_longest 45 = .ok (.iload 5, 2) := by decide +kernel
theorem dX12_longest_47 : decode cX12_longest 47 = .ok (.iadd, 1) := by decide +kernel
theorem dX12_longest_48 : decode cX12_longest 48 = .ok (.iaload, 1) := by decide +kernel
theorem dX12_longest_49 : decode cX12_longest 49 = .ok (.aload_n 0, 1) := by decide +kernel
theorem dX12_longest_50 : decode cX12_longest 50 = .ok (.getfield 9, 3) := by decide +kernel
theorem dX12_longest_53 : decode cX12_longest 53 = .ok (.bipush 53, 2) := by decide +kernel
theorem dX12_longest_55 : decode cX12_longest 55 = .ok (.iload 5, 2) := by decide +kernel
theorem dX12_longest_57 : decode cX12_longest 57 = .ok (.iadd, 1) := by decide +kernel
theorem dX12_longest_58 : decode cX12_longest 58 = .ok (.iconst 1, 1) := by decide +kernel
theorem dX12_longest_59 : decode cX12_longest 59 = .ok (.isub, 1) := by decide +kernel
theorem dX12_longest_60 : decode cX12_longest 60 = .ok (.iaload, 1) := by decide +kernel
theorem dX12_longest_61 : decode cX12_longest 61 = .ok (.if_icmp .ne 8, 3) := by decide +kernel
theorem dX12_longest_64 : decode cX12_longest 64 = .ok (.iload 4, 2) := by decide +kernel
theorem dX12_longest_66 : decode cX12_longest 66 = .ok (.goto 5, 3) := by decide +kernel
theorem dX12_longest_69 : decode cX12_longest 69 = .ok (.iload 5, 2) := by decide +kernel
theorem dX12_longest_71 : decode cX12_longest 71 = .ok (.istore 4, 2) := by decide +kernel
theorem dX12_longest_73 : decode cX12_longest 73 = .ok (.aload_n 0, 1) := by decide +kernel
theorem dX12_longest_74 : decode cX12_longest 74 = .ok (.getfield 9, 3) := by decide +kernel
theorem dX12_longest_77 : decode cX12_longest 77 = .ok (.bipush 53, 2) := by decide +kernel
theorem dX12_longest_79 : decode cX12_longest 79 = .ok (.iload 5, 2) := by decide +kernel
theorem dX12_longest_81 : decode cX12_longest 81 = .ok (.iadd, 1) := by decide +kernel
theorem dX12_longest_82 : decode cX12_longest 82 = .ok (.iaload, 1) := by decide +kernel
theorem dX12_longest_83 : decode cX12_longest 83 = .ok (.iconst (-1), 1) := by decide +kernel
theorem dX12_longest_84 : decode cX12_longest 84 = .ok (.if_icmp .eq 25, 3) := by decide +kernel
theorem dX12_longest_87 : decode cX12_longest 87 = .ok (.iload 5, 2) := by decide +kernel
theorem dX12_longest_89 : decode cX12_longest 89 = .ok (.iload 4, 2) := by decide +kernel
theorem dX12_longest_91 : decode cX12_longest 91 = .ok (.isub, 1) := by decide +kernel
theorem dX12_longest_92 : decode cX12_longest 92 = .ok (.iconst 1, 1) := by decide +kernel
theorem dX12_longest_93 : decode cX12_longest 93 = .ok (.iadd, 1) := by decide +kernel
theorem dX12_longest_94 : decode cX12_longest 94 = .ok (.iload_n 2, 1) := by decide +kernel
theorem dX12_longest_95 : decode cX12_longest 95 = .ok (.if_icmp .le 14, 3) := by decide +kernel
theorem dX12_longest_98 : decode cX12_longest 98 = .ok (.iload 5, 2) := by decide +kernel
theorem dX12_longest_100 : decode cX12_longest 100 = .ok (.iload 4, 2) := by decide +kernel
theorem dX12_longest_102 : decode cX12_longest 102 = .ok (.isub, 1) := by decide +kernel
theorem dX12_longest_103 : decode cX12_longest 103 = .ok (.iconst 1, 1) := by decide +kernel
theorem dX12_longest_104 : decode cX12_longest 104 = .ok (.iadd, 1) := by decide +kernel
theorem dX12_longest_105 : decode cX12_longest 105 = .ok (.istore_n 2, 1) := by decide +kernel
theorem dX12_longest_106 : decode cX12_longest 106 = .ok (.iload 4, 2) := by decide +kernel
theorem dX12_longest_108 : decode cX12_longest 108 = .ok (.istore_n 3, 1) := by decide +kernel
theorem dX12_longest_109 : decode cX12_longest 109 = .ok (.iinc 5 1, 3) := by decide +kernel
theorem dX12_longest_112 : decode cX12_longest 112 = .ok (.goto (-90), 3) := by decide +kernel
theorem dX12_longest_115 : decode cX12_longest 115 = .ok (.iload_n 1, 1) := by decide +kernel
theorem dX12_longest_116 : decode cX12_longest 116 = .ok (.iconst 1, 1) := by decide +kernel
theorem dX12_longest_117 : decode cX12_longest 117 = .ok (.if_icmp .eq 7, 3) := by decide +kernel
theorem dX12_longest_120 : decode cX12_longest 120 = .ok (.iload_n 2, 1) := by decide +kernel
theorem dX12_longest_121 : decode cX12_longest 121 = .ok (.ifCond .ne 7, 3) := by decide +kernel
theorem dX12_longest_124 : decode cX12_longest 124 = .ok (.iload_n 3, 1) := by decide +kernel
theorem dX12_longest_125 : decode cX12_longest 125 = .ok (.goto 4, 3) := by decide +kernel
theorem dX12_longest_128 : decode cX12_longest 128 = .ok (.iload_n 2, 1) := by decide +kernel
theorem dX12_longest_129 : decode cX12_longest 129 = .ok (.ireturn, 1) := by decide +kernel
theorem dX12_show_0 : decode cX12_show 0 = .ok (.iload_n 1, 1) := by decide +kernel
theorem dX12_show_1 : decode cX12_show 1 = .ok (.iconst (-1), 1) := by decide +kernel
theorem dX12_show_2 : decode cX12_show 2 = .ok (.if_icmp .ne 12, 3) := by decide +kernel
theorem dX12_show_5 : decode cX12_show 5 = .ok (.aload_n 0, 1) := by decide +kernel
theorem dX12_show_6 : decode cX12_show 6 = .ok (.getfield 9, 3) := by decide +kernel
theorem dX12_show_9 : decode cX12_show 9 = .ok (.iconst 3, 1) := by decide +kernel
theorem dX12_show_10 : decode cX12_show 10 = .ok (.iconst 0, 1) := by decide +kernel
theorem dX12_show_11 : decode cX12_show 11 = .ok (.iastore, 1) := by decide +kernel
theorem dX12_show_12 : decode cX12_show 12 = .ok (.iconst 0, 1) := by decide +kernel
theorem dX12_show_13 : decode cX12_show 13 = .ok (.ireturn, 1) := by decide +kernel
theorem dX12_show_14 : decode cX12_show 14 = .ok (.iload_n 1, 1) := by decide +kernel
theorem dX12_show_15 : decode cX12_show 15 = .ok (.iconst 0, 1) := by decide +kernel
theorem dX12_show_16 : decode cX12_show 16 = .ok (.aload_n 0, 1) := by decide +kernel
theorem dX12_show_17 : decode cX12_show 17 = .ok (.getfield 9, 3) := by decide +kernel
theorem dX12_show_20 : decode cX12_show 20 = .ok (.bipush 8, 2) := by decide +kernel
theorem dX12_show_22 : decode cX12_show 22 = .ok (.iaload, 1) := by decide +kernel
theorem dX12_show_23 : decode cX12_show 23 = .ok (.iconst 1, 1) := by decide +kernel
theorem dX12_show_24 : decode cX12_show 24 = .ok (.isub, 1) := by decide +kernel
theorem dX12_show_25 : decode cX12_show 25 = .ok (.invokestatic 38, 3) := by decide +kernel
theorem dX12_show_28 : decode cX12_show 28 = .ok (.ifCond .ne 5, 3) := by decide +kernel
theorem dX12_show_31 : decode cX12_show 31 = .ok (.iconst (-1), 1) := by decide +kernel
theorem dX12_show_32 : decode cX12_show 32 = .ok (.ireturn, 1) := by decide +kernel
theorem dX12_show_33 : decode cX12_show 33 = .ok (.aload_n 0, 1) := by decide +kernel
theorem dX12_show_34 : decode cX12_show 34 = .ok (.getfield 9, 3) := by decide +kernel
theorem dX12_show_37 : decode cX12_show 37 = .ok (.iconst 3, 1) := by decide +kernel
theorem dX12_show_38 : decode cX12_show 38 = .ok (.iaload, 1) := by decide +kernel
theorem dX12_show_39 : decode cX12_show 39 = .ok (.bipush 6, 2) := by decide +kernel
theorem dX12_show_41 : decode cX12_show 41 = .ok (.if_icmp .ne 6, 3) := by decide +kernel
theorem dX12_show_44 : decode cX12_show 44 = .ok (.bipush (-4), 2) := by decide +kernel
theorem dX12_show_46 : decode cX12_show 46 = .ok (.ireturn, 1) := by decide +kernel
theorem dX12_show_47 : decode cX12_show 47 = .ok (.aload_n 0, 1) := by decide +kernel
theorem dX12_show_48 : decode cX12_show 48 = .ok (.getfield 9, 3) := by decide +kernel
theorem dX12_show_51 : decode cX12_show 51 = .ok (.bipush 98, 2) := by decide +kernel
theorem dX12_show_53 : decode cX12_show 53 = .ok (.aload_n 0, 1) := by decide +kernel
theorem dX12_show_54 : decode cX12_show 54 = .ok (.getfield 9, 3) := by decide +kernel
theorem dX12_show_57 : decode cX12_show 57 = .ok (.iconst 3, 1) := by decide +kernel
theorem dX12_show_58 : decode cX12_show 58 = .ok (.iaload, 1) := by decide +kernel
theorem dX12_show_59 : decode cX12_show 59 = .ok (.iadd, 1) := by decide +kernel
theorem dX12_show_60 : decode cX12_show 60 = .ok (.iload_n 1, 1) := by decide +kernel
theorem dX12_show_61 : decode cX12_show 61 = .ok (.iastore, 1) := by decide +kernel
theorem dX12_show_62 : decode cX12_show 62 = .ok (.aload_n 0, 1) := by decide +kernel
theorem dX12_show_63 : decode cX12_show 63 = .ok (.getfield 9, 3) := by decide +kernel
theorem dX12_show_66 : decode cX12_show 66 = .ok (.iconst 3, 1) := by decide +kernel
theorem dX12_show_67 : decode cX12_show 67 = .ok (.dup2, 1) := by decide +kernel
theorem dX12_show_68 : decode cX12_show 68 = .ok (.iaload, 1) := by decide +kernel
theorem dX12_show_69 : decode cX12_show 69 = .ok (.iconst 1, 1) := by decide +kernel
theorem dX12_show_70 : decode cX12_show 70 = .ok (.iadd, 1) := by decide +kernel
theorem dX12_show_71 : decode cX12_show 71 = .ok (.iastore, 1) := by decide +kernel
theorem dX12_show_72 : decode cX12_show 72 = .ok (.aload_n 0, 1) := by decide +kernel
theorem dX12_show_73 : decode cX12_show 73 = .ok (.getfield 9, 3) := by decide +kernel
theorem dX12_show_76 : decode cX12_show 76 = .ok (.iconst 3, 1) := by decide +kernel
theorem dX12_show_77 : decode cX12_show 77 = .ok (.iaload, 1) := by decide +kernel
theorem dX12_show_78 : decode cX12_show 78 = .ok (.ireturn, 1) := by decide +kernel
theorem dX12_wouldShow_0 : decode cX12_wouldShow 0 = .ok (.aload_n 0, 1) := by decide +kernel
theorem dX12_wouldShow_1 : decode cX12_wouldShow 1 = .ok (.getfield 9, 3) := by decide +kernel
theorem dX12_wouldShow_4 : decode cX12_wouldShow 4 = .ok (.bipush 53, 2) := by decide +kernel
theorem dX12_wouldShow_6 : decode cX12_wouldShow 6 = .ok (.iload_n 2, 1) := by decide +kernel
theorem dX12_wouldShow_7 : decode cX12_wouldShow 7 = .ok (.iadd, 1) := by decide +kernel
theorem dX12_wouldShow_8 : decode cX12_wouldShow 8 = .ok (.iaload, 1) := by decide +kernel
theorem dX12_wouldShow_9 : decode cX12_wouldShow 9 = .ok (.istore_n 3, 1) := by decide +kernel
theorem dX12_wouldShow_10 : decode cX12_wouldShow 10 = .ok (.aload_n 0, 1) := by decide +kernel
theorem dX12_wouldShow_11 : decode cX12_wouldShow 11 = .ok (.getfield 9, 3) := by decide +kernel
theorem dX12_wouldShow_14 : decode cX12_wouldShow 14 = .ok (.bipush 53, 2) := by decide +kernel
theorem dX12_wouldShow_16 : decode cX12_wouldShow 16 = .ok (.iload_n 2, 1) := by decide +kernel
theorem dX12_wouldShow_17 : decode cX12_wouldShow 17 = .ok (.iadd, 1) := by decide +kernel
theorem dX12_wouldShow_18 : decode cX12_wouldShow 18 = .ok (.iload_n 1, 1) := by decide +kernel
theorem dX12_wouldShow_19 : decode cX12_wouldShow 19 = .ok (.iastore, 1) := by decide +kernel
theorem dX12_wouldShow_20 : decode cX12_wouldShow 20 = .ok (.aload_n 0, 1) := by decide +kernel
theorem dX12_wouldShow_21 : decode cX12_wouldShow 21 = .ok (.iload_n 2, 1) := by decide +kernel
theorem dX12_wouldShow_22 : decode cX12_wouldShow 22 = .ok (.invokevirtual 148, 3) := by decide +kernel
theorem dX12_wouldShow_25 : decode cX12_wouldShow 25 = .ok (.ifCond .le 7, 3) := by decide +kernel
theorem dX12_wouldShow_28 : decode cX12_wouldShow 28 = .ok (.iconst 1, 1) := by decide +kernel
theorem dX12_wouldShow_29 : decode cX12_wouldShow 29 = .ok (.goto 4, 3) := by decide +kernel
theorem dX12_wouldShow_32 : decode cX12_wouldShow 32 = .ok (.iconst 0, 1) := by decide +kernel
theorem dX12_wouldShow_33 : decode cX12_wouldShow 33 = .ok (.istore 4, 2) := by decide +kernel
theorem dX12_wouldShow_35 : decode cX12_wouldShow 35 = .ok (.aload_n 0, 1) := by decide +kernel
theorem dX12_wouldShow_36 : decode cX12_wouldShow 36 = .ok (.getfield 9, 3) := by decide +kernel
theorem dX12_wouldShow_39 : decode cX12_wouldShow 39 = .ok (.bipush 53, 2) := by decide +kernel
theorem dX12_wouldShow_41 : decode cX12_wouldShow 41 = .ok (.iload_n 2, 1) := by decide +kernel
theorem dX12_wouldShow_42 : decode cX12_wouldShow 42 = .ok (.iadd, 1) := by decide +kernel
theorem dX12_wouldShow_43 : decode cX12_wouldShow 43 = .ok (.iload_n 3, 1) := by decide +kernel
theorem dX12_wouldShow_44 : decode cX12_wouldShow 44 = .ok (.iastore, 1) := by decide +kernel
theorem dX12_wouldShow_45 : decode cX12_wouldShow 45 = .ok (.iload 4, 2) := by decide +kernel
theorem dX12_wouldShow_47 : decode cX12_wouldShow 47 = .ok (.ireturn, 1) := by decide +kernel
theorem dX12_whose_0 : decode cX12_whose 0 = .ok (.iconst 0, 1) := by decide +kernel
theorem dX12_whose_1 : decode cX12_whose 1 = .ok (.istore_n 1, 1) := by decide +kernel
theorem dX12_whose_2 : decode cX12_whose 2 = .ok (.iconst 0, 1) := by decide +kernel
theorem dX12_whose_3 : decode cX12_whose 3 = .ok (.istore_n 2, 1) := by decide +kernel
theorem dX12_whose_4 : decode cX12_whose 4 = .ok (.iload_n 2, 1) := by decide +kernel
theorem dX12_whose_5 : decode cX12_whose 5 = .ok (.aload_n 0, 1) := by decide +kernel
theorem dX12_whose_6 : decode cX12_whose 6 = .ok (.getfield 9, 3) := by decide +kernel
theorem dX12_whose_9 : decode cX12_whose 9 = .ok (.iconst 0, 1) := by decide +kernel
theorem dX12_whose_10 : decode cX12_whose 10 = .ok (.iaload, 1) := by decide +kernel
theorem dX12_whose_11 : decode cX12_whose 11 = .ok (.if_icmp .ge 73, 3) := by decide +kernel
theorem dX12_whose_14 : decode cX12_whose 14 = .ok (.iconst 1, 1) := by decide +kernel
theorem dX12_whose_15 : decode cX12_whose 15 = .ok (.istore_n 3, 1) := by decide +kernel
theorem dX12_whose_16 : decode cX12_whose 16 = .ok (.iconst 0, 1) := by decide +kernel
theorem dX12_whose_17 : decode cX12_whose 17 = .ok (.istore 4, 2) := by decide +kernel
theorem dX12_whose_19 : decode cX12_whose 19 = .ok (.iload 4, 2) := by decide +kernel
theorem dX12_whose_21 : decode cX12_whose 21 = .ok (.aload_n 0, 1) := by decide +kernel
theorem dX12_whose_22 : decode cX12_whose 22 = .ok (.getfield 9, 3) := by decide +kernel
theorem dX12_whose_25 : decode cX12_whose 25 = .ok (.iconst 3, 1) := by decide +kernel
theorem dX12_whose_26 : decode cX12_whose 26 = .ok (.iaload, 1) := by decide +kernel
theorem dX12_whose_27 : decode cX12_whose 27 = .ok (.if_icmp .ge 37, 3) := by decide +kernel
theorem dX12_whose_30 : decode cX12_whose 30 = .ok (.iload_n 3, 1) := by decide +kernel
theorem dX12_whose_31 : decode cX12_whose 31 = .ok (.ifCond .eq 25, 3) := by decide +kernel
theorem dX12_whose_34 : decode cX12_whose 34 = .ok (.aload_n 0, 1) := by decide +kernel
theorem dX12_whose_35 : decode cX12_whose 35 = .ok (.iload_n 2, 1) := by decide +kernel
theorem dX12_whose_36 : decode cX12_whose 36 = .ok (.aload_n 0, 1) := by decide +kernel
theorem dX12_whose_37 : decode cX12_whose 37 = .ok (.getfield 9, 3) := by decide +kernel
theorem dX12_whose_40 : decode cX12_whose 40 = .ok (.bipush 98, 2) := by decide +kernel
theorem dX12_whose_42 : decode cX12_whose 42 = .ok (.iload 4, 2) := by decide +kernel
theorem dX12_whose_44 : decode cX12_whose 44 = .ok (.iadd, 1) := by decide +kernel
theorem dX12_whose_45 : decode cX12_whose 45 = .ok (.iaload, 1) := by decide +kernel
theorem dX12_whose_46 : decode cX12_whose 46 = .ok (.invokevirtual 210, 3) := by decide +kernel
theorem dX12_whose_49 : decode cX12_whose 49 = .ok (.ifCond .eq 7, 3) := by decide +kernel
theorem dX12_whose_52 : decode cX12_whose 52 = .ok (.iconst 1, 1) := by decide +kernel
theorem dX12_whose_53 : decode cX12_whose 53 = .ok (.goto 4, 3) := by decide +kernel
theorem dX12_whose_56 : decode cX12_whose 56 = .ok (.iconst 0, 1) := by decide +kernel
theorem dX12_whose_57 : decode cX12_whose 57 = .ok (.istore_n 3, 1) := by decide +kernel
theorem dX12_whose_58 : decode cX12_whose 58 = .ok (.iinc 4 1, 3) := by decide +kernel
theorem dX12_whose_61 : decode cX12_whose 61 = .ok (.goto (-42), 3) := by decide +kernel
theorem dX12_whose_64 : decode cX12_whose 64 = .ok (.iload_n 1, 1) := by decide +kernel
theorem dX12_whose_65 : decode cX12_whose 65 = .ok (.iload_n 3, 1) := by decide +kernel
theorem dX12_whose_66 : decode cX12_whose 66 = .ok (.ifCond .eq 9, 3) := by decide +kernel
theorem dX12_whose_69 : decode cX12_whose 69 = .ok (.iconst 1, 1) := by decide +kernel
theorem dX12_whose_70 : decode cX12_whose 70 = .ok (.iload_n 2, 1) := by decide +kernel
theorem dX12_whose_71 : decode cX12_whose 71 = .ok (.ishl, 1) := by decide +kernel
theorem dX12_whose_72 : decode cX12_whose 72 = .ok (.goto 4, 3) := by decide +kernel
theorem dX12_whose_75 : decode cX12_whose 75 = .ok (.iconst 0, 1) := by decide +kernel
theorem dX12_whose_76 : decode cX12_whose 76 = .ok (.ior, 1) := by decide +kernel
theorem dX12_whose_77 : decode cX12_whose 77 = .ok (.istore_n 1, 1) := by decide +kernel
theorem dX12_whose_78 : decode cX12_whose 78 = .ok (.iinc 2 1, 3) := by decide +kernel
theorem dX12_whose_81 : decode cX12_whose 81 = .ok (.goto (-77), 3) := by decide +kernel
theorem dX12_whose_84 : decode cX12_whose 84 = .ok (.iload_n 1, 1) := by decide +kernel
theorem dX12_whose_85 : decode cX12_whose 85 = .ok (.ireturn, 1) := by decide +kernel
theorem dX12_wanted_0 : decode cX12_wanted 0 = .ok (.iload_n 1, 1) := by decide +kernel
theorem dX12_wanted_1 : decode cX12_wanted 1 = .ok (.iconst (-1), 1) := by decide +kernel
theorem dX12_wanted_2 : decode cX12_wanted 2 = .ok (.if_icmp .ne 12, 3) := by decide +kernel
theorem dX12_wanted_5 : decode cX12_wanted 5 = .ok (.aload_n 0, 1) := by decide +kernel
theorem dX12_wanted_6 : decode cX12_wanted 6 = .ok (.getfield 9, 3) := by decide +kernel
theorem dX12_wanted_9 : decode cX12_wanted 9 = .ok (.iconst 4, 1) := by decide +kernel
theorem dX12_wanted_10 : decode cX12_wanted 10 = .ok (.iconst 0, 1) := by decide +kernel
theorem dX12_wanted_11 : decode cX12_wanted 11 = .ok (.iastore, 1) := by decide +kernel
theorem dX12_wanted_12 : decode cX12_wanted 12 = .ok (.iconst 0, 1) := by decide +kernel
theorem dX12_wanted_13 : decode cX12_wanted 13 = .ok (.ireturn, 1) := by decide +kernel
theorem dX12_wanted_14 : decode cX12_wanted 14 = .ok (.iload_n 1, 1) := by decide +kernel
theorem dX12_wanted_15 : decode cX12_wanted 15 = .ok (.iconst 0, 1) := by decide +kernel
theorem dX12_wanted_16 : decode cX12_wanted 16 = .ok (.bipush 40, 2) := by decide +kernel
theorem dX12_wanted_18 : decode cX12_wanted 18 = .ok (.invokestatic 38, 3) := by decide +kernel
theorem dX12_wanted_21 : decode cX12_wanted 21 = .ok (.ifCond .ne 6, 3) := by decide +kernel
theorem dX12_wanted_24 : decode cX12_wanted 24 = .ok (.bipush (-2), 2) := by decide +kernel
theorem dX12_wanted_26 : decode cX12_wanted 26 = .ok (.ireturn, 1) := by decide +kernel
theorem dX12_wanted_27 : decode cX12_wanted 27 = .ok (.aload_n 0, 1) := by decide +kernel
theorem dX12_wanted_28 : decode cX12_wanted 28 = .ok (.getfield 9, 3) := by decide +kernel
theorem dX12_wanted_31 : decode cX12_wanted 31 = .ok (.iconst 4, 1) := by decide +kernel
theorem dX12_wanted_32 : decode cX12_wanted 32 = .ok (.iaload, 1) := by decide +kernel
theorem dX12_wanted_33 : decode cX12_wanted 33 = .ok (.bipush 8, 2) := by decide +kernel
theorem dX12_wanted_35 : decode cX12_wanted 35 = .ok (.if_icmp .ne 6, 3) := by decide +kernel
theorem dX12_wanted_38 : decode cX12_wanted 38 = .ok (.bipush (-4), 2) := by decide +kernel
theorem dX12_wanted_40 : decode cX12_wanted 40 = .ok (.ireturn, 1) := by decide +kernel
theorem dX12_wanted_41 : decode cX12_wanted 41 = .ok (.aload_n 0, 1) := by decide +kernel
theorem dX12_wanted_42 : decode cX12_wanted 42 = .ok (.getfield 9, 3) := by decide +kernel
theorem dX12_wanted_45 : decode cX12_wanted 45 = .ok (.bipush 104, 2) := by decide +kernel
theorem dX12_wanted_47 : decode cX12_wanted 47 = .ok (.aload_n 0, 1) := by decide +kernel
theorem dX12_wanted_48 : decode cX12_wanted 48 = .ok (.getfield 9, 3) := by decide +kernel
theorem dX12_wanted_51 : decode cX12_wanted 51 = .ok (.iconst 4, 1) := by decide +kernel
theorem dX12_wanted_52 : decode cX12_wanted 52 = .ok (.iaload, 1) := by decide +kernel
theorem dX12_wanted_53 : decode cX12_wanted 53 = .ok (.iadd, 1) := by decide +kernel
theorem dX12_wanted_54 : decode cX12_wanted 54 = .ok (.iload_n 1, 1) := by decide +kernel
theorem dX12_wanted_55 : decode cX12_wanted 55 = .ok (.iastore, 1) := by decide +kernel
theorem dX12_wanted_56 : decode cX12_wanted 56 = .ok (.aload_n 0, 1) := by decide +kernel
theorem dX12_wanted_57 : decode cX12_wanted 57 = .ok (.getfield 9, 3) := by decide +kernel
theorem dX12_wanted_60 : decode cX12_wanted 60 = .ok (.iconst 4, 1) := by decide +kernel
theorem dX12_wanted_61 : decode cX12_wanted 61 = .ok (.dup2, 1) := by decide +kernel
theorem dX12_wanted_62 : decode cX12_wanted 62 = .ok (.iaload, 1) := by decide +kernel
theorem dX12_wanted_63 : decode cX12_wanted 63 = .ok (.iconst 1, 1) := by decide +kernel
theorem dX12_wanted_64 : decode cX12_wanted 64 = .ok (.iadd, 1) := by decide +kernel
theorem dX12_wanted_65 : decode cX12_wanted 65 = .ok (.iastore, 1) := by decide +kernel
theorem dX12_wanted_66 : decode cX12_wanted 66 = .ok (.aload_n 0, 1) := by decide +kernel
theorem dX12_wanted_67 : decode cX12_wanted 67 = .ok (.getfield 9, 3) := by decide +kernel
theorem dX12_wanted_70 : decode cX12_wanted 70 = .ok (.iconst 4, 1) := by decide +kernel
theorem dX12_wanted_71 : decode cX12_wanted 71 = .ok (.iaload, 1) := by decide +kernel
theorem dX12_wanted_72 : decode cX12_wanted 72 = .ok (.ireturn, 1) := by decide +kernel
theorem dX12_stockOf_0 : decode cX12_stockOf 0 = .ok (.bipush (-5), 2) := by decide +kernel
theorem dX12_stockOf_2 : decode cX12_stockOf 2 = .ok (.istore_n 3, 1) := by decide +kernel
theorem dX12_stockOf_3 : decode cX12_stockOf 3 = .ok (.aload_n 0, 1) := by decide +kernel
theorem dX12_stockOf_4 : decode cX12_stockOf 4 = .ok (.ldc 209, 2) := by decide +kernel
theorem dX12_stockOf_6 : decode cX12_stockOf 6 = .ok (.putfield 214, 3) := by decide +kernel
theorem dX12_stockOf_9 : decode cX12_stockOf 9 = .ok (.iconst 0, 1) := by decide +kernel
theorem dX12_stockOf_10 : decode cX12_stockOf 10 = .ok (.istore 4, 2) := by decide +kernel
theorem dX12_stockOf_12 : decode cX12_stockOf 12 = .ok (.iload 4, 2) := by decide +kernel
theorem dX12_stockOf_14 : decode cX12_stockOf 14 = .ok (.bipush 40, 2) := by decide +kernel
theorem dX12_stockOf_16 : decode cX12_stockOf 16 = .ok (.if_icmp .gt 107, 3) := by decide +kernel
theorem dX12_stockOf_19 : decode cX12_stockOf 19 = .ok (.iconst 0, 1) := by decide +kernel
theorem dX12_stockOf_20 : decode cX12_stockOf 20 = .ok (.istore 5, 2) := by decide +kernel
theorem dX12_stockOf_22 : decode cX12_stockOf 22 = .ok (.iconst 0, 1) := by decide +kernel
theorem dX12_stockOf_23 : decode cX12_stockOf 23 = .ok (.istore 6, 2) := by decide +kernel
theorem dX12_stockOf_25 : decode cX12_stockOf 25 = .ok (.iload 6, 2) := by decide +kernel
theorem dX12_stockOf_27 : decode cX12_stockOf 27 = .ok (.aload_n 0, 1) := by decide +kernel
theorem dX12_stockOf_28 : decode cX12_stockOf 28 = .ok (.getfield 9, 3) := by decide +kernel
theorem dX12_stockOf_31 : decode cX12_stockOf 31 = .ok (.iconst 4, 1) := by decide +kernel
theorem dX12_stockOf_32 : decode cX12_stockOf 32 = .ok (.iaload, 1) := by decide +kernel
theorem dX12_stockOf_33 : decode cX12_stockOf 33 = .ok (.if_icmp .ge 46, 3) := by decide +kernel
theorem dX12_stockOf_36 : decode cX12_stockOf 36 = .ok (.iload 4, 2) := by decide +kernel
theorem dX12_stockOf_38 : decode cX12_stockOf 38 = .ok (.aload_n 0, 1) := by decide +kernel
theorem dX12_stockOf_39 : decode cX12_stockOf 39 = .ok (.getfield 9, 3) := by decide +kernel
theorem dX12_stockOf_42 : decode cX12_stockOf 42 = .ok (.bipush 104, 2) := by decide +kernel
theorem dX12_stockOf_44 : decode cX12_stockOf 44 = .ok (.iload 6, 2) := by decide +kernel
theorem dX12_stockOf_46 : decode cX12_stockOf 46 = .ok (.iadd, 1) := by decide +kernel
theorem dX12_stockOf_47 : decode cX12_stockOf 47 = .ok (.iaload, 1) := by decide +kernel
theorem dX12_stockOf_48 : decode cX12_stockOf 48 = .ok (.isub, 1) := by decide +kernel
theorem dX12_stockOf_49 : decode cX12_stockOf 49 = .ok (.istore 7, 2) := by decide +kernel
theorem dX12_stockOf_51 : decode cX12_stockOf 51 = .ok (.iload 5, 2) := by decide +kernel
theorem dX12_stockOf_53 : decode cX12_stockOf 53 = .ok (.iload 7, 2) := by decide +kernel
theorem dX12_stockOf_55 : decode cX12_stockOf 55 = .ok (.ifCond .le 10, 3) := by decide +kernel
theorem dX12_stockOf_58 : decode cX12_stockOf 58 = .ok (.iload_n 1, 1) := by decide +kernel
theorem dX12_stockOf_59 : decode cX12_stockOf 59 = .ok (.iload 7, 2) := by decide +kernel
theorem dX12_stockOf_61 : decode cX12_stockOf 61 = .ok (.imul, 1) := by decide +kernel
theorem dX12_stockOf_62 : decode cX12_stockOf 62 = .ok (.goto 8, 3) := by decide +kernel
theorem dX12_stockOf_65 : decode cX12_stockOf 65 = .ok (.iload_n 2, 1) := by decide +kernel
theorem dX12_stockOf_66 : decode cX12_stockOf 66 = .ok (.ineg, 1) := by decide +kernel
theorem dX12_stockOf_67 : decode cX12_stockOf 67 = .ok (.iload 7, 2) := by decide +kernel
theorem dX12_stockOf_69 : decode cX12_stockOf 69 = .ok (.imul, 1) := by decide +kernel
theorem dX12_stockOf_70 : decode cX12_stockOf 70 = .ok (.iadd, 1) := by decide +kernel
theorem dX12_stockOf_71 : decode cX12_stockOf 71 = .ok (.istore 5, 2) := by decide +kernel
theorem dX12_stockOf_73 : decode cX12_stockOf 73 = .ok (.iinc 6 1, 3) := by decide +kernel
theorem dX12_stockOf_76 : decode cX12_stockOf 76 = .ok (.goto (-51), 3) := by decide +kernel
theorem dX12_stockOf_79 : decode cX12_stockOf 79 = .ok (.iload 5, 2) := by decide +kernel
theorem dX12_stockOf_81 : decode cX12_stockOf 81 = .ok (.aload_n 0, 1) := by decide +kernel
theorem dX12_stockOf_82 : decode cX12_stockOf 82 = .ok (.getfield 214, 3) := by decide +kernel
theorem dX12_stockOf_85 : decode cX12_stockOf 85 = .ok (.if_icmp .ge 8, 3) := by decide +kernel
theorem dX12_stockOf_88 : decode cX12_stockOf 88 = .ok (.iload 4, 2) := by decide +kernel
theorem dX12_stockOf_90 : decode cX12_stockOf 90 = .ok (.goto 4, 3) := by decide +kernel
theorem dX12_stockOf_93 : decode cX12_stockOf 93 = .ok (.iload_n 3, 1) := by decide +kernel
theorem dX12_stockOf_94 : decode cX12_stockOf 94 = .ok (.istore_n 3, 1) := by decide +kernel
theorem dX12_stockOf_95 : decode cX12_stockOf 95 = .ok (.aload_n 0, 1) := by decide +kernel
theorem dX12_stockOf_96 : decode cX12_stockOf 96 = .ok (.iload 5, 2) := by decide +kernel
theorem dX12_stockOf_98 : decode cX12_stockOf 98 = .ok (.aload_n 0, 1) := by decide +kernel
theorem dX12_stockOf_99 : decode cX12_stockOf 99 = .ok (.getfield 214, 3) := by decide +kernel
theorem dX12_stockOf_102 : decode cX12_stockOf 102 = .ok (.if_icmp .ge 8, 3) := by decide +kernel
theorem dX12_stockOf_105 : decode cX12_stockOf 105 = .ok (.iload 5, 2) := by decide +kernel
theorem dX12_stockOf_107 : decode cX12_stockOf 107 = .ok (.goto 7, 3) := by decide +kernel
theorem dX12_stockOf_110 : decode cX12_stockOf 110 = .ok (.aload_n 0, 1) := by decide +kernel
theorem dX12_stockOf_111 : decode cX12_stockOf 111 = .ok (.getfield 214, 3) := by decide +kernel
theorem dX12_stockOf_114 : decode cX12_stockOf 114 = .ok (.putfield 214, 3) := by decide +kernel
theorem dX12_stockOf_117 : decode cX12_stockOf 117 = .ok (.iinc 4 1, 3) := by decide +kernel
theorem dX12_stockOf_120 : decode cX12_stockOf 120 = .ok (.goto (-108), 3) := by decide +kernel
theorem dX12_stockOf_123 : decode cX12_stockOf 123 = .ok (.iload_n 3, 1) := by decide +kernel
theorem dX12_stockOf_124 : decode cX12_stockOf 124 = .ok (.ireturn, 1) := by decide +kernel
theorem dX12_stock_0 : decode cX12_stock 0 = .ok (.iload_n 1, 1) := by decide +kernel
theorem dX12_stock_1 : decode cX12_stock 1 = .ok (.iconst 0, 1) := by decide +kernel
theorem dX12_stock_2 : decode cX12_stock 2 = .ok (.bipush 99, 2) := by decide +kernel
theorem dX12_stock_4 : decode cX12_stock 4 = .ok (.invokestatic 38, 3) := by decide +kernel
theorem dX12_stock_7 : decode cX12_stock 7 = .ok (.ifCond .eq 13, 3) := by decide +kernel
theorem dX12_stock_10 : decode cX12_stock 10 = .ok (.iload_n 2, 1) := by decide +kernel
theorem dX12_stock_11 : decode cX12_stock 11 = .ok (.iconst 0, 1) := by decide +kernel
theorem dX12_stock_12 : decode cX12_stock 12 = .ok (.bipush 99, 2) := by decide +kernel
theorem dX12_stock_14 : decode cX12_stock 14 = .ok (.invokestatic 38, 3) := by decide +kernel
theorem dX12_stock_17 : decode cX12_stock 17 = .ok (.ifCond .ne 6, 3) := by decide +kernel
theorem dX12_stock_20 : decode cX12_stock 20 = .ok (.bipush (-2), 2) := by decide +kernel
theorem dX12_stock_22 : decode cX12_stock 22 = .ok (.ireturn, 1) := by decide +kernel
theorem dX12_stock_23 : decode cX12_stock 23 = .ok (.aload_n 0, 1) := by decide +kernel
theorem dX12_stock_24 : decode cX12_stock 24 = .ok (.getfield 9, 3) := by decide +kernel
theorem dX12_stock_27 : decode cX12_stock 27 = .ok (.iconst 4, 1) := by decide +kernel
theorem dX12_stock_28 : decode cX12_stock 28 = .ok (.iaload, 1) := by decide +kernel
theorem dX12_stock_29 : decode cX12_stock 29 = .ok (.ifCond .ne 8, 3) := by decide +kernel
theorem dX12_stock_32 : decode cX12_stock 32 = .ok (.bipush (-5), 2) := by decide +kernel
theorem dX12_stock_34 : decode cX12_stock 34 = .ok (.goto 9, 3) := by decide +kernel
theorem dX12_stock_37 : decode cX12_stock 37 = .ok (.aload_n 0, 1) := by decide +kernel
theorem dX12_stock_38 : decode cX12_stock 38 = .ok (.iload_n 1, 1) := by decide +kernel
theorem dX12_stock_39 : decode cX12_stock 39 = .ok (.iload_n 2, 1) := by decide +kernel
theorem dX12_stock_40 : decode cX12_stock 40 = .ok (.invokevirtual 217, 3) := by decide +kernel
theorem dX12_stock_43 : decode cX12_stock 43 = .ok (.ireturn, 1) := by decide +kernel
theorem dX12_mean_0 : decode cX12_mean 0 = .ok (.iload_n 1, 1) := by decide +kernel
theorem dX12_mean_1 : decode cX12_mean 1 = .ok (.iconst 0, 1) := by decide +kernel
theorem dX12_mean_2 : decode cX12_mean 2 = .ok (.bipush 99, 2) := by decide +kernel
theorem dX12_mean_4 : decode cX12_mean 4 = .ok (.invokestatic 38, 3) := by decide +kernel
theorem dX12_mean_7 : decode cX12_mean 7 = .ok (.ifCond .eq 31, 3) := by decide +kernel
theorem dX12_mean_10 : decode cX12_mean 10 = .ok (.iload_n 2, 1) := by decide +kernel
theorem dX12_mean_11 : decode cX12_mean 11 = .ok (.iconst 0, 1) := by decide +kernel
theorem dX12_mean_12 : decode cX12_mean 12 = .ok (.bipush 99, 2) := by decide +kernel
theorem dX12_mean_14 : decode cX12_mean 14 = .ok (.invokestatic 38, 3) := by decide +kernel
theorem dX12_mean_17 : decode cX12_mean 17 = .ok (.ifCond .eq 21, 3) := by decide +kernel
theorem dX12_mean_20 : decode cX12_mean 20 = .ok (.iload_n 3, 1) := by decide +kernel
theorem dX12_mean_21 : decode cX12_mean 21 = .ok (.iconst 0, 1) := by decide +kernel
theorem dX12_mean_22 : decode cX12_mean 22 = .ok (.iconst 1, 1) := by decide +kernel
theorem dX12_mean_23 : decode cX12_mean 23 = .ok (.invokestatic 38, 3) := by decide +kernel
theorem dX12_mean_26 : decode cX12_mean 26 = .ok (.ifCond .eq 12, 3) := by decide +kernel
theorem dX12_mean_29 : decode cX12_mean 29 = .ok (.aload_n 0, 1) := by decide +kernel
theorem dX12_mean_30 : decode cX12_mean 30 = .ok (.getfield 9, 3) := by decide +kernel
theorem dX12_mean_33 : decode cX12_mean 33 = .ok (.iconst 4, 1) := by decide +kernel
theorem dX12_mean_34 : decode cX12_mean 34 = .ok (.iaload, 1) := by decide +kernel
theorem dX12_mean_35 : decode cX12_mean 35 = .ok (.ifCond .ne 7, 3) := by decide +kernel
theorem dX12_mean_38 : decode cX12_mean 38 = .ok (.ldc2_w 189, 3) := by decide +kernel
theorem dX12_mean_41 : decode cX12_mean 41 = .ok (.lreturn, 1) := by decide +kernel
theorem dX12_mean_42 : decode cX12_mean 42 = .ok (.aload_n 0, 1) := by decide +kernel
theorem dX12_mean_43 : decode cX12_mean 43 = .ok (.iload_n 1, 1) := by decide +kernel
theorem dX12_mean_44 : decode cX12_mean 44 = .ok (.iload_n 2, 1) := by decide +kernel
theorem dX12_mean_45 : decode cX12_mean 45 = .ok (.invokevirtual 217, 3) := by decide +kernel
theorem dX12_mean_48 : decode cX12_mean 48 = .ok (.pop, 1) := by decide +kernel
theorem dX12_mean_49 : decode cX12_mean 49 = .ok (.aload_n 0, 1) := by decide +kernel
theorem dX12_mean_50 : decode cX12_mean 50 = .ok (.getfield 214, 3) := by decide +kernel
theorem dX12_mean_53 : decode cX12_mean 53 = .ok (.i2l, 1) := by decide +kernel
theorem dX12_mean_54 : decode cX12_mean 54 = .ok (.aload_n 0, 1) := by decide +kernel
theorem dX12_mean_55 : decode cX12_mean 55 = .ok (.getfield 9, 3) := by decide +kernel
theorem dX12_mean_58 : decode cX12_mean 58 = .ok (.iconst 4, 1) := by decide +kernel
theorem dX12_mean_59 : decode cX12_mean 59 = .ok (.iaload, 1) := by decide +kernel
theorem dX12_mean_60 : decode cX12_mean 60 = .ok (.i2l, 1) := by decide +kernel
theorem dX12_mean_61 : decode cX12_mean 61 = .ok (.iload_n 3, 1) := by decide +kernel
theorem dX12_mean_62 : decode cX12_mean 62 = .ok (.invokestatic 185, 3) := by decide +kernel
theorem dX12_mean_65 : decode cX12_mean 65 = .ok (.lreturn, 1) := by decide +kernel
theorem dX12_isPaid_0 : decode cX12_isPaid 0 = .ok (.iload_n 0, 1) := by decide +kernel
theorem dX12_isPaid_1 : decode cX12_isPaid 1 = .ok (.bipush (-99), 2) := by decide +kernel
theorem dX12_isPaid_3 : decode cX12_isPaid 3 = .ok (.bipush 99, 2) := by decide +kernel
theorem dX12_isPaid_5 : decode cX12_isPaid 5 = .ok (.invokestatic 38, 3) := by decide +kernel
theorem dX12_isPaid_8 : decode cX12_isPaid 8 = .ok (.ireturn, 1) := by decide +kernel
theorem dX12_table_0 : decode cX12_table 0 = .ok (.iload_n 1, 1) := by decide +kernel
theorem dX12_table_1 : decode cX12_table 1 = .ok (.invokestatic 220, 3) := by decide +kernel
theorem dX12_table_4 : decode cX12_table 4 = .ok (.ifCond .eq 35, 3) := by decide +kernel
theorem dX12_table_7 : decode cX12_table 7 = .ok (.iload_n 2, 1) := by decide +kernel
theorem dX12_table_8 : decode cX12_table 8 = .ok (.invokestatic 220, 3) := by decide +kernel
theorem dX12_table_11 : decode cX12_table 11 = .ok (.ifCond .eq 28, 3) := by decide +kernel
theorem dX12_table_14 : decode cX12_table 14 = .ok (.iload_n 3, 1) := by decide +kernel
theorem dX12_table_15 : decode cX12_table 15 = .ok (.invokestatic 220, 3) := by decide +kernel
theorem dX12_table_18 : decode cX12_table 18 = .ok (.ifCond .eq 21, 3) := by decide +kernel
theorem dX12_table_21 : decode cX12_table 21 = .ok (.iload 4, 2) := by decide +kernel
theorem dX12_table_23 : decode cX12_table 23 = .ok (.invokestatic 220, 3) := by decide +kernel
theorem dX12_table_26 : decode cX12_table 26 = .ok (.ifCond .eq 13, 3) := by decide +kernel
theorem dX12_table_29 : decode cX12_table 29 = .ok (.iload 5, 2) := by decide +kernel
theorem dX12_table_31 : decode cX12_table 31 = .ok (.iconst 0, 1) := by decide +kernel
theorem dX12_table_32 : decode cX12_table 32 = .ok (.iconst 1, 1) := by decide +kernel
theorem dX12_table_33 : decode cX12_table 33 = .ok (.invokestatic 38, 3) := by decide +kernel
theorem dX12_table_36 : decode cX12_table 36 = .ok (.ifCond .ne 7, 3) := by decide +kernel
theorem dX12_table_39 : decode cX12_table 39 = .ok (.ldc2_w 189, 3) := by decide +kernel
theorem dX12_table_42 : decode cX12_table 42 = .ok (.lreturn, 1) := by decide +kernel
theorem dX12_table_43 : decode cX12_table 43 = .ok (.iload_n 1, 1) := by decide +kernel
theorem dX12_table_44 : decode cX12_table 44 = .ok (.iload_n 2, 1) := by decide +kernel
theorem dX12_table_45 : decode cX12_table 45 = .ok (.if_icmp .ge 7, 3) := by decide +kernel
theorem dX12_table_48 : decode cX12_table 48 = .ok (.iload_n 1, 1) := by decide +kernel
theorem dX12_table_49 : decode cX12_table 49 = .ok (.goto 4, 3) := by decide +kernel
theorem dX12_table_52 : decode cX12_table 52 = .ok (.iload_n 2, 1) := by decide +kernel
theorem dX12_table_53 : decode cX12_table 53 = .ok (.istore 6, 2) := by decide +kernel
theorem dX12_table_55 : decode cX12_table 55 = .ok (.iload_n 3, 1) := by decide +kernel
theorem dX12_table_56 : decode cX12_table 56 = .ok (.iload 4, 2) := by decide +kernel
theorem dX12_table_58 : decode cX12_table 58 = .ok (.if_icmp .ge 7, 3) := by decide +kernel
theorem dX12_table_61 : decode cX12_table 61 = .ok (.iload_n 3, 1) := by decide +kernel
theorem dX12_table_62 : decode cX12_table 62 = .ok (.goto 5, 3) := by decide +kernel
theorem dX12_table_65 : decode cX12_table 65 = .ok (.iload 4, 2) := by decide +kernel
theorem dX12_table_67 : decode cX12_table 67 = .ok (.istore 7, 2) := by decide +kernel
theorem dX12_table_69 : decode cX12_table 69 = .ok (.iload 6, 2) := by decide +kernel
theorem dX12_table_71 : decode cX12_table 71 = .ok (.iload 7, 2) := by decide +kernel
theorem dX12_table_73 : decode cX12_table 73 = .ok (.if_icmp .le 8, 3) := by decide +kernel
theorem dX12_table_76 : decode cX12_table 76 = .ok (.iload 6, 2) := by decide +kernel
theorem dX12_table_78 : decode cX12_table 78 = .ok (.goto 5, 3) := by decide +kernel
theorem dX12_table_81 : decode cX12_table 81 = .ok (.iload 7, 2) := by decide +kernel
theorem dX12_table_83 : decode cX12_table 83 = .ok (.istore 8, 2) := by decide +kernel
theorem dX12_table_85 : decode cX12_table 85 = .ok (.iload_n 1, 1) := by decide +kernel
theorem dX12_table_86 : decode cX12_table 86 = .ok (.iload_n 3, 1) := by decide +kernel
theorem dX12_table_87 : decode cX12_table 87 = .ok (.if_icmp .le 7, 3) := by decide +kernel
theorem dX12_table_90 : decode cX12_table 90 = .ok (.iload_n 1, 1) := by decide +kernel
theorem dX12_table_91 : decode cX12_table 91 = .ok (.goto 4, 3) := by decide +kernel
theorem dX12_table_94 : decode cX12_table 94 = .ok (.iload_n 3, 1) := by decide +kernel
theorem dX12_table_95 : decode cX12_table 95 = .ok (.istore 9, 2) := by decide +kernel
theorem dX12_table_97 : decode cX12_table 97 = .ok (.iload_n 2, 1) := by decide +kernel
theorem dX12_table_98 : decode cX12_table 98 = .ok (.iload 4, 2) := by decide +kernel
theorem dX12_table_100 : decode cX12_table 100 = .ok (.if_icmp .le 7, 3) := by decide +kernel
theorem dX12_table_103 : decode cX12_table 103 = .ok (.iload_n 2, 1) := by decide +kernel
theorem dX12_table_104 : decode cX12_table 104 = .ok (.goto 5, 3) := by decide +kernel
theorem dX12_table_107 : decode cX12_table 107 = .ok (.iload 4, 2) := by decide +kernel
theorem dX12_table_109 : decode cX12_table 109 = .ok (.istore 10, 2) := by decide +kernel
theorem dX12_table_111 : decode cX12_table 111 = .ok (.iload 9, 2) := by decide +kernel
theorem dX12_table_113 : decode cX12_table 113 = .ok (.iload 10, 2) := by decide +kernel
theorem dX12_table_115 : decode cX12_table 115 = .ok (.if_icmp .ge 8, 3) := by decide +kernel
theorem dX12_table_118 : decode cX12_table 118 = .ok (.iload 9, 2) := by decide +kernel
theorem dX12_table_120 : decode cX12_table 120 = .ok (.goto 5, 3) := by decide +kernel
theorem dX12_table_123 : decode cX12_table 123 = .ok (.iload 10, 2) := by decide +kernel
theorem dX12_table_125 : decode cX12_table 125 = .ok (.istore 11, 2) := by decide +kernel
theorem dX12_table_127 : decode cX12_table 127 = .ok (.iload 8, 2) := by decide +kernel
theorem dX12_table_129 : decode cX12_table 129 = .ok (.iload 11, 2) := by decide +kernel
theorem dX12_table_131 : decode cX12_table 131 = .ok (.if_icmp .ne 16, 3) := by decide +kernel
theorem dX12_table_134 : decode cX12_table 134 = .ok (.iload 5, 2) := by decide +kernel
theorem dX12_table_136 : decode cX12_table 136 = .ok (.ifCond .ne 9, 3) := by decide +kernel
theorem dX12_table_139 : decode cX12_table 139 = .ok (.iload 8, 2) := by decide +kernel
theorem dX12_table_141 : decode cX12_table 141 = .ok (.i2l, 1) := by decide +kernel
theorem dX12_table_142 : decode cX12_table 142 = .ok (.goto 4, 3) := by decide +kernel
theorem dX12_table_145 : decode cX12_table 145 = .ok (.lconst 1, 1) := by decide +kernel
theorem dX12_table_146 : decode cX12_table 146 = .ok (.lreturn, 1) := by decide +kernel
theorem dX12_table_147 : decode cX12_table 147 = .ok (.iload_n 1, 1) := by decide +kernel
theorem dX12_table_148 : decode cX12_table 148 = .ok (.i2l, 1) := by decide +kernel
theorem dX12_table_149 : decode cX12_table 149 = .ok (.iload 4, 2) := by decide +kernel
theorem dX12_table_151 : decode cX12_table 151 = .ok (.i2l, 1) := by decide +kernel
theorem dX12_table_152 : decode cX12_table 152 = .ok (.lmul, 1) := by decide +kernel
theorem dX12_table_153 : decode cX12_table 153 = .ok (.iload_n 2, 1) := by decide +kernel
theorem dX12_table_154 : decode cX12_table 154 = .ok (.i2l, 1) := by decide +kernel
theorem dX12_table_155 : decode cX12_table 155 = .ok (.iload_n 3, 1) := by decide +kernel
theorem dX12_table_156 : decode cX12_table 156 = .ok (.i2l, 1) := by decide +kernel
theorem dX12_table_157 : decode cX12_table 157 = .ok (.lmul, 1) := by decide +kernel
theorem dX12_table_158 : decode cX12_table 158 = .ok (.lsub, 1) := by decide +kernel
theorem dX12_table_159 : decode cX12_table 159 = .ok (.lstore 12, 2) := by decide +kernel
theorem dX12_table_161 : decode cX12_table 161 = .ok (.iload_n 1, 1) := by decide +kernel
theorem dX12_table_162 : decode cX12_table 162 = .ok (.iload 4, 2) := by decide +kernel
theorem dX12_table_164 : decode cX12_table 164 = .ok (.iadd, 1) := by decide +kernel
theorem dX12_table_165 : decode cX12_table 165 = .ok (.iload_n 2, 1) := by decide +kernel
theorem dX12_table_166 : decode cX12_table 166 = .ok (.isub, 1) := by decide +kernel
theorem dX12_table_167 : decode cX12_table 167 = .ok (.iload_n 3, 1) := by decide +kernel
theorem dX12_table_168 : decode cX12_table 168 = .ok (.isub, 1) := by decide +kernel
theorem dX12_table_169 : decode cX12_table 169 = .ok (.i2l, 1) := by decide +kernel
theorem dX12_table_170 : decode cX12_table 170 = .ok (.lstore 14, 2) := by decide +kernel
theorem dX12_table_172 : decode cX12_table 172 = .ok (.lload 14, 2) := by decide +kernel
theorem dX12_table_174 : decode cX12_table 174 = .ok (.lconst 0, 1) := by decide +kernel
theorem dX12_table_175 : decode cX12_table 175 = .ok (.lcmp, 1) := by decide +kernel
theorem dX12_table_176 : decode cX12_table 176 = .ok (.ifCond .ge 17, 3) := by decide +kernel
theorem dX12_table_179 : decode cX12_table 179 = .ok (.lload 12, 2) := by decide +kernel
theorem dX12_table_181 : decode cX12_table 181 = .ok (.lneg, 1) := by decide +kernel
theorem dX12_table_182 : decode cX12_table 182 = .ok (.lload 14, 2) := by decide +kernel
theorem dX12_table_184 : decode cX12_table 184 = .ok (.lneg, 1) := by decide +kernel
theorem dX12_table_185 : decode cX12_table 185 = .ok (.iload 5, 2) := by decide +kernel
theorem dX12_table_187 : decode cX12_table 187 = .ok (.invokestatic 185, 3) := by decide +kernel
theorem dX12_table_190 : decode cX12_table 190 = .ok (.goto 12, 3) := by decide +kernel
theorem dX12_table_193 : decode cX12_table 193 = .ok (.lload 12, 2) := by decide +kernel
theorem dX12_table_195 : decode cX12_table 195 = .ok (.lload 14, 2) := by decide +kernel
theorem dX12_table_197 : decode cX12_table 197 = .ok (.iload 5, 2) := by decide +kernel
theorem dX12_table_199 : decode cX12_table 199 = .ok (.invokestatic 185, 3) := by decide +kernel
theorem dX12_table_202 : decode cX12_table 202 = .ok (.lreturn, 1) := by decide +kernel
theorem dX12_book_0 : decode cX12_book 0 = .ok (.iload_n 1, 1) := by decide +kernel
theorem dX12_book_1 : decode cX12_book 1 = .ok (.iconst (-1), 1) := by decide +kernel
theorem dX12_book_2 : decode cX12_book 2 = .ok (.if_icmp .ne 12, 3) := by decide +kernel
theorem dX12_book_5 : decode cX12_book 5 = .ok (.aload_n 0, 1) := by decide +kernel
theorem dX12_book_6 : decode cX12_book 6 = .ok (.getfield 9, 3) := by decide +kernel
theorem dX12_book_9 : decode cX12_book 9 = .ok (.iconst 5, 1) := by decide +kernel
theorem dX12_book_10 : decode cX12_book 10 = .ok (.iconst 0, 1) := by decide +kernel
theorem dX12_book_11 : decode cX12_book 11 = .ok (.iastore, 1) := by decide +kernel
theorem dX12_book_12 : decode cX12_book 12 = .ok (.iconst 0, 1) := by decide +kernel
theorem dX12_book_13 : decode cX12_book 13 = .ok (.ireturn, 1) := by decide +kernel
theorem dX12_book_14 : decode cX12_book 14 = .ok (.iload_n 2, 1) := by decide +kernel
theorem dX12_book_15 : decode cX12_book 15 = .ok (.iconst (-1), 1) := by decide +kernel
theorem dX12_book_16 : decode cX12_book 16 = .ok (.if_icmp .eq 13, 3) := by decide +kernel
theorem dX12_book_19 : decode cX12_book 19 = .ok (.aload_n 0, 1) := by decide +kernel
theorem dX12_book_20 : decode cX12_book 20 = .ok (.iload_n 2, 1) := by decide +kernel
theorem dX12_book_21 : decode cX12_book 21 = .ok (.invokevirtual 138, 3) := by decide +kernel
theorem dX12_book_24 : decode cX12_book 24 = .ok (.ifCond .ne 5, 3) := by decide +kernel
theorem dX12_book_27 : decode cX12_book 27 = .ok (.iconst (-1), 1) := by decide +kernel
theorem dX12_book_28 : decode cX12_book 28 = .ok (.ireturn, 1) := by decide +kernel
theorem dX12_book_29 : decode cX12_book 29 = .ok (.iload_n 1, 1) := by decide +kernel
theorem dX12_book_30 : decode cX12_book 30 = .ok (.iconst 0, 1) := by decide +kernel
theorem dX12_book_31 : decode cX12_book 31 = .ok (.bipush 39, 2) := by decide +kernel
theorem dX12_book_33 : decode cX12_book 33 = .ok (.invokestatic 38, 3) := by decide +kernel
theorem dX12_book_36 : decode cX12_book 36 = .ok (.ifCond .ne 6, 3) := by decide +kernel
theorem dX12_book_39 : decode cX12_book 39 = .ok (.bipush (-2), 2) := by decide +kernel
theorem dX12_book_41 : decode cX12_book 41 = .ok (.ireturn, 1) := by decide +kernel
theorem dX12_book_42 : decode cX12_book 42 = .ok (.aload_n 0, 1) := by decide +kernel
theorem dX12_book_43 : decode cX12_book 43 = .ok (.getfield 9, 3) := by decide +kernel
theorem dX12_book_46 : decode cX12_book 46 = .ok (.iconst 5, 1) := by decide +kernel
theorem dX12_book_47 : decode cX12_book 47 = .ok (.iaload, 1) := by decide +kernel
theorem dX12_book_48 : decode cX12_book 48 = .ok (.bipush 8, 2) := by decide +kernel
theorem dX12_book_50 : decode cX12_book 50 = .ok (.if_icmp .ne 6, 3) := by decide +kernel
theorem dX12_book_53 : decode cX12_book 53 = .ok (.bipush (-4), 2) := by decide +kernel
theorem dX12_book_55 : decode cX12_book 55 = .ok (.ireturn, 1) := by decide +kernel
theorem dX12_book_56 : decode cX12_book 56 = .ok (.aload_n 0, 1) := by decide +kernel
theorem dX12_book_57 : decode cX12_book 57 = .ok (.getfield 9, 3) := by decide +kernel
theorem dX12_book_60 : decode cX12_book 60 = .ok (.bipush 112, 2) := by decide +kernel
theorem dX12_book_62 : decode cX12_book 62 = .ok (.aload_n 0, 1) := by decide +kernel
theorem dX12_book_63 : decode cX12_book 63 = .ok (.getfield 9, 3) := by decide +kernel
theorem dX12_book_66 : decode cX12_book 66 = .ok (.iconst 5, 1) := by decide +kernel
theorem dX12_book_67 : decode cX12_book 67 = .ok (.iaload, 1) := by decide +kernel
theorem dX12_book_68 : decode cX12_book 68 = .ok (.iadd, 1) := by decide +kernel
theorem dX12_book_69 : decode cX12_book 69 = .ok (.iload_n 1, 1) := by decide +kernel
theorem dX12_book_70 : decode cX12_book 70 = .ok (.iastore, 1) := by decide +kernel
theorem dX12_book_71 : decode cX12_book 71 = .ok (.aload_n 0, 1) := by decide +kernel
theorem dX12_book_72 : decode cX12_book 72 = .ok (.getfield 9, 3) := by decide +kernel
theorem dX12_book_75 : decode cX12_book 75 = .ok (.bipush 120, 2) := by decide +kernel
theorem dX12_book_77 : decode cX12_book 77 = .ok (.aload_n 0, 1) := by decide +kernel
theorem dX12_book_78 : decode cX12_book 78 = .ok (.getfield 9, 3) := by decide +kernel
theorem dX12_book_81 : decode cX12_book 81 = .ok (.iconst 5, 1) := by decide +kernel
theorem dX12_book_82 : decode cX12_book 82 = .ok (.iaload, 1) := by decide +kernel
theorem dX12_book_83 : decode cX12_book 83 = .ok (.iadd, 1) := by decide +kernel
theorem dX12_book_84 : decode cX12_book 84 = .ok (.iload_n 2, 1) := by decide +kernel
theorem dX12_book_85 : decode cX12_book 85 = .ok (.iastore, 1) := by decide +kernel
theorem dX12_book_86 : decode cX12_book 86 = .ok (.aload_n 0, 1) := by decide +kernel
theorem dX12_book_87 : decode cX12_book 87 = .ok (.getfield 9, 3) := by decide +kernel
theorem dX12_book_90 : decode cX12_book 90 = .ok (.iconst 5, 1) := by decide +kernel
theorem dX12_book_91 : decode cX12_book 91 = .ok (.dup2, 1) := by decide +kernel
theorem dX12_book_92 : decode cX12_book 92 = .ok (.iaload, 1) := by decide +kernel
theorem dX12_book_93 : decode cX12_book 93 = .ok (.iconst 1, 1) := by decide +kernel
theorem dX12_book_94 : decode cX12_book 94 = .ok (.iadd, 1) := by decide +kernel
theorem dX12_book_95 : decode cX12_book 95 = .ok (.iastore, 1) := by decide +kernel
theorem dX12_book_96 : decode cX12_book 96 = .ok (.aload_n 0, 1) := by decide +kernel
theorem dX12_book_97 : decode cX12_book 97 = .ok (.getfield 9, 3) := by decide +kernel
theorem dX12_book_100 : decode cX12_book 100 = .ok (.iconst 5, 1) := by decide +kernel
theorem dX12_book_101 : decode cX12_book 101 = .ok (.iaload, 1) := by decide +kernel
theorem dX12_book_102 : decode cX12_book 102 = .ok (.ireturn, 1) := by decide +kernel
theorem dX12_looked_0 : decode cX12_looked 0 = .ok (.iconst 0, 1) := by decide +kernel
theorem dX12_looked_1 : decode cX12_looked 1 = .ok (.istore_n 1, 1) := by decide +kernel
theorem dX12_looked_2 : decode cX12_looked 2 = .ok (.iload_n 1, 1) := by decide +kernel
theorem dX12_looked_3 : decode cX12_looked 3 = .ok (.aload_n 0, 1) := by decide +kernel
theorem dX12_looked_4 : decode cX12_looked 4 = .ok (.getfield 9, 3) := by decide +kernel
theorem dX12_looked_7 : decode cX12_looked 7 = .ok (.iconst 5, 1) := by decide +kernel
theorem dX12_looked_8 : decode cX12_looked 8 = .ok (.iaload, 1) := by decide +kernel
theorem dX12_looked_9 : decode cX12_looked 9 = .ok (.if_icmp .ge 36, 3) := by decide +kernel
theorem dX12_looked_12 : decode cX12_looked 12 = .ok (.aload_n 0, 1) := by decide +kernel
theorem dX12_looked_13 : decode cX12_looked 13 = .ok (.aload_n 0, 1) := by decide +kernel
theorem dX12_looked_14 : decode cX12_looked 14 = .ok (.getfield 9, 3) := by decide +kernel
theorem dX12_looked_17 : decode cX12_looked 17 = .ok (.bipush 112, 2) := by decide +kernel
theorem dX12_looked_19 : decode cX12_looked 19 = .ok (.iload_n 1, 1) := by decide +kernel
theorem dX12_looked_20 : decode cX12_looked 20 = .ok (.iadd, 1) := by decide +kernel
theorem dX12_looked_21 : decode cX12_looked 21 = .ok (.iaload, 1) := by decide +kernel
theorem dX12_looked_22 : decode cX12_looked 22 = .ok (.invokevirtual 125, 3) := by decide +kernel
theorem dX12_looked_25 : decode cX12_looked 25 = .ok (.aload_n 0, 1) := by decide +kernel
theorem dX12_looked_26 : decode cX12_looked 26 = .ok (.getfield 9, 3) := by decide +kernel
theorem dX12_looked_29 : decode cX12_looked 29 = .ok (.bipush 120, 2) := by decide +kernel
theorem dX12_looked_31 : decode cX12_looked 31 = .ok (.iload_n 1, 1) := by decide +kernel
theorem dX12_looked_32 : decode cX12_looked 32 = .ok (.iadd, 1) := by decide +kernel
theorem dX12_looked_33 : decode cX12_looked 33 = .ok (.iaload, 1) := by decide +kernel
theorem dX12_looked_34 : decode cX12_looked 34 = .ok (.if_icmp .eq 5, 3) := by decide +kernel
theorem dX12_looked_37 : decode cX12_looked 37 = .ok (.iload_n 1, 1) := by decide +kernel
theorem dX12_looked_38 : decode cX12_looked 38 = .ok (.ireturn, 1) := by decide +kernel
theorem dX12_looked_39 : decode cX12_looked 39 = .ok (.iinc 1 1, 3) := by decide +kernel
theorem dX12_looked_42 : decode cX12_looked 42 = .ok (.goto (-40), 3) := by decide +kernel
theorem dX12_looked_45 : decode cX12_looked 45 = .ok (.bipush (-5), 2) := by decide +kernel
theorem dX12_looked_47 : decode cX12_looked 47 = .ok (.ireturn, 1) := by decide +kernel
theorem dX12_ranBody_0 : decode cX12_ranBody 0 = .ok (.aload_n 0, 1) := by decide +kernel
theorem dX12_ranBody_1 : decode cX12_ranBody 1 = .ok (.getfield 223, 3) := by decide +kernel
theorem dX12_ranBody_4 : decode cX12_ranBody 4 = .ok (.bipush 20, 2) := by decide +kernel
theorem dX12_ranBody_6 : decode cX12_ranBody 6 = .ok (.if_icmp .ge 13, 3) := by decide +kernel
theorem dX12_ranBody_9 : decode cX12_ranBody 9 = .ok (.aload_n 0, 1) := by decide +kernel
theorem dX12_ranBody_10 : decode cX12_ranBody 10 = .ok (.getfield 31, 3) := by decide +kernel
theorem dX12_ranBody_13 : decode cX12_ranBody 13 = .ok (.aload_n 0, 1) := by decide +kernel
theorem dX12_ranBody_14 : decode cX12_ranBody 14 = .ok (.getfield 223, 3) := by decide +kernel
theorem dX12_ranBody_17 : decode cX12_ranBody 17 = .ok (.iload_n 1, 1) := by decide +kernel
theorem dX12_ranBody_18 : decode cX12_ranBody 18 = .ok (.iastore, 1) := by decide +kernel
theorem dX12_ranBody_19 : decode cX12_ranBody 19 = .ok (.aload_n 0, 1) := by decide +kernel
theorem dX12_ranBody_20 : decode cX12_ranBody 20 = .ok (.dup, 1) := by decide +kernel
theorem dX12_ranBody_21 : decode cX12_ranBody 21 = .ok (.getfield 223, 3) := by decide +kernel
theorem dX12_ranBody_24 : decode cX12_ranBody 24 = .ok (.iconst 1, 1) := by decide +kernel
theorem dX12_ranBody_25 : decode cX12_ranBody 25 = .ok (.iadd, 1) := by decide +kernel
theorem dX12_ranBody_26 : decode cX12_ranBody 26 = .ok (.putfield 223, 3) := by decide +kernel
theorem dX12_ranBody_29 : decode cX12_ranBody 29 = .ok (.return_, 1) := by decide +kernel
theorem dX12_isUnder_0 : decode cX12_isUnder 0 = .ok (.iload_n 1, 1) := by decide +kernel
theorem dX12_isUnder_1 : decode cX12_isUnder 1 = .ok (.ifCond .eq 24, 3) := by decide +kernel
theorem dX12_isUnder_4 : decode cX12_isUnder 4 = .ok (.iload_n 1, 1) := by decide +kernel
theorem dX12_isUnder_5 : decode cX12_isUnder 5 = .ok (.iload_n 0, 1) := by decide +kernel
theorem dX12_isUnder_6 : decode cX12_isUnder 6 = .ok (.if_icmp .eq 19, 3) := by decide +kernel
theorem dX12_isUnder_9 : decode cX12_isUnder 9 = .ok (.iload_n 1, 1) := by decide +kernel
theorem dX12_isUnder_10 : decode cX12_isUnder 10 = .ok (.ifCond .le 19, 3) := by decide +kernel
theorem dX12_isUnder_13 : decode cX12_isUnder 13 = .ok (.iload_n 1, 1) := by decide +kernel
theorem dX12_isUnder_14 : decode cX12_isUnder 14 = .ok (.iconst 4, 1) := by decide +kernel
theorem dX12_isUnder_15 : decode cX12_isUnder 15 = .ok (.if_icmp .ge 14, 3) := by decide +kernel
theorem dX12_isUnder_18 : decode cX12_isUnder 18 = .ok (.iload_n 0, 1) := by decide +kernel
theorem dX12_isUnder_19 : decode cX12_isUnder 19 = .ok (.iload_n 1, 1) := by decide +kernel
theorem dX12_isUnder_20 : decode cX12_isUnder 20 = .ok (.iconst 3, 1) := by decide +kernel
theorem dX12_isUnder_21 : decode cX12_isUnder 21 = .ok (.iadd, 1) := by decide +kernel
theorem dX12_isUnder_22 : decode cX12_isUnder 22 = .ok (.if_icmp .ne 7, 3) := by decide +kernel
theorem dX12_isUnder_25 : decode cX12_isUnder 25 = .ok (.iconst 1, 1) := by decide +kernel
theorem dX12_isUnder_26 : decode cX12_isUnder 26 = .ok (.goto 4, 3) := by decide +kernel
theorem dX12_isUnder_29 : decode cX12_isUnder 29 = .ok (.iconst 0, 1) := by decide +kernel
theorem dX12_isUnder_30 : decode cX12_isUnder 30 = .ok (.ireturn, 1) := by decide +kernel
theorem dX12_plainWrites_0 : decode cX12_plainWrites 0 = .ok (.aload_n 0, 1) := by decide +kernel
theorem dX12_plainWrites_1 : decode cX12_plainWrites 1 = .ok (.iconst 1, 1) := by decide +kernel
theorem dX12_plainWrites_2 : decode cX12_plainWrites 2 = .ok (.invokevirtual 226, 3) := by decide +kernel
theorem dX12_plainWrites_5 : decode cX12_plainWrites 5 = .ok (.iload_n 1, 1) := by decide +kernel
theorem dX12_plainWrites_6 : decode cX12_plainWrites 6 = .ok (.aload_n 0, 1) := by decide +kernel
theorem dX12_plainWrites_7 : decode cX12_plainWrites 7 = .ok (.getfield 229, 3) := by decide +kernel
theorem dX12_plainWrites_10 : decode cX12_plainWrites 10 = .ok (.iadd, 1) := by decide +kernel
theorem dX12_plainWrites_11 : decode cX12_plainWrites 11 = .ok (.ireturn, 1) := by decide +kernel
theorem dX12_writesActs_0 : decode cX12_writesActs 0 = .ok (.aload_n 0, 1) := by decide +kernel
theorem dX12_writesActs_1 : decode cX12_writesActs 1 = .ok (.getfield 232, 3) := by decide +kernel
theorem dX12_writesActs_4 : decode cX12_writesActs 4 = .ok (.iconst 1, 1) := by decide +kernel
theorem dX12_writesActs_5 : decode cX12_writesActs 5 = .ok (.invokestatic 235, 3) := by decide +kernel
theorem dX12_writesActs_8 : decode cX12_writesActs 8 = .ok (.ifCond .eq 17, 3) := by decide +kernel
theorem dX12_writesActs_11 : decode cX12_writesActs 11 = .ok (.aload_n 0, 1) := by decide +kernel
theorem dX12_writesActs_12 : decode cX12_writesActs 12 = .ok (.bipush 11, 2) := by decide +kernel
theorem dX12_writesActs_14 : decode cX12_writesActs 14 = .ok (.invokevirtual 226, 3) := by decide +kernel
theorem dX12_writesActs_17 : decode cX12_writesActs 17 = .ok (.aload_n 0, 1) := by decide +kernel
theorem dX12_writesActs_18 : decode cX12_writesActs 18 = .ok (.iload_n 1, 1) := by decide +kernel
theorem dX12_writesActs_19 : decode cX12_writesActs 19 = .ok (.iconst 3, 1) := by decide +kernel
theorem dX12_writesActs_20 : decode cX12_writesActs 20 = .ok (.imul, 1) := by decide +kernel
theorem dX12_writesActs_21 : decode cX12_writesActs 21 = .ok (.invokevirtual 238, 3) := by decide +kernel
theorem dX12_writesActs_24 : decode cX12_writesActs 24 = .ok (.ireturn, 1) := by decide +kernel
theorem dX12_writesActs_25 : decode cX12_writesActs 25 = .ok (.aload_n 0, 1) := by decide +kernel
theorem dX12_writesActs_26 : decode cX12_writesActs 26 = .ok (.getfield 232, 3) := by decide +kernel
theorem dX12_writesActs_29 : decode cX12_writesActs 29 = .ok (.iconst 5, 1) := by decide +kernel
theorem dX12_writesActs_30 : decode cX12_writesActs 30 = .ok (.if_icmp .ne 20, 3) := by decide +kernel
theorem dX12_writesActs_33 : decode cX12_writesActs 33 = .ok (.aload_n 0, 1) := by decide +kernel
theorem dX12_writesActs_34 : decode cX12_writesActs 34 = .ok (.bipush 51, 2) := by decide +kernel
theorem dX12_writesActs_36 : decode cX12_writesActs 36 = .ok (.invokevirtual 226, 3) := by decide +kernel
theorem dX12_writesActs_39 : decode cX12_writesActs 39 = .ok (.aload_n 0, 1) := by decide +kernel
theorem dX12_writesActs_40 : decode cX12_writesActs 40 = .ok (.iload_n 1, 1) := by decide +kernel
theorem dX12_writesActs_41 : decode cX12_writesActs 41 = .ok (.invokevirtual 238, 3) := by decide +kernel
theorem dX12_writesActs_44 : decode cX12_writesActs 44 = .ok (.aload_n 0, 1) := by decide +kernel
theorem dX12_writesActs_45 : decode cX12_writesActs 45 = .ok (.getfield 229, 3) := by decide +kernel
theorem dX12_writesActs_48 : decode cX12_writesActs 48 = .ok (.ixor, 1) := by decide +kernel
theorem dX12_writesActs_49 : decode cX12_writesActs 49 = .ok (.ireturn, 1) := by decide +kernel
theorem dX12_writesActs_50 : decode cX12_writesActs 50 = .ok (.aload_n 0, 1) := by decide +kernel
theorem dX12_writesActs_51 : decode cX12_writesActs 51 = .ok (.iload_n 1, 1) := by decide +kernel
theorem dX12_writesActs_52 : decode cX12_writesActs 52 = .ok (.invokevirtual 238, 3) := by decide +kernel
theorem dX12_writesActs_55 : decode cX12_writesActs 55 = .ok (.ireturn, 1) := by decide +kernel
theorem dX12_plainShows_0 : decode cX12_plainShows 0 = .ok (.aload_n 0, 1) := by decide +kernel
theorem dX12_plainShows_1 : decode cX12_plainShows 1 = .ok (.iconst 2, 1) := by decide +kernel
theorem dX12_plainShows_2 : decode cX12_plainShows 2 = .ok (.invokevirtual 226, 3) := by decide +kernel
theorem dX12_plainShows_5 : decode cX12_plainShows 5 = .ok (.aload_n 0, 1) := by decide +kernel
theorem dX12_plainShows_6 : decode cX12_plainShows 6 = .ok (.iload_n 1, 1) := by decide +kernel
theorem dX12_plainShows_7 : decode cX12_plainShows 7 = .ok (.invokevirtual 241, 3) := by decide +kernel
theorem dX12_plainShows_10 : decode cX12_plainShows 10 = .ok (.aload_n 0, 1) := by decide +kernel
theorem dX12_plainShows_11 : decode cX12_plainShows 11 = .ok (.getfield 244, 3) := by decide +kernel
theorem dX12_plainShows_14 : decode cX12_plainShows 14 = .ok (.isub, 1) := by decide +kernel
theorem dX12_plainShows_15 : decode cX12_plainShows 15 = .ok (.ireturn, 1) := by decide +kernel
theorem dX12_showsActs_0 : decode cX12_showsActs 0 = .ok (.aload_n 0, 1) := by decide +kernel
theorem dX12_showsActs_1 : decode cX12_showsActs 1 = .ok (.getfield 232, 3) := by decide +kernel
theorem dX12_showsActs_4 : decode cX12_showsActs 4 = .ok (.iconst 2, 1) := by decide +kernel
theorem dX12_showsActs_5 : decode cX12_showsActs 5 = .ok (.invokestatic 235, 3) := by decide +kernel
theorem dX12_showsActs_8 : decode cX12_showsActs 8 = .ok (.ifCond .eq 16, 3) := by decide +kernel
theorem dX12_showsActs_11 : decode cX12_showsActs 11 = .ok (.aload_n 0, 1) := by decide +kernel
theorem dX12_showsActs_12 : decode cX12_showsActs 12 = .ok (.bipush 21, 2) := by decide +kernel
theorem dX12_showsActs_14 : decode cX12_showsActs 14 = .ok (.invokevirtual 226, 3) := by decide +kernel
theorem dX12_showsActs_17 : decode cX12_showsActs 17 = .ok (.aload_n 0, 1) := by decide +kernel
theorem dX12_showsActs_18 : decode cX12_showsActs 18 = .ok (.iload_n 1, 1) := by decide +kernel
theorem dX12_showsActs_19 : decode cX12_showsActs 19 = .ok (.invokevirtual 247, 3) := by decide +kernel
theorem dX12_showsActs_22 : decode cX12_showsActs 22 = .ok (.ineg, 1) := by decide +kernel
theorem dX12_showsActs_23 : decode cX12_showsActs 23 = .ok (.ireturn, 1) := by decide +kernel
theorem dX12_showsActs_24 : decode cX12_showsActs 24 = .ok (.aload_n 0, 1) := by decide +kernel
theorem dX12_showsActs_25 : decode cX12_showsActs 25 = .ok (.getfield 232, 3) := by decide +kernel
theorem dX12_showsActs_28 : decode cX12_showsActs 28 = .ok (.bipush 6, 2) := by decide +kernel
theorem dX12_showsActs_30 : decode cX12_showsActs 30 = .ok (.if_icmp .ne 20, 3) := by decide +kernel
theorem dX12_showsActs_33 : decode cX12_showsActs 33 = .ok (.aload_n 0, 1) := by decide +kernel
theorem dX12_showsActs_34 : decode cX12_showsActs 34 = .ok (.bipush 61, 2) := by decide +kernel
theorem dX12_showsActs_36 : decode cX12_showsActs 36 = .ok (.invokevirtual 226, 3) := by decide +kernel
theorem dX12_showsActs_39 : decode cX12_showsActs 39 = .ok (.aload_n 0, 1) := by decide +kernel
theorem dX12_showsActs_40 : decode cX12_showsActs 40 = .ok (.iload_n 1, 1) := by decide +kernel
theorem dX12_showsActs_41 : decode cX12_showsActs 41 = .ok (.invokevirtual 247, 3) := by decide +kernel
theorem dX12_showsActs_44 : decode cX12_showsActs 44 = .ok (.aload_n 0, 1) := by decide +kernel
theorem dX12_showsActs_45 : decode cX12_showsActs 45 = .ok (.getfield 244, 3) := by decide +kernel
theorem dX12_showsActs_48 : decode cX12_showsActs 48 = .ok (.iadd, 1) := by decide +kernel
theorem dX12_showsActs_49 : decode cX12_showsActs 49 = .ok (.ireturn, 1) := by decide +kernel
theorem dX12_showsActs_50 : decode cX12_showsActs 50 = .ok (.aload_n 0, 1) := by decide +kernel
theorem dX12_showsActs_51 : decode cX12_showsActs 51 = .ok (.iload_n 1, 1) := by decide +kernel
theorem dX12_showsActs_52 : decode cX12_showsActs 52 = .ok (.invokevirtual 247, 3) := by decide +kernel
theorem dX12_showsActs_55 : decode cX12_showsActs 55 = .ok (.ireturn, 1) := by decide +kernel
theorem dX12_plainTells_0 : decode cX12_plainTells 0 = .ok (.aload_n 0, 1) := by decide +kernel
theorem dX12_plainTells_1 : decode cX12_plainTells 1 = .ok (.iconst 3, 1) := by decide +kernel
theorem dX12_plainTells_2 : decode cX12_plainTells 2 = .ok (.invokevirtual 226, 3) := by decide +kernel
theorem dX12_plainTells_5 : decode cX12_plainTells 5 = .ok (.aload_n 0, 1) := by decide +kernel
theorem dX12_plainTells_6 : decode cX12_plainTells 6 = .ok (.iload_n 1, 1) := by decide +kernel
theorem dX12_plainTells_7 : decode cX12_plainTells 7 = .ok (.invokevirtual 250, 3) := by decide +kernel
theorem dX12_plainTells_10 : decode cX12_plainTells 10 = .ok (.iconst 2, 1) := by decide +kernel
theorem dX12_plainTells_11 : decode cX12_plainTells 11 = .ok (.imul, 1) := by decide +kernel
theorem dX12_plainTells_12 : decode cX12_plainTells 12 = .ok (.ireturn, 1) := by decide +kernel
theorem dX12_tellsActs_0 : decode cX12_tellsActs 0 = .ok (.aload_n 0, 1) := by decide +kernel
theorem dX12_tellsActs_1 : decode cX12_tellsActs 1 = .ok (.getfield 232, 3) := by decide +kernel
theorem dX12_tellsActs_4 : decode cX12_tellsActs 4 = .ok (.iconst 3, 1) := by decide +kernel
theorem dX12_tellsActs_5 : decode cX12_tellsActs 5 = .ok (.invokestatic 235, 3) := by decide +kernel
theorem dX12_tellsActs_8 : decode cX12_tellsActs 8 = .ok (.ifCond .eq 18, 3) := by decide +kernel
theorem dX12_tellsActs_11 : decode cX12_tellsActs 11 = .ok (.aload_n 0, 1) := by decide +kernel
theorem dX12_tellsActs_12 : decode cX12_tellsActs 12 = .ok (.bipush 31, 2) := by decide +kernel
theorem dX12_tellsActs_14 : decode cX12_tellsActs 14 = .ok (.invokevirtual 226, 3) := by decide +kernel
theorem dX12_tellsActs_17 : decode cX12_tellsActs 17 = .ok (.aload_n 0, 1) := by decide +kernel
theorem dX12_tellsActs_18 : decode cX12_tellsActs 18 = .ok (.iload_n 1, 1) := by decide +kernel
theorem dX12_tellsActs_19 : decode cX12_tellsActs 19 = .ok (.invokevirtual 253, 3) := by decide +kernel
theorem dX12_tellsActs_22 : decode cX12_tellsActs 22 = .ok (.bipush 7, 2) := by decide +kernel
theorem dX12_tellsActs_24 : decode cX12_tellsActs 24 = .ok (.ixor, 1) := by decide +kernel
theorem dX12_tellsActs_25 : decode cX12_tellsActs 25 = .ok (.ireturn, 1) := by decide +kernel
theorem dX12_tellsActs_26 : decode cX12_tellsActs 26 = .ok (.aload_n 0, 1) := by decide +kernel
theorem dX12_tellsActs_27 : decode cX12_tellsActs 27 = .ok (.getfield 232, 3) := by decide +kernel
theorem dX12_tellsActs_30 : decode cX12_tellsActs 30 = .ok (.iconst 4, 1) := by decide +kernel
theorem dX12_tellsActs_31 : decode cX12_tellsActs 31 = .ok (.if_icmp .ne 25, 3) := by decide +kernel
theorem dX12_tellsActs_34 : decode cX12_tellsActs 34 = .ok (.aload_n 0, 1) := by decide +kernel
theorem dX12_tellsActs_35 : decode cX12_tellsActs 35 = .ok (.bipush 41, 2) := by decide +kernel
theorem dX12_tellsActs_37 : decode cX12_tellsActs 37 = .ok (.invokevirtual 226, 3) := by decide +kernel
theorem dX12_tellsActs_40 : decode cX12_tellsActs 40 = .ok (.aload_n 0, 1) := by decide +kernel
theorem dX12_tellsActs_41 : decode cX12_tellsActs 41 = .ok (.iload_n 1, 1) := by decide +kernel
theorem dX12_tellsActs_42 : decode cX12_tellsActs 42 = .ok (.iconst 1, 1) := by decide +kernel
theorem dX12_tellsActs_43 : decode cX12_tellsActs 43 = .ok (.isub, 1) := by decide +kernel
theorem dX12_tellsActs_44 : decode cX12_tellsActs 44 = .ok (.invokevirtual 253, 3) := by decide +kernel
theorem dX12_tellsActs_47 : decode cX12_tellsActs 47 = .ok (.istore_n 2, 1) := by decide +kernel
theorem dX12_tellsActs_48 : decode cX12_tellsActs 48 = .ok (.iload_n 2, 1) := by decide +kernel
theorem dX12_tellsActs_49 : decode cX12_tellsActs 49 = .ok (.aload_n 0, 1) := by decide +kernel
theorem dX12_tellsActs_50 : decode cX12_tellsActs 50 = .ok (.iconst 2, 1) := by decide +kernel
theorem dX12_tellsActs_51 : decode cX12_tellsActs 51 = .ok (.invokevirtual 241, 3) := by decide +kernel
theorem dX12_tellsActs_54 : decode cX12_tellsActs 54 = .ok (.iadd, 1) := by decide +kernel
theorem dX12_tellsActs_55 : decode cX12_tellsActs 55 = .ok (.ireturn, 1) := by decide +kernel
theorem dX12_tellsActs_56 : decode cX12_tellsActs 56 = .ok (.aload_n 0, 1) := by decide +kernel
theorem dX12_tellsActs_57 : decode cX12_tellsActs 57 = .ok (.iload_n 1, 1) := by decide +kernel
theorem dX12_tellsActs_58 : decode cX12_tellsActs 58 = .ok (.invokevirtual 253, 3) := by decide +kernel
theorem dX12_tellsActs_61 : decode cX12_tellsActs 61 = .ok (.ireturn, 1) := by decide +kernel
theorem dX12_act_0 : decode cX12_act 0 = .ok (.aload_n 0, 1) := by decide +kernel
theorem dX12_act_1 : decode cX12_act 1 = .ok (.iconst 0, 1) := by decide +kernel
theorem dX12_act_2 : decode cX12_act 2 = .ok (.putfield 223, 3) := by decide +kernel
theorem dX12_act_5 : decode cX12_act 5 = .ok (.aload_n 0, 1) := by decide +kernel
theorem dX12_act_6 : decode cX12_act 6 = .ok (.iload_n 1, 1) := by decide +kernel
theorem dX12_act_7 : decode cX12_act 7 = .ok (.invokevirtual 138, 3) := by decide +kernel
theorem dX12_act_10 : decode cX12_act 10 = .ok (.ifCond .eq 12, 3) := by decide +kernel
theorem dX12_act_13 : decode cX12_act 13 = .ok (.iload_n 2, 1) := by decide +kernel
theorem dX12_act_14 : decode cX12_act 14 = .ok (.iconst 0, 1) := by decide +kernel
theorem dX12_act_15 : decode cX12_act 15 = .ok (.iconst 2, 1) := by decide +kernel
theorem dX12_act_16 : decode cX12_act 16 = .ok (.invokestatic 38, 3) := by decide +kernel
theorem dX12_act_19 : decode cX12_act 19 = .ok (.ifCond .ne 5, 3) := by decide +kernel
theorem dX12_act_22 : decode cX12_act 22 = .ok (.iconst 0, 1) := by decide +kernel
theorem dX12_act_23 : decode cX12_act 23 = .ok (.ireturn, 1) := by decide +kernel
theorem dX12_act_24 : decode cX12_act 24 = .ok (.aload_n 0, 1) := by decide +kernel
theorem dX12_act_25 : decode cX12_act 25 = .ok (.aload_n 0, 1) := by decide +kernel
theorem dX12_act_26 : decode cX12_act 26 = .ok (.getfield 9, 3) := by decide +kernel
theorem dX12_act_29 : decode cX12_act 29 = .ok (.bipush 11, 2) := by decide +kernel
theorem dX12_act_31 : decode cX12_act 31 = .ok (.iload_n 1, 1) := by decide +kernel
theorem dX12_act_32 : decode cX12_act 32 = .ok (.iadd, 1) := by decide +kernel
theorem dX12_act_33 : decode cX12_act 33 = .ok (.iaload, 1) := by decide +kernel
theorem dX12_act_34 : decode cX12_act 34 = .ok (.putfield 232, 3) := by decide +kernel
theorem dX12_act_37 : decode cX12_act 37 = .ok (.aload_n 0, 1) := by decide +kernel
theorem dX12_act_38 : decode cX12_act 38 = .ok (.iload_n 1, 1) := by decide +kernel
theorem dX12_act_39 : decode cX12_act 39 = .ok (.putfield 229, 3) := by decide +kernel
theorem dX12_act_42 : decode cX12_act 42 = .ok (.aload_n 0, 1) := by decide +kernel
theorem dX12_act_43 : decode cX12_act 43 = .ok (.aload_n 0, 1) := by decide +kernel
theorem dX12_act_44 : decode cX12_act 44 = .ok (.getfield 9, 3) := by decide +kernel
theorem dX12_act_47 : decode cX12_act 47 = .ok (.bipush 17, 2) := by decide +kernel
theorem dX12_act_49 : decode cX12_act 49 = .ok (.iload_n 1, 1) := by decide +kernel
theorem dX12_act_50 : decode cX12_act 50 = .ok (.iadd, 1) := by decide +kernel
theorem dX12_act_51 : decode cX12_act 51 = .ok (.iaload, 1) := by decide +kernel
theorem dX12_act_52 : decode cX12_act 52 = .ok (.putfield 244, 3) := by decide +kernel
theorem dX12_act_55 : decode cX12_act 55 = .ok (.iload_n 2, 1) := by decide +kernel
theorem dX12_act_56 : decode cX12_act 56 = .ok (.ifCond .ne 11, 3) := by decide +kernel
theorem dX12_act_59 : decode cX12_act 59 = .ok (.aload_n 0, 1) := by decide +kernel
theorem dX12_act_60 : decode cX12_act 60 = .ok (.iload_n 3, 1) := by decide +kernel
theorem dX12_act_61 : decode cX12_act 61 = .ok (.invokevirtual 241, 3) := by decide +kernel
theorem dX12_act_64 : decode cX12_act 64 = .ok (.goto 21, 3) := by decide +kernel
theorem dX12_act_67 : decode cX12_act 67 = .ok (.iload_n 2, 1) := by decide +kernel
theorem dX12_act_68 : decode cX12_act 68 = .ok (.iconst 1, 1) := by decide +kernel
theorem dX12_act_69 : decode cX12_act 69 = .ok (.if_icmp .ne 11, 3) := by decide +kernel
theorem dX12_act_72 : decode cX12_act 72 = .ok (.aload_n 0, 1) := by decide +kernel
theorem dX12_act_73 : decode cX12_act 73 = .ok (.iload_n 3, 1) := by decide +kernel
theorem dX12_act_74 : decode cX12_act 74 = .ok (.invokevirtual 250, 3) := by decide +kernel
theorem dX12_act_77 : decode cX12_act 77 = .ok (.goto 8, 3) := by decide +kernel
theorem dX12_act_80 : decode cX12_act 80 = .ok (.aload_n 0, 1) := by decide +kernel
theorem dX12_act_81 : decode cX12_act 81 = .ok (.iload_n 3, 1) := by decide +kernel
theorem dX12_act_82 : decode cX12_act 82 = .ok (.invokevirtual 256, 3) := by decide +kernel
theorem dX12_act_85 : decode cX12_act 85 = .ok (.ireturn, 1) := by decide +kernel
theorem dX12_trace_0 : decode cX12_trace 0 = .ok (.iload_n 1, 1) := by decide +kernel
theorem dX12_trace_1 : decode cX12_trace 1 = .ok (.iconst 0, 1) := by decide +kernel
theorem dX12_trace_2 : decode cX12_trace 2 = .ok (.aload_n 0, 1) := by decide +kernel
theorem dX12_trace_3 : decode cX12_trace 3 = .ok (.getfield 223, 3) := by decide +kernel
theorem dX12_trace_6 : decode cX12_trace 6 = .ok (.bipush 20, 2) := by decide +kernel
theorem dX12_trace_8 : decode cX12_trace 8 = .ok (.if_icmp .ge 10, 3) := by decide +kernel
theorem dX12_trace_11 : decode cX12_trace 11 = .ok (.aload_n 0, 1) := by decide +kernel
theorem dX12_trace_12 : decode cX12_trace 12 = .ok (.getfield 223, 3) := by decide +kernel
theorem dX12_trace_15 : decode cX12_trace 15 = .ok (.goto 5, 3) := by decide +kernel
theorem dX12_trace_18 : decode cX12_trace 18 = .ok (.bipush 20, 2) := by decide +kernel
theorem dX12_trace_20 : decode cX12_trace 20 = .ok (.iconst 1, 1) := by decide +kernel
theorem dX12_trace_21 : decode cX12_trace 21 = .ok (.isub, 1) := by decide +kernel
theorem dX12_trace_22 : decode cX12_trace 22 = .ok (.invokestatic 38, 3) := by decide +kernel
theorem dX12_trace_25 : decode cX12_trace 25 = .ok (.ifCond .eq 12, 3) := by decide +kernel
theorem dX12_trace_28 : decode cX12_trace 28 = .ok (.aload_n 0, 1) := by decide +kernel
theorem dX12_trace_29 : decode cX12_trace 29 = .ok (.getfield 31, 3) := by decide +kernel
theorem dX12_trace_32 : decode cX12_trace 32 = .ok (.iload_n 1, 1) := by decide +kernel
theorem dX12_trace_33 : decode cX12_trace 33 = .ok (.iaload, 1) := by decide +kernel
theorem dX12_trace_34 : decode cX12_trace 34 = .ok (.goto 4, 3) := by decide +kernel
theorem dX12_trace_37 : decode cX12_trace 37 = .ok (.iconst (-1), 1) := by decide +kernel
theorem dX12_trace_38 : decode cX12_trace 38 = .ok (.ireturn, 1) := by decide +kernel
theorem dX12_as_0 : decode cX12_as 0 = .ok (.aload_n 0, 1) := by decide +kernel
theorem dX12_as_1 : decode cX12_as 1 = .ok (.iload_n 1, 1) := by decide +kernel
theorem dX12_as_2 : decode cX12_as 2 = .ok (.invokevirtual 138, 3) := by decide +kernel
theorem dX12_as_5 : decode cX12_as 5 = .ok (.ifCond .eq 13, 3) := by decide +kernel
theorem dX12_as_8 : decode cX12_as 8 = .ok (.iload_n 2, 1) := by decide +kernel
theorem dX12_as_9 : decode cX12_as 9 = .ok (.iconst 0, 1) := by decide +kernel
theorem dX12_as_10 : decode cX12_as 10 = .ok (.bipush 6, 2) := by decide +kernel
theorem dX12_as_12 : decode cX12_as 12 = .ok (.invokestatic 38, 3) := by decide +kernel
theorem dX12_as_15 : decode cX12_as 15 = .ok (.ifCond .ne 5, 3) := by decide +kernel
theorem dX12_as_18 : decode cX12_as 18 = .ok (.iconst (-1), 1) := by decide +kernel
theorem dX12_as_19 : decode cX12_as 19 = .ok (.ireturn, 1) := by decide +kernel
theorem dX12_as_20 : decode cX12_as 20 = .ok (.aload_n 0, 1) := by decide +kernel
theorem dX12_as_21 : decode cX12_as 21 = .ok (.getfield 9, 3) := by decide +kernel
theorem dX12_as_24 : decode cX12_as 24 = .ok (.bipush 11, 2) := by decide +kernel
theorem dX12_as_26 : decode cX12_as 26 = .ok (.iload_n 1, 1) := by decide +kernel
theorem dX12_as_27 : decode cX12_as 27 = .ok (.iadd, 1) := by decide +kernel
theorem dX12_as_28 : decode cX12_as 28 = .ok (.iaload, 1) := by decide +kernel
theorem dX12_as_29 : decode cX12_as 29 = .ok (.iload_n 2, 1) := by decide +kernel
theorem dX12_as_30 : decode cX12_as 30 = .ok (.invokestatic 235, 3) := by decide +kernel
theorem dX12_as_33 : decode cX12_as 33 = .ok (.ifCond .eq 15, 3) := by decide +kernel
theorem dX12_as_36 : decode cX12_as 36 = .ok (.aload_n 0, 1) := by decide +kernel
theorem dX12_as_37 : decode cX12_as 37 = .ok (.getfield 9, 3) := by decide +kernel
theorem dX12_as_40 : decode cX12_as 40 = .ok (.bipush 17, 2) := by decide +kernel
theorem dX12_as_42 : decode cX12_as 42 = .ok (.iload_n 1, 1) := by decide +kernel
theorem dX12_as_43 : decode cX12_as 43 = .ok (.iadd, 1) := by decide +kernel
theorem dX12_as_44 : decode cX12_as 44 = .ok (.iaload, 1) := by decide +kernel
theorem dX12_as_45 : decode cX12_as 45 = .ok (.goto 5, 3) := by decide +kernel
theorem dX12_as_48 : decode cX12_as 48 = .ok (.bipush (-6), 2) := by decide +kernel
theorem dX12_as_50 : decode cX12_as 50 = .ok (.ireturn, 1) := by decide +kernel
theorem dX12_image_0 : decode cX12_image 0 = .ok (.iconst 0, 1) := by decide +kernel
theorem dX12_image_1 : decode cX12_image 1 = .ok (.istore_n 1, 1) := by decide +kernel
theorem dX12_image_2 : decode cX12_image 2 = .ok (.iload_n 1, 1) := by decide +kernel
theorem dX12_image_3 : decode cX12_image 3 = .ok (.sipush 948, 3) := by decide +kernel
theorem dX12_image_6 : decode cX12_image 6 = .ok (.if_icmp .ge 21, 3) := by decide +kernel
theorem dX12_image_9 : decode cX12_image 9 = .ok (.aload_n 0, 1) := by decide +kernel
theorem dX12_image_10 : decode cX12_image 10 = .ok (.getfield 15, 3) := by decide +kernel
theorem dX12_image_13 : decode cX12_image 13 = .ok (.iload_n 1, 1) := by decide +kernel
theorem dX12_image_14 : decode cX12_image 14 = .ok (.aload_n 0, 1) := by decide +kernel
theorem dX12_image_15 : decode cX12_image 15 = .ok (.getfield 9, 3) := by decide +kernel
theorem dX12_image_18 : decode cX12_image 18 = .ok (.iload_n 1, 1) := by decide +kernel
theorem dX12_image_19 : decode cX12_image 19 = .ok (.iaload, 1) := by decide +kernel
theorem dX12_image_20 : decode cX12_image 20 = .ok (.iastore, 1) := by decide +kernel
theorem dX12_image_21 : decode cX12_image 21 = .ok (.iinc 1 1, 3) := by decide +kernel
theorem dX12_image_24 : decode cX12_image 24 = .ok (.goto (-22), 3) := by decide +kernel
theorem dX12_image_27 : decode cX12_image 27 = .ok (.aload_n 0, 1) := by decide +kernel
theorem dX12_image_28 : decode cX12_image 28 = .ok (.iconst 1, 1) := by decide +kernel
theorem dX12_image_29 : decode cX12_image 29 = .ok (.putfield 259, 3) := by decide +kernel
theorem dX12_image_32 : decode cX12_image 32 = .ok (.aload_n 0, 1) := by decide +kernel
theorem dX12_image_33 : decode cX12_image 33 = .ok (.getfield 9, 3) := by decide +kernel
theorem dX12_image_36 : decode cX12_image 36 = .ok (.iconst 0, 1) := by decide +kernel
theorem dX12_image_37 : decode cX12_image 37 = .ok (.iaload, 1) := by decide +kernel
theorem dX12_image_38 : decode cX12_image 38 = .ok (.ireturn, 1) := by decide +kernel
theorem dX12_undo_0 : decode cX12_undo 0 = .ok (.aload_n 0, 1) := by decide +kernel
theorem dX12_undo_1 : decode cX12_undo 1 = .ok (.getfield 259, 3) := by decide +kernel
theorem dX12_undo_4 : decode cX12_undo 4 = .ok (.ifCond .ne 6, 3) := by decide +kernel
theorem dX12_undo_7 : decode cX12_undo 7 = .ok (.bipush (-3), 2) := by decide +kernel
theorem dX12_undo_9 : decode cX12_undo 9 = .ok (.ireturn, 1) := by decide +kernel
theorem dX12_undo_10 : decode cX12_undo 10 = .ok (.iconst 0, 1) := by decide +kernel
theorem dX12_undo_11 : decode cX12_undo 11 = .ok (.istore_n 1, 1) := by decide +kernel
theorem dX12_undo_12 : decode cX12_undo 12 = .ok (.iload_n 1, 1) := by decide +kernel
theorem dX12_undo_13 : decode cX12_undo 13 = .ok (.sipush 948, 3) := by decide +kernel
theorem dX12_undo_16 : decode cX12_undo 16 = .ok (.if_icmp .ge 21, 3) := by decide +kernel
theorem dX12_undo_19 : decode cX12_undo 19 = .ok (.aload_n 0, 1) := by decide +kernel
theorem dX12_undo_20 : decode cX12_undo 20 = .ok (.getfield 9, 3) := by decide +kernel
theorem dX12_undo_23 : decode cX12_undo 23 = .ok (.iload_n 1, 1) := by decide +kernel
theorem dX12_undo_24 : decode cX12_undo 24 = .ok (.aload_n 0, 1) := by decide +kernel
theorem dX12_undo_25 : decode cX12_undo 25 = .ok (.getfield 15, 3) := by decide +kernel
theorem dX12_undo_28 : decode cX12_undo 28 = .ok (.iload_n 1, 1) := by decide +kernel
theorem dX12_undo_29 : decode cX12_undo 29 = .ok (.iaload, 1) := by decide +kernel
theorem dX12_undo_30 : decode cX12_undo 30 = .ok (.iastore, 1) := by decide +kernel
theorem dX12_undo_31 : decode cX12_undo 31 = .ok (.iinc 1 1, 3) := by decide +kernel
theorem dX12_undo_34 : decode cX12_undo 34 = .ok (.goto (-22), 3) := by decide +kernel
theorem dX12_undo_37 : decode cX12_undo 37 = .ok (.aload_n 0, 1) := by decide +kernel
theorem dX12_undo_38 : decode cX12_undo 38 = .ok (.getfield 9, 3) := by decide +kernel
theorem dX12_undo_41 : decode cX12_undo 41 = .ok (.iconst 0, 1) := by decide +kernel
theorem dX12_undo_42 : decode cX12_undo 42 = .ok (.iaload, 1) := by decide +kernel
theorem dX12_undo_43 : decode cX12_undo 43 = .ok (.ireturn, 1) := by decide +kernel
theorem dX12_count_0 : decode cX12_count 0 = .ok (.iload_n 1, 1) := by decide +kernel
theorem dX12_count_1 : decode cX12_count 1 = .ok (.bipush 7, 2) := by decide +kernel
theorem dX12_count_3 : decode cX12_count 3 = .ok (.if_icmp .ne 10, 3) := by decide +kernel
theorem dX12_count_6 : decode cX12_count 6 = .ok (.aload_n 0, 1) := by decide +kernel
theorem dX12_count_7 : decode cX12_count 7 = .ok (.getfield 223, 3) := by decide +kernel
theorem dX12_count_10 : decode cX12_count 10 = .ok (.goto 23, 3) := by decide +kernel
theorem dX12_count_13 : decode cX12_count 13 = .ok (.iload_n 1, 1) := by decide +kernel
theorem dX12_count_14 : decode cX12_count 14 = .ok (.iconst 0, 1) := by decide +kernel
theorem dX12_count_15 : decode cX12_count 15 = .ok (.bipush 6, 2) := by decide +kernel
theorem dX12_count_17 : decode cX12_count 17 = .ok (.invokestatic 38, 3) := by decide +kernel
theorem dX12_count_20 : decode cX12_count 20 = .ok (.ifCond .eq 12, 3) := by decide +kernel
theorem dX12_count_23 : decode cX12_count 23 = .ok (.aload_n 0, 1) := by decide +kernel
theorem dX12_count_24 : decode cX12_count 24 = .ok (.getfield 9, 3) := by decide +kernel
theorem dX12_count_27 : decode cX12_count 27 = .ok (.iload_n 1, 1) := by decide +kernel
theorem dX12_count_28 : decode cX12_count 28 = .ok (.iaload, 1) := by decide +kernel
theorem dX12_count_29 : decode cX12_count 29 = .ok (.goto 4, 3) := by decide +kernel
theorem dX12_count_32 : decode cX12_count 32 = .ok (.iconst (-1), 1) := by decide +kernel
theorem dX12_count_33 : decode cX12_count 33 = .ok (.ireturn, 1) := by decide +kernel
theorem dJ11_isValidCodePoint_9a6ad_0 : decode cJ11_isValidCodePoint_9a6ad 0 = .ok (.iload_n 0, 1) := by decide +kernel
theorem dJ11_isValidCodePoint_9a6ad_1 : decode cJ11_isValidCodePoint_9a6ad 1 = .ok (.bipush 16, 2) := by decide +kernel
theorem dJ11_isValidCodePoint_9a6ad_3 : decode cJ11_isValidCodePoint_9a6ad 3 = .ok (.iushr, 1) := by decide +kernel
theorem dJ11_isValidCodePoint_9a6ad_4 : decode cJ11_isValidCodePoint_9a6ad 4 = .ok (.istore_n 1, 1) := by decide +kernel
theorem dJ11_isValidCodePoint_9a6ad_5 : decode cJ11_isValidCodePoint_9a6ad 5 = .ok (.iload_n 1, 1) := by decide +kernel
theorem dJ11_isValidCodePoint_9a6ad_6 : decode cJ11_isValidCodePoint_9a6ad 6 = .ok (.bipush 17, 2) := by decide +kernel
theorem dJ11_isValidCodePoint_9a6ad_8 : decode cJ11_isValidCodePoint_9a6ad 8 = .ok (.if_icmp .ge 7, 3) := by decide +kernel
theorem dJ11_isValidCodePoint_9a6ad_11 : decode cJ11_isValidCodePoint_9a6ad 11 = .ok (.iconst 1, 1) := by decide +kernel
theorem dJ11_isValidCodePoint_9a6ad_12 : decode cJ11_isValidCodePoint_9a6ad 12 = .ok (.goto 4, 3) := by decide +kernel
theorem dJ11_isValidCodePoint_9a6ad_15 : decode cJ11_isValidCodePoint_9a6ad 15 = .ok (.iconst 0, 1) := by decide +kernel
theorem dJ11_isValidCodePoint_9a6ad_16 : decode cJ11_isValidCodePoint_9a6ad 16 = .ok (.ireturn, 1) := by decide +kernel
theorem dJ11_highSurrogate_5068e_0 : decode cJ11_highSurrogate_5068e 0 = .ok (.iload_n 0, 1) := by decide +kernel
theorem dJ11_highSurrogate_5068e_1 : decode cJ11_highSurrogate_5068e 1 = .ok (.bipush 10, 2) := by decide +kernel
theorem dJ11_highSurrogate_5068e_3 : decode cJ11_highSurrogate_5068e 3 = .ok (.iushr, 1) := by decide +kernel
theorem dJ11_highSurrogate_5068e_4 : decode cJ11_highSurrogate_5068e 4 = .ok (.ldc 110, 2) := by decide +kernel
theorem dJ11_highSurrogate_5068e_6 : decode cJ11_highSurrogate_5068e 6 = .ok (.iadd, 1) := by decide +kernel
theorem dJ11_highSurrogate_5068e_7 : decode cJ11_highSurrogate_5068e 7 = .ok (.i2c, 1) := by decide +kernel
theorem dJ11_highSurrogate_5068e_8 : decode cJ11_highSurrogate_5068e 8 = .ok (.ireturn, 1) := by decide +kernel
theorem dJ11_lowSurrogate_5068e_0 : decode cJ11_lowSurrogate_5068e 0 = .ok (.iload_n 0, 1) := by decide +kernel
theorem dJ11_lowSurrogate_5068e_1 : decode cJ11_lowSurrogate_5068e 1 = .ok (.sipush 1023, 3) := by decide +kernel
theorem dJ11_lowSurrogate_5068e_4 : decode cJ11_lowSurrogate_5068e 4 = .ok (.iand, 1) := by decide +kernel
theorem dJ11_lowSurrogate_5068e_5 : decode cJ11_lowSurrogate_5068e 5 = .ok (.ldc 76, 2) := by decide +kernel
theorem dJ11_lowSurrogate_5068e_7 : decode cJ11_lowSurrogate_5068e 7 = .ok (.iadd, 1) := by decide +kernel
theorem dJ11_lowSurrogate_5068e_8 : decode cJ11_lowSurrogate_5068e 8 = .ok (.i2c, 1) := by decide +kernel
theorem dJ11_lowSurrogate_5068e_9 : decode cJ11_lowSurrogate_5068e 9 = .ok (.ireturn, 1) := by decide +kernel
theorem dJ9_abs_067f4_0 : decode cJ9_abs_067f4 0 = .ok (.lload_n 0, 1) := by decide +kernel
theorem dJ9_abs_067f4_1 : decode cJ9_abs_067f4 1 = .ok (.lconst 0, 1) := by decide +kernel
theorem dJ9_abs_067f4_2 : decode cJ9_abs_067f4 2 = .ok (.lcmp, 1) := by decide +kernel
theorem dJ9_abs_067f4_3 : decode cJ9_abs_067f4 3 = .ok (.ifCond .ge 8, 3) := by decide +kernel
theorem dJ9_abs_067f4_6 : decode cJ9_abs_067f4 6 = .ok (.lload_n 0, 1) := by decide +kernel
theorem dJ9_abs_067f4_7 : decode cJ9_abs_067f4 7 = .ok (.lneg, 1) := by decide +kernel
theorem dJ9_abs_067f4_8 : decode cJ9_abs_067f4 8 = .ok (.goto 4, 3) := by decide +kernel
theorem dJ9_abs_067f4_11 : decode cJ9_abs_067f4 11 = .ok (.lload_n 0, 1) := by decide +kernel
theorem dJ9_abs_067f4_12 : decode cJ9_abs_067f4 12 = .ok (.lreturn, 1) := by decide +kernel
theorem dJ9_max_7cf53_0 : decode cJ9_max_7cf53 0 = .ok (.iload_n 0, 1) := by decide +kernel
theorem dJ9_max_7cf53_1 : decode cJ9_max_7cf53 1 = .ok (.iload_n 1, 1) := by decide +kernel
theorem dJ9_max_7cf53_2 : decode cJ9_max_7cf53 2 = .ok (.if_icmp .lt 7, 3) := by decide +kernel
theorem dJ9_max_7cf53_5 : decode cJ9_max_7cf53 5 = .ok (.iload_n 0, 1) := by decide +kernel
theorem dJ9_max_7cf53_6 : decode cJ9_max_7cf53 6 = .ok (.goto 4, 3) := by decide +kernel
theorem dJ9_max_7cf53_9 : decode cJ9_max_7cf53 9 = .ok (.iload_n 1, 1) := by decide +kernel
theorem dJ9_max_7cf53_10 : decode cJ9_max_7cf53 10 = .ok (.ireturn, 1) := by decide +kernel
theorem dJ9_min_7cf53_0 : decode cJ9_min_7cf53 0 = .ok (.iload_n 0, 1) := by decide +kernel
theorem dJ9_min_7cf53_1 : decode cJ9_min_7cf53 1 = .ok (.iload_n 1, 1) := by decide +kernel
theorem dJ9_min_7cf53_2 : decode cJ9_min_7cf53 2 = .ok (.if_icmp .gt 7, 3) := by decide +kernel
theorem dJ9_min_7cf53_5 : decode cJ9_min_7cf53 5 = .ok (.iload_n 0, 1) := by decide +kernel
theorem dJ9_min_7cf53_6 : decode cJ9_min_7cf53 6 = .ok (.goto 4, 3) := by decide +kernel
theorem dJ9_min_7cf53_9 : decode cJ9_min_7cf53 9 = .ok (.iload_n 1, 1) := by decide +kernel
theorem dJ9_min_7cf53_10 : decode cJ9_min_7cf53 10 = .ok (.ireturn, 1) := by decide +kernel
theorem dJ0_length_8abf5_0 : decode cJ0_length_8abf5 0 = .ok (.aload_n 0, 1) := by decide +kernel
theorem dJ0_length_8abf5_1 : decode cJ0_length_8abf5 1 = .ok (.getfield 9, 3) := by decide +kernel
theorem dJ0_length_8abf5_4 : decode cJ0_length_8abf5 4 = .ok (.arraylength, 1) := by decide +kernel
theorem dJ0_length_8abf5_5 : decode cJ0_length_8abf5 5 = .ok (.aload_n 0, 1) := by decide +kernel
theorem dJ0_length_8abf5_6 : decode cJ0_length_8abf5 6 = .ok (.invokevirtual 335, 3) := by decide +kernel
theorem dJ0_length_8abf5_9 : decode cJ0_length_8abf5 9 = .ok (.ishr, 1) := by decide +kernel
theorem dJ0_length_8abf5_10 : decode cJ0_length_8abf5 10 = .ok (.ireturn, 1) := by decide +kernel
theorem dJ0_charAt_5068e_0 : decode cJ0_charAt_5068e 0 = .ok (.aload_n 0, 1) := by decide +kernel
theorem dJ0_charAt_5068e_1 : decode cJ0_charAt_5068e 1 = .ok (.invokevirtual 492, 3) := by decide +kernel
theorem dJ0_charAt_5068e_4 : decode cJ0_charAt_5068e 4 = .ok (.ifCond .eq 12, 3) := by decide +kernel
theorem dJ0_charAt_5068e_7 : decode cJ0_charAt_5068e 7 = .ok (.aload_n 0, 1) := by decide +kernel
theorem dJ0_charAt_5068e_8 : decode cJ0_charAt_5068e 8 = .ok (.getfield 9, 3) := by decide +kernel
theorem dJ0_charAt_5068e_11 : decode cJ0_charAt_5068e 11 = .ok (.iload_n 1, 1) := by decide +kernel
theorem dJ0_charAt_5068e_12 : decode cJ0_charAt_5068e 12 = .ok (.invokestatic 495, 3) := by decide +kernel
theorem dJ0_charAt_5068e_15 : decode cJ0_charAt_5068e 15 = .ok (.ireturn, 1) := by decide +kernel
theorem dJ0_charAt_5068e_16 : decode cJ0_charAt_5068e 16 = .ok (.aload_n 0, 1) := by decide +kernel
theorem dJ0_charAt_5068e_17 : decode cJ0_charAt_5068e 17 = .ok (.getfield 9, 3) := by decide +kernel
theorem dJ0_charAt_5068e_20 : decode cJ0_charAt_5068e 20 = .ok (.iload_n 1, 1) := by decide +kernel
theorem dJ0_charAt_5068e_21 : decode cJ0_charAt_5068e 21 = .ok (.invokestatic 498, 3) := by decide +kernel
theorem dJ0_charAt_5068e_24 : decode cJ0_charAt_5068e 24 = .ok (.ireturn, 1) := by decide +kernel
theorem dJ0_indexOf_0f7a4_0 : decode cJ0_indexOf_0f7a4 0 = .ok (.aload_n 0, 1) := by decide +kernel
theorem dJ0_indexOf_0f7a4_1 : decode cJ0_indexOf_0f7a4 1 = .ok (.iload_n 1, 1) := by decide +kernel
theorem dJ0_indexOf_0f7a4_2 : decode cJ0_indexOf_0f7a4 2 = .ok (.iconst 0, 1) := by decide +kernel
theorem dJ0_indexOf_0f7a4_3 : decode cJ0_indexOf_0f7a4 3 = .ok (.invokevirtual 633, 3) := by decide +kernel
theorem dJ0_indexOf_0f7a4_6 : decode cJ0_indexOf_0f7a4 6 = .ok (.ireturn, 1) := by decide +kernel
theorem dJ0_indexOf_7cf53_0 : decode cJ0_indexOf_7cf53 0 = .ok (.aload_n 0, 1) := by decide +kernel
theorem dJ0_indexOf_7cf53_1 : decode cJ0_indexOf_7cf53 1 = .ok (.invokevirtual 492, 3) := by decide +kernel
theorem dJ0_indexOf_7cf53_4 : decode cJ0_indexOf_7cf53 4 = .ok (.ifCond .eq 19, 3) := by decide +kernel
theorem dJ0_indexOf_7cf53_7 : decode cJ0_indexOf_7cf53 7 = .ok (.aload_n 0, 1) := by decide +kernel
theorem dJ0_indexOf_7cf53_8 : decode cJ0_indexOf_7cf53 8 = .ok (.getfield 9, 3) := by decide +kernel
theorem dJ0_indexOf_7cf53_11 : decode cJ0_indexOf_7cf53 11 = .ok (.iload_n 1, 1) := by decide +kernel
theorem dJ0_indexOf_7cf53_12 : decode cJ0_indexOf_7cf53 12 = .ok (.iload_n 2, 1) := by decide +kernel
theorem dJ0_indexOf_7cf53_13 : decode cJ0_indexOf_7cf53 13 = .ok (.aload_n 0, 1) := by decide +kernel
theorem dJ0_indexOf_7cf53_14 : decode cJ0_indexOf_7cf53 14 = .ok (.invokevirtual 505, 3) := by decide +kernel
theorem dJ0_indexOf_7cf53_17 : decode cJ0_indexOf_7cf53 17 = .ok (.invokestatic 637, 3) := by decide +kernel
theorem dJ0_indexOf_7cf53_20 : decode cJ0_indexOf_7cf53 20 = .ok (.goto 16, 3) := by decide +kernel
theorem dJ0_indexOf_7cf53_23 : decode cJ0_indexOf_7cf53 23 = .ok (.aload_n 0, 1) := by decide +kernel
theorem dJ0_indexOf_7cf53_24 : decode cJ0_indexOf_7cf53 24 = .ok (.getfield 9, 3) := by decide +kernel
theorem dJ0_indexOf_7cf53_27 : decode cJ0_indexOf_7cf53 27 = .ok (.iload_n 1, 1) := by decide +kernel
theorem dJ0_indexOf_7cf53_28 : decode cJ0_indexOf_7cf53 28 = .ok (.iload_n 2, 1) := by decide +kernel
theorem dJ0_indexOf_7cf53_29 : decode cJ0_indexOf_7cf53 29 = .ok (.aload_n 0, 1) := by decide +kernel
theorem dJ0_indexOf_7cf53_30 : decode cJ0_indexOf_7cf53 30 = .ok (.invokevirtual 505, 3) := by decide +kernel
theorem dJ0_indexOf_7cf53_33 : decode cJ0_indexOf_7cf53 33 = .ok (.invokestatic 640, 3) := by decide +kernel
theorem dJ0_indexOf_7cf53_36 : decode cJ0_indexOf_7cf53 36 = .ok (.ireturn, 1) := by decide +kernel
theorem dJ0_coder_7d493_0 : decode cJ0_coder_7d493 0 = .ok (.getstatic 38, 3) := by decide +kernel
theorem dJ0_coder_7d493_3 : decode cJ0_coder_7d493 3 = .ok (.ifCond .eq 10, 3) := by decide +kernel
theorem dJ0_coder_7d493_6 : decode cJ0_coder_7d493 6 = .ok (.aload_n 0, 1) := by decide +kernel
theorem dJ0_coder_7d493_7 : decode cJ0_coder_7d493 7 = .ok (.getfield 15, 3) := by decide +kernel
theorem dJ0_coder_7d493_10 : decode cJ0_coder_7d493 10 = .ok (.goto 4, 3) := by decide +kernel
theorem dJ0_coder_7d493_13 : decode cJ0_coder_7d493 13 = .ok (.iconst 1, 1) := by decide +kernel
theorem dJ0_coder_7d493_14 : decode cJ0_coder_7d493 14 = .ok (.ireturn, 1) := by decide +kernel
theorem dJ0_isLatin1_aae02_0 : decode cJ0_isLatin1_aae02 0 = .ok (.getstatic 38, 3) := by decide +kernel
theorem dJ0_isLatin1_aae02_3 : decode cJ0_isLatin1_aae02 3 = .ok (.ifCond .eq 14, 3) := by decide +kernel
theorem dJ0_isLatin1_aae02_6 : decode cJ0_isLatin1_aae02 6 = .ok (.aload_n 0, 1) := by decide +kernel
theorem dJ0_isLatin1_aae02_7 : decode cJ0_isLatin1_aae02 7 = .ok (.getfield 15, 3) := by decide +kernel
theorem dJ0_isLatin1_aae02_10 : decode cJ0_isLatin1_aae02 10 = .ok (.ifCond .ne 7, 3) := by decide +kernel
theorem dJ0_isLatin1_aae02_13 : decode cJ0_isLatin1_aae02 13 = .ok (.iconst 1, 1) := by decide +kernel
theorem dJ0_isLatin1_aae02_14 : decode cJ0_isLatin1_aae02 14 = .ok (.goto 4, 3) := by decide +kernel
theorem dJ0_isLatin1_aae02_17 : decode cJ0_isLatin1_aae02 17 = .ok (.iconst 0, 1) := by decide +kernel
theorem dJ0_isLatin1_aae02_18 : decode cJ0_isLatin1_aae02 18 = .ok (.ireturn, 1) := by decide +kernel
theorem dJ0_checkIndex_df160_0 : decode cJ0_checkIndex_df160 0 = .ok (.iload_n 0, 1) := by decide +kernel
theorem dJ0_checkIndex_df160_1 : decode cJ0_checkIndex_df160 1 = .ok (.iload_n 1, 1) := by decide +kernel
theorem dJ0_checkIndex_df160_2 : decode cJ0_checkIndex_df160 2 = .ok (.getstatic 1053, 3) := by decide +kernel
theorem dJ0_checkIndex_df160_5 : decode cJ0_checkIndex_df160 5 = .ok (.invokestatic 1059, 3) := by decide +kernel
theorem dJ0_checkIndex_df160_8 : decode cJ0_checkIndex_df160 8 = .ok (.pop, 1) := by decide +kernel
theorem dJ0_checkIndex_df160_9 : decode cJ0_checkIndex_df160 9 = .ok (.return_, 1) := by decide +kernel
theorem dJ0_checkBoundsBeginEnd_23922_0 : decode cJ0_checkBoundsBeginEnd_23922 0 = .ok (.iload_n 0, 1) := by decide +kernel
theorem dJ0_checkBoundsBeginEnd_23922_1 : decode cJ0_checkBoundsBeginEnd_23922 1 = .ok (.iload_n 1, 1) := by decide +kernel
theorem dJ0_checkBoundsBeginEnd_23922_2 : decode cJ0_checkBoundsBeginEnd_23922 2 = .ok (.iload_n 2, 1) := by decide +kernel
theorem dJ0_checkBoundsBeginEnd_23922_3 : decode cJ0_checkBoundsBeginEnd_23922 3 = .ok (.getstatic 1053, 3) := by decide +kernel
theorem dJ0_checkBoundsBeginEnd_23922_6 : decode cJ0_checkBoundsBeginEnd_23922 6 = .ok (.invokestatic 1062, 3) := by decide +kernel
theorem dJ0_checkBoundsBeginEnd_23922_9 : decode cJ0_checkBoundsBeginEnd_23922 9 = .ok (.pop, 1) := by decide +kernel
theorem dJ0_checkBoundsBeginEnd_23922_10 : decode cJ0_checkBoundsBeginEnd_23922 10 = .ok (.return_, 1) := by decide +kernel
theorem dJ1_charAt_3b067_0 : decode cJ1_charAt_3b067 0 = .ok (.iload_n 1, 1) := by decide +kernel
theorem dJ1_charAt_3b067_1 : decode cJ1_charAt_3b067 1 = .ok (.aload_n 0, 1) := by decide +kernel
theorem dJ1_charAt_3b067_2 : decode cJ1_charAt_3b067 2 = .ok (.arraylength, 1) := by decide +kernel
theorem dJ1_charAt_3b067_3 : decode cJ1_charAt_3b067 3 = .ok (.invokestatic 9, 3) := by decide +kernel
theorem dJ1_charAt_3b067_6 : decode cJ1_charAt_3b067 6 = .ok (.aload_n 0, 1) := by decide +kernel
theorem dJ1_charAt_3b067_7 : decode cJ1_charAt_3b067 7 = .ok (.iload_n 1, 1) := by decide +kernel
theorem dJ1_charAt_3b067_8 : decode cJ1_charAt_3b067 8 = .ok (.baload, 1) := by decide +kernel
theorem dJ1_charAt_3b067_9 : decode cJ1_charAt_3b067 9 = .ok (.sipush 255, 3) := by decide +kernel
theorem dJ1_charAt_3b067_12 : decode cJ1_charAt_3b067 12 = .ok (.iand, 1) := by decide +kernel
theorem dJ1_charAt_3b067_13 : decode cJ1_charAt_3b067 13 = .ok (.i2c, 1) := by decide +kernel
theorem dJ1_charAt_3b067_14 : decode cJ1_charAt_3b067 14 = .ok (.ireturn, 1) := by decide +kernel
theorem dJ1_canEncode_9a6ad_0 : decode cJ1_canEncode_9a6ad 0 = .ok (.iload_n 0, 1) := by decide +kernel
theorem dJ1_canEncode_9a6ad_1 : decode cJ1_canEncode_9a6ad 1 = .ok (.ifCond .lt 14, 3) := by decide +kernel
theorem dJ1_canEncode_9a6ad_4 : decode cJ1_canEncode_9a6ad 4 = .ok (.iload_n 0, 1) := by decide +kernel
theorem dJ1_canEncode_9a6ad_5 : decode cJ1_canEncode_9a6ad 5 = .ok (.sipush 255, 3) := by decide +kernel
theorem dJ1_canEncode_9a6ad_8 : decode cJ1_canEncode_9a6ad 8 = .ok (.if_icmp .gt 7, 3) := by decide +kernel
theorem dJ1_canEncode_9a6ad_11 : decode cJ1_canEncode_9a6ad 11 = .ok (.iconst 1, 1) := by decide +kernel
theorem dJ1_canEncode_9a6ad_12 : decode cJ1_canEncode_9a6ad 12 = .ok (.goto 4, 3) := by decide +kernel
theorem dJ1_canEncode_9a6ad_15 : decode cJ1_canEncode_9a6ad 15 = .ok (.iconst 0, 1) := by decide +kernel
theorem dJ1_canEncode_9a6ad_16 : decode cJ1_canEncode_9a6ad 16 = .ok (.ireturn, 1) := by decide +kernel
theorem dJ1_indexOf_4cfef_0 : decode cJ1_indexOf_4cfef 0 = .ok (.iload_n 1, 1) := by decide +kernel
theorem dJ1_indexOf_4cfef_1 : decode cJ1_indexOf_4cfef 1 = .ok (.invokestatic 88, 3) := by decide +kernel
theorem dJ1_indexOf_4cfef_4 : decode cJ1_indexOf_4cfef 4 = .ok (.ifCond .ne 5, 3) := by decide +kernel
theorem dJ1_indexOf_4cfef_7 : decode cJ1_indexOf_4cfef 7 = .ok (.iconst (-1), 1) := by decide +kernel
theorem dJ1_indexOf_4cfef_8 : decode cJ1_indexOf_4cfef 8 = .ok (.ireturn, 1) := by decide +kernel
theorem dJ1_indexOf_4cfef_9 : decode cJ1_indexOf_4cfef 9 = .ok (.iload_n 2, 1) := by decide +kernel
theorem dJ1_indexOf_4cfef_10 : decode cJ1_indexOf_4cfef 10 = .ok (.iconst 0, 1) := by decide +kernel
theorem dJ1_indexOf_4cfef_11 : decode cJ1_indexOf_4cfef 11 = .ok (.invokestatic 92, 3) := by decide +kernel
theorem dJ1_indexOf_4cfef_14 : decode cJ1_indexOf_4cfef 14 = .ok (.istore_n 2, 1) := by decide +kernel
theorem dJ1_indexOf_4cfef_15 : decode cJ1_indexOf_4cfef 15 = .ok (.iload_n 3, 1) := by decide +kernel
theorem dJ1_indexOf_4cfef_16 : decode cJ1_indexOf_4cfef 16 = .ok (.aload_n 0, 1) := by decide +kernel
theorem dJ1_indexOf_4cfef_17 : decode cJ1_indexOf_4cfef 17 = .ok (.arraylength, 1) := by decide +kernel
theorem dJ1_indexOf_4cfef_18 : decode cJ1_indexOf_4cfef 18 = .ok (.invokestatic 38, 3) := by decide +kernel
theorem dJ1_indexOf_4cfef_21 : decode cJ1_indexOf_4cfef 21 = .ok (.istore_n 3, 1) := by decide +kernel
theorem dJ1_indexOf_4cfef_22 : decode cJ1_indexOf_4cfef 22 = .ok (.iload_n 2, 1) := by decide +kernel
theorem dJ1_indexOf_4cfef_23 : decode cJ1_indexOf_4cfef 23 = .ok (.iload_n 3, 1) := by decide +kernel
theorem dJ1_indexOf_4cfef_24 : decode cJ1_indexOf_4cfef 24 = .ok (.if_icmp .lt 5, 3) := by decide +kernel
theorem dJ1_indexOf_4cfef_27 : decode cJ1_indexOf_4cfef 27 = .ok (.iconst (-1), 1) := by decide +kernel
theorem dJ1_indexOf_4cfef_28 : decode cJ1_indexOf_4cfef 28 = .ok (.ireturn, 1) := by decide +kernel
theorem dJ1_indexOf_4cfef_29 : decode cJ1_indexOf_4cfef 29 = .ok (.aload_n 0, 1) := by decide +kernel
theorem dJ1_indexOf_4cfef_30 : decode cJ1_indexOf_4cfef 30 = .ok (.iload_n 1, 1) := by decide +kernel
theorem dJ1_indexOf_4cfef_31 : decode cJ1_indexOf_4cfef 31 = .ok (.iload_n 2, 1) := by decide +kernel
theorem dJ1_indexOf_4cfef_32 : decode cJ1_indexOf_4cfef 32 = .ok (.iload_n 3, 1) := by decide +kernel
theorem dJ1_indexOf_4cfef_33 : decode cJ1_indexOf_4cfef 33 = .ok (.invokestatic 95, 3) := by decide +kernel
theorem dJ1_indexOf_4cfef_36 : decode cJ1_indexOf_4cfef 36 = .ok (.ireturn, 1) := by decide +kernel
theorem dJ1_indexOfChar_4cfef_0 : decode cJ1_indexOfChar_4cfef 0 = .ok (.iload_n 1, 1) := by decide +kernel
theorem dJ1_indexOfChar_4cfef_1 : decode cJ1_indexOfChar_4cfef 1 = .ok (.i2b, 1) := by decide +kernel
theorem dJ1_indexOfChar_4cfef_2 : decode cJ1_indexOfChar_4cfef 2 = .ok (.istore 4, 2) := by decide +kernel
theorem dJ1_indexOfChar_4cfef_4 : decode cJ1_indexOfChar_4cfef 4 = .ok (.iload_n 2, 1) := by decide +kernel
theorem dJ1_indexOfChar_4cfef_5 : decode cJ1_indexOfChar_4cfef 5 = .ok (.istore 5, 2) := by decide +kernel
theorem dJ1_indexOfChar_4cfef_7 : decode cJ1_indexOfChar_4cfef 7 = .ok (.iload 5, 2) := by decide +kernel
theorem dJ1_indexOfChar_4cfef_9 : decode cJ1_indexOfChar_4cfef 9 = .ok (.iload_n 3, 1) := by decide +kernel
theorem dJ1_indexOfChar_4cfef_10 : decode cJ1_indexOfChar_4cfef 10 = .ok (.if_icmp .ge 21, 3) := by decide +kernel
theorem dJ1_indexOfChar_4cfef_13 : decode cJ1_indexOfChar_4cfef 13 = .ok (.aload_n 0, 1) := by decide +kernel
theorem dJ1_indexOfChar_4cfef_14 : decode cJ1_indexOfChar_4cfef 14 = .ok (.iload 5, 2) := by decide +kernel
theorem dJ1_indexOfChar_4cfef_16 : decode cJ1_indexOfChar_4cfef 16 = .ok (.baload, 1) := by decide +kernel
theorem dJ1_indexOfChar_4cfef_17 : decode cJ1_indexOfChar_4cfef 17 = .ok (.iload 4, 2) := by decide +kernel
theorem dJ1_indexOfChar_4cfef_19 : decode cJ1_indexOfChar_4cfef 19 = .ok (.if_icmp .ne 6, 3) := by decide +kernel
theorem dJ1_indexOfChar_4cfef_22 : decode cJ1_indexOfChar_4cfef 22 = .ok (.iload 5, 2) := by decide +kernel
theorem dJ1_indexOfChar_4cfef_24 : decode cJ1_indexOfChar_4cfef 24 = .ok (.ireturn, 1) := by decide +kernel
theorem dJ1_indexOfChar_4cfef_25 : decode cJ1_indexOfChar_4cfef 25 = .ok (.iinc 5 1, 3) := by decide +kernel
theorem dJ1_indexOfChar_4cfef_28 : decode cJ1_indexOfChar_4cfef 28 = .ok (.goto (-21), 3) := by decide +kernel
theorem dJ1_indexOfChar_4cfef_31 : decode cJ1_indexOfChar_4cfef 31 = .ok (.iconst (-1), 1) := by decide +kernel
theorem dJ1_indexOfChar_4cfef_32 : decode cJ1_indexOfChar_4cfef 32 = .ok (.ireturn, 1) := by decide +kernel
theorem dJ2_getChar_3b067_0 : decode cJ2_getChar_3b067 0 = .ok (.getstatic 44, 3) := by decide +kernel
theorem dJ2_getChar_3b067_3 : decode cJ2_getChar_3b067 3 = .ok (.ifCond .ne 25, 3) := by decide +kernel
theorem dJ2_getChar_3b067_6 : decode cJ2_getChar_3b067 6 = .ok (.iload_n 1, 1) := by decide +kernel
theorem dJ2_getChar_3b067_7 : decode cJ2_getChar_3b067 7 = .ok (.ifCond .lt 11, 3) := by decide +kernel
theorem dJ2_getChar_3b067_10 : decode cJ2_getChar_3b067 10 = .ok (.iload_n 1, 1) := by decide +kernel
theorem dJ2_getChar_3b067_11 : decode cJ2_getChar_3b067 11 = .ok (.aload_n 0, 1) := by decide +kernel
theorem dJ2_getChar_3b067_12 : decode cJ2_getChar_3b067 12 = .ok (.invokestatic 48, 3) := by decide +kernel
theorem dJ2_getChar_3b067_15 : decode cJ2_getChar_3b067 15 = .ok (.if_icmp .lt 13, 3) := by decide +kernel
theorem dJ2_getChar_3b067_18 : decode cJ2_getChar_3b067 18 = .ok (.new 52, 3) := by decide +kernel
theorem dJ2_getChar_3b067_21 : decode cJ2_getChar_3b067 21 = .ok (.dup, 1) := by decide +kernel
theorem dJ2_getChar_3b067_22 : decode cJ2_getChar_3b067 22 = .ok (.ldc 54, 2) := by decide +kernel
theorem dJ2_getChar_3b067_24 : decode cJ2_getChar_3b067 24 = .ok (.invokespecial 56, 3) := by decide +kernel
theorem dJ2_getChar_3b067_27 : decode cJ2_getChar_3b067 27 = .ok (.athrow, 1) := by decide +kernel
theorem dJ2_getChar_3b067_28 : decode cJ2_getChar_3b067 28 = .ok (.iload_n 1, 1) := by decide +kernel
theorem dJ2_getChar_3b067_29 : decode cJ2_getChar_3b067 29 = .ok (.iconst 1, 1) := by decide +kernel
theorem dJ2_getChar_3b067_30 : decode cJ2_getChar_3b067 30 = .ok (.ishl, 1) := by decide +kernel
theorem dJ2_getChar_3b067_31 : decode cJ2_getChar_3b067 31 = .ok (.istore_n 1, 1) := by decide +kernel
theorem dJ2_getChar_3b067_32 : decode cJ2_getChar_3b067 32 = .ok (.aload_n 0, 1) := by decide +kernel
theorem dJ2_getChar_3b067_33 : decode cJ2_getChar_3b067 33 = .ok (.iload_n 1, 1) := by decide +kernel
theorem dJ2_getChar_3b067_34 : decode cJ2_getChar_3b067 34 = .ok (.iinc 1 1, 3) := by decide +kernel
theorem dJ2_getChar_3b067_37 : decode cJ2_getChar_3b067 37 = .ok (.baload, 1) := by decide +kernel
theorem dJ2_getChar_3b067_38 : decode cJ2_getChar_3b067 38 = .ok (.sipush 255, 3) := by decide +kernel
theorem dJ2_getChar_3b067_41 : decode cJ2_getChar_3b067 41 = .ok (.iand, 1) := by decide +kernel
theorem dJ2_getChar_3b067_42 : decode cJ2_getChar_3b067 42 = .ok (.getstatic 59, 3) := by decide +kernel
theorem dJ2_getChar_3b067_45 : decode cJ2_getChar_3b067 45 = .ok (.ishl, 1) := by decide +kernel
theorem dJ2_getChar_3b067_46 : decode cJ2_getChar_3b067 46 = .ok (.aload_n 0, 1) := by decide +kernel
theorem dJ2_getChar_3b067_47 : decode cJ2_getChar_3b067 47 = .ok (.iload_n 1, 1) := by decide +kernel
theorem dJ2_getChar_3b067_48 : decode cJ2_getChar_3b067 48 = .ok (.baload, 1) := by decide +kernel
theorem dJ2_getChar_3b067_49 : decode cJ2_getChar_3b067 49 = .ok (.sipush 255, 3) := by decide +kernel
theorem dJ2_getChar_3b067_52 : decode cJ2_getChar_3b067 52 = .ok (.iand, 1) := by decide +kernel
theorem dJ2_getChar_3b067_53 : decode cJ2_getChar_3b067 53 = .ok (.getstatic 63, 3) := by decide +kernel
theorem dJ2_getChar_3b067_56 : decode cJ2_getChar_3b067 56 = .ok (.ishl, 1) := by decide +kernel
theorem dJ2_getChar_3b067_57 : decode cJ2_getChar_3b067 57 = .ok (.ior, 1) := by decide +kernel
theorem dJ2_getChar_3b067_58 : decode cJ2_getChar_3b067 58 = .ok (.i2c, 1) := by decide +kernel
theorem dJ2_getChar_3b067_59 : decode cJ2_getChar_3b067 59 = .ok (.ireturn, 1) := by decide +kernel
theorem dJ2_length_9d52b_0 : decode cJ2_length_9d52b 0 = .ok (.aload_n 0, 1) := by decide +kernel
theorem dJ2_length_9d52b_1 : decode cJ2_length_9d52b 1 = .ok (.arraylength, 1) := by decide +kernel
theorem dJ2_length_9d52b_2 : decode cJ2_length_9d52b 2 = .ok (.iconst 1, 1) := by decide +kernel
theorem dJ2_length_9d52b_3 : decode cJ2_length_9d52b 3 = .ok (.ishr, 1) := by decide +kernel
theorem dJ2_length_9d52b_4 : decode cJ2_length_9d52b 4 = .ok (.ireturn, 1) := by decide +kernel
theorem dJ2_indexOf_4cfef_0 : decode cJ2_indexOf_4cfef 0 = .ok (.iload_n 2, 1) := by decide +kernel
theorem dJ2_indexOf_4cfef_1 : decode cJ2_indexOf_4cfef 1 = .ok (.iconst 0, 1) := by decide +kernel
theorem dJ2_indexOf_4cfef_2 : decode cJ2_indexOf_4cfef 2 = .ok (.invokestatic 224, 3) := by decide +kernel
theorem dJ2_indexOf_4cfef_5 : decode cJ2_indexOf_4cfef 5 = .ok (.istore_n 2, 1) := by decide +kernel
theorem dJ2_indexOf_4cfef_6 : decode cJ2_indexOf_4cfef 6 = .ok (.iload_n 3, 1) := by decide +kernel
theorem dJ2_indexOf_4cfef_7 : decode cJ2_indexOf_4cfef 7 = .ok (.aload_n 0, 1) := by decide +kernel
theorem dJ2_indexOf_4cfef_8 : decode cJ2_indexOf_4cfef 8 = .ok (.arraylength, 1) := by decide +kernel
theorem dJ2_indexOf_4cfef_9 : decode cJ2_indexOf_4cfef 9 = .ok (.iconst 1, 1) := by decide +kernel
theorem dJ2_indexOf_4cfef_10 : decode cJ2_indexOf_4cfef 10 = .ok (.ishr, 1) := by decide +kernel
theorem dJ2_indexOf_4cfef_11 : decode cJ2_indexOf_4cfef 11 = .ok (.invokestatic 183, 3) := by decide +kernel
theorem dJ2_indexOf_4cfef_14 : decode cJ2_indexOf_4cfef 14 = .ok (.istore_n 3, 1) := by decide +kernel
theorem dJ2_indexOf_4cfef_15 : decode cJ2_indexOf_4cfef 15 = .ok (.iload_n 2, 1) := by decide +kernel
theorem dJ2_indexOf_4cfef_16 : decode cJ2_indexOf_4cfef 16 = .ok (.iload_n 3, 1) := by decide +kernel
theorem dJ2_indexOf_4cfef_17 : decode cJ2_indexOf_4cfef 17 = .ok (.if_icmp .lt 5, 3) := by decide +kernel
theorem dJ2_indexOf_4cfef_20 : decode cJ2_indexOf_4cfef 20 = .ok (.iconst (-1), 1) := by decide +kernel
theorem dJ2_indexOf_4cfef_21 : decode cJ2_indexOf_4cfef 21 = .ok (.ireturn, 1) := by decide +kernel
theorem dJ2_indexOf_4cfef_22 : decode cJ2_indexOf_4cfef 22 = .ok (.iload_n 1, 1) := by decide +kernel
theorem dJ2_indexOf_4cfef_23 : decode cJ2_indexOf_4cfef 23 = .ok (.ldc 227, 2) := by decide +kernel
theorem dJ2_indexOf_4cfef_25 : decode cJ2_indexOf_4cfef 25 = .ok (.if_icmp .ge 11, 3) := by decide +kernel
theorem dJ2_indexOf_4cfef_28 : decode cJ2_indexOf_4cfef 28 = .ok (.aload_n 0, 1) := by decide +kernel
theorem dJ2_indexOf_4cfef_29 : decode cJ2_indexOf_4cfef 29 = .ok (.iload_n 1, 1) := by decide +kernel
theorem dJ2_indexOf_4cfef_30 : decode cJ2_indexOf_4cfef 30 = .ok (.iload_n 2, 1) := by decide +kernel
theorem dJ2_indexOf_4cfef_31 : decode cJ2_indexOf_4cfef 31 = .ok (.iload_n 3, 1) := by decide +kernel
theorem dJ2_indexOf_4cfef_32 : decode cJ2_indexOf_4cfef 32 = .ok (.invokestatic 228, 3) := by decide +kernel
theorem dJ2_indexOf_4cfef_35 : decode cJ2_indexOf_4cfef 35 = .ok (.ireturn, 1) := by decide +kernel
theorem dJ2_indexOf_4cfef_36 : decode cJ2_indexOf_4cfef 36 = .ok (.aload_n 0, 1) := by decide +kernel
theorem dJ2_indexOf_4cfef_37 : decode cJ2_indexOf_4cfef 37 = .ok (.iload_n 1, 1) := by decide +kernel
theorem dJ2_indexOf_4cfef_38 : decode cJ2_indexOf_4cfef 38 = .ok (.iload_n 2, 1) := by decide +kernel
theorem dJ2_indexOf_4cfef_39 : decode cJ2_indexOf_4cfef 39 = .ok (.iload_n 3, 1) := by decide +kernel
theorem dJ2_indexOf_4cfef_40 : decode cJ2_indexOf_4cfef 40 = .ok (.invokestatic 232, 3) := by decide +kernel
theorem dJ2_indexOf_4cfef_43 : decode cJ2_indexOf_4cfef 43 = .ok (.ireturn, 1) := by decide +kernel
theorem dJ2_indexOfChar_4cfef_0 : decode cJ2_indexOfChar_4cfef 0 = .ok (.iload_n 2, 1) := by decide +kernel
theorem dJ2_indexOfChar_4cfef_1 : decode cJ2_indexOfChar_4cfef 1 = .ok (.iload_n 3, 1) := by decide +kernel
theorem dJ2_indexOfChar_4cfef_2 : decode cJ2_indexOfChar_4cfef 2 = .ok (.aload_n 0, 1) := by decide +kernel
theorem dJ2_indexOfChar_4cfef_3 : decode cJ2_indexOfChar_4cfef 3 = .ok (.invokestatic 96, 3) := by decide +kernel
theorem dJ2_indexOfChar_4cfef_6 : decode cJ2_indexOfChar_4cfef 6 = .ok (.aload_n 0, 1) := by decide +kernel
theorem dJ2_indexOfChar_4cfef_7 : decode cJ2_indexOfChar_4cfef 7 = .ok (.iload_n 1, 1) := by decide +kernel
theorem dJ2_indexOfChar_4cfef_8 : decode cJ2_indexOfChar_4cfef 8 = .ok (.iload_n 2, 1) := by decide +kernel
theorem dJ2_indexOfChar_4cfef_9 : decode cJ2_indexOfChar_4cfef 9 = .ok (.iload_n 3, 1) := by decide +kernel
theorem dJ2_indexOfChar_4cfef_10 : decode cJ2_indexOfChar_4cfef 10 = .ok (.invokestatic 244, 3) := by decide +kernel
theorem dJ2_indexOfChar_4cfef_13 : decode cJ2_indexOfChar_4cfef 13 = .ok (.ireturn, 1) := by decide +kernel
theorem dJ2_indexOfCharUnsafe_4cfef_0 : decode cJ2_indexOfCharUnsafe_4cfef 0 = .ok (.iload_n 2, 1) := by decide +kernel
theorem dJ2_indexOfCharUnsafe_4cfef_1 : decode cJ2_indexOfCharUnsafe_4cfef 1 = .ok (.istore 4, 2) := by decide +kernel
theorem dJ2_indexOfCharUnsafe_4cfef_3 : decode cJ2_indexOfCharUnsafe_4cfef 3 = .ok (.iload 4, 2) := by decide +kernel
theorem dJ2_indexOfCharUnsafe_4cfef_5 : decode cJ2_indexOfCharUnsafe_4cfef 5 = .ok (.iload_n 3, 1) := by decide +kernel
theorem dJ2_indexOfCharUnsafe_4cfef_6 : decode cJ2_indexOfCharUnsafe_4cfef 6 = .ok (.if_icmp .ge 22, 3) := by decide +kernel
theorem dJ2_indexOfCharUnsafe_4cfef_9 : decode cJ2_indexOfCharUnsafe_4cfef 9 = .ok (.aload_n 0, 1) := by decide +kernel
theorem dJ2_indexOfCharUnsafe_4cfef_10 : decode cJ2_indexOfCharUnsafe_4cfef 10 = .ok (.iload 4, 2) := by decide +kernel
theorem dJ2_indexOfCharUnsafe_4cfef_12 : decode cJ2_indexOfCharUnsafe_4cfef 12 = .ok (.invokestatic 71, 3) := by decide +kernel
theorem dJ2_indexOfCharUnsafe_4cfef_15 : decode cJ2_indexOfCharUnsafe_4cfef 15 = .ok (.iload_n 1, 1) := by decide +kernel
theorem dJ2_indexOfCharUnsafe_4cfef_16 : decode cJ2_indexOfCharUnsafe_4cfef 16 = .ok (.if_icmp .ne 6, 3) := by decide +kernel
theorem dJ2_indexOfCharUnsafe_4cfef_19 : decode cJ2_indexOfCharUnsafe_4cfef 19 = .ok (.iload 4, 2) := by decide +kernel
theorem dJ2_indexOfCharUnsafe_4cfef_21 : decode cJ2_indexOfCharUnsafe_4cfef 21 = .ok (.ireturn, 1) := by decide +kernel
theorem dJ2_indexOfCharUnsafe_4cfef_22 : decode cJ2_indexOfCharUnsafe_4cfef 22 = .ok (.iinc 4 1, 3) := by decide +kernel
theorem dJ2_indexOfCharUnsafe_4cfef_25 : decode cJ2_indexOfCharUnsafe_4cfef 25 = .ok (.goto (-22), 3) := by decide +kernel
theorem dJ2_indexOfCharUnsafe_4cfef_28 : decode cJ2_indexOfCharUnsafe_4cfef 28 = .ok (.iconst (-1), 1) := by decide +kernel
theorem dJ2_indexOfCharUnsafe_4cfef_29 : decode cJ2_indexOfCharUnsafe_4cfef 29 = .ok (.ireturn, 1) := by decide +kernel
theorem dJ2_indexOfSupplementary_4cfef_0 : decode cJ2_indexOfSupplementary_4cfef 0 = .ok (.iload_n 1, 1) := by decide +kernel
theorem dJ2_indexOfSupplementary_4cfef_1 : decode cJ2_indexOfSupplementary_4cfef 1 = .ok (.invokestatic 164, 3) := by decide +kernel
theorem dJ2_indexOfSupplementary_4cfef_4 : decode cJ2_indexOfSupplementary_4cfef 4 = .ok (.ifCond .eq 65, 3) := by decide +kernel
theorem dJ2_indexOfSupplementary_4cfef_7 : decode cJ2_indexOfSupplementary_4cfef 7 = .ok (.iload_n 1, 1) := by decide +kernel
theorem dJ2_indexOfSupplementary_4cfef_8 : decode cJ2_indexOfSupplementary_4cfef 8 = .ok (.invokestatic 157, 3) := by decide +kernel
theorem dJ2_indexOfSupplementary_4cfef_11 : decode cJ2_indexOfSupplementary_4cfef 11 = .ok (.istore 4, 2) := by decide +kernel
theorem dJ2_indexOfSupplementary_4cfef_13 : decode cJ2_indexOfSupplementary_4cfef 13 = .ok (.iload_n 1, 1) := by decide +kernel
theorem dJ2_indexOfSupplementary_4cfef_14 : decode cJ2_indexOfSupplementary_4cfef 14 = .ok (.invokestatic 161, 3) := by decide +kernel
theorem dJ2_indexOfSupplementary_4cfef_17 : decode cJ2_indexOfSupplementary_4cfef 17 = .ok (.istore 5, 2) := by decide +kernel
theorem dJ2_indexOfSupplementary_4cfef_19 : decode cJ2_indexOfSupplementary_4cfef 19 = .ok (.iload_n 2, 1) := by decide +kernel
theorem dJ2_indexOfSupplementary_4cfef_20 : decode cJ2_indexOfSupplementary_4cfef 20 = .ok (.iload_n 3, 1) := by decide +kernel
theorem dJ2_indexOfSupplementary_4cfef_21 : decode cJ2_indexOfSupplementary_4cfef 21 = .ok (.aload_n 0, 1) := by decide +kernel
theorem dJ2_indexOfSupplementary_4cfef_22 : decode cJ2_indexOfSupplementary_4cfef 22 = .ok (.invokestatic 96, 3) := by decide +kernel
theorem dJ2_indexOfSupplementary_4cfef_25 : decode cJ2_indexOfSupplementary_4cfef 25 = .ok (.iload_n 2, 1) := by decide +kernel
theorem dJ2_indexOfSupplementary_4cfef_26 : decode cJ2_indexOfSupplementary_4cfef 26 = .ok (.istore 6, 2) := by decide +kernel
theorem dJ2_indexOfSupplementary_4cfef_28 : decode cJ2_indexOfSupplementary_4cfef 28 = .ok (.iload 6, 2) := by decide +kernel
theorem dJ2_indexOfSupplementary_4cfef_30 : decode cJ2_indexOfSupplementary_4cfef 30 = .ok (.iload_n 3, 1) := by decide +kernel
theorem dJ2_indexOfSupplementary_4cfef_31 : decode cJ2_indexOfSupplementary_4cfef 31 = .ok (.iconst 1, 1) := by decide +kernel
theorem dJ2_indexOfSupplementary_4cfef_32 : decode cJ2_indexOfSupplementary_4cfef 32 = .ok (.isub, 1) := by decide +kernel
theorem dJ2_indexOfSupplementary_4cfef_33 : decode cJ2_indexOfSupplementary_4cfef 33 = .ok (.if_icmp .ge 36, 3) := by decide +kernel
theorem dJ2_indexOfSupplementary_4cfef_36 : decode cJ2_indexOfSupplementary_4cfef 36 = .ok (.aload_n 0, 1) := by decide +kernel
theorem dJ2_indexOfSupplementary_4cfef_37 : decode cJ2_indexOfSupplementary_4cfef 37 = .ok (.iload 6, 2) := by decide +kernel
theorem dJ2_indexOfSupplementary_4cfef_39 : decode cJ2_indexOfSupplementary_4cfef 39 = .ok (.invokestatic 71, 3) := by decide +kernel
theorem dJ2_indexOfSupplementary_4cfef_42 : decode cJ2_indexOfSupplementary_4cfef 42 = .ok (.iload 4, 2) := by decide +kernel
theorem dJ2_indexOfSupplementary_4cfef_44 : decode cJ2_indexOfSupplementary_4cfef 44 = .ok (.if_icmp .ne 19, 3) := by decide +kernel
theorem dJ2_indexOfSupplementary_4cfef_47 : decode cJ2_indexOfSupplementary_4cfef 47 = .ok (.aload_n 0, 1) := by decide +kernel
theorem dJ2_indexOfSupplementary_4cfef_48 : decode cJ2_indexOfSupplementary_4cfef 48 = .ok (.iload 6, 2) := by decide +kernel
theorem dJ2_indexOfSupplementary_4cfef_50 : decode cJ2_indexOfSupplementary_4cfef 50 = .ok (.iconst 1, 1) := by decide +kernel
theorem dJ2_indexOfSupplementary_4cfef_51 : decode cJ2_indexOfSupplementary_4cfef 51 = .ok (.iadd, 1) := by decide +kernel
theorem dJ2_indexOfSupplementary_4cfef_52 : decode cJ2_indexOfSupplementary_4cfef 52 = .ok (.invokestatic 71, 3) := by decide +kernel
theorem dJ2_indexOfSupplementary_4cfef_55 : decode cJ2_indexOfSupplementary_4cfef 55 = .ok (.iload 5, 2) := by decide +kernel
theorem dJ2_indexOfSupplementary_4cfef_57 : decode cJ2_indexOfSupplementary_4cfef 57 = .ok (.if_icmp .ne 6, 3) := by decide +kernel
theorem dJ2_indexOfSupplementary_4cfef_60 : decode cJ2_indexOfSupplementary_4cfef 60 = .ok (.iload 6, 2) := by decide +kernel
theorem dJ2_indexOfSupplementary_4cfef_62 : decode cJ2_indexOfSupplementary_4cfef 62 = .ok (.ireturn, 1) := by decide +kernel
theorem dJ2_indexOfSupplementary_4cfef_63 : decode cJ2_indexOfSupplementary_4cfef 63 = .ok (.iinc 6 1, 3) := by decide +kernel
theorem dJ2_indexOfSupplementary_4cfef_66 : decode cJ2_indexOfSupplementary_4cfef 66 = .ok (.goto (-38), 3) := by decide +kernel
theorem dJ2_indexOfSupplementary_4cfef_69 : decode cJ2_indexOfSupplementary_4cfef 69 = .ok (.iconst (-1), 1) := by decide +kernel
theorem dJ2_indexOfSupplementary_4cfef_70 : decode cJ2_indexOfSupplementary_4cfef 70 = .ok (.ireturn, 1) := by decide +kernel
theorem dJ2_charAt_3b067_0 : decode cJ2_charAt_3b067 0 = .ok (.iload_n 1, 1) := by decide +kernel
theorem dJ2_charAt_3b067_1 : decode cJ2_charAt_3b067 1 = .ok (.aload_n 0, 1) := by decide +kernel
theorem dJ2_charAt_3b067_2 : decode cJ2_charAt_3b067 2 = .ok (.invokestatic 67, 3) := by decide +kernel
theorem dJ2_charAt_3b067_5 : decode cJ2_charAt_3b067 5 = .ok (.aload_n 0, 1) := by decide +kernel
theorem dJ2_charAt_3b067_6 : decode cJ2_charAt_3b067 6 = .ok (.iload_n 1, 1) := by decide +kernel
theorem dJ2_charAt_3b067_7 : decode cJ2_charAt_3b067 7 = .ok (.invokestatic 71, 3) := by decide +kernel
theorem dJ2_charAt_3b067_10 : decode cJ2_charAt_3b067 10 = .ok (.ireturn, 1) := by decide +kernel
theorem dJ2_checkIndex_2214a_0 : decode cJ2_checkIndex_2214a 0 = .ok (.iload_n 0, 1) := by decide +kernel
theorem dJ2_checkIndex_2214a_1 : decode cJ2_checkIndex_2214a 1 = .ok (.aload_n 1, 1) := by decide +kernel
theorem dJ2_checkIndex_2214a_2 : decode cJ2_checkIndex_2214a 2 = .ok (.invokestatic 48, 3) := by decide +kernel
theorem dJ2_checkIndex_2214a_5 : decode cJ2_checkIndex_2214a 5 = .ok (.invokestatic 414, 3) := by decide +kernel
theorem dJ2_checkIndex_2214a_8 : decode cJ2_checkIndex_2214a 8 = .ok (.return_, 1) := by decide +kernel
theorem dJ2_checkBoundsBeginEnd_d044e_0 : decode cJ2_checkBoundsBeginEnd_d044e 0 = .ok (.iload_n 0, 1) := by decide +kernel
theorem dJ2_checkBoundsBeginEnd_d044e_1 : decode cJ2_checkBoundsBeginEnd_d044e 1 = .ok (.iload_n 1, 1) := by decide +kernel
theorem dJ2_checkBoundsBeginEnd_d044e_2 : decode cJ2_checkBoundsBeginEnd_d044e 2 = .ok (.aload_n 2, 1) := by decide +kernel
theorem dJ2_checkBoundsBeginEnd_d044e_3 : decode cJ2_checkBoundsBeginEnd_d044e 3 = .ok (.invokestatic 48, 3) := by decide +kernel
theorem dJ2_checkBoundsBeginEnd_d044e_6 : decode cJ2_checkBoundsBeginEnd_d044e 6 = .ok (.invokestatic 241, 3) := by decide +kernel
theorem dJ2_checkBoundsBeginEnd_d044e_9 : decode cJ2_checkBoundsBeginEnd_d044e 9 = .ok (.return_, 1) := by decide +kernel
theorem dJ3_checkIndex_8e157_0 : decode cJ3_checkIndex_8e157 0 = .ok (.iload_n 0, 1) := by decide +kernel
theorem dJ3_checkIndex_8e157_1 : decode cJ3_checkIndex_8e157 1 = .ok (.ifCond .lt 8, 3) := by decide +kernel
theorem dJ3_checkIndex_8e157_4 : decode cJ3_checkIndex_8e157 4 = .ok (.iload_n 0, 1) := by decide +kernel
theorem dJ3_checkIndex_8e157_5 : decode cJ3_checkIndex_8e157 5 = .ok (.iload_n 1, 1) := by decide +kernel
theorem dJ3_checkIndex_8e157_6 : decode cJ3_checkIndex_8e157 6 = .ok (.if_icmp .lt 10, 3) := by decide +kernel
theorem dJ3_checkIndex_8e157_9 : decode cJ3_checkIndex_8e157 9 = .ok (.aload_n 2, 1) := by decide +kernel
theorem dJ3_checkIndex_8e157_10 : decode cJ3_checkIndex_8e157 10 = .ok (.iload_n 0, 1) := by decide +kernel
theorem dJ3_checkIndex_8e157_11 : decode cJ3_checkIndex_8e157 11 = .ok (.iload_n 1, 1) := by decide +kernel
theorem dJ3_checkIndex_8e157_12 : decode cJ3_checkIndex_8e157 12 = .ok (.invokestatic 95, 3) := by decide +kernel
theorem dJ3_checkIndex_8e157_15 : decode cJ3_checkIndex_8e157 15 = .ok (.athrow, 1) := by decide +kernel
theorem dJ3_checkIndex_8e157_16 : decode cJ3_checkIndex_8e157 16 = .ok (.iload_n 0, 1) := by decide +kernel
theorem dJ3_checkIndex_8e157_17 : decode cJ3_checkIndex_8e157 17 = .ok (.ireturn, 1) := by decide +kernel
theorem dJ3_checkFromToIndex_8c36e_0 : decode cJ3_checkFromToIndex_8c36e 0 = .ok (.iload_n 0, 1) := by decide +kernel
theorem dJ3_checkFromToIndex_8c36e_1 : decode cJ3_checkFromToIndex_8c36e 1 = .ok (.ifCond .lt 13, 3) := by decide +kernel
theorem dJ3_checkFromToIndex_8c36e_4 : decode cJ3_checkFromToIndex_8c36e 4 = .ok (.iload_n 0, 1) := by decide +kernel
theorem dJ3_checkFromToIndex_8c36e_5 : decode cJ3_checkFromToIndex_8c36e 5 = .ok (.iload_n 1, 1) := by decide +kernel
theorem dJ3_checkFromToIndex_8c36e_6 : decode cJ3_checkFromToIndex_8c36e 6 = .ok (.if_icmp .gt 8, 3) := by decide +kernel
theorem dJ3_checkFromToIndex_8c36e_9 : decode cJ3_checkFromToIndex_8c36e 9 = .ok (.iload_n 1, 1) := by decide +kernel
theorem dJ3_checkFromToIndex_8c36e_10 : decode cJ3_checkFromToIndex_8c36e 10 = .ok (.iload_n 2, 1) := by decide +kernel
theorem dJ3_checkFromToIndex_8c36e_11 : decode cJ3_checkFromToIndex_8c36e 11 = .ok (.if_icmp .le 11, 3) := by decide +kernel
theorem dJ3_checkFromToIndex_8c36e_14 : decode cJ3_checkFromToIndex_8c36e 14 = .ok (.aload_n 3, 1) := by decide +kernel
theorem dJ3_checkFromToIndex_8c36e_15 : decode cJ3_checkFromToIndex_8c36e 15 = .ok (.iload_n 0, 1) := by decide +kernel
theorem dJ3_checkFromToIndex_8c36e_16 : decode cJ3_checkFromToIndex_8c36e 16 = .ok (.iload_n 1, 1) := by decide +kernel
theorem dJ3_checkFromToIndex_8c36e_17 : decode cJ3_checkFromToIndex_8c36e 17 = .ok (.iload_n 2, 1) := by decide +kernel
theorem dJ3_checkFromToIndex_8c36e_18 : decode cJ3_checkFromToIndex_8c36e 18 = .ok (.invokestatic 99, 3) := by decide +kernel
theorem dJ3_checkFromToIndex_8c36e_21 : decode cJ3_checkFromToIndex_8c36e 21 = .ok (.athrow, 1) := by decide +kernel
theorem dJ3_checkFromToIndex_8c36e_22 : decode cJ3_checkFromToIndex_8c36e 22 = .ok (.iload_n 0, 1) := by decide +kernel
theorem dJ3_checkFromToIndex_8c36e_23 : decode cJ3_checkFromToIndex_8c36e 23 = .ok (.ireturn, 1) := by decide +kernel
