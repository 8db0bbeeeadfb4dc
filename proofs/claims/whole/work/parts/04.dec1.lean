theorem dX11_told_146 : decode cX11_told 146 = .ok (.invokevirtual 152, 3) := by decide +kernel
theorem dX11_told_149 : decode cX11_told 149 = .ok (.ireturn, 1) := by decide +kernel
theorem dX11_cost_0 : decode cX11_cost 0 = .ok (.aload_n 0, 1) := by decide +kernel
theorem dX11_cost_1 : decode cX11_cost 1 = .ok (.getfield 12, 3) := by decide +kernel
theorem dX11_cost_4 : decode cX11_cost 4 = .ok (.iload_n 1, 1) := by decide +kernel
theorem dX11_cost_5 : decode cX11_cost 5 = .ok (.invokevirtual 74, 3) := by decide +kernel
theorem dX11_cost_8 : decode cX11_cost 8 = .ok (.ifnull 10, 3) := by decide +kernel
theorem dX11_cost_11 : decode cX11_cost 11 = .ok (.iload_n 3, 1) := by decide +kernel
theorem dX11_cost_12 : decode cX11_cost 12 = .ok (.invokestatic 131, 3) := by decide +kernel
theorem dX11_cost_15 : decode cX11_cost 15 = .ok (.ifCond .ne 5, 3) := by decide +kernel
theorem dX11_cost_18 : decode cX11_cost 18 = .ok (.iconst (-1), 1) := by decide +kernel
theorem dX11_cost_19 : decode cX11_cost 19 = .ok (.ireturn, 1) := by decide +kernel
theorem dX11_cost_20 : decode cX11_cost 20 = .ok (.iload_n 2, 1) := by decide +kernel
theorem dX11_cost_21 : decode cX11_cost 21 = .ok (.invokestatic 109, 3) := by decide +kernel
theorem dX11_cost_24 : decode cX11_cost 24 = .ok (.ifCond .ne 6, 3) := by decide +kernel
theorem dX11_cost_27 : decode cX11_cost 27 = .ok (.bipush (-2), 2) := by decide +kernel
theorem dX11_cost_29 : decode cX11_cost 29 = .ok (.ireturn, 1) := by decide +kernel
theorem dX11_cost_30 : decode cX11_cost 30 = .ok (.iload_n 3, 1) := by decide +kernel
theorem dX11_cost_31 : decode cX11_cost 31 = .ok (.ifCond .ne 15, 3) := by decide +kernel
theorem dX11_cost_34 : decode cX11_cost 34 = .ok (.aload_n 0, 1) := by decide +kernel
theorem dX11_cost_35 : decode cX11_cost 35 = .ok (.getfield 12, 3) := by decide +kernel
theorem dX11_cost_38 : decode cX11_cost 38 = .ok (.iload_n 1, 1) := by decide +kernel
theorem dX11_cost_39 : decode cX11_cost 39 = .ok (.iload_n 2, 1) := by decide +kernel
theorem dX11_cost_40 : decode cX11_cost 40 = .ok (.invokevirtual 115, 3) := by decide +kernel
theorem dX11_cost_43 : decode cX11_cost 43 = .ok (.goto 12, 3) := by decide +kernel
theorem dX11_cost_46 : decode cX11_cost 46 = .ok (.aload_n 0, 1) := by decide +kernel
theorem dX11_cost_47 : decode cX11_cost 47 = .ok (.getfield 12, 3) := by decide +kernel
theorem dX11_cost_50 : decode cX11_cost 50 = .ok (.iload_n 1, 1) := by decide +kernel
theorem dX11_cost_51 : decode cX11_cost 51 = .ok (.iload_n 2, 1) := by decide +kernel
theorem dX11_cost_52 : decode cX11_cost 52 = .ok (.invokevirtual 122, 3) := by decide +kernel
theorem dX11_cost_55 : decode cX11_cost 55 = .ok (.ireturn, 1) := by decide +kernel
theorem dX11_looks_0 : decode cX11_looks 0 = .ok (.iload_n 1, 1) := by decide +kernel
theorem dX11_looks_1 : decode cX11_looks 1 = .ok (.iconst (-1), 1) := by decide +kernel
theorem dX11_looks_2 : decode cX11_looks 2 = .ok (.if_icmp .ne 15, 3) := by decide +kernel
theorem dX11_looks_5 : decode cX11_looks 5 = .ok (.aload_n 0, 1) := by decide +kernel
theorem dX11_looks_6 : decode cX11_looks 6 = .ok (.getfield 12, 3) := by decide +kernel
theorem dX11_looks_9 : decode cX11_looks 9 = .ok (.getfield 155, 3) := by decide +kernel
theorem dX11_looks_12 : decode cX11_looks 12 = .ok (.invokevirtual 53, 3) := by decide +kernel
theorem dX11_looks_15 : decode cX11_looks 15 = .ok (.iconst 0, 1) := by decide +kernel
theorem dX11_looks_16 : decode cX11_looks 16 = .ok (.ireturn, 1) := by decide +kernel
theorem dX11_looks_17 : decode cX11_looks 17 = .ok (.iload_n 1, 1) := by decide +kernel
theorem dX11_looks_18 : decode cX11_looks 18 = .ok (.invokestatic 158, 3) := by decide +kernel
theorem dX11_looks_21 : decode cX11_looks 21 = .ok (.ifCond .eq 17, 3) := by decide +kernel
theorem dX11_looks_24 : decode cX11_looks 24 = .ok (.aload_n 0, 1) := by decide +kernel
theorem dX11_looks_25 : decode cX11_looks 25 = .ok (.getfield 12, 3) := by decide +kernel
theorem dX11_looks_28 : decode cX11_looks 28 = .ok (.getfield 155, 3) := by decide +kernel
theorem dX11_looks_31 : decode cX11_looks 31 = .ok (.iload_n 1, 1) := by decide +kernel
theorem dX11_looks_32 : decode cX11_looks 32 = .ok (.invokevirtual 92, 3) := by decide +kernel
theorem dX11_looks_35 : decode cX11_looks 35 = .ok (.ifCond .le 6, 3) := by decide +kernel
theorem dX11_looks_38 : decode cX11_looks 38 = .ok (.bipush (-2), 2) := by decide +kernel
theorem dX11_looks_40 : decode cX11_looks 40 = .ok (.ireturn, 1) := by decide +kernel
theorem dX11_looks_41 : decode cX11_looks 41 = .ok (.aload_n 0, 1) := by decide +kernel
theorem dX11_looks_42 : decode cX11_looks 42 = .ok (.getfield 12, 3) := by decide +kernel
theorem dX11_looks_45 : decode cX11_looks 45 = .ok (.getfield 155, 3) := by decide +kernel
theorem dX11_looks_48 : decode cX11_looks 48 = .ok (.iload_n 1, 1) := by decide +kernel
theorem dX11_looks_49 : decode cX11_looks 49 = .ok (.invokevirtual 32, 3) := by decide +kernel
theorem dX11_looks_52 : decode cX11_looks 52 = .ok (.ifCond .eq 16, 3) := by decide +kernel
theorem dX11_looks_55 : decode cX11_looks 55 = .ok (.aload_n 0, 1) := by decide +kernel
theorem dX11_looks_56 : decode cX11_looks 56 = .ok (.getfield 12, 3) := by decide +kernel
theorem dX11_looks_59 : decode cX11_looks 59 = .ok (.getfield 155, 3) := by decide +kernel
theorem dX11_looks_62 : decode cX11_looks 62 = .ok (.invokevirtual 38, 3) := by decide +kernel
theorem dX11_looks_65 : decode cX11_looks 65 = .ok (.goto 5, 3) := by decide +kernel
theorem dX11_looks_68 : decode cX11_looks 68 = .ok (.bipush (-4), 2) := by decide +kernel
theorem dX11_looks_70 : decode cX11_looks 70 = .ok (.ireturn, 1) := by decide +kernel
theorem dX11_safe_0 : decode cX11_safe 0 = .ok (.aload_n 0, 1) := by decide +kernel
theorem dX11_safe_1 : decode cX11_safe 1 = .ok (.getfield 12, 3) := by decide +kernel
theorem dX11_safe_4 : decode cX11_safe 4 = .ok (.invokevirtual 161, 3) := by decide +kernel
theorem dX11_safe_7 : decode cX11_safe 7 = .ok (.aload_n 0, 1) := by decide +kernel
theorem dX11_safe_8 : decode cX11_safe 8 = .ok (.getfield 12, 3) := by decide +kernel
theorem dX11_safe_11 : decode cX11_safe 11 = .ok (.invokevirtual 149, 3) := by decide +kernel
theorem dX11_safe_14 : decode cX11_safe 14 = .ok (.invokestatic 165, 3) := by decide +kernel
theorem dX11_safe_17 : decode cX11_safe 17 = .ok (.iload_n 1, 1) := by decide +kernel
theorem dX11_safe_18 : decode cX11_safe 18 = .ok (.invokestatic 169, 3) := by decide +kernel
theorem dX11_safe_21 : decode cX11_safe 21 = .ok (.lreturn, 1) := by decide +kernel
theorem dX11_again_0 : decode cX11_again 0 = .ok (.aload_n 0, 1) := by decide +kernel
theorem dX11_again_1 : decode cX11_again 1 = .ok (.getfield 12, 3) := by decide +kernel
theorem dX11_again_4 : decode cX11_again 4 = .ok (.invokevirtual 149, 3) := by decide +kernel
theorem dX11_again_7 : decode cX11_again 7 = .ok (.invokestatic 165, 3) := by decide +kernel
theorem dX11_again_10 : decode cX11_again 10 = .ok (.lstore_n 2, 1) := by decide +kernel
theorem dX11_again_11 : decode cX11_again 11 = .ok (.aload_n 0, 1) := by decide +kernel
theorem dX11_again_12 : decode cX11_again 12 = .ok (.getfield 12, 3) := by decide +kernel
theorem dX11_again_15 : decode cX11_again 15 = .ok (.getfield 56, 3) := by decide +kernel
theorem dX11_again_18 : decode cX11_again 18 = .ok (.getfield 140, 3) := by decide +kernel
theorem dX11_again_21 : decode cX11_again 21 = .ok (.i2l, 1) := by decide +kernel
theorem dX11_again_22 : decode cX11_again 22 = .ok (.ldc2_w 173, 3) := by decide +kernel
theorem dX11_again_25 : decode cX11_again 25 = .ok (.lload_n 2, 1) := by decide +kernel
theorem dX11_again_26 : decode cX11_again 26 = .ok (.lmul, 1) := by decide +kernel
theorem dX11_again_27 : decode cX11_again 27 = .ok (.aload_n 0, 1) := by decide +kernel
theorem dX11_again_28 : decode cX11_again 28 = .ok (.getfield 12, 3) := by decide +kernel
theorem dX11_again_31 : decode cX11_again 31 = .ok (.invokevirtual 161, 3) := by decide +kernel
theorem dX11_again_34 : decode cX11_again 34 = .ok (.lsub, 1) := by decide +kernel
theorem dX11_again_35 : decode cX11_again 35 = .ok (.lmul, 1) := by decide +kernel
theorem dX11_again_36 : decode cX11_again 36 = .ok (.lload_n 2, 1) := by decide +kernel
theorem dX11_again_37 : decode cX11_again 37 = .ok (.iload_n 1, 1) := by decide +kernel
theorem dX11_again_38 : decode cX11_again 38 = .ok (.invokestatic 169, 3) := by decide +kernel
theorem dX11_again_41 : decode cX11_again 41 = .ok (.lreturn, 1) := by decide +kernel
theorem dX11_twice_0 : decode cX11_twice 0 = .ok (.iload_n 1, 1) := by decide +kernel
theorem dX11_twice_1 : decode cX11_twice 1 = .ok (.iconst 1, 1) := by decide +kernel
theorem dX11_twice_2 : decode cX11_twice 2 = .ok (.if_icmp .lt 8, 3) := by decide +kernel
theorem dX11_twice_5 : decode cX11_twice 5 = .ok (.iload_n 1, 1) := by decide +kernel
theorem dX11_twice_6 : decode cX11_twice 6 = .ok (.iconst 4, 1) := by decide +kernel
theorem dX11_twice_7 : decode cX11_twice 7 = .ok (.if_icmp .le 7, 3) := by decide +kernel
theorem dX11_twice_10 : decode cX11_twice 10 = .ok (.ldc2_w 175, 3) := by decide +kernel
theorem dX11_twice_13 : decode cX11_twice 13 = .ok (.lreturn, 1) := by decide +kernel
theorem dX11_twice_14 : decode cX11_twice 14 = .ok (.aload_n 0, 1) := by decide +kernel
theorem dX11_twice_15 : decode cX11_twice 15 = .ok (.getfield 12, 3) := by decide +kernel
theorem dX11_twice_18 : decode cX11_twice 18 = .ok (.getfield 56, 3) := by decide +kernel
theorem dX11_twice_21 : decode cX11_twice 21 = .ok (.getfield 140, 3) := by decide +kernel
theorem dX11_twice_24 : decode cX11_twice 24 = .ok (.istore_n 3, 1) := by decide +kernel
theorem dX11_twice_25 : decode cX11_twice 25 = .ok (.iload_n 1, 1) := by decide +kernel
theorem dX11_twice_26 : decode cX11_twice 26 = .ok (.iload_n 3, 1) := by decide +kernel
theorem dX11_twice_27 : decode cX11_twice 27 = .ok (.invokestatic 177, 3) := by decide +kernel
theorem dX11_twice_30 : decode cX11_twice 30 = .ok (.istore 4, 2) := by decide +kernel
theorem dX11_twice_32 : decode cX11_twice 32 = .ok (.aload_n 0, 1) := by decide +kernel
theorem dX11_twice_33 : decode cX11_twice 33 = .ok (.getfield 12, 3) := by decide +kernel
theorem dX11_twice_36 : decode cX11_twice 36 = .ok (.invokevirtual 161, 3) := by decide +kernel
theorem dX11_twice_39 : decode cX11_twice 39 = .ok (.lstore 5, 2) := by decide +kernel
theorem dX11_twice_41 : decode cX11_twice 41 = .ok (.iload_n 3, 1) := by decide +kernel
theorem dX11_twice_42 : decode cX11_twice 42 = .ok (.iload 4, 2) := by decide +kernel
theorem dX11_twice_44 : decode cX11_twice 44 = .ok (.isub, 1) := by decide +kernel
theorem dX11_twice_45 : decode cX11_twice 45 = .ok (.istore 7, 2) := by decide +kernel
theorem dX11_twice_47 : decode cX11_twice 47 = .ok (.iload 7, 2) := by decide +kernel
theorem dX11_twice_49 : decode cX11_twice 49 = .ok (.iload_n 3, 1) := by decide +kernel
theorem dX11_twice_50 : decode cX11_twice 50 = .ok (.if_icmp .ge 27, 3) := by decide +kernel
theorem dX11_twice_53 : decode cX11_twice 53 = .ok (.lload 5, 2) := by decide +kernel
theorem dX11_twice_55 : decode cX11_twice 55 = .ok (.bipush 100, 2) := by decide +kernel
theorem dX11_twice_57 : decode cX11_twice 57 = .ok (.aload_n 0, 1) := by decide +kernel
theorem dX11_twice_58 : decode cX11_twice 58 = .ok (.getfield 12, 3) := by decide +kernel
theorem dX11_twice_61 : decode cX11_twice 61 = .ok (.iload 7, 2) := by decide +kernel
theorem dX11_twice_63 : decode cX11_twice 63 = .ok (.invokevirtual 134, 3) := by decide +kernel
theorem dX11_twice_66 : decode cX11_twice 66 = .ok (.isub, 1) := by decide +kernel
theorem dX11_twice_67 : decode cX11_twice 67 = .ok (.i2l, 1) := by decide +kernel
theorem dX11_twice_68 : decode cX11_twice 68 = .ok (.lmul, 1) := by decide +kernel
theorem dX11_twice_69 : decode cX11_twice 69 = .ok (.lstore 5, 2) := by decide +kernel
theorem dX11_twice_71 : decode cX11_twice 71 = .ok (.iinc 7 1, 3) := by decide +kernel
theorem dX11_twice_74 : decode cX11_twice 74 = .ok (.goto (-27), 3) := by decide +kernel
theorem dX11_twice_77 : decode cX11_twice 77 = .ok (.lload 5, 2) := by decide +kernel
theorem dX11_twice_79 : decode cX11_twice 79 = .ok (.aload_n 0, 1) := by decide +kernel
theorem dX11_twice_80 : decode cX11_twice 80 = .ok (.getfield 12, 3) := by decide +kernel
theorem dX11_twice_83 : decode cX11_twice 83 = .ok (.invokevirtual 149, 3) := by decide +kernel
theorem dX11_twice_86 : decode cX11_twice 86 = .ok (.iload 4, 2) := by decide +kernel
theorem dX11_twice_88 : decode cX11_twice 88 = .ok (.iadd, 1) := by decide +kernel
theorem dX11_twice_89 : decode cX11_twice 89 = .ok (.invokestatic 165, 3) := by decide +kernel
theorem dX11_twice_92 : decode cX11_twice 92 = .ok (.iload_n 2, 1) := by decide +kernel
theorem dX11_twice_93 : decode cX11_twice 93 = .ok (.invokestatic 169, 3) := by decide +kernel
theorem dX11_twice_96 : decode cX11_twice 96 = .ok (.lreturn, 1) := by decide +kernel
theorem dX11_quick_0 : decode cX11_quick 0 = .ok (.iload_n 3, 1) := by decide +kernel
theorem dX11_quick_1 : decode cX11_quick 1 = .ok (.invokestatic 131, 3) := by decide +kernel
theorem dX11_quick_4 : decode cX11_quick 4 = .ok (.ifCond .ne 5, 3) := by decide +kernel
theorem dX11_quick_7 : decode cX11_quick 7 = .ok (.iconst (-1), 1) := by decide +kernel
theorem dX11_quick_8 : decode cX11_quick 8 = .ok (.ireturn, 1) := by decide +kernel
theorem dX11_quick_9 : decode cX11_quick 9 = .ok (.iload_n 1, 1) := by decide +kernel
theorem dX11_quick_10 : decode cX11_quick 10 = .ok (.invokestatic 109, 3) := by decide +kernel
theorem dX11_quick_13 : decode cX11_quick 13 = .ok (.ifCond .eq 10, 3) := by decide +kernel
theorem dX11_quick_16 : decode cX11_quick 16 = .ok (.iload_n 2, 1) := by decide +kernel
theorem dX11_quick_17 : decode cX11_quick 17 = .ok (.invokestatic 182, 3) := by decide +kernel
theorem dX11_quick_20 : decode cX11_quick 20 = .ok (.ifCond .ne 6, 3) := by decide +kernel
theorem dX11_quick_23 : decode cX11_quick 23 = .ok (.bipush (-2), 2) := by decide +kernel
theorem dX11_quick_25 : decode cX11_quick 25 = .ok (.ireturn, 1) := by decide +kernel
theorem dX11_quick_26 : decode cX11_quick 26 = .ok (.iconst (-1), 1) := by decide +kernel
theorem dX11_quick_27 : decode cX11_quick 27 = .ok (.istore 4, 2) := by decide +kernel
theorem dX11_quick_29 : decode cX11_quick 29 = .ok (.iconst 0, 1) := by decide +kernel
theorem dX11_quick_30 : decode cX11_quick 30 = .ok (.istore 5, 2) := by decide +kernel
theorem dX11_quick_32 : decode cX11_quick 32 = .ok (.iload 5, 2) := by decide +kernel
theorem dX11_quick_34 : decode cX11_quick 34 = .ok (.aload_n 0, 1) := by decide +kernel
theorem dX11_quick_35 : decode cX11_quick 35 = .ok (.getfield 12, 3) := by decide +kernel
theorem dX11_quick_38 : decode cX11_quick 38 = .ok (.invokevirtual 63, 3) := by decide +kernel
theorem dX11_quick_41 : decode cX11_quick 41 = .ok (.if_icmp .ge 68, 3) := by decide +kernel
theorem dX11_quick_44 : decode cX11_quick 44 = .ok (.iload 4, 2) := by decide +kernel
theorem dX11_quick_46 : decode cX11_quick 46 = .ok (.iconst (-1), 1) := by decide +kernel
theorem dX11_quick_47 : decode cX11_quick 47 = .ok (.if_icmp .eq 26, 3) := by decide +kernel
theorem dX11_quick_50 : decode cX11_quick 50 = .ok (.aload_n 0, 1) := by decide +kernel
theorem dX11_quick_51 : decode cX11_quick 51 = .ok (.getfield 12, 3) := by decide +kernel
theorem dX11_quick_54 : decode cX11_quick 54 = .ok (.iload 5, 2) := by decide +kernel
theorem dX11_quick_56 : decode cX11_quick 56 = .ok (.iload_n 1, 1) := by decide +kernel
theorem dX11_quick_57 : decode cX11_quick 57 = .ok (.invokevirtual 115, 3) := by decide +kernel
theorem dX11_quick_60 : decode cX11_quick 60 = .ok (.aload_n 0, 1) := by decide +kernel
theorem dX11_quick_61 : decode cX11_quick 61 = .ok (.getfield 12, 3) := by decide +kernel
theorem dX11_quick_64 : decode cX11_quick 64 = .ok (.iload 4, 2) := by decide +kernel
theorem dX11_quick_66 : decode cX11_quick 66 = .ok (.iload_n 1, 1) := by decide +kernel
theorem dX11_quick_67 : decode cX11_quick 67 = .ok (.invokevirtual 115, 3) := by decide +kernel
theorem dX11_quick_70 : decode cX11_quick 70 = .ok (.if_icmp .ge 7, 3) := by decide +kernel
theorem dX11_quick_73 : decode cX11_quick 73 = .ok (.iconst 1, 1) := by decide +kernel
theorem dX11_quick_74 : decode cX11_quick 74 = .ok (.goto 4, 3) := by decide +kernel
theorem dX11_quick_77 : decode cX11_quick 77 = .ok (.iconst 0, 1) := by decide +kernel
theorem dX11_quick_78 : decode cX11_quick 78 = .ok (.istore 6, 2) := by decide +kernel
theorem dX11_quick_80 : decode cX11_quick 80 = .ok (.iload 6, 2) := by decide +kernel
theorem dX11_quick_82 : decode cX11_quick 82 = .ok (.ifCond .eq 21, 3) := by decide +kernel
theorem dX11_quick_85 : decode cX11_quick 85 = .ok (.aload_n 0, 1) := by decide +kernel
theorem dX11_quick_86 : decode cX11_quick 86 = .ok (.getfield 12, 3) := by decide +kernel
theorem dX11_quick_89 : decode cX11_quick 89 = .ok (.iload 5, 2) := by decide +kernel
theorem dX11_quick_91 : decode cX11_quick 91 = .ok (.iload_n 1, 1) := by decide +kernel
theorem dX11_quick_92 : decode cX11_quick 92 = .ok (.invokevirtual 122, 3) := by decide +kernel
theorem dX11_quick_95 : decode cX11_quick 95 = .ok (.iload_n 2, 1) := by decide +kernel
theorem dX11_quick_96 : decode cX11_quick 96 = .ok (.if_icmp .gt 7, 3) := by decide +kernel
theorem dX11_quick_99 : decode cX11_quick 99 = .ok (.iload 5, 2) := by decide +kernel
theorem dX11_quick_101 : decode cX11_quick 101 = .ok (.istore 4, 2) := by decide +kernel
theorem dX11_quick_103 : decode cX11_quick 103 = .ok (.iinc 5 1, 3) := by decide +kernel
theorem dX11_quick_106 : decode cX11_quick 106 = .ok (.goto (-74), 3) := by decide +kernel
theorem dX11_quick_109 : decode cX11_quick 109 = .ok (.iload 4, 2) := by decide +kernel
theorem dX11_quick_111 : decode cX11_quick 111 = .ok (.iconst (-1), 1) := by decide +kernel
theorem dX11_quick_112 : decode cX11_quick 112 = .ok (.if_icmp .ne 6, 3) := by decide +kernel
theorem dX11_quick_115 : decode cX11_quick 115 = .ok (.bipush (-5), 2) := by decide +kernel
theorem dX11_quick_117 : decode cX11_quick 117 = .ok (.ireturn, 1) := by decide +kernel
theorem dX11_quick_118 : decode cX11_quick 118 = .ok (.iload_n 3, 1) := by decide +kernel
theorem dX11_quick_119 : decode cX11_quick 119 = .ok (.ifCond .ne 8, 3) := by decide +kernel
theorem dX11_quick_122 : decode cX11_quick 122 = .ok (.iload 4, 2) := by decide +kernel
theorem dX11_quick_124 : decode cX11_quick 124 = .ok (.goto 13, 3) := by decide +kernel
theorem dX11_quick_127 : decode cX11_quick 127 = .ok (.aload_n 0, 1) := by decide +kernel
theorem dX11_quick_128 : decode cX11_quick 128 = .ok (.getfield 12, 3) := by decide +kernel
theorem dX11_quick_131 : decode cX11_quick 131 = .ok (.iload 4, 2) := by decide +kernel
theorem dX11_quick_133 : decode cX11_quick 133 = .ok (.iload_n 1, 1) := by decide +kernel
theorem dX11_quick_134 : decode cX11_quick 134 = .ok (.invokevirtual 115, 3) := by decide +kernel
theorem dX11_quick_137 : decode cX11_quick 137 = .ok (.ireturn, 1) := by decide +kernel
theorem dX11_change_0 : decode cX11_change 0 = .ok (.iload_n 3, 1) := by decide +kernel
theorem dX11_change_1 : decode cX11_change 1 = .ok (.ifCond .lt 8, 3) := by decide +kernel
theorem dX11_change_4 : decode cX11_change 4 = .ok (.iload_n 3, 1) := by decide +kernel
theorem dX11_change_5 : decode cX11_change 5 = .ok (.iconst 3, 1) := by decide +kernel
theorem dX11_change_6 : decode cX11_change 6 = .ok (.if_icmp .le 5, 3) := by decide +kernel
theorem dX11_change_9 : decode cX11_change 9 = .ok (.iconst (-1), 1) := by decide +kernel
theorem dX11_change_10 : decode cX11_change 10 = .ok (.ireturn, 1) := by decide +kernel
theorem dX11_change_11 : decode cX11_change 11 = .ok (.iload_n 1, 1) := by decide +kernel
theorem dX11_change_12 : decode cX11_change 12 = .ok (.invokestatic 109, 3) := by decide +kernel
theorem dX11_change_15 : decode cX11_change 15 = .ok (.ifCond .eq 10, 3) := by decide +kernel
theorem dX11_change_18 : decode cX11_change 18 = .ok (.iload_n 2, 1) := by decide +kernel
theorem dX11_change_19 : decode cX11_change 19 = .ok (.invokestatic 182, 3) := by decide +kernel
theorem dX11_change_22 : decode cX11_change 22 = .ok (.ifCond .ne 6, 3) := by decide +kernel
theorem dX11_change_25 : decode cX11_change 25 = .ok (.bipush (-2), 2) := by decide +kernel
theorem dX11_change_27 : decode cX11_change 27 = .ok (.ireturn, 1) := by decide +kernel
theorem dX11_change_28 : decode cX11_change 28 = .ok (.ldc 185, 2) := by decide +kernel
theorem dX11_change_30 : decode cX11_change 30 = .ok (.istore 4, 2) := by decide +kernel
theorem dX11_change_32 : decode cX11_change 32 = .ok (.iconst 0, 1) := by decide +kernel
theorem dX11_change_33 : decode cX11_change 33 = .ok (.istore 5, 2) := by decide +kernel
theorem dX11_change_35 : decode cX11_change 35 = .ok (.iload 5, 2) := by decide +kernel
theorem dX11_change_37 : decode cX11_change 37 = .ok (.iload_n 1, 1) := by decide +kernel
theorem dX11_change_38 : decode cX11_change 38 = .ok (.if_icmp .gt 24, 3) := by decide +kernel
theorem dX11_change_41 : decode cX11_change 41 = .ok (.iload 4, 2) := by decide +kernel
theorem dX11_change_43 : decode cX11_change 43 = .ok (.aload_n 0, 1) := by decide +kernel
theorem dX11_change_44 : decode cX11_change 44 = .ok (.iload 5, 2) := by decide +kernel
theorem dX11_change_46 : decode cX11_change 46 = .ok (.iload_n 1, 1) := by decide +kernel
theorem dX11_change_47 : decode cX11_change 47 = .ok (.iload_n 2, 1) := by decide +kernel
theorem dX11_change_48 : decode cX11_change 48 = .ok (.invokevirtual 186, 3) := by decide +kernel
theorem dX11_change_51 : decode cX11_change 51 = .ok (.invokestatic 177, 3) := by decide +kernel
theorem dX11_change_54 : decode cX11_change 54 = .ok (.istore 4, 2) := by decide +kernel
theorem dX11_change_56 : decode cX11_change 56 = .ok (.iinc 5 1, 3) := by decide +kernel
theorem dX11_change_59 : decode cX11_change 59 = .ok (.goto (-24), 3) := by decide +kernel
theorem dX11_change_62 : decode cX11_change 62 = .ok (.iload 4, 2) := by decide +kernel
theorem dX11_change_64 : decode cX11_change 64 = .ok (.ldc 185, 2) := by decide +kernel
theorem dX11_change_66 : decode cX11_change 66 = .ok (.if_icmp .ne 6, 3) := by decide +kernel
theorem dX11_change_69 : decode cX11_change 69 = .ok (.bipush (-5), 2) := by decide +kernel
theorem dX11_change_71 : decode cX11_change 71 = .ok (.ireturn, 1) := by decide +kernel
theorem dX11_change_72 : decode cX11_change 72 = .ok (.iload_n 3, 1) := by decide +kernel
theorem dX11_change_73 : decode cX11_change 73 = .ok (.tableswitch 54 0 2 #[27, 36, 45], 27) := by decide +kernel
theorem dX11_change_100 : decode cX11_change 100 = .ok (.iload 4, 2) := by decide +kernel
theorem dX11_change_102 : decode cX11_change 102 = .ok (.bipush 36, 2) := by decide +kernel
theorem dX11_change_104 : decode cX11_change 104 = .ok (.idiv, 1) := by decide +kernel
theorem dX11_change_105 : decode cX11_change 105 = .ok (.bipush 41, 2) := by decide +kernel
theorem dX11_change_107 : decode cX11_change 107 = .ok (.idiv, 1) := by decide +kernel
theorem dX11_change_108 : decode cX11_change 108 = .ok (.ireturn, 1) := by decide +kernel
theorem dX11_change_109 : decode cX11_change 109 = .ok (.iload 4, 2) := by decide +kernel
theorem dX11_change_111 : decode cX11_change 111 = .ok (.bipush 6, 2) := by decide +kernel
theorem dX11_change_113 : decode cX11_change 113 = .ok (.idiv, 1) := by decide +kernel
theorem dX11_change_114 : decode cX11_change 114 = .ok (.bipush 6, 2) := by decide +kernel
theorem dX11_change_116 : decode cX11_change 116 = .ok (.irem, 1) := by decide +kernel
theorem dX11_change_117 : decode cX11_change 117 = .ok (.ireturn, 1) := by decide +kernel
theorem dX11_change_118 : decode cX11_change 118 = .ok (.iload 4, 2) := by decide +kernel
theorem dX11_change_120 : decode cX11_change 120 = .ok (.bipush 36, 2) := by decide +kernel
theorem dX11_change_122 : decode cX11_change 122 = .ok (.idiv, 1) := by decide +kernel
theorem dX11_change_123 : decode cX11_change 123 = .ok (.bipush 41, 2) := by decide +kernel
theorem dX11_change_125 : decode cX11_change 125 = .ok (.irem, 1) := by decide +kernel
theorem dX11_change_126 : decode cX11_change 126 = .ok (.ireturn, 1) := by decide +kernel
theorem dX11_change_127 : decode cX11_change 127 = .ok (.iload 4, 2) := by decide +kernel
theorem dX11_change_129 : decode cX11_change 129 = .ok (.bipush 6, 2) := by decide +kernel
theorem dX11_change_131 : decode cX11_change 131 = .ok (.irem, 1) := by decide +kernel
theorem dX11_change_132 : decode cX11_change 132 = .ok (.ireturn, 1) := by decide +kernel
theorem dX11_rests_0 : decode cX11_rests 0 = .ok (.aload_n 0, 1) := by decide +kernel
theorem dX11_rests_1 : decode cX11_rests 1 = .ok (.getfield 12, 3) := by decide +kernel
theorem dX11_rests_4 : decode cX11_rests 4 = .ok (.iload_n 1, 1) := by decide +kernel
theorem dX11_rests_5 : decode cX11_rests 5 = .ok (.invokevirtual 74, 3) := by decide +kernel
theorem dX11_rests_8 : decode cX11_rests 8 = .ok (.ifnull 11, 3) := by decide +kernel
theorem dX11_rests_11 : decode cX11_rests 11 = .ok (.iload 4, 2) := by decide +kernel
theorem dX11_rests_13 : decode cX11_rests 13 = .ok (.invokestatic 131, 3) := by decide +kernel
theorem dX11_rests_16 : decode cX11_rests 16 = .ok (.ifCond .ne 5, 3) := by decide +kernel
theorem dX11_rests_19 : decode cX11_rests 19 = .ok (.iconst (-1), 1) := by decide +kernel
theorem dX11_rests_20 : decode cX11_rests 20 = .ok (.ireturn, 1) := by decide +kernel
theorem dX11_rests_21 : decode cX11_rests 21 = .ok (.iload_n 2, 1) := by decide +kernel
theorem dX11_rests_22 : decode cX11_rests 22 = .ok (.invokestatic 109, 3) := by decide +kernel
theorem dX11_rests_25 : decode cX11_rests 25 = .ok (.ifCond .eq 13, 3) := by decide +kernel
theorem dX11_rests_28 : decode cX11_rests 28 = .ok (.iload_n 3, 1) := by decide +kernel
theorem dX11_rests_29 : decode cX11_rests 29 = .ok (.ifCond .lt 9, 3) := by decide +kernel
theorem dX11_rests_32 : decode cX11_rests 32 = .ok (.iload_n 3, 1) := by decide +kernel
theorem dX11_rests_33 : decode cX11_rests 33 = .ok (.bipush 99, 2) := by decide +kernel
theorem dX11_rests_35 : decode cX11_rests 35 = .ok (.if_icmp .le 6, 3) := by decide +kernel
theorem dX11_rests_38 : decode cX11_rests 38 = .ok (.bipush (-2), 2) := by decide +kernel
theorem dX11_rests_40 : decode cX11_rests 40 = .ok (.ireturn, 1) := by decide +kernel
theorem dX11_rests_41 : decode cX11_rests 41 = .ok (.iconst 1, 1) := by decide +kernel
theorem dX11_rests_42 : decode cX11_rests 42 = .ok (.istore 5, 2) := by decide +kernel
theorem dX11_rests_44 : decode cX11_rests 44 = .ok (.iconst 2, 1) := by decide +kernel
theorem dX11_rests_45 : decode cX11_rests 45 = .ok (.istore 6, 2) := by decide +kernel
theorem dX11_rests_47 : decode cX11_rests 47 = .ok (.iload 6, 2) := by decide +kernel
theorem dX11_rests_49 : decode cX11_rests 49 = .ok (.iload_n 2, 1) := by decide +kernel
theorem dX11_rests_50 : decode cX11_rests 50 = .ok (.if_icmp .gt 34, 3) := by decide +kernel
theorem dX11_rests_53 : decode cX11_rests 53 = .ok (.aload_n 0, 1) := by decide +kernel
theorem dX11_rests_54 : decode cX11_rests 54 = .ok (.iload_n 1, 1) := by decide +kernel
theorem dX11_rests_55 : decode cX11_rests 55 = .ok (.iload_n 2, 1) := by decide +kernel
theorem dX11_rests_56 : decode cX11_rests 56 = .ok (.iload_n 3, 1) := by decide +kernel
theorem dX11_rests_57 : decode cX11_rests 57 = .ok (.iload 6, 2) := by decide +kernel
theorem dX11_rests_59 : decode cX11_rests 59 = .ok (.invokevirtual 190, 3) := by decide +kernel
theorem dX11_rests_62 : decode cX11_rests 62 = .ok (.aload_n 0, 1) := by decide +kernel
theorem dX11_rests_63 : decode cX11_rests 63 = .ok (.iload_n 1, 1) := by decide +kernel
theorem dX11_rests_64 : decode cX11_rests 64 = .ok (.iload_n 2, 1) := by decide +kernel
theorem dX11_rests_65 : decode cX11_rests 65 = .ok (.iload_n 3, 1) := by decide +kernel
theorem dX11_rests_66 : decode cX11_rests 66 = .ok (.iload 5, 2) := by decide +kernel
theorem dX11_rests_68 : decode cX11_rests 68 = .ok (.invokevirtual 190, 3) := by decide +kernel
theorem dX11_rests_71 : decode cX11_rests 71 = .ok (.if_icmp .ge 7, 3) := by decide +kernel
theorem dX11_rests_74 : decode cX11_rests 74 = .ok (.iload 6, 2) := by decide +kernel
theorem dX11_rests_76 : decode cX11_rests 76 = .ok (.istore 5, 2) := by decide +kernel
theorem dX11_rests_78 : decode cX11_rests 78 = .ok (.iinc 6 1, 3) := by decide +kernel
theorem dX11_rests_81 : decode cX11_rests 81 = .ok (.goto (-34), 3) := by decide +kernel
theorem dX11_rests_84 : decode cX11_rests 84 = .ok (.iload 4, 2) := by decide +kernel
theorem dX11_rests_86 : decode cX11_rests 86 = .ok (.ifCond .ne 8, 3) := by decide +kernel
theorem dX11_rests_89 : decode cX11_rests 89 = .ok (.iload 5, 2) := by decide +kernel
theorem dX11_rests_91 : decode cX11_rests 91 = .ok (.goto 12, 3) := by decide +kernel
theorem dX11_rests_94 : decode cX11_rests 94 = .ok (.aload_n 0, 1) := by decide +kernel
theorem dX11_rests_95 : decode cX11_rests 95 = .ok (.iload_n 1, 1) := by decide +kernel
theorem dX11_rests_96 : decode cX11_rests 96 = .ok (.iload_n 2, 1) := by decide +kernel
theorem dX11_rests_97 : decode cX11_rests 97 = .ok (.iload_n 3, 1) := by decide +kernel
theorem dX11_rests_98 : decode cX11_rests 98 = .ok (.iload 5, 2) := by decide +kernel
theorem dX11_rests_100 : decode cX11_rests 100 = .ok (.invokevirtual 190, 3) := by decide +kernel
theorem dX11_rests_103 : decode cX11_rests 103 = .ok (.ireturn, 1) := by decide +kernel
theorem dX11_mend_0 : decode cX11_mend 0 = .ok (.aload_n 0, 1) := by decide +kernel
theorem dX11_mend_1 : decode cX11_mend 1 = .ok (.getfield 12, 3) := by decide +kernel
theorem dX11_mend_4 : decode cX11_mend 4 = .ok (.iload_n 1, 1) := by decide +kernel
theorem dX11_mend_5 : decode cX11_mend 5 = .ok (.invokevirtual 74, 3) := by decide +kernel
theorem dX11_mend_8 : decode cX11_mend 8 = .ok (.ifnonnull 5, 3) := by decide +kernel
theorem dX11_mend_11 : decode cX11_mend 11 = .ok (.iconst (-1), 1) := by decide +kernel
theorem dX11_mend_12 : decode cX11_mend 12 = .ok (.ireturn, 1) := by decide +kernel
theorem dX11_mend_13 : decode cX11_mend 13 = .ok (.bipush (-5), 2) := by decide +kernel
theorem dX11_mend_15 : decode cX11_mend 15 = .ok (.istore_n 2, 1) := by decide +kernel
theorem dX11_mend_16 : decode cX11_mend 16 = .ok (.aload_n 0, 1) := by decide +kernel
theorem dX11_mend_17 : decode cX11_mend 17 = .ok (.getfield 12, 3) := by decide +kernel
theorem dX11_mend_20 : decode cX11_mend 20 = .ok (.invokevirtual 161, 3) := by decide +kernel
theorem dX11_mend_23 : decode cX11_mend 23 = .ok (.lstore_n 3, 1) := by decide +kernel
theorem dX11_mend_24 : decode cX11_mend 24 = .ok (.iconst 0, 1) := by decide +kernel
theorem dX11_mend_25 : decode cX11_mend 25 = .ok (.istore 5, 2) := by decide +kernel
theorem dX11_mend_27 : decode cX11_mend 27 = .ok (.iload 5, 2) := by decide +kernel
theorem dX11_mend_29 : decode cX11_mend 29 = .ok (.aload_n 0, 1) := by decide +kernel
theorem dX11_mend_30 : decode cX11_mend 30 = .ok (.getfield 12, 3) := by decide +kernel
theorem dX11_mend_33 : decode cX11_mend 33 = .ok (.invokevirtual 149, 3) := by decide +kernel
theorem dX11_mend_36 : decode cX11_mend 36 = .ok (.if_icmp .ge 64, 3) := by decide +kernel
theorem dX11_mend_39 : decode cX11_mend 39 = .ok (.aload_n 0, 1) := by decide +kernel
theorem dX11_mend_40 : decode cX11_mend 40 = .ok (.getfield 12, 3) := by decide +kernel
theorem dX11_mend_43 : decode cX11_mend 43 = .ok (.iload 5, 2) := by decide +kernel
theorem dX11_mend_45 : decode cX11_mend 45 = .ok (.invokevirtual 152, 3) := by decide +kernel
theorem dX11_mend_48 : decode cX11_mend 48 = .ok (.istore 6, 2) := by decide +kernel
theorem dX11_mend_50 : decode cX11_mend 50 = .ok (.aload_n 0, 1) := by decide +kernel
theorem dX11_mend_51 : decode cX11_mend 51 = .ok (.getfield 12, 3) := by decide +kernel
theorem dX11_mend_54 : decode cX11_mend 54 = .ok (.getfield 89, 3) := by decide +kernel
theorem dX11_mend_57 : decode cX11_mend 57 = .ok (.iload 6, 2) := by decide +kernel
theorem dX11_mend_59 : decode cX11_mend 59 = .ok (.invokevirtual 128, 3) := by decide +kernel
theorem dX11_mend_62 : decode cX11_mend 62 = .ok (.ifCond .eq 16, 3) := by decide +kernel
theorem dX11_mend_65 : decode cX11_mend 65 = .ok (.aload_n 0, 1) := by decide +kernel
theorem dX11_mend_66 : decode cX11_mend 66 = .ok (.getfield 12, 3) := by decide +kernel
theorem dX11_mend_69 : decode cX11_mend 69 = .ok (.iload 6, 2) := by decide +kernel
theorem dX11_mend_71 : decode cX11_mend 71 = .ok (.iload_n 1, 1) := by decide +kernel
theorem dX11_mend_72 : decode cX11_mend 72 = .ok (.invokevirtual 194, 3) := by decide +kernel
theorem dX11_mend_75 : decode cX11_mend 75 = .ok (.goto 4, 3) := by decide +kernel
theorem dX11_mend_78 : decode cX11_mend 78 = .ok (.lconst 0, 1) := by decide +kernel
theorem dX11_mend_79 : decode cX11_mend 79 = .ok (.lstore 7, 2) := by decide +kernel
theorem dX11_mend_81 : decode cX11_mend 81 = .ok (.lload 7, 2) := by decide +kernel
theorem dX11_mend_83 : decode cX11_mend 83 = .ok (.lload_n 3, 1) := by decide +kernel
theorem dX11_mend_84 : decode cX11_mend 84 = .ok (.lcmp, 1) := by decide +kernel
theorem dX11_mend_85 : decode cX11_mend 85 = .ok (.ifCond .le 9, 3) := by decide +kernel
theorem dX11_mend_88 : decode cX11_mend 88 = .ok (.iload 6, 2) := by decide +kernel
theorem dX11_mend_90 : decode cX11_mend 90 = .ok (.istore_n 2, 1) := by decide +kernel
theorem dX11_mend_91 : decode cX11_mend 91 = .ok (.lload 7, 2) := by decide +kernel
theorem dX11_mend_93 : decode cX11_mend 93 = .ok (.lstore_n 3, 1) := by decide +kernel
theorem dX11_mend_94 : decode cX11_mend 94 = .ok (.iinc 5 1, 3) := by decide +kernel
theorem dX11_mend_97 : decode cX11_mend 97 = .ok (.goto (-70), 3) := by decide +kernel
theorem dX11_mend_100 : decode cX11_mend 100 = .ok (.iload_n 2, 1) := by decide +kernel
theorem dX11_mend_101 : decode cX11_mend 101 = .ok (.ireturn, 1) := by decide +kernel
theorem dX11_where_0 : decode cX11_where 0 = .ok (.iload_n 1, 1) := by decide +kernel
theorem dX11_where_1 : decode cX11_where 1 = .ok (.ifCond .lt 31, 3) := by decide +kernel
theorem dX11_where_4 : decode cX11_where 4 = .ok (.iload_n 1, 1) := by decide +kernel
theorem dX11_where_5 : decode cX11_where 5 = .ok (.aload_n 0, 1) := by decide +kernel
theorem dX11_where_6 : decode cX11_where 6 = .ok (.getfield 12, 3) := by decide +kernel
theorem dX11_where_9 : decode cX11_where 9 = .ok (.getfield 56, 3) := by decide +kernel
theorem dX11_where_12 : decode cX11_where 12 = .ok (.getfield 143, 3) := by decide +kernel
theorem dX11_where_15 : decode cX11_where 15 = .ok (.if_icmp .ge 17, 3) := by decide +kernel
theorem dX11_where_18 : decode cX11_where 18 = .ok (.iload_n 1, 1) := by decide +kernel
theorem dX11_where_19 : decode cX11_where 19 = .ok (.aload_n 0, 1) := by decide +kernel
theorem dX11_where_20 : decode cX11_where 20 = .ok (.getfield 12, 3) := by decide +kernel
theorem dX11_where_23 : decode cX11_where 23 = .ok (.getfield 56, 3) := by decide +kernel
theorem dX11_where_26 : decode cX11_where 26 = .ok (.getfield 140, 3) := by decide +kernel
theorem dX11_where_29 : decode cX11_where 29 = .ok (.if_icmp .lt 5, 3) := by decide +kernel
theorem dX11_where_32 : decode cX11_where 32 = .ok (.iconst (-1), 1) := by decide +kernel
theorem dX11_where_33 : decode cX11_where 33 = .ok (.ireturn, 1) := by decide +kernel
theorem dX11_where_34 : decode cX11_where 34 = .ok (.bipush 101, 2) := by decide +kernel
theorem dX11_where_36 : decode cX11_where 36 = .ok (.istore_n 2, 1) := by decide +kernel
theorem dX11_where_37 : decode cX11_where 37 = .ok (.iconst (-1), 1) := by decide +kernel
theorem dX11_where_38 : decode cX11_where 38 = .ok (.istore_n 3, 1) := by decide +kernel
theorem dX11_where_39 : decode cX11_where 39 = .ok (.iconst 0, 1) := by decide +kernel
theorem dX11_where_40 : decode cX11_where 40 = .ok (.istore 4, 2) := by decide +kernel
theorem dX11_where_42 : decode cX11_where 42 = .ok (.iload 4, 2) := by decide +kernel
theorem dX11_where_44 : decode cX11_where 44 = .ok (.iload_n 1, 1) := by decide +kernel
theorem dX11_where_45 : decode cX11_where 45 = .ok (.if_icmp .gt 25, 3) := by decide +kernel
theorem dX11_where_48 : decode cX11_where 48 = .ok (.aload_n 0, 1) := by decide +kernel
theorem dX11_where_49 : decode cX11_where 49 = .ok (.iload_n 2, 1) := by decide +kernel
theorem dX11_where_50 : decode cX11_where 50 = .ok (.iload_n 3, 1) := by decide +kernel
theorem dX11_where_51 : decode cX11_where 51 = .ok (.invokevirtual 198, 3) := by decide +kernel
theorem dX11_where_54 : decode cX11_where 54 = .ok (.istore_n 3, 1) := by decide +kernel
theorem dX11_where_55 : decode cX11_where 55 = .ok (.aload_n 0, 1) := by decide +kernel
theorem dX11_where_56 : decode cX11_where 56 = .ok (.getfield 12, 3) := by decide +kernel
theorem dX11_where_59 : decode cX11_where 59 = .ok (.iload_n 3, 1) := by decide +kernel
theorem dX11_where_60 : decode cX11_where 60 = .ok (.invokevirtual 134, 3) := by decide +kernel
theorem dX11_where_63 : decode cX11_where 63 = .ok (.istore_n 2, 1) := by decide +kernel
theorem dX11_where_64 : decode cX11_where 64 = .ok (.iinc 4 1, 3) := by decide +kernel
theorem dX11_where_67 : decode cX11_where 67 = .ok (.goto (-25), 3) := by decide +kernel
theorem dX11_where_70 : decode cX11_where 70 = .ok (.iload_n 3, 1) := by decide +kernel
theorem dX11_where_71 : decode cX11_where 71 = .ok (.ireturn, 1) := by decide +kernel
theorem dX11_left_0 : decode cX11_left 0 = .ok (.aload_n 0, 1) := by decide +kernel
theorem dX11_left_1 : decode cX11_left 1 = .ok (.getfield 12, 3) := by decide +kernel
theorem dX11_left_4 : decode cX11_left 4 = .ok (.getfield 56, 3) := by decide +kernel
theorem dX11_left_7 : decode cX11_left 7 = .ok (.getfield 146, 3) := by decide +kernel
theorem dX11_left_10 : decode cX11_left 10 = .ok (.ifCond .eq 5, 3) := by decide +kernel
theorem dX11_left_13 : decode cX11_left 13 = .ok (.iconst 0, 1) := by decide +kernel
theorem dX11_left_14 : decode cX11_left 14 = .ok (.ireturn, 1) := by decide +kernel
theorem dX11_left_15 : decode cX11_left 15 = .ok (.aload_n 0, 1) := by decide +kernel
theorem dX11_left_16 : decode cX11_left 16 = .ok (.getfield 12, 3) := by decide +kernel
theorem dX11_left_19 : decode cX11_left 19 = .ok (.getfield 89, 3) := by decide +kernel
theorem dX11_left_22 : decode cX11_left 22 = .ok (.invokevirtual 38, 3) := by decide +kernel
theorem dX11_left_25 : decode cX11_left 25 = .ok (.aload_n 0, 1) := by decide +kernel
theorem dX11_left_26 : decode cX11_left 26 = .ok (.getfield 12, 3) := by decide +kernel
theorem dX11_left_29 : decode cX11_left 29 = .ok (.getfield 89, 3) := by decide +kernel
theorem dX11_left_32 : decode cX11_left 32 = .ok (.iconst (-1), 1) := by decide +kernel
theorem dX11_left_33 : decode cX11_left 33 = .ok (.invokevirtual 92, 3) := by decide +kernel
theorem dX11_left_36 : decode cX11_left 36 = .ok (.isub, 1) := by decide +kernel
theorem dX11_left_37 : decode cX11_left 37 = .ok (.istore_n 1, 1) := by decide +kernel
theorem dX11_left_38 : decode cX11_left 38 = .ok (.iconst 0, 1) := by decide +kernel
theorem dX11_left_39 : decode cX11_left 39 = .ok (.istore_n 2, 1) := by decide +kernel
theorem dX11_left_40 : decode cX11_left 40 = .ok (.iload_n 2, 1) := by decide +kernel
theorem dX11_left_41 : decode cX11_left 41 = .ok (.aload_n 0, 1) := by decide +kernel
theorem dX11_left_42 : decode cX11_left 42 = .ok (.getfield 12, 3) := by decide +kernel
theorem dX11_left_45 : decode cX11_left 45 = .ok (.invokevirtual 149, 3) := by decide +kernel
theorem dX11_left_48 : decode cX11_left 48 = .ok (.if_icmp .ge 34, 3) := by decide +kernel
theorem dX11_left_51 : decode cX11_left 51 = .ok (.aload_n 0, 1) := by decide +kernel
theorem dX11_left_52 : decode cX11_left 52 = .ok (.getfield 12, 3) := by decide +kernel
theorem dX11_left_55 : decode cX11_left 55 = .ok (.getfield 89, 3) := by decide +kernel
theorem dX11_left_58 : decode cX11_left 58 = .ok (.aload_n 0, 1) := by decide +kernel
theorem dX11_left_59 : decode cX11_left 59 = .ok (.getfield 12, 3) := by decide +kernel
theorem dX11_left_62 : decode cX11_left 62 = .ok (.iload_n 2, 1) := by decide +kernel
theorem dX11_left_63 : decode cX11_left 63 = .ok (.invokevirtual 152, 3) := by decide +kernel
theorem dX11_left_66 : decode cX11_left 66 = .ok (.invokevirtual 137, 3) := by decide +kernel
theorem dX11_left_69 : decode cX11_left 69 = .ok (.iconst (-1), 1) := by decide +kernel
theorem dX11_left_70 : decode cX11_left 70 = .ok (.if_icmp .eq 6, 3) := by decide +kernel
theorem dX11_left_73 : decode cX11_left 73 = .ok (.iinc 1 (-1), 3) := by decide +kernel
theorem dX11_left_76 : decode cX11_left 76 = .ok (.iinc 2 1, 3) := by decide +kernel
theorem dX11_left_79 : decode cX11_left 79 = .ok (.goto (-39), 3) := by decide +kernel
theorem dX11_left_82 : decode cX11_left 82 = .ok (.iload_n 1, 1) := by decide +kernel
theorem dX11_left_83 : decode cX11_left 83 = .ok (.ireturn, 1) := by decide +kernel
theorem dX11_longest_0 : decode cX11_longest 0 = .ok (.iload_n 1, 1) := by decide +kernel
theorem dX11_longest_1 : decode cX11_longest 1 = .ok (.invokestatic 131, 3) := by decide +kernel
theorem dX11_longest_4 : decode cX11_longest 4 = .ok (.ifCond .ne 5, 3) := by decide +kernel
theorem dX11_longest_7 : decode cX11_longest 7 = .ok (.iconst (-1), 1) := by decide +kernel
theorem dX11_longest_8 : decode cX11_longest 8 = .ok (.ireturn, 1) := by decide +kernel
theorem dX11_longest_9 : decode cX11_longest 9 = .ok (.iconst 0, 1) := by decide +kernel
theorem dX11_longest_10 : decode cX11_longest 10 = .ok (.istore_n 2, 1) := by decide +kernel
theorem dX11_longest_11 : decode cX11_longest 11 = .ok (.iconst 0, 1) := by decide +kernel
theorem dX11_longest_12 : decode cX11_longest 12 = .ok (.istore_n 3, 1) := by decide +kernel
theorem dX11_longest_13 : decode cX11_longest 13 = .ok (.iconst 0, 1) := by decide +kernel
theorem dX11_longest_14 : decode cX11_longest 14 = .ok (.istore 4, 2) := by decide +kernel
theorem dX11_longest_16 : decode cX11_longest 16 = .ok (.iconst 0, 1) := by decide +kernel
theorem dX11_longest_17 : decode cX11_longest 17 = .ok (.istore 5, 2) := by decide +kernel
theorem dX11_longest_19 : decode cX11_longest 19 = .ok (.iload 5, 2) := by decide +kernel
theorem dX11_longest_21 : decode cX11_longest 21 = .ok (.aload_n 0, 1) := by decide +kernel
theorem dX11_longest_22 : decode cX11_longest 22 = .ok (.getfield 12, 3) := by decide +kernel
theorem dX11_longest_25 : decode cX11_longest 25 = .ok (.getfield 89, 3) := by decide +kernel
theorem dX11_longest_28 : decode cX11_longest 28 = .ok (.invokevirtual 38, 3) := by decide +kernel
theorem dX11_longest_31 : decode cX11_longest 31 = .ok (.if_icmp .ge 80, 3) := by decide +kernel
theorem dX11_longest_34 : decode cX11_longest 34 = .ok (.aload_n 0, 1) := by decide +kernel
theorem dX11_longest_35 : decode cX11_longest 35 = .ok (.getfield 12, 3) := by decide +kernel
theorem dX11_longest_38 : decode cX11_longest 38 = .ok (.getfield 89, 3) := by decide +kernel
theorem dX11_longest_41 : decode cX11_longest 41 = .ok (.iload 5, 2) := by decide +kernel
theorem dX11_longest_43 : decode cX11_longest 43 = .ok (.invokevirtual 137, 3) := by decide +kernel
theorem dX11_longest_46 : decode cX11_longest 46 = .ok (.istore 6, 2) := by decide +kernel
theorem dX11_longest_48 : decode cX11_longest 48 = .ok (.iload 5, 2) := by decide +kernel
theorem dX11_longest_50 : decode cX11_longest 50 = .ok (.ifCond .le 29, 3) := by decide +kernel
theorem dX11_longest_53 : decode cX11_longest 53 = .ok (.aload_n 0, 1) := by decide +kernel
theorem dX11_longest_54 : decode cX11_longest 54 = .ok (.getfield 12, 3) := by decide +kernel
theorem dX11_longest_57 : decode cX11_longest 57 = .ok (.getfield 89, 3) := by decide +kernel
theorem dX11_longest_60 : decode cX11_longest 60 = .ok (.iload 5, 2) := by decide +kernel
theorem dX11_longest_62 : decode cX11_longest 62 = .ok (.iconst 1, 1) := by decide +kernel
theorem dX11_longest_63 : decode cX11_longest 63 = .ok (.isub, 1) := by decide +kernel
theorem dX11_longest_64 : decode cX11_longest 64 = .ok (.invokevirtual 137, 3) := by decide +kernel
theorem dX11_longest_67 : decode cX11_longest 67 = .ok (.iload 6, 2) := by decide +kernel
theorem dX11_longest_69 : decode cX11_longest 69 = .ok (.if_icmp .ne 10, 3) := by decide +kernel
theorem dX11_longest_72 : decode cX11_longest 72 = .ok (.iload 4, 2) := by decide +kernel
theorem dX11_longest_74 : decode cX11_longest 74 = .ok (.iconst 1, 1) := by decide +kernel
theorem dX11_longest_75 : decode cX11_longest 75 = .ok (.iadd, 1) := by decide +kernel
theorem dX11_longest_76 : decode cX11_longest 76 = .ok (.goto 4, 3) := by decide +kernel
theorem dX11_longest_79 : decode cX11_longest 79 = .ok (.iconst 1, 1) := by decide +kernel
theorem dX11_longest_80 : decode cX11_longest 80 = .ok (.istore 4, 2) := by decide +kernel
theorem dX11_longest_82 : decode cX11_longest 82 = .ok (.iload 6, 2) := by decide +kernel
theorem dX11_longest_84 : decode cX11_longest 84 = .ok (.iconst (-1), 1) := by decide +kernel
theorem dX11_longest_85 : decode cX11_longest 85 = .ok (.if_icmp .eq 20, 3) := by decide +kernel
theorem dX11_longest_88 : decode cX11_longest 88 = .ok (.iload 4, 2) := by decide +kernel
theorem dX11_longest_90 : decode cX11_longest 90 = .ok (.iload_n 2, 1) := by decide +kernel
theorem dX11_longest_91 : decode cX11_longest 91 = .ok (.if_icmp .le 14, 3) := by decide +kernel
theorem dX11_longest_94 : decode cX11_longest 94 = .ok (.iload 4, 2) := by decide +kernel
theorem dX11_longest_96 : decode cX11_longest 96 = .ok (.istore_n 2, 1) := by decide +kernel
theorem dX11_longest_97 : decode cX11_longest 97 = .ok (.iload 5, 2) := by decide +kernel
theorem dX11_longest_99 : decode cX11_longest 99 = .ok (.iload 4, 2) := by decide +kernel
theorem dX11_longest_101 : decode cX11_longest 101 = .ok (.isub, 1) := by decide +kernel
theorem dX11_longest_102 : decode cX11_longest 102 = .ok (.iconst 1, 1) := by decide +kernel
theorem dX11_longest_103 : decode cX11_longest 103 = .ok (.iadd, 1) := by decide +kernel
theorem dX11_longest_104 : decode cX11_longest 104 = .ok (.istore_n 3, 1) := by decide +kernel
theorem dX11_longest_105 : decode cX11_longest 105 = .ok (.iinc 5 1, 3) := by decide +kernel
theorem dX11_longest_108 : decode cX11_longest 108 = .ok (.goto (-89), 3) := by decide +kernel
theorem dX11_longest_111 : decode cX11_longest 111 = .ok (.iload_n 2, 1) := by decide +kernel
theorem dX11_longest_112 : decode cX11_longest 112 = .ok (.ifCond .ne 6, 3) := by decide +kernel
theorem dX11_longest_115 : decode cX11_longest 115 = .ok (.bipush (-5), 2) := by decide +kernel
theorem dX11_longest_117 : decode cX11_longest 117 = .ok (.ireturn, 1) := by decide +kernel
theorem dX11_longest_118 : decode cX11_longest 118 = .ok (.iload_n 1, 1) := by decide +kernel
theorem dX11_longest_119 : decode cX11_longest 119 = .ok (.ifCond .ne 7, 3) := by decide +kernel
theorem dX11_longest_122 : decode cX11_longest 122 = .ok (.iload_n 2, 1) := by decide +kernel
theorem dX11_longest_123 : decode cX11_longest 123 = .ok (.goto 4, 3) := by decide +kernel
theorem dX11_longest_126 : decode cX11_longest 126 = .ok (.iload_n 3, 1) := by decide +kernel
theorem dX11_longest_127 : decode cX11_longest 127 = .ok (.ireturn, 1) := by decide +kernel
theorem dX11_show_0 : decode cX11_show 0 = .ok (.iload_n 1, 1) := by decide +kernel
theorem dX11_show_1 : decode cX11_show 1 = .ok (.iconst (-1), 1) := by decide +kernel
theorem dX11_show_2 : decode cX11_show 2 = .ok (.if_icmp .ne 15, 3) := by decide +kernel
theorem dX11_show_5 : decode cX11_show 5 = .ok (.aload_n 0, 1) := by decide +kernel
theorem dX11_show_6 : decode cX11_show 6 = .ok (.getfield 12, 3) := by decide +kernel
theorem dX11_show_9 : decode cX11_show 9 = .ok (.getfield 125, 3) := by decide +kernel
theorem dX11_show_12 : decode cX11_show 12 = .ok (.invokevirtual 53, 3) := by decide +kernel
theorem dX11_show_15 : decode cX11_show 15 = .ok (.iconst 0, 1) := by decide +kernel
theorem dX11_show_16 : decode cX11_show 16 = .ok (.ireturn, 1) := by decide +kernel
theorem dX11_show_17 : decode cX11_show 17 = .ok (.aload_n 0, 1) := by decide +kernel
theorem dX11_show_18 : decode cX11_show 18 = .ok (.getfield 12, 3) := by decide +kernel
theorem dX11_show_21 : decode cX11_show 21 = .ok (.getfield 89, 3) := by decide +kernel
theorem dX11_show_24 : decode cX11_show 24 = .ok (.iload_n 1, 1) := by decide +kernel
theorem dX11_show_25 : decode cX11_show 25 = .ok (.invokevirtual 128, 3) := by decide +kernel
theorem dX11_show_28 : decode cX11_show 28 = .ok (.ifCond .ne 5, 3) := by decide +kernel
theorem dX11_show_31 : decode cX11_show 31 = .ok (.iconst (-1), 1) := by decide +kernel
theorem dX11_show_32 : decode cX11_show 32 = .ok (.ireturn, 1) := by decide +kernel
theorem dX11_show_33 : decode cX11_show 33 = .ok (.aload_n 0, 1) := by decide +kernel
theorem dX11_show_34 : decode cX11_show 34 = .ok (.getfield 12, 3) := by decide +kernel
theorem dX11_show_37 : decode cX11_show 37 = .ok (.getfield 125, 3) := by decide +kernel
theorem dX11_show_40 : decode cX11_show 40 = .ok (.iload_n 1, 1) := by decide +kernel
theorem dX11_show_41 : decode cX11_show 41 = .ok (.invokevirtual 32, 3) := by decide +kernel
theorem dX11_show_44 : decode cX11_show 44 = .ok (.ifCond .eq 16, 3) := by decide +kernel
theorem dX11_show_47 : decode cX11_show 47 = .ok (.aload_n 0, 1) := by decide +kernel
theorem dX11_show_48 : decode cX11_show 48 = .ok (.getfield 12, 3) := by decide +kernel
theorem dX11_show_51 : decode cX11_show 51 = .ok (.getfield 125, 3) := by decide +kernel
theorem dX11_show_54 : decode cX11_show 54 = .ok (.invokevirtual 38, 3) := by decide +kernel
theorem dX11_show_57 : decode cX11_show 57 = .ok (.goto 5, 3) := by decide +kernel
theorem dX11_show_60 : decode cX11_show 60 = .ok (.bipush (-4), 2) := by decide +kernel
theorem dX11_show_62 : decode cX11_show 62 = .ok (.ireturn, 1) := by decide +kernel
theorem dX11_whose_0 : decode cX11_whose 0 = .ok (.iconst 0, 1) := by decide +kernel
theorem dX11_whose_1 : decode cX11_whose 1 = .ok (.istore_n 1, 1) := by decide +kernel
theorem dX11_whose_2 : decode cX11_whose 2 = .ok (.iconst 0, 1) := by decide +kernel
theorem dX11_whose_3 : decode cX11_whose 3 = .ok (.istore_n 2, 1) := by decide +kernel
theorem dX11_whose_4 : decode cX11_whose 4 = .ok (.iload_n 2, 1) := by decide +kernel
theorem dX11_whose_5 : decode cX11_whose 5 = .ok (.aload_n 0, 1) := by decide +kernel
theorem dX11_whose_6 : decode cX11_whose 6 = .ok (.getfield 12, 3) := by decide +kernel
theorem dX11_whose_9 : decode cX11_whose 9 = .ok (.invokevirtual 63, 3) := by decide +kernel
theorem dX11_whose_12 : decode cX11_whose 12 = .ok (.if_icmp .ge 23, 3) := by decide +kernel
theorem dX11_whose_15 : decode cX11_whose 15 = .ok (.aload_n 0, 1) := by decide +kernel
theorem dX11_whose_16 : decode cX11_whose 16 = .ok (.iload_n 2, 1) := by decide +kernel
theorem dX11_whose_17 : decode cX11_whose 17 = .ok (.invokevirtual 201, 3) := by decide +kernel
theorem dX11_whose_20 : decode cX11_whose 20 = .ok (.ifCond .eq 9, 3) := by decide +kernel
theorem dX11_whose_23 : decode cX11_whose 23 = .ok (.iload_n 1, 1) := by decide +kernel
theorem dX11_whose_24 : decode cX11_whose 24 = .ok (.iconst 1, 1) := by decide +kernel
theorem dX11_whose_25 : decode cX11_whose 25 = .ok (.iload_n 2, 1) := by decide +kernel
theorem dX11_whose_26 : decode cX11_whose 26 = .ok (.ishl, 1) := by decide +kernel
theorem dX11_whose_27 : decode cX11_whose 27 = .ok (.ior, 1) := by decide +kernel
theorem dX11_whose_28 : decode cX11_whose 28 = .ok (.istore_n 1, 1) := by decide +kernel
theorem dX11_whose_29 : decode cX11_whose 29 = .ok (.iinc 2 1, 3) := by decide +kernel
theorem dX11_whose_32 : decode cX11_whose 32 = .ok (.goto (-28), 3) := by decide +kernel
theorem dX11_whose_35 : decode cX11_whose 35 = .ok (.iload_n 1, 1) := by decide +kernel
theorem dX11_whose_36 : decode cX11_whose 36 = .ok (.ireturn, 1) := by decide +kernel
theorem dX11_wanted_0 : decode cX11_wanted 0 = .ok (.iload_n 1, 1) := by decide +kernel
theorem dX11_wanted_1 : decode cX11_wanted 1 = .ok (.iconst (-1), 1) := by decide +kernel
theorem dX11_wanted_2 : decode cX11_wanted 2 = .ok (.if_icmp .ne 15, 3) := by decide +kernel
theorem dX11_wanted_5 : decode cX11_wanted 5 = .ok (.aload_n 0, 1) := by decide +kernel
theorem dX11_wanted_6 : decode cX11_wanted 6 = .ok (.getfield 12, 3) := by decide +kernel
theorem dX11_wanted_9 : decode cX11_wanted 9 = .ok (.getfield 204, 3) := by decide +kernel
theorem dX11_wanted_12 : decode cX11_wanted 12 = .ok (.invokevirtual 53, 3) := by decide +kernel
theorem dX11_wanted_15 : decode cX11_wanted 15 = .ok (.iconst 0, 1) := by decide +kernel
theorem dX11_wanted_16 : decode cX11_wanted 16 = .ok (.ireturn, 1) := by decide +kernel
theorem dX11_wanted_17 : decode cX11_wanted 17 = .ok (.iload_n 1, 1) := by decide +kernel
theorem dX11_wanted_18 : decode cX11_wanted 18 = .ok (.ifCond .lt 9, 3) := by decide +kernel
theorem dX11_wanted_21 : decode cX11_wanted 21 = .ok (.iload_n 1, 1) := by decide +kernel
theorem dX11_wanted_22 : decode cX11_wanted 22 = .ok (.bipush 40, 2) := by decide +kernel
theorem dX11_wanted_24 : decode cX11_wanted 24 = .ok (.if_icmp .le 6, 3) := by decide +kernel
theorem dX11_wanted_27 : decode cX11_wanted 27 = .ok (.bipush (-2), 2) := by decide +kernel
theorem dX11_wanted_29 : decode cX11_wanted 29 = .ok (.ireturn, 1) := by decide +kernel
theorem dX11_wanted_30 : decode cX11_wanted 30 = .ok (.aload_n 0, 1) := by decide +kernel
theorem dX11_wanted_31 : decode cX11_wanted 31 = .ok (.getfield 12, 3) := by decide +kernel
theorem dX11_wanted_34 : decode cX11_wanted 34 = .ok (.getfield 204, 3) := by decide +kernel
theorem dX11_wanted_37 : decode cX11_wanted 37 = .ok (.iload_n 1, 1) := by decide +kernel
theorem dX11_wanted_38 : decode cX11_wanted 38 = .ok (.invokevirtual 32, 3) := by decide +kernel
theorem dX11_wanted_41 : decode cX11_wanted 41 = .ok (.ifCond .eq 16, 3) := by decide +kernel
theorem dX11_wanted_44 : decode cX11_wanted 44 = .ok (.aload_n 0, 1) := by decide +kernel
theorem dX11_wanted_45 : decode cX11_wanted 45 = .ok (.getfield 12, 3) := by decide +kernel
theorem dX11_wanted_48 : decode cX11_wanted 48 = .ok (.getfield 204, 3) := by decide +kernel
theorem dX11_wanted_51 : decode cX11_wanted 51 = .ok (.invokevirtual 38, 3) := by decide +kernel
theorem dX11_wanted_54 : decode cX11_wanted 54 = .ok (.goto 5, 3) := by decide +kernel
theorem dX11_wanted_57 : decode cX11_wanted 57 = .ok (.bipush (-4), 2) := by decide +kernel
theorem dX11_wanted_59 : decode cX11_wanted 59 = .ok (.ireturn, 1) := by decide +kernel
theorem dX11_stock_0 : decode cX11_stock 0 = .ok (.iload_n 1, 1) := by decide +kernel
theorem dX11_stock_1 : decode cX11_stock 1 = .ok (.invokestatic 207, 3) := by decide +kernel
theorem dX11_stock_4 : decode cX11_stock 4 = .ok (.ifCond .eq 10, 3) := by decide +kernel
theorem dX11_stock_7 : decode cX11_stock 7 = .ok (.iload_n 2, 1) := by decide +kernel
theorem dX11_stock_8 : decode cX11_stock 8 = .ok (.invokestatic 207, 3) := by decide +kernel
theorem dX11_stock_11 : decode cX11_stock 11 = .ok (.ifCond .ne 6, 3) := by decide +kernel
theorem dX11_stock_14 : decode cX11_stock 14 = .ok (.bipush (-2), 2) := by decide +kernel
theorem dX11_stock_16 : decode cX11_stock 16 = .ok (.ireturn, 1) := by decide +kernel
theorem dX11_stock_17 : decode cX11_stock 17 = .ok (.aload_n 0, 1) := by decide +kernel
theorem dX11_stock_18 : decode cX11_stock 18 = .ok (.getfield 12, 3) := by decide +kernel
theorem dX11_stock_21 : decode cX11_stock 21 = .ok (.getfield 204, 3) := by decide +kernel
theorem dX11_stock_24 : decode cX11_stock 24 = .ok (.invokevirtual 38, 3) := by decide +kernel
theorem dX11_stock_27 : decode cX11_stock 27 = .ok (.ifCond .ne 8, 3) := by decide +kernel
theorem dX11_stock_30 : decode cX11_stock 30 = .ok (.bipush (-5), 2) := by decide +kernel
theorem dX11_stock_32 : decode cX11_stock 32 = .ok (.goto 9, 3) := by decide +kernel
theorem dX11_stock_35 : decode cX11_stock 35 = .ok (.aload_n 0, 1) := by decide +kernel
theorem dX11_stock_36 : decode cX11_stock 36 = .ok (.iload_n 1, 1) := by decide +kernel
theorem dX11_stock_37 : decode cX11_stock 37 = .ok (.iload_n 2, 1) := by decide +kernel
theorem dX11_stock_38 : decode cX11_stock 38 = .ok (.invokevirtual 210, 3) := by decide +kernel
theorem dX11_stock_41 : decode cX11_stock 41 = .ok (.ireturn, 1) := by decide +kernel
theorem dX11_mean_0 : decode cX11_mean 0 = .ok (.iload_n 1, 1) := by decide +kernel
theorem dX11_mean_1 : decode cX11_mean 1 = .ok (.invokestatic 207, 3) := by decide +kernel
theorem dX11_mean_4 : decode cX11_mean 4 = .ok (.ifCond .eq 23, 3) := by decide +kernel
theorem dX11_mean_7 : decode cX11_mean 7 = .ok (.iload_n 2, 1) := by decide +kernel
theorem dX11_mean_8 : decode cX11_mean 8 = .ok (.invokestatic 207, 3) := by decide +kernel
theorem dX11_mean_11 : decode cX11_mean 11 = .ok (.ifCond .eq 16, 3) := by decide +kernel
theorem dX11_mean_14 : decode cX11_mean 14 = .ok (.aload_n 0, 1) := by decide +kernel
theorem dX11_mean_15 : decode cX11_mean 15 = .ok (.getfield 12, 3) := by decide +kernel
theorem dX11_mean_18 : decode cX11_mean 18 = .ok (.getfield 204, 3) := by decide +kernel
theorem dX11_mean_21 : decode cX11_mean 21 = .ok (.invokevirtual 38, 3) := by decide +kernel
theorem dX11_mean_24 : decode cX11_mean 24 = .ok (.ifCond .ne 7, 3) := by decide +kernel
theorem dX11_mean_27 : decode cX11_mean 27 = .ok (.ldc2_w 175, 3) := by decide +kernel
theorem dX11_mean_30 : decode cX11_mean 30 = .ok (.lreturn, 1) := by decide +kernel
theorem dX11_mean_31 : decode cX11_mean 31 = .ok (.aload_n 0, 1) := by decide +kernel
theorem dX11_mean_32 : decode cX11_mean 32 = .ok (.aload_n 0, 1) := by decide +kernel
theorem dX11_mean_33 : decode cX11_mean 33 = .ok (.iload_n 1, 1) := by decide +kernel
theorem dX11_mean_34 : decode cX11_mean 34 = .ok (.iload_n 2, 1) := by decide +kernel
theorem dX11_mean_35 : decode cX11_mean 35 = .ok (.invokevirtual 210, 3) := by decide +kernel
theorem dX11_mean_38 : decode cX11_mean 38 = .ok (.iload_n 1, 1) := by decide +kernel
theorem dX11_mean_39 : decode cX11_mean 39 = .ok (.iload_n 2, 1) := by decide +kernel
theorem dX11_mean_40 : decode cX11_mean 40 = .ok (.invokevirtual 213, 3) := by decide +kernel
theorem dX11_mean_43 : decode cX11_mean 43 = .ok (.i2l, 1) := by decide +kernel
theorem dX11_mean_44 : decode cX11_mean 44 = .ok (.aload_n 0, 1) := by decide +kernel
theorem dX11_mean_45 : decode cX11_mean 45 = .ok (.getfield 12, 3) := by decide +kernel
theorem dX11_mean_48 : decode cX11_mean 48 = .ok (.getfield 204, 3) := by decide +kernel
theorem dX11_mean_51 : decode cX11_mean 51 = .ok (.invokevirtual 38, 3) := by decide +kernel
theorem dX11_mean_54 : decode cX11_mean 54 = .ok (.i2l, 1) := by decide +kernel
theorem dX11_mean_55 : decode cX11_mean 55 = .ok (.iload_n 3, 1) := by decide +kernel
theorem dX11_mean_56 : decode cX11_mean 56 = .ok (.invokestatic 169, 3) := by decide +kernel
theorem dX11_mean_59 : decode cX11_mean 59 = .ok (.lreturn, 1) := by decide +kernel
theorem dX11_table_0 : decode cX11_table 0 = .ok (.iload_n 1, 1) := by decide +kernel
theorem dX11_table_1 : decode cX11_table 1 = .ok (.invokestatic 216, 3) := by decide +kernel
theorem dX11_table_4 : decode cX11_table 4 = .ok (.ifCond .eq 25, 3) := by decide +kernel
theorem dX11_table_7 : decode cX11_table 7 = .ok (.iload_n 2, 1) := by decide +kernel
theorem dX11_table_8 : decode cX11_table 8 = .ok (.invokestatic 216, 3) := by decide +kernel
theorem dX11_table_11 : decode cX11_table 11 = .ok (.ifCond .eq 18, 3) := by decide +kernel
theorem dX11_table_14 : decode cX11_table 14 = .ok (.iload_n 3, 1) := by decide +kernel
theorem dX11_table_15 : decode cX11_table 15 = .ok (.invokestatic 216, 3) := by decide +kernel
theorem dX11_table_18 : decode cX11_table 18 = .ok (.ifCond .eq 11, 3) := by decide +kernel
theorem dX11_table_21 : decode cX11_table 21 = .ok (.iload 4, 2) := by decide +kernel
theorem dX11_table_23 : decode cX11_table 23 = .ok (.invokestatic 216, 3) := by decide +kernel
theorem dX11_table_26 : decode cX11_table 26 = .ok (.ifCond .ne 7, 3) := by decide +kernel
theorem dX11_table_29 : decode cX11_table 29 = .ok (.ldc2_w 175, 3) := by decide +kernel
theorem dX11_table_32 : decode cX11_table 32 = .ok (.lreturn, 1) := by decide +kernel
theorem dX11_table_33 : decode cX11_table 33 = .ok (.iload_n 1, 1) := by decide +kernel
theorem dX11_table_34 : decode cX11_table 34 = .ok (.iload_n 2, 1) := by decide +kernel
theorem dX11_table_35 : decode cX11_table 35 = .ok (.invokestatic 177, 3) := by decide +kernel
theorem dX11_table_38 : decode cX11_table 38 = .ok (.iload_n 3, 1) := by decide +kernel
theorem dX11_table_39 : decode cX11_table 39 = .ok (.iload 4, 2) := by decide +kernel
theorem dX11_table_41 : decode cX11_table 41 = .ok (.invokestatic 177, 3) := by decide +kernel
theorem dX11_table_44 : decode cX11_table 44 = .ok (.invokestatic 219, 3) := by decide +kernel
theorem dX11_table_47 : decode cX11_table 47 = .ok (.istore 6, 2) := by decide +kernel
theorem dX11_table_49 : decode cX11_table 49 = .ok (.iload_n 1, 1) := by decide +kernel
theorem dX11_table_50 : decode cX11_table 50 = .ok (.iload_n 3, 1) := by decide +kernel
theorem dX11_table_51 : decode cX11_table 51 = .ok (.invokestatic 219, 3) := by decide +kernel
theorem dX11_table_54 : decode cX11_table 54 = .ok (.iload_n 2, 1) := by decide +kernel
theorem dX11_table_55 : decode cX11_table 55 = .ok (.iload 4, 2) := by decide +kernel
theorem dX11_table_57 : decode cX11_table 57 = .ok (.invokestatic 219, 3) := by decide +kernel
theorem dX11_table_60 : decode cX11_table 60 = .ok (.invokestatic 177, 3) := by decide +kernel
theorem dX11_table_63 : decode cX11_table 63 = .ok (.istore 7, 2) := by decide +kernel
theorem dX11_table_65 : decode cX11_table 65 = .ok (.iload 6, 2) := by decide +kernel
theorem dX11_table_67 : decode cX11_table 67 = .ok (.iload 7, 2) := by decide +kernel
theorem dX11_table_69 : decode cX11_table 69 = .ok (.if_icmp .ne 13, 3) := by decide +kernel
theorem dX11_table_72 : decode cX11_table 72 = .ok (.iload 6, 2) := by decide +kernel
theorem dX11_table_74 : decode cX11_table 74 = .ok (.i2l, 1) := by decide +kernel
theorem dX11_table_75 : decode cX11_table 75 = .ok (.lconst 1, 1) := by decide +kernel
theorem dX11_table_76 : decode cX11_table 76 = .ok (.iload 5, 2) := by decide +kernel
theorem dX11_table_78 : decode cX11_table 78 = .ok (.invokestatic 169, 3) := by decide +kernel
theorem dX11_table_81 : decode cX11_table 81 = .ok (.lreturn, 1) := by decide +kernel
theorem dX11_table_82 : decode cX11_table 82 = .ok (.iload_n 1, 1) := by decide +kernel
theorem dX11_table_83 : decode cX11_table 83 = .ok (.iload 4, 2) := by decide +kernel
theorem dX11_table_85 : decode cX11_table 85 = .ok (.imul, 1) := by decide +kernel
theorem dX11_table_86 : decode cX11_table 86 = .ok (.iload_n 2, 1) := by decide +kernel
theorem dX11_table_87 : decode cX11_table 87 = .ok (.iload_n 3, 1) := by decide +kernel
theorem dX11_table_88 : decode cX11_table 88 = .ok (.imul, 1) := by decide +kernel
theorem dX11_table_89 : decode cX11_table 89 = .ok (.isub, 1) := by decide +kernel
theorem dX11_table_90 : decode cX11_table 90 = .ok (.i2l, 1) := by decide +kernel
theorem dX11_table_91 : decode cX11_table 91 = .ok (.iload_n 1, 1) := by decide +kernel
theorem dX11_table_92 : decode cX11_table 92 = .ok (.iload 4, 2) := by decide +kernel
theorem dX11_table_94 : decode cX11_table 94 = .ok (.iadd, 1) := by decide +kernel
theorem dX11_table_95 : decode cX11_table 95 = .ok (.iload_n 2, 1) := by decide +kernel
theorem dX11_table_96 : decode cX11_table 96 = .ok (.isub, 1) := by decide +kernel
theorem dX11_table_97 : decode cX11_table 97 = .ok (.iload_n 3, 1) := by decide +kernel
theorem dX11_table_98 : decode cX11_table 98 = .ok (.isub, 1) := by decide +kernel
theorem dX11_table_99 : decode cX11_table 99 = .ok (.i2l, 1) := by decide +kernel
theorem dX11_table_100 : decode cX11_table 100 = .ok (.iload 5, 2) := by decide +kernel
theorem dX11_table_102 : decode cX11_table 102 = .ok (.invokestatic 169, 3) := by decide +kernel
theorem dX11_table_105 : decode cX11_table 105 = .ok (.lreturn, 1) := by decide +kernel
theorem dX11_book_0 : decode cX11_book 0 = .ok (.iload_n 1, 1) := by decide +kernel
theorem dX11_book_1 : decode cX11_book 1 = .ok (.iconst (-1), 1) := by decide +kernel
theorem dX11_book_2 : decode cX11_book 2 = .ok (.if_icmp .ne 25, 3) := by decide +kernel
theorem dX11_book_5 : decode cX11_book 5 = .ok (.aload_n 0, 1) := by decide +kernel
theorem dX11_book_6 : decode cX11_book 6 = .ok (.getfield 12, 3) := by decide +kernel
theorem dX11_book_9 : decode cX11_book 9 = .ok (.getfield 222, 3) := by decide +kernel
theorem dX11_book_12 : decode cX11_book 12 = .ok (.invokevirtual 53, 3) := by decide +kernel
theorem dX11_book_15 : decode cX11_book 15 = .ok (.aload_n 0, 1) := by decide +kernel
theorem dX11_book_16 : decode cX11_book 16 = .ok (.getfield 12, 3) := by decide +kernel
theorem dX11_book_19 : decode cX11_book 19 = .ok (.getfield 225, 3) := by decide +kernel
theorem dX11_book_22 : decode cX11_book 22 = .ok (.invokevirtual 53, 3) := by decide +kernel
theorem dX11_book_25 : decode cX11_book 25 = .ok (.iconst 0, 1) := by decide +kernel
theorem dX11_book_26 : decode cX11_book 26 = .ok (.ireturn, 1) := by decide +kernel
theorem dX11_book_27 : decode cX11_book 27 = .ok (.iload_n 2, 1) := by decide +kernel
theorem dX11_book_28 : decode cX11_book 28 = .ok (.iconst (-1), 1) := by decide +kernel
theorem dX11_book_29 : decode cX11_book 29 = .ok (.if_icmp .eq 16, 3) := by decide +kernel
theorem dX11_book_32 : decode cX11_book 32 = .ok (.aload_n 0, 1) := by decide +kernel
theorem dX11_book_33 : decode cX11_book 33 = .ok (.getfield 12, 3) := by decide +kernel
theorem dX11_book_36 : decode cX11_book 36 = .ok (.iload_n 2, 1) := by decide +kernel
theorem dX11_book_37 : decode cX11_book 37 = .ok (.invokevirtual 74, 3) := by decide +kernel
theorem dX11_book_40 : decode cX11_book 40 = .ok (.ifnonnull 5, 3) := by decide +kernel
theorem dX11_book_43 : decode cX11_book 43 = .ok (.iconst (-1), 1) := by decide +kernel
theorem dX11_book_44 : decode cX11_book 44 = .ok (.ireturn, 1) := by decide +kernel
theorem dX11_book_45 : decode cX11_book 45 = .ok (.iload_n 1, 1) := by decide +kernel
theorem dX11_book_46 : decode cX11_book 46 = .ok (.invokestatic 158, 3) := by decide +kernel
theorem dX11_book_49 : decode cX11_book 49 = .ok (.ifCond .ne 6, 3) := by decide +kernel
theorem dX11_book_52 : decode cX11_book 52 = .ok (.bipush (-2), 2) := by decide +kernel
theorem dX11_book_54 : decode cX11_book 54 = .ok (.ireturn, 1) := by decide +kernel
theorem dX11_book_55 : decode cX11_book 55 = .ok (.aload_n 0, 1) := by decide +kernel
theorem dX11_book_56 : decode cX11_book 56 = .ok (.getfield 12, 3) := by decide +kernel
theorem dX11_book_59 : decode cX11_book 59 = .ok (.getfield 222, 3) := by decide +kernel
theorem dX11_book_62 : decode cX11_book 62 = .ok (.iload_n 1, 1) := by decide +kernel
theorem dX11_book_63 : decode cX11_book 63 = .ok (.invokevirtual 32, 3) := by decide +kernel
theorem dX11_book_66 : decode cX11_book 66 = .ok (.ifCond .eq 21, 3) := by decide +kernel
theorem dX11_book_69 : decode cX11_book 69 = .ok (.aload_n 0, 1) := by decide +kernel
theorem dX11_book_70 : decode cX11_book 70 = .ok (.getfield 12, 3) := by decide +kernel
theorem dX11_book_73 : decode cX11_book 73 = .ok (.getfield 225, 3) := by decide +kernel
theorem dX11_book_76 : decode cX11_book 76 = .ok (.iload_n 2, 1) := by decide +kernel
theorem dX11_book_77 : decode cX11_book 77 = .ok (.invokevirtual 32, 3) := by decide +kernel
theorem dX11_book_80 : decode cX11_book 80 = .ok (.ifCond .eq 7, 3) := by decide +kernel
theorem dX11_book_83 : decode cX11_book 83 = .ok (.iconst 1, 1) := by decide +kernel
theorem dX11_book_84 : decode cX11_book 84 = .ok (.goto 4, 3) := by decide +kernel
theorem dX11_book_87 : decode cX11_book 87 = .ok (.iconst 0, 1) := by decide +kernel
theorem dX11_book_88 : decode cX11_book 88 = .ok (.istore_n 3, 1) := by decide +kernel
theorem dX11_book_89 : decode cX11_book 89 = .ok (.iload_n 3, 1) := by decide +kernel
theorem dX11_book_90 : decode cX11_book 90 = .ok (.ifCond .eq 16, 3) := by decide +kernel
theorem dX11_book_93 : decode cX11_book 93 = .ok (.aload_n 0, 1) := by decide +kernel
theorem dX11_book_94 : decode cX11_book 94 = .ok (.getfield 12, 3) := by decide +kernel
theorem dX11_book_97 : decode cX11_book 97 = .ok (.getfield 222, 3) := by decide +kernel
theorem dX11_book_100 : decode cX11_book 100 = .ok (.invokevirtual 38, 3) := by decide +kernel
theorem dX11_book_103 : decode cX11_book 103 = .ok (.goto 5, 3) := by decide +kernel
theorem dX11_book_106 : decode cX11_book 106 = .ok (.bipush (-4), 2) := by decide +kernel
theorem dX11_book_108 : decode cX11_book 108 = .ok (.ireturn, 1) := by decide +kernel
theorem dX11_looked_0 : decode cX11_looked 0 = .ok (.iconst 0, 1) := by decide +kernel
theorem dX11_looked_1 : decode cX11_looked 1 = .ok (.istore_n 1, 1) := by decide +kernel
theorem dX11_looked_2 : decode cX11_looked 2 = .ok (.iload_n 1, 1) := by decide +kernel
theorem dX11_looked_3 : decode cX11_looked 3 = .ok (.aload_n 0, 1) := by decide +kernel
theorem dX11_looked_4 : decode cX11_looked 4 = .ok (.getfield 12, 3) := by decide +kernel
theorem dX11_looked_7 : decode cX11_looked 7 = .ok (.getfield 222, 3) := by decide +kernel
theorem dX11_looked_10 : decode cX11_looked 10 = .ok (.invokevirtual 38, 3) := by decide +kernel
theorem dX11_looked_13 : decode cX11_looked 13 = .ok (.if_icmp .ge 46, 3) := by decide +kernel
theorem dX11_looked_16 : decode cX11_looked 16 = .ok (.aload_n 0, 1) := by decide +kernel
theorem dX11_looked_17 : decode cX11_looked 17 = .ok (.getfield 12, 3) := by decide +kernel
theorem dX11_looked_20 : decode cX11_looked 20 = .ok (.getfield 89, 3) := by decide +kernel
theorem dX11_looked_23 : decode cX11_looked 23 = .ok (.aload_n 0, 1) := by decide +kernel
theorem dX11_looked_24 : decode cX11_looked 24 = .ok (.getfield 12, 3) := by decide +kernel
theorem dX11_looked_27 : decode cX11_looked 27 = .ok (.getfield 222, 3) := by decide +kernel
theorem dX11_looked_30 : decode cX11_looked 30 = .ok (.iload_n 1, 1) := by decide +kernel
theorem dX11_looked_31 : decode cX11_looked 31 = .ok (.invokevirtual 137, 3) := by decide +kernel
theorem dX11_looked_34 : decode cX11_looked 34 = .ok (.invokevirtual 137, 3) := by decide +kernel
theorem dX11_looked_37 : decode cX11_looked 37 = .ok (.aload_n 0, 1) := by decide +kernel
theorem dX11_looked_38 : decode cX11_looked 38 = .ok (.getfield 12, 3) := by decide +kernel
theorem dX11_looked_41 : decode cX11_looked 41 = .ok (.getfield 225, 3) := by decide +kernel
theorem dX11_looked_44 : decode cX11_looked 44 = .ok (.iload_n 1, 1) := by decide +kernel
theorem dX11_looked_45 : decode cX11_looked 45 = .ok (.invokevirtual 137, 3) := by decide +kernel
theorem dX11_looked_48 : decode cX11_looked 48 = .ok (.if_icmp .eq 5, 3) := by decide +kernel
theorem dX11_looked_51 : decode cX11_looked 51 = .ok (.iload_n 1, 1) := by decide +kernel
theorem dX11_looked_52 : decode cX11_looked 52 = .ok (.ireturn, 1) := by decide +kernel
theorem dX11_looked_53 : decode cX11_looked 53 = .ok (.iinc 1 1, 3) := by decide +kernel
theorem dX11_looked_56 : decode cX11_looked 56 = .ok (.goto (-54), 3) := by decide +kernel
theorem dX11_looked_59 : decode cX11_looked 59 = .ok (.bipush (-5), 2) := by decide +kernel
theorem dX11_looked_61 : decode cX11_looked 61 = .ok (.ireturn, 1) := by decide +kernel
theorem dX11_act_0 : decode cX11_act 0 = .ok (.aload_n 0, 1) := by decide +kernel
theorem dX11_act_1 : decode cX11_act 1 = .ok (.getfield 24, 3) := by decide +kernel
theorem dX11_act_4 : decode cX11_act 4 = .ok (.invokevirtual 228, 3) := by decide +kernel
theorem dX11_act_7 : decode cX11_act 7 = .ok (.aload_n 0, 1) := by decide +kernel
theorem dX11_act_8 : decode cX11_act 8 = .ok (.getfield 12, 3) := by decide +kernel
theorem dX11_act_11 : decode cX11_act 11 = .ok (.iload_n 1, 1) := by decide +kernel
theorem dX11_act_12 : decode cX11_act 12 = .ok (.invokevirtual 74, 3) := by decide +kernel
theorem dX11_act_15 : decode cX11_act 15 = .ok (.astore 4, 2) := by decide +kernel
theorem dX11_act_17 : decode cX11_act 17 = .ok (.aload 4, 2) := by decide +kernel
theorem dX11_act_19 : decode cX11_act 19 = .ok (.ifnonnull 5, 3) := by decide +kernel
theorem dX11_act_22 : decode cX11_act 22 = .ok (.iconst 0, 1) := by decide +kernel
theorem dX11_act_23 : decode cX11_act 23 = .ok (.ireturn, 1) := by decide +kernel
theorem dX11_act_24 : decode cX11_act 24 = .ok (.iload_n 2, 1) := by decide +kernel
theorem dX11_act_25 : decode cX11_act 25 = .ok (.tableswitch 60 0 2 #[27, 38, 49], 27) := by decide +kernel
theorem dX11_act_52 : decode cX11_act 52 = .ok (.aload 4, 2) := by decide +kernel
theorem dX11_act_54 : decode cX11_act 54 = .ok (.iload_n 3, 1) := by decide +kernel
theorem dX11_act_55 : decode cX11_act 55 = .ok (.aload_n 0, 1) := by decide +kernel
theorem dX11_act_56 : decode cX11_act 56 = .ok (.getfield 24, 3) := by decide +kernel
theorem dX11_act_59 : decode cX11_act 59 = .ok (.invokevirtual 229, 3) := by decide +kernel
theorem dX11_act_62 : decode cX11_act 62 = .ok (.ireturn, 1) := by decide +kernel
theorem dX11_act_63 : decode cX11_act 63 = .ok (.aload 4, 2) := by decide +kernel
theorem dX11_act_65 : decode cX11_act 65 = .ok (.iload_n 3, 1) := by decide +kernel
theorem dX11_act_66 : decode cX11_act 66 = .ok (.aload_n 0, 1) := by decide +kernel
theorem dX11_act_67 : decode cX11_act 67 = .ok (.getfield 24, 3) := by decide +kernel
theorem dX11_act_70 : decode cX11_act 70 = .ok (.invokevirtual 233, 3) := by decide +kernel
theorem dX11_act_73 : decode cX11_act 73 = .ok (.ireturn, 1) := by decide +kernel
theorem dX11_act_74 : decode cX11_act 74 = .ok (.aload 4, 2) := by decide +kernel
theorem dX11_act_76 : decode cX11_act 76 = .ok (.iload_n 3, 1) := by decide +kernel
theorem dX11_act_77 : decode cX11_act 77 = .ok (.aload_n 0, 1) := by decide +kernel
theorem dX11_act_78 : decode cX11_act 78 = .ok (.getfield 24, 3) := by decide +kernel
theorem dX11_act_81 : decode cX11_act 81 = .ok (.invokevirtual 236, 3) := by decide +kernel
theorem dX11_act_84 : decode cX11_act 84 = .ok (.ireturn, 1) := by decide +kernel
theorem dX11_act_85 : decode cX11_act 85 = .ok (.iconst 0, 1) := by decide +kernel
theorem dX11_act_86 : decode cX11_act 86 = .ok (.ireturn, 1) := by decide +kernel
theorem dX11_trace_0 : decode cX11_trace 0 = .ok (.aload_n 0, 1) := by decide +kernel
theorem dX11_trace_1 : decode cX11_trace 1 = .ok (.getfield 24, 3) := by decide +kernel
theorem dX11_trace_4 : decode cX11_trace 4 = .ok (.iload_n 1, 1) := by decide +kernel
theorem dX11_trace_5 : decode cX11_trace 5 = .ok (.invokevirtual 239, 3) := by decide +kernel
theorem dX11_trace_8 : decode cX11_trace 8 = .ok (.ireturn, 1) := by decide +kernel
theorem dX11_as_0 : decode cX11_as 0 = .ok (.aload_n 0, 1) := by decide +kernel
theorem dX11_as_1 : decode cX11_as 1 = .ok (.getfield 12, 3) := by decide +kernel
theorem dX11_as_4 : decode cX11_as 4 = .ok (.iload_n 1, 1) := by decide +kernel
theorem dX11_as_5 : decode cX11_as 5 = .ok (.invokevirtual 74, 3) := by decide +kernel
theorem dX11_as_8 : decode cX11_as 8 = .ok (.astore_n 3, 1) := by decide +kernel
theorem dX11_as_9 : decode cX11_as 9 = .ok (.aload_n 3, 1) := by decide +kernel
theorem dX11_as_10 : decode cX11_as 10 = .ok (.ifnull 13, 3) := by decide +kernel
theorem dX11_as_13 : decode cX11_as 13 = .ok (.iload_n 2, 1) := by decide +kernel
theorem dX11_as_14 : decode cX11_as 14 = .ok (.ifCond .lt 9, 3) := by decide +kernel
theorem dX11_as_17 : decode cX11_as 17 = .ok (.iload_n 2, 1) := by decide +kernel
theorem dX11_as_18 : decode cX11_as 18 = .ok (.bipush 6, 2) := by decide +kernel
theorem dX11_as_20 : decode cX11_as 20 = .ok (.if_icmp .le 5, 3) := by decide +kernel
theorem dX11_as_23 : decode cX11_as 23 = .ok (.iconst (-1), 1) := by decide +kernel
theorem dX11_as_24 : decode cX11_as 24 = .ok (.ireturn, 1) := by decide +kernel
theorem dX11_as_25 : decode cX11_as 25 = .ok (.aload_n 3, 1) := by decide +kernel
theorem dX11_as_26 : decode cX11_as 26 = .ok (.iload_n 2, 1) := by decide +kernel
theorem dX11_as_27 : decode cX11_as 27 = .ok (.invokestatic 242, 3) := by decide +kernel
theorem dX11_as_30 : decode cX11_as 30 = .ok (.ifCond .eq 10, 3) := by decide +kernel
theorem dX11_as_33 : decode cX11_as 33 = .ok (.aload_n 3, 1) := by decide +kernel
theorem dX11_as_34 : decode cX11_as 34 = .ok (.getfield 83, 3) := by decide +kernel
theorem dX11_as_37 : decode cX11_as 37 = .ok (.goto 5, 3) := by decide +kernel
theorem dX11_as_40 : decode cX11_as 40 = .ok (.bipush (-6), 2) := by decide +kernel
theorem dX11_as_42 : decode cX11_as 42 = .ok (.ireturn, 1) := by decide +kernel
theorem dX11_image_0 : decode cX11_image 0 = .ok (.aload_n 0, 1) := by decide +kernel
theorem dX11_image_1 : decode cX11_image 1 = .ok (.getfield 18, 3) := by decide +kernel
theorem dX11_image_4 : decode cX11_image 4 = .ok (.aload_n 0, 1) := by decide +kernel
theorem dX11_image_5 : decode cX11_image 5 = .ok (.getfield 12, 3) := by decide +kernel
theorem dX11_image_8 : decode cX11_image 8 = .ok (.invokevirtual 246, 3) := by decide +kernel
theorem dX11_image_11 : decode cX11_image 11 = .ok (.aload_n 0, 1) := by decide +kernel
theorem dX11_image_12 : decode cX11_image 12 = .ok (.iconst 1, 1) := by decide +kernel
theorem dX11_image_13 : decode cX11_image 13 = .ok (.putfield 250, 3) := by decide +kernel
theorem dX11_image_16 : decode cX11_image 16 = .ok (.aload_n 0, 1) := by decide +kernel
theorem dX11_image_17 : decode cX11_image 17 = .ok (.getfield 12, 3) := by decide +kernel
theorem dX11_image_20 : decode cX11_image 20 = .ok (.invokevirtual 63, 3) := by decide +kernel
theorem dX11_image_23 : decode cX11_image 23 = .ok (.ireturn, 1) := by decide +kernel
theorem dX11_undo_0 : decode cX11_undo 0 = .ok (.aload_n 0, 1) := by decide +kernel
theorem dX11_undo_1 : decode cX11_undo 1 = .ok (.getfield 250, 3) := by decide +kernel
theorem dX11_undo_4 : decode cX11_undo 4 = .ok (.ifCond .ne 6, 3) := by decide +kernel
theorem dX11_undo_7 : decode cX11_undo 7 = .ok (.bipush (-3), 2) := by decide +kernel
theorem dX11_undo_9 : decode cX11_undo 9 = .ok (.ireturn, 1) := by decide +kernel
theorem dX11_undo_10 : decode cX11_undo 10 = .ok (.aload_n 0, 1) := by decide +kernel
theorem dX11_undo_11 : decode cX11_undo 11 = .ok (.getfield 12, 3) := by decide +kernel
theorem dX11_undo_14 : decode cX11_undo 14 = .ok (.aload_n 0, 1) := by decide +kernel
theorem dX11_undo_15 : decode cX11_undo 15 = .ok (.getfield 18, 3) := by decide +kernel
theorem dX11_undo_18 : decode cX11_undo 18 = .ok (.invokevirtual 246, 3) := by decide +kernel
theorem dX11_undo_21 : decode cX11_undo 21 = .ok (.aload_n 0, 1) := by decide +kernel
theorem dX11_undo_22 : decode cX11_undo 22 = .ok (.getfield 12, 3) := by decide +kernel
theorem dX11_undo_25 : decode cX11_undo 25 = .ok (.invokevirtual 63, 3) := by decide +kernel
theorem dX11_undo_28 : decode cX11_undo 28 = .ok (.ireturn, 1) := by decide +kernel
theorem dX11_count_0 : decode cX11_count 0 = .ok (.iload_n 1, 1) := by decide +kernel
theorem dX11_count_1 : decode cX11_count 1 = .ok (.tableswitch 126 0 7 #[47, 55, 63, 74, 85, 96, 107, 118], 47) := by decide +kernel
theorem dX11_count_48 : decode cX11_count 48 = .ok (.aload_n 0, 1) := by decide +kernel
theorem dX11_count_49 : decode cX11_count 49 = .ok (.getfield 12, 3) := by decide +kernel
theorem dX11_count_52 : decode cX11_count 52 = .ok (.invokevirtual 63, 3) := by decide +kernel
theorem dX11_count_55 : decode cX11_count 55 = .ok (.ireturn, 1) := by decide +kernel
theorem dX11_count_56 : decode cX11_count 56 = .ok (.aload_n 0, 1) := by decide +kernel
theorem dX11_count_57 : decode cX11_count 57 = .ok (.getfield 12, 3) := by decide +kernel
theorem dX11_count_60 : decode cX11_count 60 = .ok (.getfield 42, 3) := by decide +kernel
theorem dX11_count_63 : decode cX11_count 63 = .ok (.ireturn, 1) := by decide +kernel
theorem dX11_count_64 : decode cX11_count 64 = .ok (.aload_n 0, 1) := by decide +kernel
theorem dX11_count_65 : decode cX11_count 65 = .ok (.getfield 12, 3) := by decide +kernel
theorem dX11_count_68 : decode cX11_count 68 = .ok (.getfield 155, 3) := by decide +kernel
theorem dX11_count_71 : decode cX11_count 71 = .ok (.invokevirtual 38, 3) := by decide +kernel
theorem dX11_count_74 : decode cX11_count 74 = .ok (.ireturn, 1) := by decide +kernel
theorem dX11_count_75 : decode cX11_count 75 = .ok (.aload_n 0, 1) := by decide +kernel
theorem dX11_count_76 : decode cX11_count 76 = .ok (.getfield 12, 3) := by decide +kernel
theorem dX11_count_79 : decode cX11_count 79 = .ok (.getfield 125, 3) := by decide +kernel
theorem dX11_count_82 : decode cX11_count 82 = .ok (.invokevirtual 38, 3) := by decide +kernel
theorem dX11_count_85 : decode cX11_count 85 = .ok (.ireturn, 1) := by decide +kernel
theorem dX11_count_86 : decode cX11_count 86 = .ok (.aload_n 0, 1) := by decide +kernel
theorem dX11_count_87 : decode cX11_count 87 = .ok (.getfield 12, 3) := by decide +kernel
theorem dX11_count_90 : decode cX11_count 90 = .ok (.getfield 204, 3) := by decide +kernel
theorem dX11_count_93 : decode cX11_count 93 = .ok (.invokevirtual 38, 3) := by decide +kernel
theorem dX11_count_96 : decode cX11_count 96 = .ok (.ireturn, 1) := by decide +kernel
theorem dX11_count_97 : decode cX11_count 97 = .ok (.aload_n 0, 1) := by decide +kernel
theorem dX11_count_98 : decode cX11_count 98 = .ok (.getfield 12, 3) := by decide +kernel
theorem dX11_count_101 : decode cX11_count 101 = .ok (.getfield 222, 3) := by decide +kernel
theorem dX11_count_104 : decode cX11_count 104 = .ok (.invokevirtual 38, 3) := by decide +kernel
theorem dX11_count_107 : decode cX11_count 107 = .ok (.ireturn, 1) := by decide +kernel
theorem dX11_count_108 : decode cX11_count 108 = .ok (.aload_n 0, 1) := by decide +kernel
theorem dX11_count_109 : decode cX11_count 109 = .ok (.getfield 12, 3) := by decide +kernel
theorem dX11_count_112 : decode cX11_count 112 = .ok (.getfield 28, 3) := by decide +kernel
theorem dX11_count_115 : decode cX11_count 115 = .ok (.invokevirtual 38, 3) := by decide +kernel
theorem dX11_count_118 : decode cX11_count 118 = .ok (.ireturn, 1) := by decide +kernel
theorem dX11_count_119 : decode cX11_count 119 = .ok (.aload_n 0, 1) := by decide +kernel
theorem dX11_count_120 : decode cX11_count 120 = .ok (.getfield 24, 3) := by decide +kernel
theorem dX11_count_123 : decode cX11_count 123 = .ok (.getfield 254, 3) := by decide +kernel
theorem dX11_count_126 : decode cX11_count 126 = .ok (.ireturn, 1) := by decide +kernel
theorem dX11_count_127 : decode cX11_count 127 = .ok (.iconst (-1), 1) := by decide +kernel
theorem dX11_count_128 : decode cX11_count 128 = .ok (.ireturn, 1) := by decide +kernel
theorem dX11_isDigit_0 : decode cX11_isDigit 0 = .ok (.iload_n 0, 1) := by decide +kernel
theorem dX11_isDigit_1 : decode cX11_isDigit 1 = .ok (.ifCond .lt 13, 3) := by decide +kernel
theorem dX11_isDigit_4 : decode cX11_isDigit 4 = .ok (.iload_n 0, 1) := by decide +kernel
theorem dX11_isDigit_5 : decode cX11_isDigit 5 = .ok (.bipush 9, 2) := by decide +kernel
theorem dX11_isDigit_7 : decode cX11_isDigit 7 = .ok (.if_icmp .gt 7, 3) := by decide +kernel
theorem dX11_isDigit_10 : decode cX11_isDigit 10 = .ok (.iconst 1, 1) := by decide +kernel
theorem dX11_isDigit_11 : decode cX11_isDigit 11 = .ok (.goto 4, 3) := by decide +kernel
theorem dX11_isDigit_14 : decode cX11_isDigit 14 = .ok (.iconst 0, 1) := by decide +kernel
theorem dX11_isDigit_15 : decode cX11_isDigit 15 = .ok (.ireturn, 1) := by decide +kernel
theorem dX11_isLength_0 : decode cX11_isLength 0 = .ok (.iload_n 0, 1) := by decide +kernel
theorem dX11_isLength_1 : decode cX11_isLength 1 = .ok (.iconst 1, 1) := by decide +kernel
theorem dX11_isLength_2 : decode cX11_isLength 2 = .ok (.if_icmp .lt 13, 3) := by decide +kernel
theorem dX11_isLength_5 : decode cX11_isLength 5 = .ok (.iload_n 0, 1) := by decide +kernel
theorem dX11_isLength_6 : decode cX11_isLength 6 = .ok (.bipush 40, 2) := by decide +kernel
theorem dX11_isLength_8 : decode cX11_isLength 8 = .ok (.if_icmp .gt 7, 3) := by decide +kernel
theorem dX11_isLength_11 : decode cX11_isLength 11 = .ok (.iconst 1, 1) := by decide +kernel
theorem dX11_isLength_12 : decode cX11_isLength 12 = .ok (.goto 4, 3) := by decide +kernel
theorem dX11_isLength_15 : decode cX11_isLength 15 = .ok (.iconst 0, 1) := by decide +kernel
theorem dX11_isLength_16 : decode cX11_isLength 16 = .ok (.ireturn, 1) := by decide +kernel
theorem dX11_isPlace_0 : decode cX11_isPlace 0 = .ok (.iload_n 0, 1) := by decide +kernel
theorem dX11_isPlace_1 : decode cX11_isPlace 1 = .ok (.ifCond .lt 13, 3) := by decide +kernel
theorem dX11_isPlace_4 : decode cX11_isPlace 4 = .ok (.iload_n 0, 1) := by decide +kernel
theorem dX11_isPlace_5 : decode cX11_isPlace 5 = .ok (.bipush 40, 2) := by decide +kernel
theorem dX11_isPlace_7 : decode cX11_isPlace 7 = .ok (.if_icmp .ge 7, 3) := by decide +kernel
theorem dX11_isPlace_10 : decode cX11_isPlace 10 = .ok (.iconst 1, 1) := by decide +kernel
theorem dX11_isPlace_11 : decode cX11_isPlace 11 = .ok (.goto 4, 3) := by decide +kernel
theorem dX11_isPlace_14 : decode cX11_isPlace 14 = .ok (.iconst 0, 1) := by decide +kernel
theorem dX11_isPlace_15 : decode cX11_isPlace 15 = .ok (.ireturn, 1) := by decide +kernel
theorem dX11_isPence_0 : decode cX11_isPence 0 = .ok (.iload_n 0, 1) := by decide +kernel
theorem dX11_isPence_1 : decode cX11_isPence 1 = .ok (.ifCond .lt 14, 3) := by decide +kernel
theorem dX11_isPence_4 : decode cX11_isPence 4 = .ok (.iload_n 0, 1) := by decide +kernel
theorem dX11_isPence_5 : decode cX11_isPence 5 = .ok (.sipush 999, 3) := by decide +kernel
theorem dX11_isPence_8 : decode cX11_isPence 8 = .ok (.if_icmp .gt 7, 3) := by decide +kernel
theorem dX11_isPence_11 : decode cX11_isPence 11 = .ok (.iconst 1, 1) := by decide +kernel
theorem dX11_isPence_12 : decode cX11_isPence 12 = .ok (.goto 4, 3) := by decide +kernel
theorem dX11_isPence_15 : decode cX11_isPence 15 = .ok (.iconst 0, 1) := by decide +kernel
theorem dX11_isPence_16 : decode cX11_isPence 16 = .ok (.ireturn, 1) := by decide +kernel
theorem dX11_isCost_0 : decode cX11_isCost 0 = .ok (.iload_n 0, 1) := by decide +kernel
theorem dX11_isCost_1 : decode cX11_isCost 1 = .ok (.ifCond .lt 13, 3) := by decide +kernel
theorem dX11_isCost_4 : decode cX11_isCost 4 = .ok (.iload_n 0, 1) := by decide +kernel
theorem dX11_isCost_5 : decode cX11_isCost 5 = .ok (.bipush 99, 2) := by decide +kernel
theorem dX11_isCost_7 : decode cX11_isCost 7 = .ok (.if_icmp .gt 7, 3) := by decide +kernel
theorem dX11_isCost_10 : decode cX11_isCost 10 = .ok (.iconst 1, 1) := by decide +kernel
theorem dX11_isCost_11 : decode cX11_isCost 11 = .ok (.goto 4, 3) := by decide +kernel
theorem dX11_isCost_14 : decode cX11_isCost 14 = .ok (.iconst 0, 1) := by decide +kernel
theorem dX11_isCost_15 : decode cX11_isCost 15 = .ok (.ireturn, 1) := by decide +kernel
theorem dX11_isEntry_0 : decode cX11_isEntry 0 = .ok (.iload_n 0, 1) := by decide +kernel
theorem dX11_isEntry_1 : decode cX11_isEntry 1 = .ok (.bipush (-99), 2) := by decide +kernel
theorem dX11_isEntry_3 : decode cX11_isEntry 3 = .ok (.if_icmp .lt 13, 3) := by decide +kernel
theorem dX11_isEntry_6 : decode cX11_isEntry 6 = .ok (.iload_n 0, 1) := by decide +kernel
theorem dX11_isEntry_7 : decode cX11_isEntry 7 = .ok (.bipush 99, 2) := by decide +kernel
theorem dX11_isEntry_9 : decode cX11_isEntry 9 = .ok (.if_icmp .gt 7, 3) := by decide +kernel
theorem dX11_isEntry_12 : decode cX11_isEntry 12 = .ok (.iconst 1, 1) := by decide +kernel
theorem dX11_isEntry_13 : decode cX11_isEntry 13 = .ok (.goto 4, 3) := by decide +kernel
theorem dX11_isEntry_16 : decode cX11_isEntry 16 = .ok (.iconst 0, 1) := by decide +kernel
theorem dX11_isEntry_17 : decode cX11_isEntry 17 = .ok (.ireturn, 1) := by decide +kernel
theorem dX11_isPart_0 : decode cX11_isPart 0 = .ok (.iload_n 0, 1) := by decide +kernel
theorem dX11_isPart_1 : decode cX11_isPart 1 = .ok (.ifCond .eq 8, 3) := by decide +kernel
theorem dX11_isPart_4 : decode cX11_isPart 4 = .ok (.iload_n 0, 1) := by decide +kernel
theorem dX11_isPart_5 : decode cX11_isPart 5 = .ok (.iconst 1, 1) := by decide +kernel
theorem dX11_isPart_6 : decode cX11_isPart 6 = .ok (.if_icmp .ne 7, 3) := by decide +kernel
theorem dX11_isPart_9 : decode cX11_isPart 9 = .ok (.iconst 1, 1) := by decide +kernel
theorem dX11_isPart_10 : decode cX11_isPart 10 = .ok (.goto 4, 3) := by decide +kernel
theorem dX11_isPart_13 : decode cX11_isPart 13 = .ok (.iconst 0, 1) := by decide +kernel
theorem dX11_isPart_14 : decode cX11_isPart 14 = .ok (.ireturn, 1) := by decide +kernel
theorem dX11_hundreds_0 : decode cX11_hundreds 0 = .ok (.lconst 1, 1) := by decide +kernel
theorem dX11_hundreds_1 : decode cX11_hundreds 1 = .ok (.lstore_n 1, 1) := by decide +kernel
theorem dX11_hundreds_2 : decode cX11_hundreds 2 = .ok (.iconst 0, 1) := by decide +kernel
theorem dX11_hundreds_3 : decode cX11_hundreds 3 = .ok (.istore_n 3, 1) := by decide +kernel
theorem dX11_hundreds_4 : decode cX11_hundreds 4 = .ok (.iload_n 3, 1) := by decide +kernel
theorem dX11_hundreds_5 : decode cX11_hundreds 5 = .ok (.iload_n 0, 1) := by decide +kernel
theorem dX11_hundreds_6 : decode cX11_hundreds 6 = .ok (.if_icmp .ge 15, 3) := by decide +kernel
theorem dX11_hundreds_9 : decode cX11_hundreds 9 = .ok (.lload_n 1, 1) := by decide +kernel
theorem dX11_hundreds_10 : decode cX11_hundreds 10 = .ok (.ldc2_w 257, 3) := by decide +kernel
theorem dX11_hundreds_13 : decode cX11_hundreds 13 = .ok (.lmul, 1) := by decide +kernel
theorem dX11_hundreds_14 : decode cX11_hundreds 14 = .ok (.lstore_n 1, 1) := by decide +kernel
theorem dX11_hundreds_15 : decode cX11_hundreds 15 = .ok (.iinc 3 1, 3) := by decide +kernel
theorem dX11_hundreds_18 : decode cX11_hundreds 18 = .ok (.goto (-14), 3) := by decide +kernel
theorem dX11_hundreds_21 : decode cX11_hundreds 21 = .ok (.lload_n 1, 1) := by decide +kernel
theorem dX11_hundreds_22 : decode cX11_hundreds 22 = .ok (.lreturn, 1) := by decide +kernel
theorem dX11_lowest_0 : decode cX11_lowest 0 = .ok (.iload 4, 2) := by decide +kernel
theorem dX11_lowest_2 : decode cX11_lowest 2 = .ok (.invokestatic 131, 3) := by decide +kernel
theorem dX11_lowest_5 : decode cX11_lowest 5 = .ok (.ifCond .eq 9, 3) := by decide +kernel
theorem dX11_lowest_8 : decode cX11_lowest 8 = .ok (.lload_n 2, 1) := by decide +kernel
theorem dX11_lowest_9 : decode cX11_lowest 9 = .ok (.lconst 0, 1) := by decide +kernel
theorem dX11_lowest_10 : decode cX11_lowest 10 = .ok (.lcmp, 1) := by decide +kernel
theorem dX11_lowest_11 : decode cX11_lowest 11 = .ok (.ifCond .ne 7, 3) := by decide +kernel
theorem dX11_lowest_14 : decode cX11_lowest 14 = .ok (.ldc2_w 175, 3) := by decide +kernel
theorem dX11_lowest_17 : decode cX11_lowest 17 = .ok (.lreturn, 1) := by decide +kernel
theorem dX11_lowest_18 : decode cX11_lowest 18 = .ok (.lload_n 0, 1) := by decide +kernel
theorem dX11_lowest_19 : decode cX11_lowest 19 = .ok (.invokestatic 259, 3) := by decide +kernel
theorem dX11_lowest_22 : decode cX11_lowest 22 = .ok (.lload_n 2, 1) := by decide +kernel
theorem dX11_lowest_23 : decode cX11_lowest 23 = .ok (.invokestatic 259, 3) := by decide +kernel
theorem dX11_lowest_26 : decode cX11_lowest 26 = .ok (.invokestatic 263, 3) := by decide +kernel
theorem dX11_lowest_29 : decode cX11_lowest 29 = .ok (.lstore 5, 2) := by decide +kernel
theorem dX11_lowest_31 : decode cX11_lowest 31 = .ok (.lload 5, 2) := by decide +kernel
theorem dX11_lowest_33 : decode cX11_lowest 33 = .ok (.lconst 0, 1) := by decide +kernel
theorem dX11_lowest_34 : decode cX11_lowest 34 = .ok (.lcmp, 1) := by decide +kernel
theorem dX11_lowest_35 : decode cX11_lowest 35 = .ok (.ifCond .ne 7, 3) := by decide +kernel
theorem dX11_lowest_38 : decode cX11_lowest 38 = .ok (.ldc2_w 175, 3) := by decide +kernel
theorem dX11_lowest_41 : decode cX11_lowest 41 = .ok (.lreturn, 1) := by decide +kernel
theorem dX11_lowest_42 : decode cX11_lowest 42 = .ok (.lload_n 2, 1) := by decide +kernel
theorem dX11_lowest_43 : decode cX11_lowest 43 = .ok (.lconst 0, 1) := by decide +kernel
theorem dX11_lowest_44 : decode cX11_lowest 44 = .ok (.lcmp, 1) := by decide +kernel
theorem dX11_lowest_45 : decode cX11_lowest 45 = .ok (.ifCond .ge 9, 3) := by decide +kernel
theorem dX11_lowest_48 : decode cX11_lowest 48 = .ok (.lload 5, 2) := by decide +kernel
theorem dX11_lowest_50 : decode cX11_lowest 50 = .ok (.lneg, 1) := by decide +kernel
theorem dX11_lowest_51 : decode cX11_lowest 51 = .ok (.goto 5, 3) := by decide +kernel
theorem dX11_lowest_54 : decode cX11_lowest 54 = .ok (.lload 5, 2) := by decide +kernel
theorem dX11_lowest_56 : decode cX11_lowest 56 = .ok (.lstore 7, 2) := by decide +kernel
theorem dX11_lowest_58 : decode cX11_lowest 58 = .ok (.iload 4, 2) := by decide +kernel
theorem dX11_lowest_60 : decode cX11_lowest 60 = .ok (.ifCond .ne 7, 3) := by decide +kernel
theorem dX11_lowest_63 : decode cX11_lowest 63 = .ok (.lload_n 0, 1) := by decide +kernel
theorem dX11_lowest_64 : decode cX11_lowest 64 = .ok (.goto 4, 3) := by decide +kernel
theorem dX11_lowest_67 : decode cX11_lowest 67 = .ok (.lload_n 2, 1) := by decide +kernel
theorem dX11_lowest_68 : decode cX11_lowest 68 = .ok (.lload 7, 2) := by decide +kernel
theorem dX11_lowest_70 : decode cX11_lowest 70 = .ok (.ldiv, 1) := by decide +kernel
theorem dX11_lowest_71 : decode cX11_lowest 71 = .ok (.lreturn, 1) := by decide +kernel
theorem dX11_common_0 : decode cX11_common 0 = .ok (.iconst 0, 1) := by decide +kernel
theorem dX11_common_1 : decode cX11_common 1 = .ok (.istore 4, 2) := by decide +kernel
theorem dX11_common_3 : decode cX11_common 3 = .ok (.iload 4, 2) := by decide +kernel
theorem dX11_common_5 : decode cX11_common 5 = .ok (.sipush 200, 3) := by decide +kernel
theorem dX11_common_8 : decode cX11_common 8 = .ok (.if_icmp .ge 25, 3) := by decide +kernel
theorem dX11_common_11 : decode cX11_common 11 = .ok (.lload_n 2, 1) := by decide +kernel
theorem dX11_common_12 : decode cX11_common 12 = .ok (.lconst 0, 1) := by decide +kernel
theorem dX11_common_13 : decode cX11_common 13 = .ok (.lcmp, 1) := by decide +kernel
theorem dX11_common_14 : decode cX11_common 14 = .ok (.ifCond .eq 19, 3) := by decide +kernel
theorem dX11_common_17 : decode cX11_common 17 = .ok (.lload_n 0, 1) := by decide +kernel
theorem dX11_common_18 : decode cX11_common 18 = .ok (.lload_n 2, 1) := by decide +kernel
theorem dX11_common_19 : decode cX11_common 19 = .ok (.lrem, 1) := by decide +kernel
theorem dX11_common_20 : decode cX11_common 20 = .ok (.lstore 5, 2) := by decide +kernel
theorem dX11_common_22 : decode cX11_common 22 = .ok (.lload_n 2, 1) := by decide +kernel
theorem dX11_common_23 : decode cX11_common 23 = .ok (.lstore_n 0, 1) := by decide +kernel
theorem dX11_common_24 : decode cX11_common 24 = .ok (.lload 5, 2) := by decide +kernel
theorem dX11_common_26 : decode cX11_common 26 = .ok (.lstore_n 2, 1) := by decide +kernel
theorem dX11_common_27 : decode cX11_common 27 = .ok (.iinc 4 1, 3) := by decide +kernel
theorem dX11_common_30 : decode cX11_common 30 = .ok (.goto (-27), 3) := by decide +kernel
theorem dX11_common_33 : decode cX11_common 33 = .ok (.lload_n 0, 1) := by decide +kernel
theorem dX11_common_34 : decode cX11_common 34 = .ok (.lreturn, 1) := by decide +kernel
theorem dX11_bestChangeAt_0 : decode cX11_bestChangeAt 0 = .ok (.iload_n 1, 1) := by decide +kernel
theorem dX11_bestChangeAt_1 : decode cX11_bestChangeAt 1 = .ok (.ifCond .ne 7, 3) := by decide +kernel
theorem dX11_bestChangeAt_4 : decode cX11_bestChangeAt 4 = .ok (.iconst 1, 1) := by decide +kernel
theorem dX11_bestChangeAt_5 : decode cX11_bestChangeAt 5 = .ok (.goto 10, 3) := by decide +kernel
theorem dX11_bestChangeAt_8 : decode cX11_bestChangeAt 8 = .ok (.aload_n 0, 1) := by decide +kernel
theorem dX11_bestChangeAt_9 : decode cX11_bestChangeAt 9 = .ok (.getfield 12, 3) := by decide +kernel
theorem dX11_bestChangeAt_12 : decode cX11_bestChangeAt 12 = .ok (.invokevirtual 63, 3) := by decide +kernel
theorem dX11_bestChangeAt_15 : decode cX11_bestChangeAt 15 = .ok (.istore 4, 2) := by decide +kernel
theorem dX11_bestChangeAt_17 : decode cX11_bestChangeAt 17 = .ok (.iload_n 1, 1) := by decide +kernel
theorem dX11_bestChangeAt_18 : decode cX11_bestChangeAt 18 = .ok (.iload_n 2, 1) := by decide +kernel
theorem dX11_bestChangeAt_19 : decode cX11_bestChangeAt 19 = .ok (.if_icmp .ne 7, 3) := by decide +kernel
theorem dX11_bestChangeAt_22 : decode cX11_bestChangeAt 22 = .ok (.iconst 1, 1) := by decide +kernel
theorem dX11_bestChangeAt_23 : decode cX11_bestChangeAt 23 = .ok (.goto 10, 3) := by decide +kernel
theorem dX11_bestChangeAt_26 : decode cX11_bestChangeAt 26 = .ok (.aload_n 0, 1) := by decide +kernel
theorem dX11_bestChangeAt_27 : decode cX11_bestChangeAt 27 = .ok (.getfield 12, 3) := by decide +kernel
theorem dX11_bestChangeAt_30 : decode cX11_bestChangeAt 30 = .ok (.invokevirtual 63, 3) := by decide +kernel
theorem dX11_bestChangeAt_33 : decode cX11_bestChangeAt 33 = .ok (.istore 5, 2) := by decide +kernel
theorem dX11_bestChangeAt_35 : decode cX11_bestChangeAt 35 = .ok (.ldc 185, 2) := by decide +kernel
theorem dX11_bestChangeAt_37 : decode cX11_bestChangeAt 37 = .ok (.istore 6, 2) := by decide +kernel
theorem dX11_bestChangeAt_39 : decode cX11_bestChangeAt 39 = .ok (.iconst 0, 1) := by decide +kernel
theorem dX11_bestChangeAt_40 : decode cX11_bestChangeAt 40 = .ok (.istore 7, 2) := by decide +kernel
theorem dX11_bestChangeAt_42 : decode cX11_bestChangeAt 42 = .ok (.iload 7, 2) := by decide +kernel
theorem dX11_bestChangeAt_44 : decode cX11_bestChangeAt 44 = .ok (.iload 4, 2) := by decide +kernel
theorem dX11_bestChangeAt_46 : decode cX11_bestChangeAt 46 = .ok (.if_icmp .ge 118, 3) := by decide +kernel
theorem dX11_bestChangeAt_49 : decode cX11_bestChangeAt 49 = .ok (.aload_n 0, 1) := by decide +kernel
theorem dX11_bestChangeAt_50 : decode cX11_bestChangeAt 50 = .ok (.getfield 12, 3) := by decide +kernel
theorem dX11_bestChangeAt_53 : decode cX11_bestChangeAt 53 = .ok (.iload 7, 2) := by decide +kernel
theorem dX11_bestChangeAt_55 : decode cX11_bestChangeAt 55 = .ok (.iload_n 1, 1) := by decide +kernel
theorem dX11_bestChangeAt_56 : decode cX11_bestChangeAt 56 = .ok (.invokevirtual 122, 3) := by decide +kernel
theorem dX11_bestChangeAt_59 : decode cX11_bestChangeAt 59 = .ok (.istore 8, 2) := by decide +kernel
theorem dX11_bestChangeAt_61 : decode cX11_bestChangeAt 61 = .ok (.aload_n 0, 1) := by decide +kernel
theorem dX11_bestChangeAt_62 : decode cX11_bestChangeAt 62 = .ok (.getfield 12, 3) := by decide +kernel
theorem dX11_bestChangeAt_65 : decode cX11_bestChangeAt 65 = .ok (.iload 7, 2) := by decide +kernel
theorem dX11_bestChangeAt_67 : decode cX11_bestChangeAt 67 = .ok (.iload_n 1, 1) := by decide +kernel
theorem dX11_bestChangeAt_68 : decode cX11_bestChangeAt 68 = .ok (.invokevirtual 115, 3) := by decide +kernel
theorem dX11_bestChangeAt_71 : decode cX11_bestChangeAt 71 = .ok (.istore 9, 2) := by decide +kernel
theorem dX11_bestChangeAt_73 : decode cX11_bestChangeAt 73 = .ok (.iconst 0, 1) := by decide +kernel
theorem dX11_bestChangeAt_74 : decode cX11_bestChangeAt 74 = .ok (.istore 10, 2) := by decide +kernel
theorem dX11_bestChangeAt_76 : decode cX11_bestChangeAt 76 = .ok (.iload 10, 2) := by decide +kernel
theorem dX11_bestChangeAt_78 : decode cX11_bestChangeAt 78 = .ok (.iload 5, 2) := by decide +kernel
theorem dX11_bestChangeAt_80 : decode cX11_bestChangeAt 80 = .ok (.if_icmp .ge 78, 3) := by decide +kernel
theorem dX11_bestChangeAt_83 : decode cX11_bestChangeAt 83 = .ok (.iload 8, 2) := by decide +kernel
theorem dX11_bestChangeAt_85 : decode cX11_bestChangeAt 85 = .ok (.aload_n 0, 1) := by decide +kernel
theorem dX11_bestChangeAt_86 : decode cX11_bestChangeAt 86 = .ok (.getfield 12, 3) := by decide +kernel
theorem dX11_bestChangeAt_89 : decode cX11_bestChangeAt 89 = .ok (.iload 10, 2) := by decide +kernel
theorem dX11_bestChangeAt_91 : decode cX11_bestChangeAt 91 = .ok (.iload_n 2, 1) := by decide +kernel
theorem dX11_bestChangeAt_92 : decode cX11_bestChangeAt 92 = .ok (.iload_n 1, 1) := by decide +kernel
theorem dX11_bestChangeAt_93 : decode cX11_bestChangeAt 93 = .ok (.isub, 1) := by decide +kernel
theorem dX11_bestChangeAt_94 : decode cX11_bestChangeAt 94 = .ok (.invokevirtual 122, 3) := by decide +kernel
theorem dX11_bestChangeAt_97 : decode cX11_bestChangeAt 97 = .ok (.iadd, 1) := by decide +kernel
theorem dX11_bestChangeAt_98 : decode cX11_bestChangeAt 98 = .ok (.iload_n 3, 1) := by decide +kernel
theorem dX11_bestChangeAt_99 : decode cX11_bestChangeAt 99 = .ok (.if_icmp .gt 53, 3) := by decide +kernel
theorem dX11_bestChangeAt_102 : decode cX11_bestChangeAt 102 = .ok (.iload 9, 2) := by decide +kernel
theorem dX11_bestChangeAt_104 : decode cX11_bestChangeAt 104 = .ok (.aload_n 0, 1) := by decide +kernel
theorem dX11_bestChangeAt_105 : decode cX11_bestChangeAt 105 = .ok (.getfield 12, 3) := by decide +kernel
theorem dX11_bestChangeAt_108 : decode cX11_bestChangeAt 108 = .ok (.iload 10, 2) := by decide +kernel
theorem dX11_bestChangeAt_110 : decode cX11_bestChangeAt 110 = .ok (.iload_n 2, 1) := by decide +kernel
theorem dX11_bestChangeAt_111 : decode cX11_bestChangeAt 111 = .ok (.iload_n 1, 1) := by decide +kernel
theorem dX11_bestChangeAt_112 : decode cX11_bestChangeAt 112 = .ok (.isub, 1) := by decide +kernel
theorem dX11_bestChangeAt_113 : decode cX11_bestChangeAt 113 = .ok (.invokevirtual 115, 3) := by decide +kernel
theorem dX11_bestChangeAt_116 : decode cX11_bestChangeAt 116 = .ok (.iadd, 1) := by decide +kernel
theorem dX11_bestChangeAt_117 : decode cX11_bestChangeAt 117 = .ok (.istore 11, 2) := by decide +kernel
theorem dX11_bestChangeAt_119 : decode cX11_bestChangeAt 119 = .ok (.iload 7, 2) := by decide +kernel
theorem dX11_bestChangeAt_121 : decode cX11_bestChangeAt 121 = .ok (.bipush 6, 2) := by decide +kernel
theorem dX11_bestChangeAt_123 : decode cX11_bestChangeAt 123 = .ok (.imul, 1) := by decide +kernel
theorem dX11_bestChangeAt_124 : decode cX11_bestChangeAt 124 = .ok (.iload 10, 2) := by decide +kernel
theorem dX11_bestChangeAt_126 : decode cX11_bestChangeAt 126 = .ok (.iadd, 1) := by decide +kernel
theorem dX11_bestChangeAt_127 : decode cX11_bestChangeAt 127 = .ok (.istore 12, 2) := by decide +kernel
theorem dX11_bestChangeAt_129 : decode cX11_bestChangeAt 129 = .ok (.iload 6, 2) := by decide +kernel
theorem dX11_bestChangeAt_131 : decode cX11_bestChangeAt 131 = .ok (.iload 11, 2) := by decide +kernel
theorem dX11_bestChangeAt_133 : decode cX11_bestChangeAt 133 = .ok (.bipush 41, 2) := by decide +kernel
theorem dX11_bestChangeAt_135 : decode cX11_bestChangeAt 135 = .ok (.imul, 1) := by decide +kernel
theorem dX11_bestChangeAt_136 : decode cX11_bestChangeAt 136 = .ok (.iload_n 1, 1) := by decide +kernel
theorem dX11_bestChangeAt_137 : decode cX11_bestChangeAt 137 = .ok (.iadd, 1) := by decide +kernel
theorem dX11_bestChangeAt_138 : decode cX11_bestChangeAt 138 = .ok (.bipush 6, 2) := by decide +kernel
theorem dX11_bestChangeAt_140 : decode cX11_bestChangeAt 140 = .ok (.imul, 1) := by decide +kernel
theorem dX11_bestChangeAt_141 : decode cX11_bestChangeAt 141 = .ok (.bipush 6, 2) := by decide +kernel
theorem dX11_bestChangeAt_143 : decode cX11_bestChangeAt 143 = .ok (.imul, 1) := by decide +kernel
theorem dX11_bestChangeAt_144 : decode cX11_bestChangeAt 144 = .ok (.iload 12, 2) := by decide +kernel
theorem dX11_bestChangeAt_146 : decode cX11_bestChangeAt 146 = .ok (.iadd, 1) := by decide +kernel
theorem dX11_bestChangeAt_147 : decode cX11_bestChangeAt 147 = .ok (.invokestatic 177, 3) := by decide +kernel
theorem dX11_bestChangeAt_150 : decode cX11_bestChangeAt 150 = .ok (.istore 6, 2) := by decide +kernel
theorem dX11_bestChangeAt_152 : decode cX11_bestChangeAt 152 = .ok (.iinc 10 1, 3) := by decide +kernel
theorem dX11_bestChangeAt_155 : decode cX11_bestChangeAt 155 = .ok (.goto (-79), 3) := by decide +kernel
theorem dX11_bestChangeAt_158 : decode cX11_bestChangeAt 158 = .ok (.iinc 7 1, 3) := by decide +kernel
theorem dX11_bestChangeAt_161 : decode cX11_bestChangeAt 161 = .ok (.goto (-119), 3) := by decide +kernel
theorem dX11_bestChangeAt_164 : decode cX11_bestChangeAt 164 = .ok (.iload 6, 2) := by decide +kernel
theorem dX11_bestChangeAt_166 : decode cX11_bestChangeAt 166 = .ok (.ireturn, 1) := by decide +kernel
theorem dX11_withRests_0 : decode cX11_withRests 0 = .ok (.iload 4, 2) := by decide +kernel
theorem dX11_withRests_2 : decode cX11_withRests 2 = .ok (.iconst 1, 1) := by decide +kernel
theorem dX11_withRests_3 : decode cX11_withRests 3 = .ok (.if_icmp .ge 5, 3) := by decide +kernel
theorem dX11_withRests_6 : decode cX11_withRests 6 = .ok (.iconst 0, 1) := by decide +kernel
theorem dX11_withRests_7 : decode cX11_withRests 7 = .ok (.ireturn, 1) := by decide +kernel
theorem dX11_withRests_8 : decode cX11_withRests 8 = .ok (.iload_n 2, 1) := by decide +kernel
theorem dX11_withRests_9 : decode cX11_withRests 9 = .ok (.iload 4, 2) := by decide +kernel
theorem dX11_withRests_11 : decode cX11_withRests 11 = .ok (.idiv, 1) := by decide +kernel
theorem dX11_withRests_12 : decode cX11_withRests 12 = .ok (.istore 5, 2) := by decide +kernel
theorem dX11_withRests_14 : decode cX11_withRests 14 = .ok (.iload_n 2, 1) := by decide +kernel
theorem dX11_withRests_15 : decode cX11_withRests 15 = .ok (.iload 4, 2) := by decide +kernel
theorem dX11_withRests_17 : decode cX11_withRests 17 = .ok (.irem, 1) := by decide +kernel
theorem dX11_withRests_18 : decode cX11_withRests 18 = .ok (.istore 6, 2) := by decide +kernel
theorem dX11_withRests_20 : decode cX11_withRests 20 = .ok (.iload 6, 2) := by decide +kernel
theorem dX11_withRests_22 : decode cX11_withRests 22 = .ok (.aload_n 0, 1) := by decide +kernel
theorem dX11_withRests_23 : decode cX11_withRests 23 = .ok (.getfield 12, 3) := by decide +kernel
theorem dX11_withRests_26 : decode cX11_withRests 26 = .ok (.iload_n 1, 1) := by decide +kernel
theorem dX11_withRests_27 : decode cX11_withRests 27 = .ok (.iload 5, 2) := by decide +kernel
theorem dX11_withRests_29 : decode cX11_withRests 29 = .ok (.iconst 1, 1) := by decide +kernel
theorem dX11_withRests_30 : decode cX11_withRests 30 = .ok (.iadd, 1) := by decide +kernel
theorem dX11_withRests_31 : decode cX11_withRests 31 = .ok (.invokevirtual 115, 3) := by decide +kernel
theorem dX11_withRests_34 : decode cX11_withRests 34 = .ok (.imul, 1) := by decide +kernel
theorem dX11_withRests_35 : decode cX11_withRests 35 = .ok (.iload 4, 2) := by decide +kernel
theorem dX11_withRests_37 : decode cX11_withRests 37 = .ok (.iload 6, 2) := by decide +kernel
theorem dX11_withRests_39 : decode cX11_withRests 39 = .ok (.isub, 1) := by decide +kernel
theorem dX11_withRests_40 : decode cX11_withRests 40 = .ok (.aload_n 0, 1) := by decide +kernel
theorem dX11_withRests_41 : decode cX11_withRests 41 = .ok (.getfield 12, 3) := by decide +kernel
theorem dX11_withRests_44 : decode cX11_withRests 44 = .ok (.iload_n 1, 1) := by decide +kernel
theorem dX11_withRests_45 : decode cX11_withRests 45 = .ok (.iload 5, 2) := by decide +kernel
theorem dX11_withRests_47 : decode cX11_withRests 47 = .ok (.invokevirtual 115, 3) := by decide +kernel
theorem dX11_withRests_50 : decode cX11_withRests 50 = .ok (.imul, 1) := by decide +kernel
theorem dX11_withRests_51 : decode cX11_withRests 51 = .ok (.iadd, 1) := by decide +kernel
theorem dX11_withRests_52 : decode cX11_withRests 52 = .ok (.iload 4, 2) := by decide +kernel
theorem dX11_withRests_54 : decode cX11_withRests 54 = .ok (.iconst 1, 1) := by decide +kernel
theorem dX11_withRests_55 : decode cX11_withRests 55 = .ok (.isub, 1) := by decide +kernel
theorem dX11_withRests_56 : decode cX11_withRests 56 = .ok (.iload_n 3, 1) := by decide +kernel
theorem dX11_withRests_57 : decode cX11_withRests 57 = .ok (.imul, 1) := by decide +kernel
theorem dX11_withRests_58 : decode cX11_withRests 58 = .ok (.iadd, 1) := by decide +kernel
theorem dX11_withRests_59 : decode cX11_withRests 59 = .ok (.ireturn, 1) := by decide +kernel
theorem dX11_nextWhere_0 : decode cX11_nextWhere 0 = .ok (.iconst (-1), 1) := by decide +kernel
theorem dX11_nextWhere_1 : decode cX11_nextWhere 1 = .ok (.istore_n 3, 1) := by decide +kernel
theorem dX11_nextWhere_2 : decode cX11_nextWhere 2 = .ok (.iconst (-1), 1) := by decide +kernel
theorem dX11_nextWhere_3 : decode cX11_nextWhere 3 = .ok (.istore 4, 2) := by decide +kernel
theorem dX11_nextWhere_5 : decode cX11_nextWhere 5 = .ok (.iconst 0, 1) := by decide +kernel
theorem dX11_nextWhere_6 : decode cX11_nextWhere 6 = .ok (.istore 5, 2) := by decide +kernel
theorem dX11_nextWhere_8 : decode cX11_nextWhere 8 = .ok (.iload 5, 2) := by decide +kernel
theorem dX11_nextWhere_10 : decode cX11_nextWhere 10 = .ok (.aload_n 0, 1) := by decide +kernel
theorem dX11_nextWhere_11 : decode cX11_nextWhere 11 = .ok (.getfield 12, 3) := by decide +kernel
theorem dX11_nextWhere_14 : decode cX11_nextWhere 14 = .ok (.getfield 56, 3) := by decide +kernel
theorem dX11_nextWhere_17 : decode cX11_nextWhere 17 = .ok (.getfield 140, 3) := by decide +kernel
theorem dX11_nextWhere_20 : decode cX11_nextWhere 20 = .ok (.if_icmp .ge 64, 3) := by decide +kernel
theorem dX11_nextWhere_23 : decode cX11_nextWhere 23 = .ok (.aload_n 0, 1) := by decide +kernel
theorem dX11_nextWhere_24 : decode cX11_nextWhere 24 = .ok (.getfield 12, 3) := by decide +kernel
theorem dX11_nextWhere_27 : decode cX11_nextWhere 27 = .ok (.iload 5, 2) := by decide +kernel
theorem dX11_nextWhere_29 : decode cX11_nextWhere 29 = .ok (.invokevirtual 134, 3) := by decide +kernel
theorem dX11_nextWhere_32 : decode cX11_nextWhere 32 = .ok (.istore 6, 2) := by decide +kernel
theorem dX11_nextWhere_34 : decode cX11_nextWhere 34 = .ok (.iload 6, 2) := by decide +kernel
theorem dX11_nextWhere_36 : decode cX11_nextWhere 36 = .ok (.iload_n 1, 1) := by decide +kernel
theorem dX11_nextWhere_37 : decode cX11_nextWhere 37 = .ok (.if_icmp .lt 15, 3) := by decide +kernel
theorem dX11_nextWhere_40 : decode cX11_nextWhere 40 = .ok (.iload 6, 2) := by decide +kernel
theorem dX11_nextWhere_42 : decode cX11_nextWhere 42 = .ok (.iload_n 1, 1) := by decide +kernel
theorem dX11_nextWhere_43 : decode cX11_nextWhere 43 = .ok (.if_icmp .ne 13, 3) := by decide +kernel
theorem dX11_nextWhere_46 : decode cX11_nextWhere 46 = .ok (.iload 5, 2) := by decide +kernel
theorem dX11_nextWhere_48 : decode cX11_nextWhere 48 = .ok (.iload_n 2, 1) := by decide +kernel
theorem dX11_nextWhere_49 : decode cX11_nextWhere 49 = .ok (.if_icmp .le 7, 3) := by decide +kernel
theorem dX11_nextWhere_52 : decode cX11_nextWhere 52 = .ok (.iconst 1, 1) := by decide +kernel
theorem dX11_nextWhere_53 : decode cX11_nextWhere 53 = .ok (.goto 4, 3) := by decide +kernel
theorem dX11_nextWhere_56 : decode cX11_nextWhere 56 = .ok (.iconst 0, 1) := by decide +kernel
theorem dX11_nextWhere_57 : decode cX11_nextWhere 57 = .ok (.istore 7, 2) := by decide +kernel
theorem dX11_nextWhere_59 : decode cX11_nextWhere 59 = .ok (.iload 7, 2) := by decide +kernel
theorem dX11_nextWhere_61 : decode cX11_nextWhere 61 = .ok (.ifCond .eq 17, 3) := by decide +kernel
theorem dX11_nextWhere_64 : decode cX11_nextWhere 64 = .ok (.iload 6, 2) := by decide +kernel
theorem dX11_nextWhere_66 : decode cX11_nextWhere 66 = .ok (.iload 4, 2) := by decide +kernel
theorem dX11_nextWhere_68 : decode cX11_nextWhere 68 = .ok (.if_icmp .le 10, 3) := by decide +kernel
theorem dX11_nextWhere_71 : decode cX11_nextWhere 71 = .ok (.iload 5, 2) := by decide +kernel
theorem dX11_nextWhere_73 : decode cX11_nextWhere 73 = .ok (.istore_n 3, 1) := by decide +kernel
theorem dX11_nextWhere_74 : decode cX11_nextWhere 74 = .ok (.iload 6, 2) := by decide +kernel
theorem dX11_nextWhere_76 : decode cX11_nextWhere 76 = .ok (.istore 4, 2) := by decide +kernel
theorem dX11_nextWhere_78 : decode cX11_nextWhere 78 = .ok (.iinc 5 1, 3) := by decide +kernel
theorem dX11_nextWhere_81 : decode cX11_nextWhere 81 = .ok (.goto (-73), 3) := by decide +kernel
theorem dX11_nextWhere_84 : decode cX11_nextWhere 84 = .ok (.iload_n 3, 1) := by decide +kernel
theorem dX11_nextWhere_85 : decode cX11_nextWhere 85 = .ok (.ireturn, 1) := by decide +kernel
theorem dX11_couldBeBy_0 : decode cX11_couldBeBy 0 = .ok (.iconst 0, 1) := by decide +kernel
theorem dX11_couldBeBy_1 : decode cX11_couldBeBy 1 = .ok (.istore_n 2, 1) := by decide +kernel
theorem dX11_couldBeBy_2 : decode cX11_couldBeBy 2 = .ok (.iload_n 2, 1) := by decide +kernel
theorem dX11_couldBeBy_3 : decode cX11_couldBeBy 3 = .ok (.aload_n 0, 1) := by decide +kernel
theorem dX11_couldBeBy_4 : decode cX11_couldBeBy 4 = .ok (.getfield 12, 3) := by decide +kernel
theorem dX11_couldBeBy_7 : decode cX11_couldBeBy 7 = .ok (.getfield 125, 3) := by decide +kernel
theorem dX11_couldBeBy_10 : decode cX11_couldBeBy 10 = .ok (.invokevirtual 38, 3) := by decide +kernel
theorem dX11_couldBeBy_13 : decode cX11_couldBeBy 13 = .ok (.if_icmp .ge 36, 3) := by decide +kernel
theorem dX11_couldBeBy_16 : decode cX11_couldBeBy 16 = .ok (.aload_n 0, 1) := by decide +kernel
theorem dX11_couldBeBy_17 : decode cX11_couldBeBy 17 = .ok (.getfield 12, 3) := by decide +kernel
theorem dX11_couldBeBy_20 : decode cX11_couldBeBy 20 = .ok (.getfield 125, 3) := by decide +kernel
theorem dX11_couldBeBy_23 : decode cX11_couldBeBy 23 = .ok (.iload_n 2, 1) := by decide +kernel
theorem dX11_couldBeBy_24 : decode cX11_couldBeBy 24 = .ok (.invokevirtual 137, 3) := by decide +kernel
theorem dX11_couldBeBy_27 : decode cX11_couldBeBy 27 = .ok (.istore_n 3, 1) := by decide +kernel
theorem dX11_couldBeBy_28 : decode cX11_couldBeBy 28 = .ok (.aload_n 0, 1) := by decide +kernel
theorem dX11_couldBeBy_29 : decode cX11_couldBeBy 29 = .ok (.getfield 12, 3) := by decide +kernel
theorem dX11_couldBeBy_32 : decode cX11_couldBeBy 32 = .ok (.iload_n 3, 1) := by decide +kernel
theorem dX11_couldBeBy_33 : decode cX11_couldBeBy 33 = .ok (.iload_n 3, 1) := by decide +kernel
theorem dX11_couldBeBy_34 : decode cX11_couldBeBy 34 = .ok (.iload_n 1, 1) := by decide +kernel
theorem dX11_couldBeBy_35 : decode cX11_couldBeBy 35 = .ok (.invokevirtual 267, 3) := by decide +kernel
theorem dX11_couldBeBy_38 : decode cX11_couldBeBy 38 = .ok (.ifCond .ne 5, 3) := by decide +kernel
theorem dX11_couldBeBy_41 : decode cX11_couldBeBy 41 = .ok (.iconst 0, 1) := by decide +kernel
theorem dX11_couldBeBy_42 : decode cX11_couldBeBy 42 = .ok (.ireturn, 1) := by decide +kernel
theorem dX11_couldBeBy_43 : decode cX11_couldBeBy 43 = .ok (.iinc 2 1, 3) := by decide +kernel
theorem dX11_couldBeBy_46 : decode cX11_couldBeBy 46 = .ok (.goto (-44), 3) := by decide +kernel
theorem dX11_couldBeBy_49 : decode cX11_couldBeBy 49 = .ok (.iconst 1, 1) := by decide +kernel
theorem dX11_couldBeBy_50 : decode cX11_couldBeBy 50 = .ok (.ireturn, 1) := by decide +kernel
theorem dX11_bestStock_0 : decode cX11_bestStock 0 = .ok (.iconst 0, 1) := by decide +kernel
theorem dX11_bestStock_1 : decode cX11_bestStock 1 = .ok (.istore_n 3, 1) := by decide +kernel
theorem dX11_bestStock_2 : decode cX11_bestStock 2 = .ok (.iconst 1, 1) := by decide +kernel
theorem dX11_bestStock_3 : decode cX11_bestStock 3 = .ok (.istore 4, 2) := by decide +kernel
theorem dX11_bestStock_5 : decode cX11_bestStock 5 = .ok (.iload 4, 2) := by decide +kernel
theorem dX11_bestStock_7 : decode cX11_bestStock 7 = .ok (.bipush 40, 2) := by decide +kernel
theorem dX11_bestStock_9 : decode cX11_bestStock 9 = .ok (.if_icmp .gt 30, 3) := by decide +kernel
theorem dX11_bestStock_12 : decode cX11_bestStock 12 = .ok (.aload_n 0, 1) := by decide +kernel
theorem dX11_bestStock_13 : decode cX11_bestStock 13 = .ok (.iload 4, 2) := by decide +kernel
theorem dX11_bestStock_15 : decode cX11_bestStock 15 = .ok (.iload_n 1, 1) := by decide +kernel
theorem dX11_bestStock_16 : decode cX11_bestStock 16 = .ok (.iload_n 2, 1) := by decide +kernel
theorem dX11_bestStock_17 : decode cX11_bestStock 17 = .ok (.invokevirtual 213, 3) := by decide +kernel
theorem dX11_bestStock_20 : decode cX11_bestStock 20 = .ok (.aload_n 0, 1) := by decide +kernel
theorem dX11_bestStock_21 : decode cX11_bestStock 21 = .ok (.iload_n 3, 1) := by decide +kernel
theorem dX11_bestStock_22 : decode cX11_bestStock 22 = .ok (.iload_n 1, 1) := by decide +kernel
theorem dX11_bestStock_23 : decode cX11_bestStock 23 = .ok (.iload_n 2, 1) := by decide +kernel
theorem dX11_bestStock_24 : decode cX11_bestStock 24 = .ok (.invokevirtual 213, 3) := by decide +kernel
theorem dX11_bestStock_27 : decode cX11_bestStock 27 = .ok (.if_icmp .ge 6, 3) := by decide +kernel
theorem dX11_bestStock_30 : decode cX11_bestStock 30 = .ok (.iload 4, 2) := by decide +kernel
theorem dX11_bestStock_32 : decode cX11_bestStock 32 = .ok (.istore_n 3, 1) := by decide +kernel
theorem dX11_bestStock_33 : decode cX11_bestStock 33 = .ok (.iinc 4 1, 3) := by decide +kernel
theorem dX11_bestStock_36 : decode cX11_bestStock 36 = .ok (.goto (-31), 3) := by decide +kernel
theorem dX11_bestStock_39 : decode cX11_bestStock 39 = .ok (.iload_n 3, 1) := by decide +kernel
theorem dX11_bestStock_40 : decode cX11_bestStock 40 = .ok (.ireturn, 1) := by decide +kernel
theorem dX11_costOfStock_0 : decode cX11_costOfStock 0 = .ok (.iconst 0, 1) := by decide +kernel
theorem dX11_costOfStock_1 : decode cX11_costOfStock 1 = .ok (.istore 4, 2) := by decide +kernel
theorem dX11_costOfStock_3 : decode cX11_costOfStock 3 = .ok (.iconst 0, 1) := by decide +kernel
theorem dX11_costOfStock_4 : decode cX11_costOfStock 4 = .ok (.istore 5, 2) := by decide +kernel
theorem dX11_costOfStock_6 : decode cX11_costOfStock 6 = .ok (.iload 5, 2) := by decide +kernel
theorem dX11_costOfStock_8 : decode cX11_costOfStock 8 = .ok (.aload_n 0, 1) := by decide +kernel
theorem dX11_costOfStock_9 : decode cX11_costOfStock 9 = .ok (.getfield 12, 3) := by decide +kernel
theorem dX11_costOfStock_12 : decode cX11_costOfStock 12 = .ok (.getfield 204, 3) := by decide +kernel
theorem dX11_costOfStock_15 : decode cX11_costOfStock 15 = .ok (.invokevirtual 38, 3) := by decide +kernel
theorem dX11_costOfStock_18 : decode cX11_costOfStock 18 = .ok (.if_icmp .ge 47, 3) := by decide +kernel
theorem dX11_costOfStock_21 : decode cX11_costOfStock 21 = .ok (.iload_n 1, 1) := by decide +kernel
theorem dX11_costOfStock_22 : decode cX11_costOfStock 22 = .ok (.aload_n 0, 1) := by decide +kernel
theorem dX11_costOfStock_23 : decode cX11_costOfStock 23 = .ok (.getfield 12, 3) := by decide +kernel
theorem dX11_costOfStock_26 : decode cX11_costOfStock 26 = .ok (.getfield 204, 3) := by decide +kernel
theorem dX11_costOfStock_29 : decode cX11_costOfStock 29 = .ok (.iload 5, 2) := by decide +kernel
theorem dX11_costOfStock_31 : decode cX11_costOfStock 31 = .ok (.invokevirtual 137, 3) := by decide +kernel
theorem dX11_costOfStock_34 : decode cX11_costOfStock 34 = .ok (.isub, 1) := by decide +kernel
theorem dX11_costOfStock_35 : decode cX11_costOfStock 35 = .ok (.istore 6, 2) := by decide +kernel
theorem dX11_costOfStock_37 : decode cX11_costOfStock 37 = .ok (.iload 4, 2) := by decide +kernel
theorem dX11_costOfStock_39 : decode cX11_costOfStock 39 = .ok (.iload 6, 2) := by decide +kernel
theorem dX11_costOfStock_41 : decode cX11_costOfStock 41 = .ok (.ifCond .le 10, 3) := by decide +kernel
theorem dX11_costOfStock_44 : decode cX11_costOfStock 44 = .ok (.iload 6, 2) := by decide +kernel
theorem dX11_costOfStock_46 : decode cX11_costOfStock 46 = .ok (.iload_n 2, 1) := by decide +kernel
theorem dX11_costOfStock_47 : decode cX11_costOfStock 47 = .ok (.imul, 1) := by decide +kernel
theorem dX11_costOfStock_48 : decode cX11_costOfStock 48 = .ok (.goto 8, 3) := by decide +kernel
theorem dX11_costOfStock_51 : decode cX11_costOfStock 51 = .ok (.iload 6, 2) := by decide +kernel
theorem dX11_costOfStock_53 : decode cX11_costOfStock 53 = .ok (.ineg, 1) := by decide +kernel
theorem dX11_costOfStock_54 : decode cX11_costOfStock 54 = .ok (.iload_n 3, 1) := by decide +kernel
theorem dX11_costOfStock_55 : decode cX11_costOfStock 55 = .ok (.imul, 1) := by decide +kernel
theorem dX11_costOfStock_56 : decode cX11_costOfStock 56 = .ok (.iadd, 1) := by decide +kernel
theorem dX11_costOfStock_57 : decode cX11_costOfStock 57 = .ok (.istore 4, 2) := by decide +kernel
theorem dX11_costOfStock_59 : decode cX11_costOfStock 59 = .ok (.iinc 5 1, 3) := by decide +kernel
theorem dX11_costOfStock_62 : decode cX11_costOfStock 62 = .ok (.goto (-56), 3) := by decide +kernel
theorem dX11_costOfStock_65 : decode cX11_costOfStock 65 = .ok (.iload 4, 2) := by decide +kernel
theorem dX11_costOfStock_67 : decode cX11_costOfStock 67 = .ok (.ireturn, 1) := by decide +kernel
theorem dX11_made_0 : decode cX11_made 0 = .ok (.iload_n 0, 1) := by decide +kernel
theorem dX11_made_1 : decode cX11_made 1 = .ok (.tableswitch 111 1 6 #[39, 51, 63, 75, 86, 97], 39) := by decide +kernel
theorem dX11_made_40 : decode cX11_made 40 = .ok (.new 270, 3) := by decide +kernel
theorem dX11_made_43 : decode cX11_made 43 = .ok (.dup, 1) := by decide +kernel
theorem dX11_made_44 : decode cX11_made 44 = .ok (.iconst 1, 1) := by decide +kernel
theorem dX11_made_45 : decode cX11_made 45 = .ok (.iload_n 1, 1) := by decide +kernel
theorem dX11_made_46 : decode cX11_made 46 = .ok (.iload_n 2, 1) := by decide +kernel
theorem dX11_made_47 : decode cX11_made 47 = .ok (.iload_n 3, 1) := by decide +kernel
theorem dX11_made_48 : decode cX11_made 48 = .ok (.invokespecial 272, 3) := by decide +kernel
theorem dX11_made_51 : decode cX11_made 51 = .ok (.areturn, 1) := by decide +kernel
theorem dX11_made_52 : decode cX11_made 52 = .ok (.new 275, 3) := by decide +kernel
theorem dX11_made_55 : decode cX11_made 55 = .ok (.dup, 1) := by decide +kernel
theorem dX11_made_56 : decode cX11_made 56 = .ok (.iconst 2, 1) := by decide +kernel
theorem dX11_made_57 : decode cX11_made 57 = .ok (.iload_n 1, 1) := by decide +kernel
theorem dX11_made_58 : decode cX11_made 58 = .ok (.iload_n 2, 1) := by decide +kernel
theorem dX11_made_59 : decode cX11_made 59 = .ok (.iload_n 3, 1) := by decide +kernel
theorem dX11_made_60 : decode cX11_made 60 = .ok (.invokespecial 277, 3) := by decide +kernel
theorem dX11_made_63 : decode cX11_made 63 = .ok (.areturn, 1) := by decide +kernel
theorem dX11_made_64 : decode cX11_made 64 = .ok (.new 278, 3) := by decide +kernel
theorem dX11_made_67 : decode cX11_made 67 = .ok (.dup, 1) := by decide +kernel
theorem dX11_made_68 : decode cX11_made 68 = .ok (.iconst 3, 1) := by decide +kernel
theorem dX11_made_69 : decode cX11_made 69 = .ok (.iload_n 1, 1) := by decide +kernel
theorem dX11_made_70 : decode cX11_made 70 = .ok (.iload_n 2, 1) := by decide +kernel
theorem dX11_made_71 : decode cX11_made 71 = .ok (.iload_n 3, 1) := by decide +kernel
theorem dX11_made_72 : decode cX11_made 72 = .ok (.invokespecial 280, 3) := by decide +kernel
theorem dX11_made_75 : decode cX11_made 75 = .ok (.areturn, 1) := by decide +kernel
theorem dX11_made_76 : decode cX11_made 76 = .ok (.new 281, 3) := by decide +kernel
theorem dX11_made_79 : decode cX11_made 79 = .ok (.dup, 1) := by decide +kernel
theorem dX11_made_80 : decode cX11_made 80 = .ok (.iload_n 1, 1) := by decide +kernel
theorem dX11_made_81 : decode cX11_made 81 = .ok (.iload_n 2, 1) := by decide +kernel
theorem dX11_made_82 : decode cX11_made 82 = .ok (.iload_n 3, 1) := by decide +kernel
theorem dX11_made_83 : decode cX11_made 83 = .ok (.invokespecial 283, 3) := by decide +kernel
theorem dX11_made_86 : decode cX11_made 86 = .ok (.areturn, 1) := by decide +kernel
theorem dX11_made_87 : decode cX11_made 87 = .ok (.new 286, 3) := by decide +kernel
theorem dX11_made_90 : decode cX11_made 90 = .ok (.dup, 1) := by decide +kernel
theorem dX11_made_91 : decode cX11_made 91 = .ok (.iload_n 1, 1) := by decide +kernel
theorem dX11_made_92 : decode cX11_made 92 = .ok (.iload_n 2, 1) := by decide +kernel
theorem dX11_made_93 : decode cX11_made 93 = .ok (.iload_n 3, 1) := by decide +kernel
theorem dX11_made_94 : decode cX11_made 94 = .ok (.invokespecial 288, 3) := by decide +kernel
theorem dX11_made_97 : decode cX11_made 97 = .ok (.areturn, 1) := by decide +kernel
theorem dX11_made_98 : decode cX11_made 98 = .ok (.new 96, 3) := by decide +kernel
theorem dX11_made_101 : decode cX11_made 101 = .ok (.dup, 1) := by decide +kernel
theorem dX11_made_102 : decode cX11_made 102 = .ok (.iload_n 1, 1) := by decide +kernel
theorem dX11_made_103 : decode cX11_made 103 = .ok (.iload_n 2, 1) := by decide +kernel
theorem dX11_made_104 : decode cX11_made 104 = .ok (.iload_n 3, 1) := by decide +kernel
theorem dX11_made_105 : decode cX11_made 105 = .ok (.iconst 4, 1) := by decide +kernel
theorem dX11_made_106 : decode cX11_made 106 = .ok (.newarray .int, 2) := by decide +kernel
theorem dX11_made_108 : decode cX11_made 108 = .ok (.invokespecial 289, 3) := by decide +kernel
theorem dX11_made_111 : decode cX11_made 111 = .ok (.areturn, 1) := by decide +kernel
theorem dX11_made_112 : decode cX11_made 112 = .ok (.new 79, 3) := by decide +kernel
theorem dX11_made_115 : decode cX11_made 115 = .ok (.dup, 1) := by decide +kernel
theorem dX11_made_116 : decode cX11_made 116 = .ok (.iconst 0, 1) := by decide +kernel
theorem dX11_made_117 : decode cX11_made 117 = .ok (.iload_n 1, 1) := by decide +kernel
theorem dX11_made_118 : decode cX11_made 118 = .ok (.iload_n 2, 1) := by decide +kernel
theorem dX11_made_119 : decode cX11_made 119 = .ok (.iload_n 3, 1) := by decide +kernel
theorem dX11_made_120 : decode cX11_made 120 = .ok (.invokespecial 292, 3) := by decide +kernel
theorem dX11_made_123 : decode cX11_made 123 = .ok (.areturn, 1) := by decide +kernel
theorem dX11_isUnder_0 : decode cX11_isUnder 0 = .ok (.iload_n 1, 1) := by decide +kernel
theorem dX11_isUnder_1 : decode cX11_isUnder 1 = .ok (.tableswitch 75 0 6 #[43, 45, 50, 55, 60, 65, 70], 43) := by decide +kernel
theorem dX11_isUnder_44 : decode cX11_isUnder 44 = .ok (.iconst 1, 1) := by decide +kernel
theorem dX11_isUnder_45 : decode cX11_isUnder 45 = .ok (.ireturn, 1) := by decide +kernel
theorem dX11_isUnder_46 : decode cX11_isUnder 46 = .ok (.aload_n 0, 1) := by decide +kernel
theorem dX11_isUnder_47 : decode cX11_isUnder 47 = .ok (.instanceof 270, 3) := by decide +kernel
theorem dX11_isUnder_50 : decode cX11_isUnder 50 = .ok (.ireturn, 1) := by decide +kernel
theorem dX11_isUnder_51 : decode cX11_isUnder 51 = .ok (.aload_n 0, 1) := by decide +kernel
theorem dX11_isUnder_52 : decode cX11_isUnder 52 = .ok (.instanceof 275, 3) := by decide +kernel
theorem dX11_isUnder_55 : decode cX11_isUnder 55 = .ok (.ireturn, 1) := by decide +kernel
theorem dX11_isUnder_56 : decode cX11_isUnder 56 = .ok (.aload_n 0, 1) := by decide +kernel
theorem dX11_isUnder_57 : decode cX11_isUnder 57 = .ok (.instanceof 278, 3) := by decide +kernel
theorem dX11_isUnder_60 : decode cX11_isUnder 60 = .ok (.ireturn, 1) := by decide +kernel
theorem dX11_isUnder_61 : decode cX11_isUnder 61 = .ok (.aload_n 0, 1) := by decide +kernel
theorem dX11_isUnder_62 : decode cX11_isUnder 62 = .ok (.instanceof 281, 3) := by decide +kernel
theorem dX11_isUnder_65 : decode cX11_isUnder 65 = .ok (.ireturn, 1) := by decide +kernel
theorem dX11_isUnder_66 : decode cX11_isUnder 66 = .ok (.aload_n 0, 1) := by decide +kernel
theorem dX11_isUnder_67 : decode cX11_isUnder 67 = .ok (.instanceof 286, 3) := by decide +kernel
theorem dX11_isUnder_70 : decode cX11_isUnder 70 = .ok (.ireturn, 1) := by decide +kernel
theorem dX11_isUnder_71 : decode cX11_isUnder 71 = .ok (.aload_n 0, 1) := by decide +kernel
theorem dX11_isUnder_72 : decode cX11_isUnder 72 = .ok (.instanceof 96, 3) := by decide +kernel
theorem dX11_isUnder_75 : decode cX11_isUnder 75 = .ok (.ireturn, 1) := by decide +kernel
theorem dX11_isUnder_76 : decode cX11_isUnder 76 = .ok (.iconst 0, 1) := by decide +kernel
theorem dX11_isUnder_77 : decode cX11_isUnder 77 = .ok (.ireturn, 1) := by decide +kernel
theorem dX12_init_0 : decode cX12_init 0 = .ok (.aload_n 0, 1) := by decide +kernel
theorem dX12_init_1 : decode cX12_init 1 = .ok (.invokespecial 3, 3) := by decide +kernel
theorem dX12_init_4 : decode cX12_init 4 = .ok (.aload_n 0, 1) := by decide +kernel
theorem dX12_init_5 : decode cX12_init 5 = .ok (.sipush 948, 3) := by decide +kernel
theorem dX12_init_8 : decode cX12_init 8 = .ok (.newarray .int, 2) := by decide +kernel
theorem dX12_init_10 : decode cX12_init 10 = .ok (.putfield 9, 3) := by decide +kernel
theorem dX12_init_13 : decode cX12_init 13 = .ok (.aload_n 0, 1) := by decide +kernel
theorem dX12_init_14 : decode cX12_init 14 = .ok (.sipush 948, 3) := by decide +kernel
theorem dX12_init_17 : decode cX12_init 17 = .ok (.newarray .int, 2) := by decide +kernel
theorem dX12_init_19 : decode cX12_init 19 = .ok (.putfield 15, 3) := by decide +kernel
theorem dX12_init_22 : decode cX12_init 22 = .ok (.aload_n 0, 1) := by decide +kernel
theorem dX12_init_23 : decode cX12_init 23 = .ok (.bipush 6, 2) := by decide +kernel
theorem dX12_init_25 : decode cX12_init 25 = .ok (.newarray .int, 2) := by decide +kernel
theorem dX12_init_27 : decode cX12_init 27 = .ok (.putfield 18, 3) := by decide +kernel
theorem dX12_init_30 : decode cX12_init 30 = .ok (.aload_n 0, 1) := by decide +kernel
theorem dX12_init_31 : decode cX12_init 31 = .ok (.bipush 64, 2) := by decide +kernel
theorem dX12_init_33 : decode cX12_init 33 = .ok (.newarray .boolean, 2) := by decide +kernel
theorem dX12_init_35 : decode cX12_init 35 = .ok (.putfield 21, 3) := by decide +kernel
theorem dX12_init_38 : decode cX12_init 38 = .ok (.aload_n 0, 1) := by decide +kernel
theorem dX12_init_39 : decode cX12_init 39 = .ok (.iconst 5, 1) := by decide +kernel
theorem dX12_init_40 : decode cX12_init 40 = .ok (.newarray .int, 2) := by decide +kernel
theorem dX12_init_42 : decode cX12_init 42 = .ok (.putfield 25, 3) := by decide +kernel
theorem dX12_init_45 : decode cX12_init 45 = .ok (.aload_n 0, 1) := by decide +kernel
theorem dX12_init_46 : decode cX12_init 46 = .ok (.bipush 40, 2) := by decide +kernel
theorem dX12_init_48 : decode cX12_init 48 = .ok (.newarray .int, 2) := by decide +kernel
theorem dX12_init_50 : decode cX12_init 50 = .ok (.putfield 28, 3) := by decide +kernel
theorem dX12_init_53 : decode cX12_init 53 = .ok (.aload_n 0, 1) := by decide +kernel
theorem dX12_init_54 : decode cX12_init 54 = .ok (.bipush 20, 2) := by decide +kernel
theorem dX12_init_56 : decode cX12_init 56 = .ok (.newarray .int, 2) := by decide +kernel
theorem dX12_init_58 : decode cX12_init 58 = .ok (.putfield 31, 3) := by decide +kernel
theorem dX12_init_61 : decode cX12_init 61 = .ok (.aload_n 0, 1) := by decide +kernel
theorem dX12_init_62 : decode cX12_init 62 = .ok (.getfield 9, 3) := by decide +kernel
theorem dX12_init_65 : decode cX12_init 65 = .ok (.bipush 7, 2) := by decide +kernel
theorem dX12_init_67 : decode cX12_init 67 = .ok (.iconst (-1), 1) := by decide +kernel
theorem dX12_init_68 : decode cX12_init 68 = .ok (.iastore, 1) := by decide +kernel
theorem dX12_init_69 : decode cX12_init 69 = .ok (.return_, 1) := by decide +kernel
theorem dX12_in_0 : decode cX12_in 0 = .ok (.iload_n 0, 1) := by decide +kernel
theorem dX12_in_1 : decode cX12_in 1 = .ok (.iload_n 1, 1) := by decide +kernel
theorem dX12_in_2 : decode cX12_in 2 = .ok (.if_icmp .lt 12, 3) := by decide +kernel
theorem dX12_in_5 : decode cX12_in 5 = .ok (.iload_n 0, 1) := by decide +kernel
theorem dX12_in_6 : decode cX12_in 6 = .ok (.iload_n 2, 1) := by decide +kernel
theorem dX12_in_7 : decode cX12_in 7 = .ok (.if_icmp .gt 7, 3) := by decide +kernel
theorem dX12_in_10 : decode cX12_in 10 = .ok (.iconst 1, 1) := by decide +kernel
theorem dX12_in_11 : decode cX12_in 11 = .ok (.goto 4, 3) := by decide +kernel
theorem dX12_in_14 : decode cX12_in 14 = .ok (.iconst 0, 1) := by decide +kernel
theorem dX12_in_15 : decode cX12_in 15 = .ok (.ireturn, 1) := by decide +kernel
theorem dX12_within_0 : decode cX12_within 0 = .ok (.iload_n 0, 1) := by decide +kernel
theorem dX12_within_1 : decode cX12_within 1 = .ok (.iload_n 1, 1) := by decide +kernel
theorem dX12_within_2 : decode cX12_within 2 = .ok (.if_icmp .ge 7, 3) := by decide +kernel
theorem dX12_within_5 : decode cX12_within 5 = .ok (.iload_n 1, 1) := by decide +kernel
theorem dX12_within_6 : decode cX12_within 6 = .ok (.goto 13, 3) := by decide +kernel
theorem dX12_within_9 : decode cX12_within 9 = .ok (.iload_n 0, 1) := by decide +kernel
theorem dX12_within_10 : decode cX12_within 10 = .ok (.iload_n 2, 1) := by decide +kernel
theorem dX12_within_11 : decode cX12_within 11 = .ok (.if_icmp .le 7, 3) := by decide +kernel
theorem dX12_within_14 : decode cX12_within 14 = .ok (.iload_n 2, 1) := by decide +kernel
theorem dX12_within_15 : decode cX12_within 15 = .ok (.goto 4, 3) := by decide +kernel
theorem dX12_within_18 : decode cX12_within 18 = .ok (.iload_n 0, 1) := by decide +kernel
theorem dX12_within_19 : decode cX12_within 19 = .ok (.ireturn, 1) := by decide +kernel
theorem dX12_isWay_0 : decode cX12_isWay 0 = .ok (.iload_n 1, 1) := by decide +kernel
theorem dX12_isWay_1 : decode cX12_isWay 1 = .ok (.iconst 0, 1) := by decide +kernel
theorem dX12_isWay_2 : decode cX12_isWay 2 = .ok (.aload_n 0, 1) := by decide +kernel
theorem dX12_isWay_3 : decode cX12_isWay 3 = .ok (.getfield 9, 3) := by decide +kernel
theorem dX12_isWay_6 : decode cX12_isWay 6 = .ok (.iconst 0, 1) := by decide +kernel
theorem dX12_isWay_7 : decode cX12_isWay 7 = .ok (.iaload, 1) := by decide +kernel
theorem dX12_isWay_8 : decode cX12_isWay 8 = .ok (.iconst 1, 1) := by decide +kernel
theorem dX12_isWay_9 : decode cX12_isWay 9 = .ok (.isub, 1) := by decide +kernel
theorem dX12_isWay_10 : decode cX12_isWay 10 = .ok (.invokestatic 38, 3) := by decide +kernel
theorem dX12_isWay_13 : decode cX12_isWay 13 = .ok (.ireturn, 1) := by decide +kernel
theorem dX12_feed_0 : decode cX12_feed 0 = .ok (.iload_n 1, 1) := by decide +kernel
theorem dX12_feed_1 : decode cX12_feed 1 = .ok (.iconst 0, 1) := by decide +kernel
theorem dX12_feed_2 : decode cX12_feed 2 = .ok (.bipush 127, 2) := by decide +kernel
theorem dX12_feed_4 : decode cX12_feed 4 = .ok (.invokestatic 38, 3) := by decide +kernel
theorem dX12_feed_7 : decode cX12_feed 7 = .ok (.ifCond .ne 6, 3) := by decide +kernel
theorem dX12_feed_10 : decode cX12_feed 10 = .ok (.bipush (-2), 2) := by decide +kernel
theorem dX12_feed_12 : decode cX12_feed 12 = .ok (.ireturn, 1) := by decide +kernel
theorem dX12_feed_13 : decode cX12_feed 13 = .ok (.aload_n 0, 1) := by decide +kernel
theorem dX12_feed_14 : decode cX12_feed 14 = .ok (.getfield 9, 3) := by decide +kernel
theorem dX12_feed_17 : decode cX12_feed 17 = .ok (.bipush 6, 2) := by decide +kernel
theorem dX12_feed_19 : decode cX12_feed 19 = .ok (.iaload, 1) := by decide +kernel
theorem dX12_feed_20 : decode cX12_feed 20 = .ok (.bipush 100, 2) := by decide +kernel
theorem dX12_feed_22 : decode cX12_feed 22 = .ok (.if_icmp .ne 6, 3) := by decide +kernel
theorem dX12_feed_25 : decode cX12_feed 25 = .ok (.bipush (-4), 2) := by decide +kernel
theorem dX12_feed_27 : decode cX12_feed 27 = .ok (.ireturn, 1) := by decide +kernel
theorem dX12_feed_28 : decode cX12_feed 28 = .ok (.aload_n 0, 1) := by decide +kernel
theorem dX12_feed_29 : decode cX12_feed 29 = .ok (.getfield 9, 3) := by decide +kernel
theorem dX12_feed_32 : decode cX12_feed 32 = .ok (.sipush 128, 3) := by decide +kernel
theorem dX12_feed_35 : decode cX12_feed 35 = .ok (.aload_n 0, 1) := by decide +kernel
theorem dX12_feed_36 : decode cX12_feed 36 = .ok (.getfield 9, 3) := by decide +kernel
theorem dX12_feed_39 : decode cX12_feed 39 = .ok (.bipush 6, 2) := by decide +kernel
theorem dX12_feed_41 : decode cX12_feed 41 = .ok (.iaload, 1) := by decide +kernel
theorem dX12_feed_42 : decode cX12_feed 42 = .ok (.iadd, 1) := by decide +kernel
theorem dX12_feed_43 : decode cX12_feed 43 = .ok (.iload_n 1, 1) := by decide +kernel
theorem dX12_feed_44 : decode cX12_feed 44 = .ok (.iastore, 1) := by decide +kernel
theorem dX12_feed_45 : decode cX12_feed 45 = .ok (.aload_n 0, 1) := by decide +kernel
theorem dX12_feed_46 : decode cX12_feed 46 = .ok (.getfield 9, 3) := by decide +kernel
theorem dX12_feed_49 : decode cX12_feed 49 = .ok (.bipush 6, 2) := by decide +kernel
theorem dX12_feed_51 : decode cX12_feed 51 = .ok (.dup2, 1) := by decide +kernel
theorem dX12_feed_52 : decode cX12_feed 52 = .ok (.iaload, 1) := by decide +kernel
theorem dX12_feed_53 : decode cX12_feed 53 = .ok (.iconst 1, 1) := by decide +kernel
theorem dX12_feed_54 : decode cX12_feed 54 = .ok (.iadd, 1) := by decide +kernel
theorem dX12_feed_55 : decode cX12_feed 55 = .ok (.iastore, 1) := by decide +kernel
theorem dX12_feed_56 : decode cX12_feed 56 = .ok (.aload_n 0, 1) := by decide +kernel
theorem dX12_feed_57 : decode cX12_feed 57 = .ok (.getfield 9, 3) := by decide +kernel
theorem dX12_feed_60 : decode cX12_feed 60 = .ok (.bipush 6, 2) := by decide +kernel
theorem dX12_feed_62 : decode cX12_feed 62 = .ok (.iaload, 1) := by decide +kernel
theorem dX12_feed_63 : decode cX12_feed 63 = .ok (.ireturn, 1) := by decide +kernel
theorem dX12_here_0 : decode cX12_here 0 = .ok (.aload_n 0, 1) := by decide +kernel
theorem dX12_here_1 : decode cX12_here 1 = .ok (.getfield 42, 3) := by decide +kernel
theorem dX12_here_4 : decode cX12_here 4 = .ok (.aload_n 0, 1) := by decide +kernel
theorem dX12_here_5 : decode cX12_here 5 = .ok (.getfield 45, 3) := by decide +kernel
theorem dX12_here_8 : decode cX12_here 8 = .ok (.if_icmp .ge 19, 3) := by decide +kernel
theorem dX12_here_11 : decode cX12_here 11 = .ok (.aload_n 0, 1) := by decide +kernel
theorem dX12_here_12 : decode cX12_here 12 = .ok (.getfield 9, 3) := by decide +kernel
theorem dX12_here_15 : decode cX12_here 15 = .ok (.sipush 128, 3) := by decide +kernel
theorem dX12_here_18 : decode cX12_here 18 = .ok (.aload_n 0, 1) := by decide +kernel
theorem dX12_here_19 : decode cX12_here 19 = .ok (.getfield 42, 3) := by decide +kernel
theorem dX12_here_22 : decode cX12_here 22 = .ok (.iadd, 1) := by decide +kernel
theorem dX12_here_23 : decode cX12_here 23 = .ok (.iaload, 1) := by decide +kernel
theorem dX12_here_24 : decode cX12_here 24 = .ok (.goto 4, 3) := by decide +kernel
theorem dX12_here_27 : decode cX12_here 27 = .ok (.iconst (-1), 1) := by decide +kernel
theorem dX12_here_28 : decode cX12_here 28 = .ok (.ireturn, 1) := by decide +kernel
theorem dX12_must_0 : decode cX12_must 0 = .ok (.aload_n 0, 1) := by decide +kernel
theorem dX12_must_1 : decode cX12_must 1 = .ok (.aload_n 0, 1) := by decide +kernel
theorem dX12_must_2 : decode cX12_must 2 = .ok (.getfield 48, 3) := by decide +kernel
theorem dX12_must_5 : decode cX12_must 5 = .ok (.ifCond .ne 11, 3) := by decide +kernel
theorem dX12_must_8 : decode cX12_must 8 = .ok (.aload_n 0, 1) := by decide +kernel
theorem dX12_must_9 : decode cX12_must 9 = .ok (.invokevirtual 52, 3) := by decide +kernel
theorem dX12_must_12 : decode cX12_must 12 = .ok (.iload_n 1, 1) := by decide +kernel
theorem dX12_must_13 : decode cX12_must 13 = .ok (.if_icmp .eq 7, 3) := by decide +kernel
theorem dX12_must_16 : decode cX12_must 16 = .ok (.iconst 1, 1) := by decide +kernel
theorem dX12_must_17 : decode cX12_must 17 = .ok (.goto 4, 3) := by decide +kernel
theorem dX12_must_20 : decode cX12_must 20 = .ok (.iconst 0, 1) := by decide +kernel
theorem dX12_must_21 : decode cX12_must 21 = .ok (.putfield 48, 3) := by decide +kernel
theorem dX12_must_24 : decode cX12_must 24 = .ok (.aload_n 0, 1) := by decide +kernel
theorem dX12_must_25 : decode cX12_must 25 = .ok (.dup, 1) := by decide +kernel
theorem dX12_must_26 : decode cX12_must 26 = .ok (.getfield 42, 3) := by decide +kernel
theorem dX12_must_29 : decode cX12_must 29 = .ok (.aload_n 0, 1) := by decide +kernel
theorem dX12_must_30 : decode cX12_must 30 = .ok (.getfield 48, 3) := by decide +kernel
theorem dX12_must_33 : decode cX12_must 33 = .ok (.ifCond .eq 7, 3) := by decide +kernel
theorem dX12_must_36 : decode cX12_must 36 = .ok (.iconst 0, 1) := by decide +kernel
theorem dX12_must_37 : decode cX12_must 37 = .ok (.goto 4, 3) := by decide +kernel
theorem dX12_must_40 : decode cX12_must 40 = .ok (.iconst 1, 1) := by decide +kernel
theorem dX12_must_41 : decode cX12_must 41 = .ok (.iadd, 1) := by decide +kernel
theorem dX12_must_42 : decode cX12_must 42 = .ok (.putfield 42, 3) := by decide +kernel
theorem dX12_must_45 : decode cX12_must 45 = .ok (.return_, 1) := by decide +kernel
theorem dX12_spells_0 : decode cX12_spells 0 = .ok (.iconst 0, 1) := by decide +kernel
theorem dX12_spells_1 : decode cX12_spells 1 = .ok (.istore_n 2, 1) := by decide +kernel
theorem dX12_spells_2 : decode cX12_spells 2 = .ok (.iload_n 2, 1) := by decide +kernel
theorem dX12_spells_3 : decode cX12_spells 3 = .ok (.aload_n 1, 1) := by decide +kernel
theorem dX12_spells_4 : decode cX12_spells 4 = .ok (.invokevirtual 56, 3) := by decide +kernel
theorem dX12_spells_7 : decode cX12_spells 7 = .ok (.if_icmp .ge 18, 3) := by decide +kernel
theorem dX12_spells_10 : decode cX12_spells 10 = .ok (.aload_n 0, 1) := by decide +kernel
theorem dX12_spells_11 : decode cX12_spells 11 = .ok (.aload_n 1, 1) := by decide +kernel
theorem dX12_spells_12 : decode cX12_spells 12 = .ok (.iload_n 2, 1) := by decide +kernel
theorem dX12_spells_13 : decode cX12_spells 13 = .ok (.invokevirtual 61, 3) := by decide +kernel
theorem dX12_spells_16 : decode cX12_spells 16 = .ok (.invokevirtual 65, 3) := by decide +kernel
theorem dX12_spells_19 : decode cX12_spells 19 = .ok (.iinc 2 1, 3) := by decide +kernel
theorem dX12_spells_22 : decode cX12_spells 22 = .ok (.goto (-20), 3) := by decide +kernel
theorem dX12_spells_25 : decode cX12_spells 25 = .ok (.return_, 1) := by decide +kernel
theorem dX12_figures_0 : decode cX12_figures 0 = .ok (.aload_n 0, 1) := by decide +kernel
theorem dX12_figures_1 : decode cX12_figures 1 = .ok (.aload_n 0, 1) := by decide +kernel
theorem dX12_figures_2 : decode cX12_figures 2 = .ok (.getfield 48, 3) := by decide +kernel
theorem dX12_figures_5 : decode cX12_figures 5 = .ok (.ifCond .ne 17, 3) := by decide +kernel
theorem dX12_figures_8 : decode cX12_figures 8 = .ok (.aload_n 0, 1) := by decide +kernel
theorem dX12_figures_9 : decode cX12_figures 9 = .ok (.invokevirtual 52, 3) := by decide +kernel
theorem dX12_figures_12 : decode cX12_figures 12 = .ok (.bipush 48, 2) := by decide +kernel
theorem dX12_figures_14 : decode cX12_figures 14 = .ok (.bipush 57, 2) := by decide +kernel
theorem dX12_figures_16 : decode cX12_figures 16 = .ok (.invokestatic 38, 3) := by decide +kernel
theorem dX12_figures_19 : decode cX12_figures 19 = .ok (.ifCond .ne 7, 3) := by decide +kernel
theorem dX12_figures_22 : decode cX12_figures 22 = .ok (.iconst 1, 1) := by decide +kernel
theorem dX12_figures_23 : decode cX12_figures 23 = .ok (.goto 4, 3) := by decide +kernel
theorem dX12_figures_26 : decode cX12_figures 26 = .ok (.iconst 0, 1) := by decide +kernel
theorem dX12_figures_27 : decode cX12_figures 27 = .ok (.putfield 48, 3) := by decide +kernel
theorem dX12_figures_30 : decode cX12_figures 30 = .ok (.iconst 0, 1) := by decide +kernel
theorem dX12_figures_31 : decode cX12_figures 31 = .ok (.istore_n 1, 1) := by decide +kernel
theorem dX12_figures_32 : decode cX12_figures 32 = .ok (.iconst 0, 1) := by decide +kernel
theorem dX12_figures_33 : decode cX12_figures 33 = .ok (.istore_n 2, 1) := by decide +kernel
theorem dX12_figures_34 : decode cX12_figures 34 = .ok (.iload_n 2, 1) := by decide +kernel
theorem dX12_figures_35 : decode cX12_figures 35 = .ok (.iconst 2, 1) := by decide +kernel
theorem dX12_figures_36 : decode cX12_figures 36 = .ok (.if_icmp .ge 61, 3) := by decide +kernel
theorem dX12_figures_39 : decode cX12_figures 39 = .ok (.aload_n 0, 1) := by decide +kernel
theorem dX12_figures_40 : decode cX12_figures 40 = .ok (.getfield 48, 3) := by decide +kernel
theorem dX12_figures_43 : decode cX12_figures 43 = .ok (.ifCond .ne 54, 3) := by decide +kernel
theorem dX12_figures_46 : decode cX12_figures 46 = .ok (.aload_n 0, 1) := by decide +kernel
theorem dX12_figures_47 : decode cX12_figures 47 = .ok (.invokevirtual 52, 3) := by decide +kernel
theorem dX12_figures_50 : decode cX12_figures 50 = .ok (.bipush 48, 2) := by decide +kernel
theorem dX12_figures_52 : decode cX12_figures 52 = .ok (.bipush 57, 2) := by decide +kernel
theorem dX12_figures_54 : decode cX12_figures 54 = .ok (.invokestatic 38, 3) := by decide +kernel
theorem dX12_figures_57 : decode cX12_figures 57 = .ok (.ifCond .eq 40, 3) := by decide +kernel
theorem dX12_figures_60 : decode cX12_figures 60 = .ok (.iload_n 2, 1) := by decide +kernel
theorem dX12_figures_61 : decode cX12_figures 61 = .ok (.ifCond .eq 7, 3) := by decide +kernel
theorem dX12_figures_64 : decode cX12_figures 64 = .ok (.iload_n 1, 1) := by decide +kernel
theorem dX12_figures_65 : decode cX12_figures 65 = .ok (.ifCond .le 32, 3) := by decide +kernel
theorem dX12_figures_68 : decode cX12_figures 68 = .ok (.bipush 10, 2) := by decide +kernel
theorem dX12_figures_70 : decode cX12_figures 70 = .ok (.iload_n 1, 1) := by decide +kernel
theorem dX12_figures_71 : decode cX12_figures 71 = .ok (.imul, 1) := by decide +kernel
theorem dX12_figures_72 : decode cX12_figures 72 = .ok (.aload_n 0, 1) := by decide +kernel
theorem dX12_figures_73 : decode cX12_figures 73 = .ok (.invokevirtual 52, 3) := by decide +kernel
theorem dX12_figures_76 : decode cX12_figures 76 = .ok (.iadd, 1) := by decide +kernel
theorem dX12_figures_77 : decode cX12_figures 77 = .ok (.bipush 48, 2) := by decide +kernel
theorem dX12_figures_79 : decode cX12_figures 79 = .ok (.isub, 1) := by decide +kernel
theorem dX12_figures_80 : decode cX12_figures 80 = .ok (.istore_n 1, 1) := by decide +kernel
theorem dX12_figures_81 : decode cX12_figures 81 = .ok (.aload_n 0, 1) := by decide +kernel
theorem dX12_figures_82 : decode cX12_figures 82 = .ok (.dup, 1) := by decide +kernel
theorem dX12_figures_83 : decode cX12_figures 83 = .ok (.getfield 42, 3) := by decide +kernel
theorem dX12_figures_86 : decode cX12_figures 86 = .ok (.iconst 1, 1) := by decide +kernel
theorem dX12_figures_87 : decode cX12_figures 87 = .ok (.iadd, 1) := by decide +kernel
theorem dX12_figures_88 : decode cX12_figures 88 = .ok (.putfield 42, 3) := by decide +kernel
theorem dX12_figures_91 : decode cX12_figures 91 = .ok (.iinc 2 1, 3) := by decide +kernel
theorem dX12_figures_94 : decode cX12_figures 94 = .ok (.goto (-60), 3) := by decide +kernel
theorem dX12_figures_97 : decode cX12_figures 97 = .ok (.iload_n 1, 1) := by decide +kernel
theorem dX12_figures_98 : decode cX12_figures 98 = .ok (.ireturn, 1) := by decide +kernel
theorem dX12_among_0 : decode cX12_among 0 = .ok (.iconst 0, 1) := by decide +kernel
theorem dX12_among_1 : decode cX12_among 1 = .ok (.istore_n 2, 1) := by decide +kernel
theorem dX12_among_2 : decode cX12_among 2 = .ok (.iload_n 2, 1) := by decide +kernel
theorem dX12_among_3 : decode cX12_among 3 = .ok (.aload_n 1, 1) := by decide +kernel
theorem dX12_among_4 : decode cX12_among 4 = .ok (.invokevirtual 56, 3) := by decide +kernel
theorem dX12_among_7 : decode cX12_among 7 = .ok (.if_icmp .ge 33, 3) := by decide +kernel
theorem dX12_among_10 : decode cX12_among 10 = .ok (.aload_n 0, 1) := by decide +kernel
theorem dX12_among_11 : decode cX12_among 11 = .ok (.invokevirtual 52, 3) := by decide +kernel
theorem dX12_among_14 : decode cX12_among 14 = .ok (.aload_n 1, 1) := by decide +kernel
theorem dX12_among_15 : decode cX12_among 15 = .ok (.iload_n 2, 1) := by decide +kernel
theorem dX12_among_16 : decode cX12_among 16 = .ok (.invokevirtual 61, 3) := by decide +kernel
theorem dX12_among_19 : decode cX12_among 19 = .ok (.if_icmp .ne 15, 3) := by decide +kernel
theorem dX12_among_22 : decode cX12_among 22 = .ok (.aload_n 0, 1) := by decide +kernel
theorem dX12_among_23 : decode cX12_among 23 = .ok (.dup, 1) := by decide +kernel
theorem dX12_among_24 : decode cX12_among 24 = .ok (.getfield 42, 3) := by decide +kernel
theorem dX12_among_27 : decode cX12_among 27 = .ok (.iconst 1, 1) := by decide +kernel
theorem dX12_among_28 : decode cX12_among 28 = .ok (.iadd, 1) := by decide +kernel
theorem dX12_among_29 : decode cX12_among 29 = .ok (.putfield 42, 3) := by decide +kernel
theorem dX12_among_32 : decode cX12_among 32 = .ok (.iload_n 2, 1) := by decide +kernel
theorem dX12_among_33 : decode cX12_among 33 = .ok (.ireturn, 1) := by decide +kernel
theorem dX12_among_34 : decode cX12_among 34 = .ok (.iinc 2 1, 3) := by decide +kernel
theorem dX12_among_37 : decode cX12_among 37 = .ok (.goto (-35), 3) := by decide +kernel
theorem dX12_among_40 : decode cX12_among 40 = .ok (.iconst (-1), 1) := by decide +kernel
theorem dX12_among_41 : decode cX12_among 41 = .ok (.ireturn, 1) := by decide +kernel
theorem dX12_emits_0 : decode cX12_emits 0 = .ok (.aload_n 0, 1) := by decide +kernel
theorem dX12_emits_1 : decode cX12_emits 1 = .ok (.getfield 48, 3) := by decide +kernel
theorem dX12_emits_4 : decode cX12_emits 4 = .ok (.ifCond .ne 52, 3) := by decide +kernel
theorem dX12_emits_7 : decode cX12_emits 7 = .ok (.aload_n 0, 1) := by decide +kernel
theorem dX12_emits_8 : decode cX12_emits 8 = .ok (.getfield 9, 3) := by decide +kernel
theorem dX12_emits_11 : decode cX12_emits 11 = .ok (.sipush 248, 3) := by decide +kernel
theorem dX12_emits_14 : decode cX12_emits 14 = .ok (.sipush 140, 3) := by decide +kernel
theorem dX12_emits_17 : decode cX12_emits 17 = .ok (.aload_n 0, 1) := by decide +kernel
theorem dX12_emits_18 : decode cX12_emits 18 = .ok (.getfield 69, 3) := by decide +kernel
theorem dX12_emits_21 : decode cX12_emits 21 = .ok (.imul, 1) := by decide +kernel
theorem dX12_emits_22 : decode cX12_emits 22 = .ok (.iadd, 1) := by decide +kernel
theorem dX12_emits_23 : decode cX12_emits 23 = .ok (.aload_n 0, 1) := by decide +kernel
theorem dX12_emits_24 : decode cX12_emits 24 = .ok (.getfield 9, 3) := by decide +kernel
theorem dX12_emits_27 : decode cX12_emits 27 = .ok (.sipush 243, 3) := by decide +kernel
theorem dX12_emits_30 : decode cX12_emits 30 = .ok (.aload_n 0, 1) := by decide +kernel
theorem dX12_emits_31 : decode cX12_emits 31 = .ok (.getfield 69, 3) := by decide +kernel
theorem dX12_emits_34 : decode cX12_emits 34 = .ok (.iadd, 1) := by decide +kernel
theorem dX12_emits_35 : decode cX12_emits 35 = .ok (.iaload, 1) := by decide +kernel
theorem dX12_emits_36 : decode cX12_emits 36 = .ok (.iadd, 1) := by decide +kernel
theorem dX12_emits_37 : decode cX12_emits 37 = .ok (.iload_n 1, 1) := by decide +kernel
theorem dX12_emits_38 : decode cX12_emits 38 = .ok (.iastore, 1) := by decide +kernel
theorem dX12_emits_39 : decode cX12_emits 39 = .ok (.aload_n 0, 1) := by decide +kernel
theorem dX12_emits_40 : decode cX12_emits 40 = .ok (.getfield 9, 3) := by decide +kernel
theorem dX12_emits_43 : decode cX12_emits 43 = .ok (.sipush 243, 3) := by decide +kernel
theorem dX12_emits_46 : decode cX12_emits 46 = .ok (.aload_n 0, 1) := by decide +kernel
theorem dX12_emits_47 : decode cX12_emits 47 = .ok (.getfield 69, 3) := by decide +kernel
theorem dX12_emits_50 : decode cX12_emits 50 = .ok (.iadd, 1) := by decide +kernel
theorem dX12_emits_51 : decode cX12_emits 51 = .ok (.dup2, 1) := by decide +kernel
theorem dX12_emits_52 : decode cX12_emits 52 = .ok (.iaload, 1) := by decide +kernel
theorem dX12_emits_53 : decode cX12_emits 53 = .ok (.iconst 1, 1) := by decide +kernel
theorem dX12_emits_54 : decode cX12_emits 54 = .ok (.iadd, 1) := by decide +kernel
theorem dX12_emits_55 : decode cX12_emits 55 = .ok (.iastore, 1) := by decide +kernel
theorem dX12_emits_56 : decode cX12_emits 56 = .ok (.return_, 1) := by decide +kernel
theorem dX12_factor_0 : decode cX12_factor 0 = .ok (.aload_n 0, 1) := by decide +kernel
theorem dX12_factor_1 : decode cX12_factor 1 = .ok (.getfield 48, 3) := by decide +kernel
theorem dX12_factor_4 : decode cX12_factor 4 = .ok (.ifCond .eq 4, 3) := by decide +kernel
theorem dX12_factor_7 : decode cX12_factor 7 = .ok (.return_, 1) := by decide +kernel
theorem dX12_factor_8 : decode cX12_factor 8 = .ok (.aload_n 0, 1) := by decide +kernel
theorem dX12_factor_9 : decode cX12_factor 9 = .ok (.invokevirtual 52, 3) := by decide +kernel
theorem dX12_factor_12 : decode cX12_factor 12 = .ok (.istore_n 1, 1) := by decide +kernel
theorem dX12_factor_13 : decode cX12_factor 13 = .ok (.iload_n 1, 1) := by decide +kernel
theorem dX12_factor_14 : decode cX12_factor 14 = .ok (.bipush 33, 2) := by decide +kernel
theorem dX12_factor_16 : decode cX12_factor 16 = .ok (.if_icmp .eq 9, 3) := by decide +kernel
theorem dX12_factor_19 : decode cX12_factor 19 = .ok (.iload_n 1, 1) := by decide +kernel
theorem dX12_factor_20 : decode cX12_factor 20 = .ok (.bipush 40, 2) := by decide +kernel
theorem dX12_factor_22 : decode cX12_factor 22 = .ok (.if_icmp .ne 90, 3) := by decide +kernel
theorem dX12_factor_25 : decode cX12_factor 25 = .ok (.aload_n 0, 1) := by decide +kernel
theorem dX12_factor_26 : decode cX12_factor 26 = .ok (.aload_n 0, 1) := by decide +kernel
theorem dX12_factor_27 : decode cX12_factor 27 = .ok (.getfield 72, 3) := by decide +kernel
theorem dX12_factor_30 : decode cX12_factor 30 = .ok (.iconst 5, 1) := by decide +kernel
theorem dX12_factor_31 : decode cX12_factor 31 = .ok (.if_icmp .ne 7, 3) := by decide +kernel
theorem dX12_factor_34 : decode cX12_factor 34 = .ok (.iconst 1, 1) := by decide +kernel
theorem dX12_factor_35 : decode cX12_factor 35 = .ok (.goto 4, 3) := by decide +kernel
theorem dX12_factor_38 : decode cX12_factor 38 = .ok (.iconst 0, 1) := by decide +kernel
theorem dX12_factor_39 : decode cX12_factor 39 = .ok (.putfield 48, 3) := by decide +kernel
theorem dX12_factor_42 : decode cX12_factor 42 = .ok (.aload_n 0, 1) := by decide +kernel
theorem dX12_factor_43 : decode cX12_factor 43 = .ok (.dup, 1) := by decide +kernel
theorem dX12_factor_44 : decode cX12_factor 44 = .ok (.getfield 72, 3) := by decide +kernel
theorem dX12_factor_47 : decode cX12_factor 47 = .ok (.iconst 1, 1) := by decide +kernel
theorem dX12_factor_48 : decode cX12_factor 48 = .ok (.iadd, 1) := by decide +kernel
theorem dX12_factor_49 : decode cX12_factor 49 = .ok (.putfield 72, 3) := by decide +kernel
theorem dX12_factor_52 : decode cX12_factor 52 = .ok (.aload_n 0, 1) := by decide +kernel
theorem dX12_factor_53 : decode cX12_factor 53 = .ok (.dup, 1) := by decide +kernel
theorem dX12_factor_54 : decode cX12_factor 54 = .ok (.getfield 42, 3) := by decide +kernel
theorem dX12_factor_57 : decode cX12_factor 57 = .ok (.aload_n 0, 1) := by decide +kernel
theorem dX12_factor_58 : decode cX12_factor 58 = .ok (.getfield 48, 3) := by decide +kernel
theorem dX12_factor_61 : decode cX12_factor 61 = .ok (.ifCond .eq 7, 3) := by decide +kernel
theorem dX12_factor_64 : decode cX12_factor 64 = .ok (.iconst 0, 1) := by decide +kernel
theorem dX12_factor_65 : decode cX12_factor 65 = .ok (.goto 4, 3) := by decide +kernel
theorem dX12_factor_68 : decode cX12_factor 68 = .ok (.iconst 1, 1) := by decide +kernel
theorem dX12_factor_69 : decode cX12_factor 69 = .ok (.iadd, 1) := by decide +kernel
theorem dX12_factor_70 : decode cX12_factor 70 = .ok (.putfield 42, 3) := by decide +kernel
theorem dX12_factor_73 : decode cX12_factor 73 = .ok (.iload_n 1, 1) := by decide +kernel
theorem dX12_factor_74 : decode cX12_factor 74 = .ok (.bipush 33, 2) := by decide +kernel
theorem dX12_factor_76 : decode cX12_factor 76 = .ok (.if_icmp .ne 15, 3) := by decide +kernel
theorem dX12_factor_79 : decode cX12_factor 79 = .ok (.aload_n 0, 1) := by decide +kernel
theorem dX12_factor_80 : decode cX12_factor 80 = .ok (.invokevirtual 75, 3) := by decide +kernel
theorem dX12_factor_83 : decode cX12_factor 83 = .ok (.aload_n 0, 1) := by decide +kernel
theorem dX12_factor_84 : decode cX12_factor 84 = .ok (.iconst (-1), 1) := by decide +kernel
theorem dX12_factor_85 : decode cX12_factor 85 = .ok (.invokevirtual 78, 3) := by decide +kernel
theorem dX12_factor_88 : decode cX12_factor 88 = .ok (.goto 13, 3) := by decide +kernel
theorem dX12_factor_91 : decode cX12_factor 91 = .ok (.aload_n 0, 1) := by decide +kernel
theorem dX12_factor_92 : decode cX12_factor 92 = .ok (.invokevirtual 81, 3) := by decide +kernel
theorem dX12_factor_95 : decode cX12_factor 95 = .ok (.aload_n 0, 1) := by decide +kernel
theorem dX12_factor_96 : decode cX12_factor 96 = .ok (.bipush 41, 2) := by decide +kernel
theorem dX12_factor_98 : decode cX12_factor 98 = .ok (.invokevirtual 65, 3) := by decide +kernel
theorem dX12_factor_101 : decode cX12_factor 101 = .ok (.aload_n 0, 1) := by decide +kernel
theorem dX12_factor_102 : decode cX12_factor 102 = .ok (.dup, 1) := by decide +kernel
theorem dX12_factor_103 : decode cX12_factor 103 = .ok (.getfield 72, 3) := by decide +kernel
theorem dX12_factor_106 : decode cX12_factor 106 = .ok (.iconst 1, 1) := by decide +kernel
theorem dX12_factor_107 : decode cX12_factor 107 = .ok (.isub, 1) := by decide +kernel
theorem dX12_factor_108 : decode cX12_factor 108 = .ok (.putfield 72, 3) := by decide +kernel
theorem dX12_factor_111 : decode cX12_factor 111 = .ok (.return_, 1) := by decide +kernel
theorem dX12_factor_112 : decode cX12_factor 112 = .ok (.aload_n 0, 1) := by decide +kernel
theorem dX12_factor_113 : decode cX12_factor 113 = .ok (.ldc 84, 2) := by decide +kernel
theorem dX12_factor_115 : decode cX12_factor 115 = .ok (.invokevirtual 86, 3) := by decide +kernel
theorem dX12_factor_118 : decode cX12_factor 118 = .ok (.istore_n 2, 1) := by decide +kernel
theorem dX12_factor_119 : decode cX12_factor 119 = .ok (.aload_n 0, 1) := by decide +kernel
theorem dX12_factor_120 : decode cX12_factor 120 = .ok (.iload_n 2, 1) := by decide +kernel
theorem dX12_factor_121 : decode cX12_factor 121 = .ok (.iconst (-1), 1) := by decide +kernel
theorem dX12_factor_122 : decode cX12_factor 122 = .ok (.if_icmp .ne 7, 3) := by decide +kernel
theorem dX12_factor_125 : decode cX12_factor 125 = .ok (.iconst 1, 1) := by decide +kernel
theorem dX12_factor_126 : decode cX12_factor 126 = .ok (.goto 4, 3) := by decide +kernel
theorem dX12_factor_129 : decode cX12_factor 129 = .ok (.iconst 0, 1) := by decide +kernel
theorem dX12_factor_130 : decode cX12_factor 130 = .ok (.putfield 48, 3) := by decide +kernel
theorem dX12_factor_133 : decode cX12_factor 133 = .ok (.aload_n 0, 1) := by decide +kernel
theorem dX12_factor_134 : decode cX12_factor 134 = .ok (.getfield 48, 3) := by decide +kernel
theorem dX12_factor_137 : decode cX12_factor 137 = .ok (.ifCond .eq 7, 3) := by decide +kernel
theorem dX12_factor_140 : decode cX12_factor 140 = .ok (.iconst 0, 1) := by decide +kernel
theorem dX12_factor_141 : decode cX12_factor 141 = .ok (.goto 9, 3) := by decide +kernel
theorem dX12_factor_144 : decode cX12_factor 144 = .ok (.aload_n 0, 1) := by decide +kernel
theorem dX12_factor_145 : decode cX12_factor 145 = .ok (.ldc 90, 2) := by decide +kernel
theorem dX12_factor_147 : decode cX12_factor 147 = .ok (.invokevirtual 86, 3) := by decide +kernel
theorem dX12_factor_150 : decode cX12_factor 150 = .ok (.istore_n 3, 1) := by decide +kernel
theorem dX12_factor_151 : decode cX12_factor 151 = .ok (.aload_n 0, 1) := by decide +kernel
theorem dX12_factor_152 : decode cX12_factor 152 = .ok (.aload_n 0, 1) := by decide +kernel
theorem dX12_factor_153 : decode cX12_factor 153 = .ok (.getfield 48, 3) := by decide +kernel
theorem dX12_factor_156 : decode cX12_factor 156 = .ok (.ifCond .ne 8, 3) := by decide +kernel
theorem dX12_factor_159 : decode cX12_factor 159 = .ok (.iload_n 3, 1) := by decide +kernel
theorem dX12_factor_160 : decode cX12_factor 160 = .ok (.iconst (-1), 1) := by decide +kernel
theorem dX12_factor_161 : decode cX12_factor 161 = .ok (.if_icmp .ne 7, 3) := by decide +kernel
theorem dX12_factor_164 : decode cX12_factor 164 = .ok (.iconst 1, 1) := by decide +kernel
theorem dX12_factor_165 : decode cX12_factor 165 = .ok (.goto 4, 3) := by decide +kernel
theorem dX12_factor_168 : decode cX12_factor 168 = .ok (.iconst 0, 1) := by decide +kernel
theorem dX12_factor_169 : decode cX12_factor 169 = .ok (.putfield 48, 3) := by decide +kernel
theorem dX12_factor_172 : decode cX12_factor 172 = .ok (.aload_n 0, 1) := by decide +kernel
theorem dX12_factor_173 : decode cX12_factor 173 = .ok (.invokevirtual 92, 3) := by decide +kernel
theorem dX12_factor_176 : decode cX12_factor 176 = .ok (.istore 4, 2) := by decide +kernel
theorem dX12_factor_178 : decode cX12_factor 178 = .ok (.aload_n 0, 1) := by decide +kernel
theorem dX12_factor_179 : decode cX12_factor 179 = .ok (.iload_n 2, 1) := by decide +kernel
theorem dX12_factor_180 : decode cX12_factor 180 = .ok (.bipush 8, 2) := by decide +kernel
theorem dX12_factor_182 : decode cX12_factor 182 = .ok (.iload_n 3, 1) := by decide +kernel
theorem dX12_factor_183 : decode cX12_factor 183 = .ok (.imul, 1) := by decide +kernel
theorem dX12_factor_184 : decode cX12_factor 184 = .ok (.iadd, 1) := by decide +kernel
theorem dX12_factor_185 : decode cX12_factor 185 = .ok (.bipush 32, 2) := by decide +kernel
theorem dX12_factor_187 : decode cX12_factor 187 = .ok (.iload 4, 2) := by decide +kernel
theorem dX12_factor_189 : decode cX12_factor 189 = .ok (.imul, 1) := by decide +kernel
theorem dX12_factor_190 : decode cX12_factor 190 = .ok (.iadd, 1) := by decide +kernel
theorem dX12_factor_191 : decode cX12_factor 191 = .ok (.invokevirtual 78, 3) := by decide +kernel
theorem dX12_factor_194 : decode cX12_factor 194 = .ok (.return_, 1) := by decide +kernel
theorem dX12_every_0 : decode cX12_every 0 = .ok (.aload_n 0, 1) := by decide +kernel
theorem dX12_every_1 : decode cX12_every 1 = .ok (.invokevirtual 75, 3) := by decide +kernel
theorem dX12_every_4 : decode cX12_every 4 = .ok (.aload_n 0, 1) := by decide +kernel
theorem dX12_every_5 : decode cX12_every 5 = .ok (.getfield 48, 3) := by decide +kernel
theorem dX12_every_8 : decode cX12_every 8 = .ok (.ifCond .ne 35, 3) := by decide +kernel
theorem dX12_every_11 : decode cX12_every 11 = .ok (.aload_n 0, 1) := by decide +kernel
theorem dX12_every_12 : decode cX12_every 12 = .ok (.invokevirtual 52, 3) := by decide +kernel
theorem dX12_every_15 : decode cX12_every 15 = .ok (.bipush 38, 2) := by decide +kernel
theorem dX12_every_17 : decode cX12_every 17 = .ok (.if_icmp .ne 26, 3) := by decide +kernel
theorem dX12_every_20 : decode cX12_every 20 = .ok (.aload_n 0, 1) := by decide +kernel
theorem dX12_every_21 : decode cX12_every 21 = .ok (.dup, 1) := by decide +kernel
theorem dX12_every_22 : decode cX12_every 22 = .ok (.getfield 42, 3) := by decide +kernel
theorem dX12_every_25 : decode cX12_every 25 = .ok (.iconst 1, 1) := by decide +kernel
theorem dX12_every_26 : decode cX12_every 26 = .ok (.iadd, 1) := by decide +kernel
theorem dX12_every_27 : decode cX12_every 27 = .ok (.putfield 42, 3) := by decide +kernel
theorem dX12_every_30 : decode cX12_every 30 = .ok (.aload_n 0, 1) := by decide +kernel
theorem dX12_every_31 : decode cX12_every 31 = .ok (.invokevirtual 75, 3) := by decide +kernel
theorem dX12_every_34 : decode cX12_every 34 = .ok (.aload_n 0, 1) := by decide +kernel
theorem dX12_every_35 : decode cX12_every 35 = .ok (.bipush (-2), 2) := by decide +kernel
