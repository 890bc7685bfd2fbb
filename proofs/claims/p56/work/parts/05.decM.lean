theorem dX11_init_0 : decode cX11_init 0 = .ok (.aload_n 0, 1) := by decide +kernel
theorem dX11_init_1 : decode cX11_init 1 = .ok (.invokespecial 1, 3) := by decide +kernel
theorem dX11_init_4 : decode cX11_init 4 = .ok (.aload_n 0, 1) := by decide +kernel
theorem dX11_init_5 : decode cX11_init 5 = .ok (.new 7, 3) := by decide +kernel
theorem dX11_init_8 : decode cX11_init 8 = .ok (.dup, 1) := by decide +kernel
theorem dX11_init_9 : decode cX11_init 9 = .ok (.invokespecial 9, 3) := by decide +kernel
theorem dX11_init_12 : decode cX11_init 12 = .ok (.putfield 10, 3) := by decide +kernel
theorem dX11_init_15 : decode cX11_init 15 = .ok (.aload_n 0, 1) := by decide +kernel
theorem dX11_init_16 : decode cX11_init 16 = .ok (.new 16, 3) := by decide +kernel
theorem dX11_init_19 : decode cX11_init 19 = .ok (.dup, 1) := by decide +kernel
theorem dX11_init_20 : decode cX11_init 20 = .ok (.aload_n 0, 1) := by decide +kernel
theorem dX11_init_21 : decode cX11_init 21 = .ok (.getfield 10, 3) := by decide +kernel
theorem dX11_init_24 : decode cX11_init 24 = .ok (.invokespecial 18, 3) := by decide +kernel
theorem dX11_init_27 : decode cX11_init 27 = .ok (.putfield 21, 3) := by decide +kernel
theorem dX11_init_30 : decode cX11_init 30 = .ok (.aload_n 0, 1) := by decide +kernel
theorem dX11_init_31 : decode cX11_init 31 = .ok (.new 25, 3) := by decide +kernel
theorem dX11_init_34 : decode cX11_init 34 = .ok (.dup, 1) := by decide +kernel
theorem dX11_init_35 : decode cX11_init 35 = .ok (.aload_n 0, 1) := by decide +kernel
theorem dX11_init_36 : decode cX11_init 36 = .ok (.getfield 10, 3) := by decide +kernel
theorem dX11_init_39 : decode cX11_init 39 = .ok (.invokespecial 27, 3) := by decide +kernel
theorem dX11_init_42 : decode cX11_init 42 = .ok (.putfield 28, 3) := by decide +kernel
theorem dX11_init_45 : decode cX11_init 45 = .ok (.aload_n 0, 1) := by decide +kernel
theorem dX11_init_46 : decode cX11_init 46 = .ok (.new 32, 3) := by decide +kernel
theorem dX11_init_49 : decode cX11_init 49 = .ok (.dup, 1) := by decide +kernel
theorem dX11_init_50 : decode cX11_init 50 = .ok (.invokespecial 34, 3) := by decide +kernel
theorem dX11_init_53 : decode cX11_init 53 = .ok (.putfield 35, 3) := by decide +kernel
theorem dX11_init_56 : decode cX11_init 56 = .ok (.aload_n 0, 1) := by decide +kernel
theorem dX11_init_57 : decode cX11_init 57 = .ok (.new 39, 3) := by decide +kernel
theorem dX11_init_60 : decode cX11_init 60 = .ok (.dup, 1) := by decide +kernel
theorem dX11_init_61 : decode cX11_init 61 = .ok (.invokespecial 41, 3) := by decide +kernel
theorem dX11_init_64 : decode cX11_init 64 = .ok (.putfield 42, 3) := by decide +kernel
theorem dX11_init_67 : decode cX11_init 67 = .ok (.aload_n 0, 1) := by decide +kernel
theorem dX11_init_68 : decode cX11_init 68 = .ok (.new 46, 3) := by decide +kernel
theorem dX11_init_71 : decode cX11_init 71 = .ok (.dup, 1) := by decide +kernel
theorem dX11_init_72 : decode cX11_init 72 = .ok (.invokespecial 48, 3) := by decide +kernel
theorem dX11_init_75 : decode cX11_init 75 = .ok (.putfield 49, 3) := by decide +kernel
theorem dX11_init_78 : decode cX11_init 78 = .ok (.aload_n 0, 1) := by decide +kernel
theorem dX11_init_79 : decode cX11_init 79 = .ok (.new 46, 3) := by decide +kernel
theorem dX11_init_82 : decode cX11_init 82 = .ok (.dup, 1) := by decide +kernel
theorem dX11_init_83 : decode cX11_init 83 = .ok (.invokespecial 48, 3) := by decide +kernel
theorem dX11_init_86 : decode cX11_init 86 = .ok (.putfield 53, 3) := by decide +kernel
theorem dX11_init_89 : decode cX11_init 89 = .ok (.aload_n 0, 1) := by decide +kernel
theorem dX11_init_90 : decode cX11_init 90 = .ok (.new 46, 3) := by decide +kernel
theorem dX11_init_93 : decode cX11_init 93 = .ok (.dup, 1) := by decide +kernel
theorem dX11_init_94 : decode cX11_init 94 = .ok (.invokespecial 48, 3) := by decide +kernel
theorem dX11_init_97 : decode cX11_init 97 = .ok (.putfield 56, 3) := by decide +kernel
theorem dX11_init_100 : decode cX11_init 100 = .ok (.aload_n 0, 1) := by decide +kernel
theorem dX11_init_101 : decode cX11_init 101 = .ok (.new 59, 3) := by decide +kernel
theorem dX11_init_104 : decode cX11_init 104 = .ok (.dup, 1) := by decide +kernel
theorem dX11_init_105 : decode cX11_init 105 = .ok (.aload_n 0, 1) := by decide +kernel
theorem dX11_init_106 : decode cX11_init 106 = .ok (.getfield 10, 3) := by decide +kernel
theorem dX11_init_109 : decode cX11_init 109 = .ok (.aload_n 0, 1) := by decide +kernel
theorem dX11_init_110 : decode cX11_init 110 = .ok (.getfield 21, 3) := by decide +kernel
theorem dX11_init_113 : decode cX11_init 113 = .ok (.aload_n 0, 1) := by decide +kernel
theorem dX11_init_114 : decode cX11_init 114 = .ok (.getfield 49, 3) := by decide +kernel
theorem dX11_init_117 : decode cX11_init 117 = .ok (.invokespecial 61, 3) := by decide +kernel
theorem dX11_init_120 : decode cX11_init 120 = .ok (.putfield 64, 3) := by decide +kernel
theorem dX11_init_123 : decode cX11_init 123 = .ok (.aload_n 0, 1) := by decide +kernel
theorem dX11_init_124 : decode cX11_init 124 = .ok (.iconst 2, 1) := by decide +kernel
theorem dX11_init_125 : decode cX11_init 125 = .ok (.newarray .int, 2) := by decide +kernel
theorem dX11_init_127 : decode cX11_init 127 = .ok (.putfield 68, 3) := by decide +kernel
theorem dX11_init_130 : decode cX11_init 130 = .ok (.aload_n 0, 1) := by decide +kernel
theorem dX11_init_131 : decode cX11_init 131 = .ok (.bipush 6, 2) := by decide +kernel
theorem dX11_init_133 : decode cX11_init 133 = .ok (.newarray .int, 2) := by decide +kernel
theorem dX11_init_135 : decode cX11_init 135 = .ok (.putfield 72, 3) := by decide +kernel
theorem dX11_init_138 : decode cX11_init 138 = .ok (.aload_n 0, 1) := by decide +kernel
theorem dX11_init_139 : decode cX11_init 139 = .ok (.iconst 0, 1) := by decide +kernel
theorem dX11_init_140 : decode cX11_init 140 = .ok (.putfield 75, 3) := by decide +kernel
theorem dX11_init_143 : decode cX11_init 143 = .ok (.return_, 1) := by decide +kernel
theorem dX11_take_0 : decode cX11_take 0 = .ok (.aload_n 0, 1) := by decide +kernel
theorem dX11_take_1 : decode cX11_take 1 = .ok (.iload_n 1, 1) := by decide +kernel
theorem dX11_take_2 : decode cX11_take 2 = .ok (.invokevirtual 79, 3) := by decide +kernel
theorem dX11_take_5 : decode cX11_take 5 = .ok (.aload_n 0, 1) := by decide +kernel
theorem dX11_take_6 : decode cX11_take 6 = .ok (.getfield 10, 3) := by decide +kernel
theorem dX11_take_9 : decode cX11_take 9 = .ok (.iload_n 1, 1) := by decide +kernel
theorem dX11_take_10 : decode cX11_take 10 = .ok (.bipush 80, 2) := by decide +kernel
theorem dX11_take_12 : decode cX11_take 12 = .ok (.invokevirtual 83, 3) := by decide +kernel
theorem dX11_take_15 : decode cX11_take 15 = .ok (.aload_n 0, 1) := by decide +kernel
theorem dX11_take_16 : decode cX11_take 16 = .ok (.iload_n 1, 1) := by decide +kernel
theorem dX11_take_17 : decode cX11_take 17 = .ok (.invokevirtual 87, 3) := by decide +kernel
theorem dX11_take_20 : decode cX11_take 20 = .ok (.ireturn, 1) := by decide +kernel
theorem dX11_takeSet_0 : decode cX11_takeSet 0 = .ok (.aload_n 0, 1) := by decide +kernel
theorem dX11_takeSet_1 : decode cX11_takeSet 1 = .ok (.iload_n 1, 1) := by decide +kernel
theorem dX11_takeSet_2 : decode cX11_takeSet 2 = .ok (.invokevirtual 91, 3) := by decide +kernel
theorem dX11_takeSet_5 : decode cX11_takeSet 5 = .ok (.iload_n 2, 1) := by decide +kernel
theorem dX11_takeSet_6 : decode cX11_takeSet 6 = .ok (.invokestatic 95, 3) := by decide +kernel
theorem dX11_takeSet_9 : decode cX11_takeSet 9 = .ok (.istore_n 3, 1) := by decide +kernel
theorem dX11_takeSet_10 : decode cX11_takeSet 10 = .ok (.aload_n 0, 1) := by decide +kernel
theorem dX11_takeSet_11 : decode cX11_takeSet 11 = .ok (.getfield 10, 3) := by decide +kernel
theorem dX11_takeSet_14 : decode cX11_takeSet 14 = .ok (.iload_n 3, 1) := by decide +kernel
theorem dX11_takeSet_15 : decode cX11_takeSet 15 = .ok (.bipush 80, 2) := by decide +kernel
theorem dX11_takeSet_17 : decode cX11_takeSet 17 = .ok (.invokevirtual 83, 3) := by decide +kernel
theorem dX11_takeSet_20 : decode cX11_takeSet 20 = .ok (.aload_n 0, 1) := by decide +kernel
theorem dX11_takeSet_21 : decode cX11_takeSet 21 = .ok (.getfield 10, 3) := by decide +kernel
theorem dX11_takeSet_24 : decode cX11_takeSet 24 = .ok (.iload_n 3, 1) := by decide +kernel
theorem dX11_takeSet_25 : decode cX11_takeSet 25 = .ok (.invokevirtual 99, 3) := by decide +kernel
theorem dX11_takeSet_28 : decode cX11_takeSet 28 = .ok (.istore 4, 2) := by decide +kernel
theorem dX11_takeSet_30 : decode cX11_takeSet 30 = .ok (.aload_n 0, 1) := by decide +kernel
theorem dX11_takeSet_31 : decode cX11_takeSet 31 = .ok (.iload 4, 2) := by decide +kernel
theorem dX11_takeSet_33 : decode cX11_takeSet 33 = .ok (.invokevirtual 87, 3) := by decide +kernel
theorem dX11_takeSet_36 : decode cX11_takeSet 36 = .ok (.pop, 1) := by decide +kernel
theorem dX11_takeSet_37 : decode cX11_takeSet 37 = .ok (.iload 4, 2) := by decide +kernel
theorem dX11_takeSet_39 : decode cX11_takeSet 39 = .ok (.ireturn, 1) := by decide +kernel
theorem dX11_put_0 : decode cX11_put 0 = .ok (.iload_n 1, 1) := by decide +kernel
theorem dX11_put_1 : decode cX11_put 1 = .ok (.invokestatic 102, 3) := by decide +kernel
theorem dX11_put_4 : decode cX11_put 4 = .ok (.aload_n 0, 1) := by decide +kernel
theorem dX11_put_5 : decode cX11_put 5 = .ok (.getfield 10, 3) := by decide +kernel
theorem dX11_put_8 : decode cX11_put 8 = .ok (.bipush 80, 2) := by decide +kernel
theorem dX11_put_10 : decode cX11_put 10 = .ok (.iload_n 1, 1) := by decide +kernel
theorem dX11_put_11 : decode cX11_put 11 = .ok (.invokevirtual 105, 3) := by decide +kernel
theorem dX11_put_14 : decode cX11_put 14 = .ok (.istore 4, 2) := by decide +kernel
theorem dX11_put_16 : decode cX11_put 16 = .ok (.iload_n 2, 1) := by decide +kernel
theorem dX11_put_17 : decode cX11_put 17 = .ok (.ifCond .lt 9, 3) := by decide +kernel
theorem dX11_put_20 : decode cX11_put 20 = .ok (.iload_n 2, 1) := by decide +kernel
theorem dX11_put_21 : decode cX11_put 21 = .ok (.iload 4, 2) := by decide +kernel
theorem dX11_put_23 : decode cX11_put 23 = .ok (.if_icmp .le 13, 3) := by decide +kernel
theorem dX11_put_26 : decode cX11_put 26 = .ok (.new 109, 3) := by decide +kernel
theorem dX11_put_29 : decode cX11_put 29 = .ok (.dup, 1) := by decide +kernel
theorem dX11_put_30 : decode cX11_put 30 = .ok (.ldc 111, 2) := by decide +kernel
theorem dX11_put_32 : decode cX11_put 32 = .ok (.invokespecial 113, 3) := by decide +kernel
theorem dX11_put_35 : decode cX11_put 35 = .ok (.athrow, 1) := by decide +kernel
theorem dX11_put_36 : decode cX11_put 36 = .ok (.iload_n 3, 1) := by decide +kernel
theorem dX11_put_37 : decode cX11_put 37 = .ok (.ifCond .lt 10, 3) := by decide +kernel
theorem dX11_put_40 : decode cX11_put 40 = .ok (.iload_n 3, 1) := by decide +kernel
theorem dX11_put_41 : decode cX11_put 41 = .ok (.sipush 400, 3) := by decide +kernel
theorem dX11_put_44 : decode cX11_put 44 = .ok (.if_icmp .lt 13, 3) := by decide +kernel
theorem dX11_put_47 : decode cX11_put 47 = .ok (.new 116, 3) := by decide +kernel
theorem dX11_put_50 : decode cX11_put 50 = .ok (.dup, 1) := by decide +kernel
theorem dX11_put_51 : decode cX11_put 51 = .ok (.ldc 118, 2) := by decide +kernel
theorem dX11_put_53 : decode cX11_put 53 = .ok (.invokespecial 120, 3) := by decide +kernel
theorem dX11_put_56 : decode cX11_put 56 = .ok (.athrow, 1) := by decide +kernel
theorem dX11_put_57 : decode cX11_put 57 = .ok (.iload 4, 2) := by decide +kernel
theorem dX11_put_59 : decode cX11_put 59 = .ok (.bipush 10, 2) := by decide +kernel
theorem dX11_put_61 : decode cX11_put 61 = .ok (.if_icmp .lt 13, 3) := by decide +kernel
theorem dX11_put_64 : decode cX11_put 64 = .ok (.new 121, 3) := by decide +kernel
theorem dX11_put_67 : decode cX11_put 67 = .ok (.dup, 1) := by decide +kernel
theorem dX11_put_68 : decode cX11_put 68 = .ok (.ldc 123, 2) := by decide +kernel
theorem dX11_put_70 : decode cX11_put 70 = .ok (.invokespecial 125, 3) := by decide +kernel
theorem dX11_put_73 : decode cX11_put 73 = .ok (.athrow, 1) := by decide +kernel
theorem dX11_put_74 : decode cX11_put 74 = .ok (.aload_n 0, 1) := by decide +kernel
theorem dX11_put_75 : decode cX11_put 75 = .ok (.getfield 10, 3) := by decide +kernel
theorem dX11_put_78 : decode cX11_put 78 = .ok (.iload_n 1, 1) := by decide +kernel
theorem dX11_put_79 : decode cX11_put 79 = .ok (.iload_n 2, 1) := by decide +kernel
theorem dX11_put_80 : decode cX11_put 80 = .ok (.iload_n 3, 1) := by decide +kernel
theorem dX11_put_81 : decode cX11_put 81 = .ok (.invokevirtual 126, 3) := by decide +kernel
theorem dX11_put_84 : decode cX11_put 84 = .ok (.iload 4, 2) := by decide +kernel
theorem dX11_put_86 : decode cX11_put 86 = .ok (.iconst 1, 1) := by decide +kernel
theorem dX11_put_87 : decode cX11_put 87 = .ok (.iadd, 1) := by decide +kernel
theorem dX11_put_88 : decode cX11_put 88 = .ok (.ireturn, 1) := by decide +kernel
theorem dX11_cut_0 : decode cX11_cut 0 = .ok (.iload_n 1, 1) := by decide +kernel
theorem dX11_cut_1 : decode cX11_cut 1 = .ok (.invokestatic 102, 3) := by decide +kernel
theorem dX11_cut_4 : decode cX11_cut 4 = .ok (.iload_n 2, 1) := by decide +kernel
theorem dX11_cut_5 : decode cX11_cut 5 = .ok (.ifCond .lt 17, 3) := by decide +kernel
theorem dX11_cut_8 : decode cX11_cut 8 = .ok (.iload_n 2, 1) := by decide +kernel
theorem dX11_cut_9 : decode cX11_cut 9 = .ok (.aload_n 0, 1) := by decide +kernel
theorem dX11_cut_10 : decode cX11_cut 10 = .ok (.getfield 10, 3) := by decide +kernel
theorem dX11_cut_13 : decode cX11_cut 13 = .ok (.bipush 80, 2) := by decide +kernel
theorem dX11_cut_15 : decode cX11_cut 15 = .ok (.iload_n 1, 1) := by decide +kernel
theorem dX11_cut_16 : decode cX11_cut 16 = .ok (.invokevirtual 105, 3) := by decide +kernel
theorem dX11_cut_19 : decode cX11_cut 19 = .ok (.if_icmp .lt 13, 3) := by decide +kernel
theorem dX11_cut_22 : decode cX11_cut 22 = .ok (.new 109, 3) := by decide +kernel
theorem dX11_cut_25 : decode cX11_cut 25 = .ok (.dup, 1) := by decide +kernel
theorem dX11_cut_26 : decode cX11_cut 26 = .ok (.ldc 111, 2) := by decide +kernel
theorem dX11_cut_28 : decode cX11_cut 28 = .ok (.invokespecial 113, 3) := by decide +kernel
theorem dX11_cut_31 : decode cX11_cut 31 = .ok (.athrow, 1) := by decide +kernel
theorem dX11_cut_32 : decode cX11_cut 32 = .ok (.aload_n 0, 1) := by decide +kernel
theorem dX11_cut_33 : decode cX11_cut 33 = .ok (.getfield 10, 3) := by decide +kernel
theorem dX11_cut_36 : decode cX11_cut 36 = .ok (.bipush 80, 2) := by decide +kernel
theorem dX11_cut_38 : decode cX11_cut 38 = .ok (.iload_n 1, 1) := by decide +kernel
theorem dX11_cut_39 : decode cX11_cut 39 = .ok (.iload_n 2, 1) := by decide +kernel
theorem dX11_cut_40 : decode cX11_cut 40 = .ok (.invokevirtual 130, 3) := by decide +kernel
theorem dX11_cut_43 : decode cX11_cut 43 = .ok (.istore_n 3, 1) := by decide +kernel
theorem dX11_cut_44 : decode cX11_cut 44 = .ok (.aload_n 0, 1) := by decide +kernel
theorem dX11_cut_45 : decode cX11_cut 45 = .ok (.getfield 10, 3) := by decide +kernel
theorem dX11_cut_48 : decode cX11_cut 48 = .ok (.iload_n 1, 1) := by decide +kernel
theorem dX11_cut_49 : decode cX11_cut 49 = .ok (.iload_n 2, 1) := by decide +kernel
theorem dX11_cut_50 : decode cX11_cut 50 = .ok (.invokevirtual 134, 3) := by decide +kernel
theorem dX11_cut_53 : decode cX11_cut 53 = .ok (.iload_n 3, 1) := by decide +kernel
theorem dX11_cut_54 : decode cX11_cut 54 = .ok (.ireturn, 1) := by decide +kernel
theorem dX11_commits_0 : decode cX11_commits 0 = .ok (.aload_n 0, 1) := by decide +kernel
theorem dX11_commits_1 : decode cX11_commits 1 = .ok (.getfield 10, 3) := by decide +kernel
theorem dX11_commits_4 : decode cX11_commits 4 = .ok (.getfield 137, 3) := by decide +kernel
theorem dX11_commits_7 : decode cX11_commits 7 = .ok (.ireturn, 1) := by decide +kernel
theorem dX11_line_0 : decode cX11_line 0 = .ok (.aload_n 0, 1) := by decide +kernel
theorem dX11_line_1 : decode cX11_line 1 = .ok (.iload_n 1, 1) := by decide +kernel
theorem dX11_line_2 : decode cX11_line 2 = .ok (.invokevirtual 140, 3) := by decide +kernel
theorem dX11_line_5 : decode cX11_line 5 = .ok (.istore 4, 2) := by decide +kernel
theorem dX11_line_7 : decode cX11_line 7 = .ok (.iload_n 2, 1) := by decide +kernel
theorem dX11_line_8 : decode cX11_line 8 = .ok (.invokestatic 102, 3) := by decide +kernel
theorem dX11_line_11 : decode cX11_line 11 = .ok (.iload_n 3, 1) := by decide +kernel
theorem dX11_line_12 : decode cX11_line 12 = .ok (.ifCond .ge 13, 3) := by decide +kernel
theorem dX11_line_15 : decode cX11_line 15 = .ok (.new 109, 3) := by decide +kernel
theorem dX11_line_18 : decode cX11_line 18 = .ok (.dup, 1) := by decide +kernel
theorem dX11_line_19 : decode cX11_line 19 = .ok (.ldc 111, 2) := by decide +kernel
theorem dX11_line_21 : decode cX11_line 21 = .ok (.invokespecial 113, 3) := by decide +kernel
theorem dX11_line_24 : decode cX11_line 24 = .ok (.athrow, 1) := by decide +kernel
theorem dX11_line_25 : decode cX11_line 25 = .ok (.aload_n 0, 1) := by decide +kernel
theorem dX11_line_26 : decode cX11_line 26 = .ok (.getfield 10, 3) := by decide +kernel
theorem dX11_line_29 : decode cX11_line 29 = .ok (.iload 4, 2) := by decide +kernel
theorem dX11_line_31 : decode cX11_line 31 = .ok (.iload_n 2, 1) := by decide +kernel
theorem dX11_line_32 : decode cX11_line 32 = .ok (.iload_n 3, 1) := by decide +kernel
theorem dX11_line_33 : decode cX11_line 33 = .ok (.invokevirtual 130, 3) := by decide +kernel
theorem dX11_line_36 : decode cX11_line 36 = .ok (.ireturn, 1) := by decide +kernel
theorem dX11_before_0 : decode cX11_before 0 = .ok (.aload_n 0, 1) := by decide +kernel
theorem dX11_before_1 : decode cX11_before 1 = .ok (.getfield 10, 3) := by decide +kernel
theorem dX11_before_4 : decode cX11_before 4 = .ok (.aload_n 0, 1) := by decide +kernel
theorem dX11_before_5 : decode cX11_before 5 = .ok (.iload_n 1, 1) := by decide +kernel
theorem dX11_before_6 : decode cX11_before 6 = .ok (.invokevirtual 140, 3) := by decide +kernel
theorem dX11_before_9 : decode cX11_before 9 = .ok (.invokevirtual 99, 3) := by decide +kernel
theorem dX11_before_12 : decode cX11_before 12 = .ok (.ireturn, 1) := by decide +kernel
theorem dX11_tip_0 : decode cX11_tip 0 = .ok (.iload_n 1, 1) := by decide +kernel
theorem dX11_tip_1 : decode cX11_tip 1 = .ok (.invokestatic 143, 3) := by decide +kernel
theorem dX11_tip_4 : decode cX11_tip 4 = .ok (.aload_n 0, 1) := by decide +kernel
theorem dX11_tip_5 : decode cX11_tip 5 = .ok (.getfield 10, 3) := by decide +kernel
theorem dX11_tip_8 : decode cX11_tip 8 = .ok (.iload_n 1, 1) := by decide +kernel
theorem dX11_tip_9 : decode cX11_tip 9 = .ok (.invokevirtual 146, 3) := by decide +kernel
theorem dX11_tip_12 : decode cX11_tip 12 = .ok (.ireturn, 1) := by decide +kernel
theorem dX11_namedAfter_0 : decode cX11_namedAfter 0 = .ok (.aload_n 0, 1) := by decide +kernel
theorem dX11_namedAfter_1 : decode cX11_namedAfter 1 = .ok (.iload_n 1, 1) := by decide +kernel
theorem dX11_namedAfter_2 : decode cX11_namedAfter 2 = .ok (.invokevirtual 79, 3) := by decide +kernel
theorem dX11_namedAfter_5 : decode cX11_namedAfter 5 = .ok (.aload_n 0, 1) := by decide +kernel
theorem dX11_namedAfter_6 : decode cX11_namedAfter 6 = .ok (.getfield 10, 3) := by decide +kernel
theorem dX11_namedAfter_9 : decode cX11_namedAfter 9 = .ok (.iload_n 1, 1) := by decide +kernel
theorem dX11_namedAfter_10 : decode cX11_namedAfter 10 = .ok (.invokevirtual 149, 3) := by decide +kernel
theorem dX11_namedAfter_13 : decode cX11_namedAfter 13 = .ok (.ireturn, 1) := by decide +kernel
theorem dX11_open_0 : decode cX11_open 0 = .ok (.iload_n 1, 1) := by decide +kernel
theorem dX11_open_1 : decode cX11_open 1 = .ok (.invokestatic 152, 3) := by decide +kernel
theorem dX11_open_4 : decode cX11_open 4 = .ok (.aload_n 0, 1) := by decide +kernel
theorem dX11_open_5 : decode cX11_open 5 = .ok (.getfield 49, 3) := by decide +kernel
theorem dX11_open_8 : decode cX11_open 8 = .ok (.invokevirtual 155, 3) := by decide +kernel
theorem dX11_open_11 : decode cX11_open 11 = .ok (.bipush 20, 2) := by decide +kernel
theorem dX11_open_13 : decode cX11_open 13 = .ok (.if_icmp .ge 13, 3) := by decide +kernel
theorem dX11_open_16 : decode cX11_open 16 = .ok (.aload_n 0, 1) := by decide +kernel
theorem dX11_open_17 : decode cX11_open 17 = .ok (.getfield 10, 3) := by decide +kernel
theorem dX11_open_20 : decode cX11_open 20 = .ok (.invokevirtual 159, 3) := by decide +kernel
theorem dX11_open_23 : decode cX11_open 23 = .ok (.ifCond .eq 13, 3) := by decide +kernel
theorem dX11_open_26 : decode cX11_open 26 = .ok (.new 121, 3) := by decide +kernel
theorem dX11_open_29 : decode cX11_open 29 = .ok (.dup, 1) := by decide +kernel
theorem dX11_open_30 : decode cX11_open 30 = .ok (.ldc 163, 2) := by decide +kernel
theorem dX11_open_32 : decode cX11_open 32 = .ok (.invokespecial 125, 3) := by decide +kernel
theorem dX11_open_35 : decode cX11_open 35 = .ok (.athrow, 1) := by decide +kernel
theorem dX11_open_36 : decode cX11_open 36 = .ok (.aload_n 0, 1) := by decide +kernel
theorem dX11_open_37 : decode cX11_open 37 = .ok (.getfield 10, 3) := by decide +kernel
theorem dX11_open_40 : decode cX11_open 40 = .ok (.bipush 80, 2) := by decide +kernel
theorem dX11_open_42 : decode cX11_open 42 = .ok (.invokevirtual 99, 3) := by decide +kernel
theorem dX11_open_45 : decode cX11_open 45 = .ok (.istore_n 2, 1) := by decide +kernel
theorem dX11_open_46 : decode cX11_open 46 = .ok (.new 165, 3) := by decide +kernel
theorem dX11_open_49 : decode cX11_open 49 = .ok (.dup, 1) := by decide +kernel
theorem dX11_open_50 : decode cX11_open 50 = .ok (.aload_n 0, 1) := by decide +kernel
theorem dX11_open_51 : decode cX11_open 51 = .ok (.getfield 49, 3) := by decide +kernel
theorem dX11_open_54 : decode cX11_open 54 = .ok (.invokevirtual 155, 3) := by decide +kernel
theorem dX11_open_57 : decode cX11_open 57 = .ok (.iload_n 1, 1) := by decide +kernel
theorem dX11_open_58 : decode cX11_open 58 = .ok (.aload_n 0, 1) := by decide +kernel
theorem dX11_open_59 : decode cX11_open 59 = .ok (.getfield 10, 3) := by decide +kernel
theorem dX11_open_62 : decode cX11_open 62 = .ok (.iload_n 2, 1) := by decide +kernel
theorem dX11_open_63 : decode cX11_open 63 = .ok (.invokevirtual 167, 3) := by decide +kernel
theorem dX11_open_66 : decode cX11_open 66 = .ok (.invokespecial 170, 3) := by decide +kernel
theorem dX11_open_69 : decode cX11_open 69 = .ok (.astore_n 3, 1) := by decide +kernel
theorem dX11_open_70 : decode cX11_open 70 = .ok (.aload_n 0, 1) := by decide +kernel
theorem dX11_open_71 : decode cX11_open 71 = .ok (.getfield 49, 3) := by decide +kernel
theorem dX11_open_74 : decode cX11_open 74 = .ok (.aload_n 3, 1) := by decide +kernel
theorem dX11_open_75 : decode cX11_open 75 = .ok (.invokevirtual 172, 3) := by decide +kernel
theorem dX11_open_78 : decode cX11_open 78 = .ok (.pop, 1) := by decide +kernel
theorem dX11_open_79 : decode cX11_open 79 = .ok (.aload_n 0, 1) := by decide +kernel
theorem dX11_open_80 : decode cX11_open 80 = .ok (.iload_n 1, 1) := by decide +kernel
theorem dX11_open_81 : decode cX11_open 81 = .ok (.aload_n 3, 1) := by decide +kernel
theorem dX11_open_82 : decode cX11_open 82 = .ok (.bipush 80, 2) := by decide +kernel
theorem dX11_open_84 : decode cX11_open 84 = .ok (.iload_n 2, 1) := by decide +kernel
theorem dX11_open_85 : decode cX11_open 85 = .ok (.invokevirtual 176, 3) := by decide +kernel
theorem dX11_open_88 : decode cX11_open 88 = .ok (.pop, 1) := by decide +kernel
theorem dX11_open_89 : decode cX11_open 89 = .ok (.aload_n 3, 1) := by decide +kernel
theorem dX11_open_90 : decode cX11_open 90 = .ok (.getfield 180, 3) := by decide +kernel
theorem dX11_open_93 : decode cX11_open 93 = .ok (.ireturn, 1) := by decide +kernel
theorem dX11_upload_0 : decode cX11_upload 0 = .ok (.iload_n 1, 1) := by decide +kernel
theorem dX11_upload_1 : decode cX11_upload 1 = .ok (.invokestatic 152, 3) := by decide +kernel
theorem dX11_upload_4 : decode cX11_upload 4 = .ok (.aload_n 0, 1) := by decide +kernel
theorem dX11_upload_5 : decode cX11_upload 5 = .ok (.iload_n 2, 1) := by decide +kernel
theorem dX11_upload_6 : decode cX11_upload 6 = .ok (.invokevirtual 91, 3) := by decide +kernel
theorem dX11_upload_9 : decode cX11_upload 9 = .ok (.astore_n 3, 1) := by decide +kernel
theorem dX11_upload_10 : decode cX11_upload 10 = .ok (.iload_n 1, 1) := by decide +kernel
theorem dX11_upload_11 : decode cX11_upload 11 = .ok (.aload_n 3, 1) := by decide +kernel
theorem dX11_upload_12 : decode cX11_upload 12 = .ok (.invokestatic 183, 3) := by decide +kernel
theorem dX11_upload_15 : decode cX11_upload 15 = .ok (.aload_n 0, 1) := by decide +kernel
theorem dX11_upload_16 : decode cX11_upload 16 = .ok (.getfield 10, 3) := by decide +kernel
theorem dX11_upload_19 : decode cX11_upload 19 = .ok (.bipush 80, 2) := by decide +kernel
theorem dX11_upload_21 : decode cX11_upload 21 = .ok (.invokevirtual 99, 3) := by decide +kernel
theorem dX11_upload_24 : decode cX11_upload 24 = .ok (.istore 4, 2) := by decide +kernel
theorem dX11_upload_26 : decode cX11_upload 26 = .ok (.aload_n 0, 1) := by decide +kernel
theorem dX11_upload_27 : decode cX11_upload 27 = .ok (.getfield 10, 3) := by decide +kernel
theorem dX11_upload_30 : decode cX11_upload 30 = .ok (.iload 4, 2) := by decide +kernel
theorem dX11_upload_32 : decode cX11_upload 32 = .ok (.invokevirtual 167, 3) := by decide +kernel
theorem dX11_upload_35 : decode cX11_upload 35 = .ok (.aload_n 3, 1) := by decide +kernel
theorem dX11_upload_36 : decode cX11_upload 36 = .ok (.getfield 187, 3) := by decide +kernel
theorem dX11_upload_39 : decode cX11_upload 39 = .ok (.if_icmp .eq 13, 3) := by decide +kernel
theorem dX11_upload_42 : decode cX11_upload 42 = .ok (.new 121, 3) := by decide +kernel
theorem dX11_upload_45 : decode cX11_upload 45 = .ok (.dup, 1) := by decide +kernel
theorem dX11_upload_46 : decode cX11_upload 46 = .ok (.ldc 190, 2) := by decide +kernel
theorem dX11_upload_48 : decode cX11_upload 48 = .ok (.invokespecial 125, 3) := by decide +kernel
theorem dX11_upload_51 : decode cX11_upload 51 = .ok (.athrow, 1) := by decide +kernel
theorem dX11_upload_52 : decode cX11_upload 52 = .ok (.aload_n 0, 1) := by decide +kernel
theorem dX11_upload_53 : decode cX11_upload 53 = .ok (.iload_n 2, 1) := by decide +kernel
theorem dX11_upload_54 : decode cX11_upload 54 = .ok (.aload_n 0, 1) := by decide +kernel
theorem dX11_upload_55 : decode cX11_upload 55 = .ok (.getfield 10, 3) := by decide +kernel
theorem dX11_upload_58 : decode cX11_upload 58 = .ok (.iload 4, 2) := by decide +kernel
theorem dX11_upload_60 : decode cX11_upload 60 = .ok (.invokevirtual 192, 3) := by decide +kernel
theorem dX11_upload_63 : decode cX11_upload 63 = .ok (.invokevirtual 195, 3) := by decide +kernel
theorem dX11_upload_66 : decode cX11_upload 66 = .ok (.ifCond .eq 13, 3) := by decide +kernel
theorem dX11_upload_69 : decode cX11_upload 69 = .ok (.new 121, 3) := by decide +kernel
theorem dX11_upload_72 : decode cX11_upload 72 = .ok (.dup, 1) := by decide +kernel
theorem dX11_upload_73 : decode cX11_upload 73 = .ok (.ldc 199, 2) := by decide +kernel
theorem dX11_upload_75 : decode cX11_upload 75 = .ok (.invokespecial 125, 3) := by decide +kernel
theorem dX11_upload_78 : decode cX11_upload 78 = .ok (.athrow, 1) := by decide +kernel
theorem dX11_upload_79 : decode cX11_upload 79 = .ok (.aload_n 0, 1) := by decide +kernel
theorem dX11_upload_80 : decode cX11_upload 80 = .ok (.invokevirtual 201, 3) := by decide +kernel
theorem dX11_upload_83 : decode cX11_upload 83 = .ok (.aload_n 0, 1) := by decide +kernel
theorem dX11_upload_84 : decode cX11_upload 84 = .ok (.iload_n 1, 1) := by decide +kernel
theorem dX11_upload_85 : decode cX11_upload 85 = .ok (.aload_n 3, 1) := by decide +kernel
theorem dX11_upload_86 : decode cX11_upload 86 = .ok (.bipush 80, 2) := by decide +kernel
theorem dX11_upload_88 : decode cX11_upload 88 = .ok (.iload 4, 2) := by decide +kernel
theorem dX11_upload_90 : decode cX11_upload 90 = .ok (.invokevirtual 176, 3) := by decide +kernel
theorem dX11_upload_93 : decode cX11_upload 93 = .ok (.ireturn, 1) := by decide +kernel
theorem dX11_rebase_0 : decode cX11_rebase 0 = .ok (.iload_n 1, 1) := by decide +kernel
theorem dX11_rebase_1 : decode cX11_rebase 1 = .ok (.invokestatic 152, 3) := by decide +kernel
theorem dX11_rebase_4 : decode cX11_rebase 4 = .ok (.aload_n 0, 1) := by decide +kernel
theorem dX11_rebase_5 : decode cX11_rebase 5 = .ok (.iload_n 2, 1) := by decide +kernel
theorem dX11_rebase_6 : decode cX11_rebase 6 = .ok (.invokevirtual 91, 3) := by decide +kernel
theorem dX11_rebase_9 : decode cX11_rebase 9 = .ok (.astore_n 3, 1) := by decide +kernel
theorem dX11_rebase_10 : decode cX11_rebase 10 = .ok (.iload_n 1, 1) := by decide +kernel
theorem dX11_rebase_11 : decode cX11_rebase 11 = .ok (.aload_n 3, 1) := by decide +kernel
theorem dX11_rebase_12 : decode cX11_rebase 12 = .ok (.invokestatic 183, 3) := by decide +kernel
theorem dX11_rebase_15 : decode cX11_rebase 15 = .ok (.aload_n 0, 1) := by decide +kernel
theorem dX11_rebase_16 : decode cX11_rebase 16 = .ok (.getfield 10, 3) := by decide +kernel
theorem dX11_rebase_19 : decode cX11_rebase 19 = .ok (.iload_n 2, 1) := by decide +kernel
theorem dX11_rebase_20 : decode cX11_rebase 20 = .ok (.invokevirtual 204, 3) := by decide +kernel
theorem dX11_rebase_23 : decode cX11_rebase 23 = .ok (.istore 4, 2) := by decide +kernel
theorem dX11_rebase_25 : decode cX11_rebase 25 = .ok (.aload_n 0, 1) := by decide +kernel
theorem dX11_rebase_26 : decode cX11_rebase 26 = .ok (.getfield 10, 3) := by decide +kernel
theorem dX11_rebase_29 : decode cX11_rebase 29 = .ok (.iload 4, 2) := by decide +kernel
theorem dX11_rebase_31 : decode cX11_rebase 31 = .ok (.invokevirtual 99, 3) := by decide +kernel
theorem dX11_rebase_34 : decode cX11_rebase 34 = .ok (.istore 5, 2) := by decide +kernel
theorem dX11_rebase_36 : decode cX11_rebase 36 = .ok (.aload_n 0, 1) := by decide +kernel
theorem dX11_rebase_37 : decode cX11_rebase 37 = .ok (.aload_n 3, 1) := by decide +kernel
theorem dX11_rebase_38 : decode cX11_rebase 38 = .ok (.invokevirtual 207, 3) := by decide +kernel
theorem dX11_rebase_41 : decode cX11_rebase 41 = .ok (.istore 6, 2) := by decide +kernel
theorem dX11_rebase_43 : decode cX11_rebase 43 = .ok (.iload 6, 2) := by decide +kernel
theorem dX11_rebase_45 : decode cX11_rebase 45 = .ok (.iload 5, 2) := by decide +kernel
theorem dX11_rebase_47 : decode cX11_rebase 47 = .ok (.if_icmp .ne 13, 3) := by decide +kernel
theorem dX11_rebase_50 : decode cX11_rebase 50 = .ok (.new 121, 3) := by decide +kernel
theorem dX11_rebase_53 : decode cX11_rebase 53 = .ok (.dup, 1) := by decide +kernel
theorem dX11_rebase_54 : decode cX11_rebase 54 = .ok (.ldc 211, 2) := by decide +kernel
theorem dX11_rebase_56 : decode cX11_rebase 56 = .ok (.invokespecial 125, 3) := by decide +kernel
theorem dX11_rebase_59 : decode cX11_rebase 59 = .ok (.athrow, 1) := by decide +kernel
theorem dX11_rebase_60 : decode cX11_rebase 60 = .ok (.aload_n 0, 1) := by decide +kernel
theorem dX11_rebase_61 : decode cX11_rebase 61 = .ok (.invokevirtual 201, 3) := by decide +kernel
theorem dX11_rebase_64 : decode cX11_rebase 64 = .ok (.aload_n 0, 1) := by decide +kernel
theorem dX11_rebase_65 : decode cX11_rebase 65 = .ok (.getfield 21, 3) := by decide +kernel
theorem dX11_rebase_68 : decode cX11_rebase 68 = .ok (.iload 5, 2) := by decide +kernel
theorem dX11_rebase_70 : decode cX11_rebase 70 = .ok (.iload 4, 2) := by decide +kernel
theorem dX11_rebase_72 : decode cX11_rebase 72 = .ok (.iload 6, 2) := by decide +kernel
theorem dX11_rebase_74 : decode cX11_rebase 74 = .ok (.invokevirtual 213, 3) := by decide +kernel
theorem dX11_rebase_77 : decode cX11_rebase 77 = .ok (.ifCond .ne 13, 3) := by decide +kernel
theorem dX11_rebase_80 : decode cX11_rebase 80 = .ok (.new 121, 3) := by decide +kernel
theorem dX11_rebase_83 : decode cX11_rebase 83 = .ok (.dup, 1) := by decide +kernel
theorem dX11_rebase_84 : decode cX11_rebase 84 = .ok (.ldc 217, 2) := by decide +kernel
theorem dX11_rebase_86 : decode cX11_rebase 86 = .ok (.invokespecial 125, 3) := by decide +kernel
theorem dX11_rebase_89 : decode cX11_rebase 89 = .ok (.athrow, 1) := by decide +kernel
theorem dX11_rebase_90 : decode cX11_rebase 90 = .ok (.aload_n 0, 1) := by decide +kernel
theorem dX11_rebase_91 : decode cX11_rebase 91 = .ok (.iload_n 1, 1) := by decide +kernel
theorem dX11_rebase_92 : decode cX11_rebase 92 = .ok (.aload_n 3, 1) := by decide +kernel
theorem dX11_rebase_93 : decode cX11_rebase 93 = .ok (.bipush 81, 2) := by decide +kernel
theorem dX11_rebase_95 : decode cX11_rebase 95 = .ok (.iload 6, 2) := by decide +kernel
theorem dX11_rebase_97 : decode cX11_rebase 97 = .ok (.invokevirtual 176, 3) := by decide +kernel
theorem dX11_rebase_100 : decode cX11_rebase 100 = .ok (.ireturn, 1) := by decide +kernel
theorem dX11_abandon_0 : decode cX11_abandon 0 = .ok (.iload_n 1, 1) := by decide +kernel
theorem dX11_abandon_1 : decode cX11_abandon 1 = .ok (.invokestatic 152, 3) := by decide +kernel
theorem dX11_abandon_4 : decode cX11_abandon 4 = .ok (.aload_n 0, 1) := by decide +kernel
theorem dX11_abandon_5 : decode cX11_abandon 5 = .ok (.iload_n 2, 1) := by decide +kernel
theorem dX11_abandon_6 : decode cX11_abandon 6 = .ok (.invokevirtual 91, 3) := by decide +kernel
theorem dX11_abandon_9 : decode cX11_abandon 9 = .ok (.astore_n 3, 1) := by decide +kernel
theorem dX11_abandon_10 : decode cX11_abandon 10 = .ok (.iload_n 1, 1) := by decide +kernel
theorem dX11_abandon_11 : decode cX11_abandon 11 = .ok (.aload_n 3, 1) := by decide +kernel
theorem dX11_abandon_12 : decode cX11_abandon 12 = .ok (.invokestatic 183, 3) := by decide +kernel
theorem dX11_abandon_15 : decode cX11_abandon 15 = .ok (.aload_n 0, 1) := by decide +kernel
theorem dX11_abandon_16 : decode cX11_abandon 16 = .ok (.aload_n 3, 1) := by decide +kernel
theorem dX11_abandon_17 : decode cX11_abandon 17 = .ok (.iconst 2, 1) := by decide +kernel
theorem dX11_abandon_18 : decode cX11_abandon 18 = .ok (.iload_n 1, 1) := by decide +kernel
theorem dX11_abandon_19 : decode cX11_abandon 19 = .ok (.invokevirtual 219, 3) := by decide +kernel
theorem dX11_abandon_22 : decode cX11_abandon 22 = .ok (.iconst 0, 1) := by decide +kernel
theorem dX11_abandon_23 : decode cX11_abandon 23 = .ok (.istore 4, 2) := by decide +kernel
theorem dX11_abandon_25 : decode cX11_abandon 25 = .ok (.iconst 0, 1) := by decide +kernel
theorem dX11_abandon_26 : decode cX11_abandon 26 = .ok (.istore 5, 2) := by decide +kernel
theorem dX11_abandon_28 : decode cX11_abandon 28 = .ok (.iload 5, 2) := by decide +kernel
theorem dX11_abandon_30 : decode cX11_abandon 30 = .ok (.aload_n 0, 1) := by decide +kernel
theorem dX11_abandon_31 : decode cX11_abandon 31 = .ok (.getfield 49, 3) := by decide +kernel
theorem dX11_abandon_34 : decode cX11_abandon 34 = .ok (.invokevirtual 155, 3) := by decide +kernel
theorem dX11_abandon_37 : decode cX11_abandon 37 = .ok (.if_icmp .ge 43, 3) := by decide +kernel
theorem dX11_abandon_40 : decode cX11_abandon 40 = .ok (.aload_n 0, 1) := by decide +kernel
theorem dX11_abandon_41 : decode cX11_abandon 41 = .ok (.getfield 49, 3) := by decide +kernel
theorem dX11_abandon_44 : decode cX11_abandon 44 = .ok (.iload 5, 2) := by decide +kernel
theorem dX11_abandon_46 : decode cX11_abandon 46 = .ok (.invokevirtual 223, 3) := by decide +kernel
theorem dX11_abandon_49 : decode cX11_abandon 49 = .ok (.checkcast 165, 3) := by decide +kernel
theorem dX11_abandon_52 : decode cX11_abandon 52 = .ok (.getfield 227, 3) := by decide +kernel
theorem dX11_abandon_55 : decode cX11_abandon 55 = .ok (.ifCond .ne 19, 3) := by decide +kernel
theorem dX11_abandon_58 : decode cX11_abandon 58 = .ok (.aload_n 0, 1) := by decide +kernel
theorem dX11_abandon_59 : decode cX11_abandon 59 = .ok (.getfield 10, 3) := by decide +kernel
theorem dX11_abandon_62 : decode cX11_abandon 62 = .ok (.iload 5, 2) := by decide +kernel
theorem dX11_abandon_64 : decode cX11_abandon 64 = .ok (.invokevirtual 230, 3) := by decide +kernel
theorem dX11_abandon_67 : decode cX11_abandon 67 = .ok (.iload_n 2, 1) := by decide +kernel
theorem dX11_abandon_68 : decode cX11_abandon 68 = .ok (.if_icmp .ne 6, 3) := by decide +kernel
theorem dX11_abandon_71 : decode cX11_abandon 71 = .ok (.iinc 4 1, 3) := by decide +kernel
theorem dX11_abandon_74 : decode cX11_abandon 74 = .ok (.iinc 5 1, 3) := by decide +kernel
theorem dX11_abandon_77 : decode cX11_abandon 77 = .ok (.goto (-49), 3) := by decide +kernel
theorem dX11_abandon_80 : decode cX11_abandon 80 = .ok (.iload 4, 2) := by decide +kernel
theorem dX11_abandon_82 : decode cX11_abandon 82 = .ok (.ireturn, 1) := by decide +kernel
theorem dX11_restore_0 : decode cX11_restore 0 = .ok (.aload_n 0, 1) := by decide +kernel
theorem dX11_restore_1 : decode cX11_restore 1 = .ok (.iload_n 1, 1) := by decide +kernel
theorem dX11_restore_2 : decode cX11_restore 2 = .ok (.invokevirtual 91, 3) := by decide +kernel
theorem dX11_restore_5 : decode cX11_restore 5 = .ok (.astore_n 2, 1) := by decide +kernel
theorem dX11_restore_6 : decode cX11_restore 6 = .ok (.aload_n 2, 1) := by decide +kernel
theorem dX11_restore_7 : decode cX11_restore 7 = .ok (.getfield 227, 3) := by decide +kernel
theorem dX11_restore_10 : decode cX11_restore 10 = .ok (.iconst 2, 1) := by decide +kernel
theorem dX11_restore_11 : decode cX11_restore 11 = .ok (.if_icmp .eq 13, 3) := by decide +kernel
theorem dX11_restore_14 : decode cX11_restore 14 = .ok (.new 121, 3) := by decide +kernel
theorem dX11_restore_17 : decode cX11_restore 17 = .ok (.dup, 1) := by decide +kernel
theorem dX11_restore_18 : decode cX11_restore 18 = .ok (.ldc 233, 2) := by decide +kernel
theorem dX11_restore_20 : decode cX11_restore 20 = .ok (.invokespecial 125, 3) := by decide +kernel
theorem dX11_restore_23 : decode cX11_restore 23 = .ok (.athrow, 1) := by decide +kernel
theorem dX11_restore_24 : decode cX11_restore 24 = .ok (.aload_n 2, 1) := by decide +kernel
theorem dX11_restore_25 : decode cX11_restore 25 = .ok (.iconst 0, 1) := by decide +kernel
theorem dX11_restore_26 : decode cX11_restore 26 = .ok (.putfield 227, 3) := by decide +kernel
theorem dX11_restore_29 : decode cX11_restore 29 = .ok (.aload_n 2, 1) := by decide +kernel
theorem dX11_restore_30 : decode cX11_restore 30 = .ok (.aload_n 0, 1) := by decide +kernel
theorem dX11_restore_31 : decode cX11_restore 31 = .ok (.getfield 75, 3) := by decide +kernel
theorem dX11_restore_34 : decode cX11_restore 34 = .ok (.putfield 235, 3) := by decide +kernel
theorem dX11_restore_37 : decode cX11_restore 37 = .ok (.aload_n 2, 1) := by decide +kernel
theorem dX11_restore_38 : decode cX11_restore 38 = .ok (.getfield 238, 3) := by decide +kernel
theorem dX11_restore_41 : decode cX11_restore 41 = .ok (.iconst 1, 1) := by decide +kernel
theorem dX11_restore_42 : decode cX11_restore 42 = .ok (.isub, 1) := by decide +kernel
theorem dX11_restore_43 : decode cX11_restore 43 = .ok (.ireturn, 1) := by decide +kernel
theorem dX11_setFlags_0 : decode cX11_setFlags 0 = .ok (.aload_n 0, 1) := by decide +kernel
theorem dX11_setFlags_1 : decode cX11_setFlags 1 = .ok (.iload_n 1, 1) := by decide +kernel
theorem dX11_setFlags_2 : decode cX11_setFlags 2 = .ok (.invokevirtual 91, 3) := by decide +kernel
theorem dX11_setFlags_5 : decode cX11_setFlags 5 = .ok (.astore 4, 2) := by decide +kernel
theorem dX11_setFlags_7 : decode cX11_setFlags 7 = .ok (.aload 4, 2) := by decide +kernel
theorem dX11_setFlags_9 : decode cX11_setFlags 9 = .ok (.getfield 227, 3) := by decide +kernel
theorem dX11_setFlags_12 : decode cX11_setFlags 12 = .ok (.ifCond .eq 13, 3) := by decide +kernel
theorem dX11_setFlags_15 : decode cX11_setFlags 15 = .ok (.new 121, 3) := by decide +kernel
theorem dX11_setFlags_18 : decode cX11_setFlags 18 = .ok (.dup, 1) := by decide +kernel
theorem dX11_setFlags_19 : decode cX11_setFlags 19 = .ok (.ldc 241, 2) := by decide +kernel
theorem dX11_setFlags_21 : decode cX11_setFlags 21 = .ok (.invokespecial 125, 3) := by decide +kernel
theorem dX11_setFlags_24 : decode cX11_setFlags 24 = .ok (.athrow, 1) := by decide +kernel
theorem dX11_setFlags_25 : decode cX11_setFlags 25 = .ok (.aload 4, 2) := by decide +kernel
theorem dX11_setFlags_27 : decode cX11_setFlags 27 = .ok (.getfield 243, 3) := by decide +kernel
theorem dX11_setFlags_30 : decode cX11_setFlags 30 = .ok (.ifCond .eq 7, 3) := by decide +kernel
theorem dX11_setFlags_33 : decode cX11_setFlags 33 = .ok (.iconst 1, 1) := by decide +kernel
theorem dX11_setFlags_34 : decode cX11_setFlags 34 = .ok (.goto 4, 3) := by decide +kernel
theorem dX11_setFlags_37 : decode cX11_setFlags 37 = .ok (.iconst 0, 1) := by decide +kernel
theorem dX11_setFlags_38 : decode cX11_setFlags 38 = .ok (.aload 4, 2) := by decide +kernel
theorem dX11_setFlags_40 : decode cX11_setFlags 40 = .ok (.getfield 247, 3) := by decide +kernel
theorem dX11_setFlags_43 : decode cX11_setFlags 43 = .ok (.ifCond .eq 7, 3) := by decide +kernel
theorem dX11_setFlags_46 : decode cX11_setFlags 46 = .ok (.iconst 2, 1) := by decide +kernel
theorem dX11_setFlags_47 : decode cX11_setFlags 47 = .ok (.goto 4, 3) := by decide +kernel
theorem dX11_setFlags_50 : decode cX11_setFlags 50 = .ok (.iconst 0, 1) := by decide +kernel
theorem dX11_setFlags_51 : decode cX11_setFlags 51 = .ok (.iadd, 1) := by decide +kernel
theorem dX11_setFlags_52 : decode cX11_setFlags 52 = .ok (.istore 5, 2) := by decide +kernel
theorem dX11_setFlags_54 : decode cX11_setFlags 54 = .ok (.iload_n 2, 1) := by decide +kernel
theorem dX11_setFlags_55 : decode cX11_setFlags 55 = .ok (.ifCond .eq 12, 3) := by decide +kernel
theorem dX11_setFlags_58 : decode cX11_setFlags 58 = .ok (.aload 4, 2) := by decide +kernel
theorem dX11_setFlags_60 : decode cX11_setFlags 60 = .ok (.iconst 0, 1) := by decide +kernel
theorem dX11_setFlags_61 : decode cX11_setFlags 61 = .ok (.putfield 250, 3) := by decide +kernel
theorem dX11_setFlags_64 : decode cX11_setFlags 64 = .ok (.goto 26, 3) := by decide +kernel
theorem dX11_setFlags_67 : decode cX11_setFlags 67 = .ok (.aload 4, 2) := by decide +kernel
theorem dX11_setFlags_69 : decode cX11_setFlags 69 = .ok (.getfield 243, 3) := by decide +kernel
theorem dX11_setFlags_72 : decode cX11_setFlags 72 = .ok (.ifCond .eq 18, 3) := by decide +kernel
theorem dX11_setFlags_75 : decode cX11_setFlags 75 = .ok (.aload 4, 2) := by decide +kernel
theorem dX11_setFlags_77 : decode cX11_setFlags 77 = .ok (.dup, 1) := by decide +kernel
theorem dX11_setFlags_78 : decode cX11_setFlags 78 = .ok (.getfield 250, 3) := by decide +kernel
theorem dX11_setFlags_81 : decode cX11_setFlags 81 = .ok (.aload 4, 2) := by decide +kernel
theorem dX11_setFlags_83 : decode cX11_setFlags 83 = .ok (.getfield 253, 3) := by decide +kernel
theorem dX11_setFlags_86 : decode cX11_setFlags 86 = .ok (.ior, 1) := by decide +kernel
theorem dX11_setFlags_87 : decode cX11_setFlags 87 = .ok (.putfield 250, 3) := by decide +kernel
theorem dX11_setFlags_90 : decode cX11_setFlags 90 = .ok (.aload 4, 2) := by decide +kernel
theorem dX11_setFlags_92 : decode cX11_setFlags 92 = .ok (.iload_n 2, 1) := by decide +kernel
theorem dX11_setFlags_93 : decode cX11_setFlags 93 = .ok (.putfield 243, 3) := by decide +kernel
theorem dX11_setFlags_96 : decode cX11_setFlags 96 = .ok (.aload 4, 2) := by decide +kernel
theorem dX11_setFlags_98 : decode cX11_setFlags 98 = .ok (.iload_n 3, 1) := by decide +kernel
theorem dX11_setFlags_99 : decode cX11_setFlags 99 = .ok (.putfield 247, 3) := by decide +kernel
theorem dX11_setFlags_102 : decode cX11_setFlags 102 = .ok (.iload 5, 2) := by decide +kernel
theorem dX11_setFlags_104 : decode cX11_setFlags 104 = .ok (.ireturn, 1) := by decide +kernel
theorem dX11_setTopic_0 : decode cX11_setTopic 0 = .ok (.aload_n 0, 1) := by decide +kernel
theorem dX11_setTopic_1 : decode cX11_setTopic 1 = .ok (.iload_n 1, 1) := by decide +kernel
theorem dX11_setTopic_2 : decode cX11_setTopic 2 = .ok (.invokevirtual 91, 3) := by decide +kernel
theorem dX11_setTopic_5 : decode cX11_setTopic 5 = .ok (.astore_n 3, 1) := by decide +kernel
theorem dX11_setTopic_6 : decode cX11_setTopic 6 = .ok (.iload_n 2, 1) := by decide +kernel
theorem dX11_setTopic_7 : decode cX11_setTopic 7 = .ok (.iconst (-1), 1) := by decide +kernel
theorem dX11_setTopic_8 : decode cX11_setTopic 8 = .ok (.if_icmp .lt 8, 3) := by decide +kernel
theorem dX11_setTopic_11 : decode cX11_setTopic 11 = .ok (.iload_n 2, 1) := by decide +kernel
theorem dX11_setTopic_12 : decode cX11_setTopic 12 = .ok (.iconst 4, 1) := by decide +kernel
theorem dX11_setTopic_13 : decode cX11_setTopic 13 = .ok (.if_icmp .lt 14, 3) := by decide +kernel
theorem dX11_setTopic_16 : decode cX11_setTopic 16 = .ok (.new 116, 3) := by decide +kernel
theorem dX11_setTopic_19 : decode cX11_setTopic 19 = .ok (.dup, 1) := by decide +kernel
theorem dX11_setTopic_20 : decode cX11_setTopic 20 = .ok (.ldc_w 256, 3) := by decide +kernel
theorem dX11_setTopic_23 : decode cX11_setTopic 23 = .ok (.invokespecial 120, 3) := by decide +kernel
theorem dX11_setTopic_26 : decode cX11_setTopic 26 = .ok (.athrow, 1) := by decide +kernel
theorem dX11_setTopic_27 : decode cX11_setTopic 27 = .ok (.aload_n 3, 1) := by decide +kernel
theorem dX11_setTopic_28 : decode cX11_setTopic 28 = .ok (.getfield 258, 3) := by decide +kernel
theorem dX11_setTopic_31 : decode cX11_setTopic 31 = .ok (.istore 4, 2) := by decide +kernel
theorem dX11_setTopic_33 : decode cX11_setTopic 33 = .ok (.aload_n 3, 1) := by decide +kernel
theorem dX11_setTopic_34 : decode cX11_setTopic 34 = .ok (.iload_n 2, 1) := by decide +kernel
theorem dX11_setTopic_35 : decode cX11_setTopic 35 = .ok (.putfield 258, 3) := by decide +kernel
theorem dX11_setTopic_38 : decode cX11_setTopic 38 = .ok (.iload 4, 2) := by decide +kernel
theorem dX11_setTopic_40 : decode cX11_setTopic 40 = .ok (.ireturn, 1) := by decide +kernel
theorem dX11_changes_0 : decode cX11_changes 0 = .ok (.aload_n 0, 1) := by decide +kernel
theorem dX11_changes_1 : decode cX11_changes 1 = .ok (.getfield 49, 3) := by decide +kernel
theorem dX11_changes_4 : decode cX11_changes 4 = .ok (.invokevirtual 155, 3) := by decide +kernel
theorem dX11_changes_7 : decode cX11_changes 7 = .ok (.ireturn, 1) := by decide +kernel
theorem dX11_stateOf_0 : decode cX11_stateOf 0 = .ok (.aload_n 0, 1) := by decide +kernel
theorem dX11_stateOf_1 : decode cX11_stateOf 1 = .ok (.iload_n 1, 1) := by decide +kernel
theorem dX11_stateOf_2 : decode cX11_stateOf 2 = .ok (.invokevirtual 91, 3) := by decide +kernel
theorem dX11_stateOf_5 : decode cX11_stateOf 5 = .ok (.getfield 227, 3) := by decide +kernel
theorem dX11_stateOf_8 : decode cX11_stateOf 8 = .ok (.ireturn, 1) := by decide +kernel
theorem dX11_sets_0 : decode cX11_sets 0 = .ok (.aload_n 0, 1) := by decide +kernel
theorem dX11_sets_1 : decode cX11_sets 1 = .ok (.iload_n 1, 1) := by decide +kernel
theorem dX11_sets_2 : decode cX11_sets 2 = .ok (.invokevirtual 91, 3) := by decide +kernel
theorem dX11_sets_5 : decode cX11_sets 5 = .ok (.getfield 238, 3) := by decide +kernel
theorem dX11_sets_8 : decode cX11_sets 8 = .ok (.ireturn, 1) := by decide +kernel
theorem dX11_commitOf_0 : decode cX11_commitOf 0 = .ok (.aload_n 0, 1) := by decide +kernel
theorem dX11_commitOf_1 : decode cX11_commitOf 1 = .ok (.iload_n 1, 1) := by decide +kernel
theorem dX11_commitOf_2 : decode cX11_commitOf 2 = .ok (.invokevirtual 91, 3) := by decide +kernel
theorem dX11_commitOf_5 : decode cX11_commitOf 5 = .ok (.iload_n 2, 1) := by decide +kernel
theorem dX11_commitOf_6 : decode cX11_commitOf 6 = .ok (.invokestatic 95, 3) := by decide +kernel
theorem dX11_commitOf_9 : decode cX11_commitOf 9 = .ok (.ireturn, 1) := by decide +kernel
theorem dX11_kindOf_0 : decode cX11_kindOf 0 = .ok (.aload_n 0, 1) := by decide +kernel
theorem dX11_kindOf_1 : decode cX11_kindOf 1 = .ok (.getfield 10, 3) := by decide +kernel
theorem dX11_kindOf_4 : decode cX11_kindOf 4 = .ok (.aload_n 0, 1) := by decide +kernel
theorem dX11_kindOf_5 : decode cX11_kindOf 5 = .ok (.iload_n 1, 1) := by decide +kernel
theorem dX11_kindOf_6 : decode cX11_kindOf 6 = .ok (.invokevirtual 91, 3) := by decide +kernel
theorem dX11_kindOf_9 : decode cX11_kindOf 9 = .ok (.iload_n 2, 1) := by decide +kernel
theorem dX11_kindOf_10 : decode cX11_kindOf 10 = .ok (.invokestatic 95, 3) := by decide +kernel
theorem dX11_kindOf_13 : decode cX11_kindOf 13 = .ok (.invokevirtual 261, 3) := by decide +kernel
theorem dX11_kindOf_16 : decode cX11_kindOf 16 = .ok (.ireturn, 1) := by decide +kernel
theorem dX11_parentOf_0 : decode cX11_parentOf 0 = .ok (.aload_n 0, 1) := by decide +kernel
theorem dX11_parentOf_1 : decode cX11_parentOf 1 = .ok (.iload_n 1, 1) := by decide +kernel
theorem dX11_parentOf_2 : decode cX11_parentOf 2 = .ok (.invokevirtual 91, 3) := by decide +kernel
theorem dX11_parentOf_5 : decode cX11_parentOf 5 = .ok (.pop, 1) := by decide +kernel
theorem dX11_parentOf_6 : decode cX11_parentOf 6 = .ok (.aload_n 0, 1) := by decide +kernel
theorem dX11_parentOf_7 : decode cX11_parentOf 7 = .ok (.getfield 10, 3) := by decide +kernel
theorem dX11_parentOf_10 : decode cX11_parentOf 10 = .ok (.iload_n 1, 1) := by decide +kernel
theorem dX11_parentOf_11 : decode cX11_parentOf 11 = .ok (.invokevirtual 230, 3) := by decide +kernel
theorem dX11_parentOf_14 : decode cX11_parentOf 14 = .ok (.istore_n 2, 1) := by decide +kernel
theorem dX11_parentOf_15 : decode cX11_parentOf 15 = .ok (.iload_n 2, 1) := by decide +kernel
theorem dX11_parentOf_16 : decode cX11_parentOf 16 = .ok (.iconst (-1), 1) := by decide +kernel
theorem dX11_parentOf_17 : decode cX11_parentOf 17 = .ok (.if_icmp .ne 7, 3) := by decide +kernel
theorem dX11_parentOf_20 : decode cX11_parentOf 20 = .ok (.iconst (-1), 1) := by decide +kernel
theorem dX11_parentOf_21 : decode cX11_parentOf 21 = .ok (.goto 24, 3) := by decide +kernel
theorem dX11_parentOf_24 : decode cX11_parentOf 24 = .ok (.bipush 10, 2) := by decide +kernel
theorem dX11_parentOf_26 : decode cX11_parentOf 26 = .ok (.iload_n 2, 1) := by decide +kernel
theorem dX11_parentOf_27 : decode cX11_parentOf 27 = .ok (.imul, 1) := by decide +kernel
theorem dX11_parentOf_28 : decode cX11_parentOf 28 = .ok (.aload_n 0, 1) := by decide +kernel
theorem dX11_parentOf_29 : decode cX11_parentOf 29 = .ok (.getfield 10, 3) := by decide +kernel
theorem dX11_parentOf_32 : decode cX11_parentOf 32 = .ok (.iload_n 1, 1) := by decide +kernel
theorem dX11_parentOf_33 : decode cX11_parentOf 33 = .ok (.invokevirtual 264, 3) := by decide +kernel
theorem dX11_parentOf_36 : decode cX11_parentOf 36 = .ok (.ifCond .eq 7, 3) := by decide +kernel
theorem dX11_parentOf_39 : decode cX11_parentOf 39 = .ok (.iconst 1, 1) := by decide +kernel
theorem dX11_parentOf_40 : decode cX11_parentOf 40 = .ok (.goto 4, 3) := by decide +kernel
theorem dX11_parentOf_43 : decode cX11_parentOf 43 = .ok (.iconst 0, 1) := by decide +kernel
theorem dX11_parentOf_44 : decode cX11_parentOf 44 = .ok (.iadd, 1) := by decide +kernel
theorem dX11_parentOf_45 : decode cX11_parentOf 45 = .ok (.ireturn, 1) := by decide +kernel
theorem dX11_hunks_0 : decode cX11_hunks 0 = .ok (.aload_n 0, 1) := by decide +kernel
theorem dX11_hunks_1 : decode cX11_hunks 1 = .ok (.iload_n 1, 1) := by decide +kernel
theorem dX11_hunks_2 : decode cX11_hunks 2 = .ok (.iload_n 2, 1) := by decide +kernel
theorem dX11_hunks_3 : decode cX11_hunks 3 = .ok (.iload_n 3, 1) := by decide +kernel
theorem dX11_hunks_4 : decode cX11_hunks 4 = .ok (.iload 4, 2) := by decide +kernel
theorem dX11_hunks_6 : decode cX11_hunks 6 = .ok (.iload 5, 2) := by decide +kernel
theorem dX11_hunks_8 : decode cX11_hunks 8 = .ok (.invokevirtual 268, 3) := by decide +kernel
theorem dX11_hunks_11 : decode cX11_hunks 11 = .ok (.ireturn, 1) := by decide +kernel
theorem dX11_hunkAt_0 : decode cX11_hunkAt 0 = .ok (.aload_n 0, 1) := by decide +kernel
theorem dX11_hunkAt_1 : decode cX11_hunkAt 1 = .ok (.iload_n 1, 1) := by decide +kernel
theorem dX11_hunkAt_2 : decode cX11_hunkAt 2 = .ok (.iload_n 2, 1) := by decide +kernel
theorem dX11_hunkAt_3 : decode cX11_hunkAt 3 = .ok (.iload_n 3, 1) := by decide +kernel
theorem dX11_hunkAt_4 : decode cX11_hunkAt 4 = .ok (.iload 4, 2) := by decide +kernel
theorem dX11_hunkAt_6 : decode cX11_hunkAt 6 = .ok (.iload 5, 2) := by decide +kernel
theorem dX11_hunkAt_8 : decode cX11_hunkAt 8 = .ok (.invokevirtual 268, 3) := by decide +kernel
theorem dX11_hunkAt_11 : decode cX11_hunkAt 11 = .ok (.istore 7, 2) := by decide +kernel
theorem dX11_hunkAt_13 : decode cX11_hunkAt 13 = .ok (.iload 6, 2) := by decide +kernel
theorem dX11_hunkAt_15 : decode cX11_hunkAt 15 = .ok (.ifCond .ge 14, 3) := by decide +kernel
theorem dX11_hunkAt_18 : decode cX11_hunkAt 18 = .ok (.new 109, 3) := by decide +kernel
theorem dX11_hunkAt_21 : decode cX11_hunkAt 21 = .ok (.dup, 1) := by decide +kernel
theorem dX11_hunkAt_22 : decode cX11_hunkAt 22 = .ok (.ldc_w 272, 3) := by decide +kernel
theorem dX11_hunkAt_25 : decode cX11_hunkAt 25 = .ok (.invokespecial 113, 3) := by decide +kernel
theorem dX11_hunkAt_28 : decode cX11_hunkAt 28 = .ok (.athrow, 1) := by decide +kernel
theorem dX11_hunkAt_29 : decode cX11_hunkAt 29 = .ok (.iload 6, 2) := by decide +kernel
theorem dX11_hunkAt_31 : decode cX11_hunkAt 31 = .ok (.iload 7, 2) := by decide +kernel
theorem dX11_hunkAt_33 : decode cX11_hunkAt 33 = .ok (.if_icmp .ge 15, 3) := by decide +kernel
theorem dX11_hunkAt_36 : decode cX11_hunkAt 36 = .ok (.aload_n 0, 1) := by decide +kernel
theorem dX11_hunkAt_37 : decode cX11_hunkAt 37 = .ok (.getfield 21, 3) := by decide +kernel
theorem dX11_hunkAt_40 : decode cX11_hunkAt 40 = .ok (.iload 6, 2) := by decide +kernel
theorem dX11_hunkAt_42 : decode cX11_hunkAt 42 = .ok (.invokevirtual 274, 3) := by decide +kernel
theorem dX11_hunkAt_45 : decode cX11_hunkAt 45 = .ok (.goto 4, 3) := by decide +kernel
theorem dX11_hunkAt_48 : decode cX11_hunkAt 48 = .ok (.iconst (-1), 1) := by decide +kernel
theorem dX11_hunkAt_49 : decode cX11_hunkAt 49 = .ok (.ireturn, 1) := by decide +kernel
theorem dX11_comment_0 : decode cX11_comment 0 = .ok (.iload_n 1, 1) := by decide +kernel
theorem dX11_comment_1 : decode cX11_comment 1 = .ok (.invokestatic 152, 3) := by decide +kernel
theorem dX11_comment_4 : decode cX11_comment 4 = .ok (.aload_n 0, 1) := by decide +kernel
theorem dX11_comment_5 : decode cX11_comment 5 = .ok (.iload_n 2, 1) := by decide +kernel
theorem dX11_comment_6 : decode cX11_comment 6 = .ok (.invokevirtual 91, 3) := by decide +kernel
theorem dX11_comment_9 : decode cX11_comment 9 = .ok (.astore 8, 2) := by decide +kernel
theorem dX11_comment_11 : decode cX11_comment 11 = .ok (.aload 8, 2) := by decide +kernel
theorem dX11_comment_13 : decode cX11_comment 13 = .ok (.iload_n 3, 1) := by decide +kernel
theorem dX11_comment_14 : decode cX11_comment 14 = .ok (.invokestatic 95, 3) := by decide +kernel
theorem dX11_comment_17 : decode cX11_comment 17 = .ok (.istore 9, 2) := by decide +kernel
theorem dX11_comment_19 : decode cX11_comment 19 = .ok (.iload 4, 2) := by decide +kernel
theorem dX11_comment_21 : decode cX11_comment 21 = .ok (.invokestatic 102, 3) := by decide +kernel
theorem dX11_comment_24 : decode cX11_comment 24 = .ok (.iload 6, 2) := by decide +kernel
theorem dX11_comment_26 : decode cX11_comment 26 = .ok (.iconst 1, 1) := by decide +kernel
theorem dX11_comment_27 : decode cX11_comment 27 = .ok (.if_icmp .ge 14, 3) := by decide +kernel
theorem dX11_comment_30 : decode cX11_comment 30 = .ok (.new 116, 3) := by decide +kernel
theorem dX11_comment_33 : decode cX11_comment 33 = .ok (.dup, 1) := by decide +kernel
theorem dX11_comment_34 : decode cX11_comment 34 = .ok (.ldc_w 277, 3) := by decide +kernel
theorem dX11_comment_37 : decode cX11_comment 37 = .ok (.invokespecial 120, 3) := by decide +kernel
theorem dX11_comment_40 : decode cX11_comment 40 = .ok (.athrow, 1) := by decide +kernel
theorem dX11_comment_41 : decode cX11_comment 41 = .ok (.aload_n 0, 1) := by decide +kernel
theorem dX11_comment_42 : decode cX11_comment 42 = .ok (.iload 9, 2) := by decide +kernel
theorem dX11_comment_44 : decode cX11_comment 44 = .ok (.iload 4, 2) := by decide +kernel
theorem dX11_comment_46 : decode cX11_comment 46 = .ok (.iload 5, 2) := by decide +kernel
theorem dX11_comment_48 : decode cX11_comment 48 = .ok (.iload 6, 2) := by decide +kernel
theorem dX11_comment_50 : decode cX11_comment 50 = .ok (.invokevirtual 279, 3) := by decide +kernel
theorem dX11_comment_53 : decode cX11_comment 53 = .ok (.iload_n 1, 1) := by decide +kernel
theorem dX11_comment_54 : decode cX11_comment 54 = .ok (.aload 8, 2) := by decide +kernel
theorem dX11_comment_56 : decode cX11_comment 56 = .ok (.invokestatic 283, 3) := by decide +kernel
theorem dX11_comment_59 : decode cX11_comment 59 = .ok (.aload_n 0, 1) := by decide +kernel
theorem dX11_comment_60 : decode cX11_comment 60 = .ok (.invokevirtual 286, 3) := by decide +kernel
theorem dX11_comment_63 : decode cX11_comment 63 = .ok (.aload_n 0, 1) := by decide +kernel
theorem dX11_comment_64 : decode cX11_comment 64 = .ok (.getfield 53, 3) := by decide +kernel
theorem dX11_comment_67 : decode cX11_comment 67 = .ok (.invokevirtual 155, 3) := by decide +kernel
theorem dX11_comment_70 : decode cX11_comment 70 = .ok (.istore 10, 2) := by decide +kernel
theorem dX11_comment_72 : decode cX11_comment 72 = .ok (.aload_n 0, 1) := by decide +kernel
theorem dX11_comment_73 : decode cX11_comment 73 = .ok (.getfield 53, 3) := by decide +kernel
theorem dX11_comment_76 : decode cX11_comment 76 = .ok (.new 289, 3) := by decide +kernel
theorem dX11_comment_79 : decode cX11_comment 79 = .ok (.dup, 1) := by decide +kernel
theorem dX11_comment_80 : decode cX11_comment 80 = .ok (.iload_n 1, 1) := by decide +kernel
theorem dX11_comment_81 : decode cX11_comment 81 = .ok (.iload 10, 2) := by decide +kernel
theorem dX11_comment_83 : decode cX11_comment 83 = .ok (.iload 7, 2) := by decide +kernel
theorem dX11_comment_85 : decode cX11_comment 85 = .ok (.new 291, 3) := by decide +kernel
theorem dX11_comment_88 : decode cX11_comment 88 = .ok (.dup, 1) := by decide +kernel
theorem dX11_comment_89 : decode cX11_comment 89 = .ok (.iload_n 2, 1) := by decide +kernel
theorem dX11_comment_90 : decode cX11_comment 90 = .ok (.iload_n 3, 1) := by decide +kernel
theorem dX11_comment_91 : decode cX11_comment 91 = .ok (.iload 4, 2) := by decide +kernel
theorem dX11_comment_93 : decode cX11_comment 93 = .ok (.iload 5, 2) := by decide +kernel
theorem dX11_comment_95 : decode cX11_comment 95 = .ok (.iload 6, 2) := by decide +kernel
theorem dX11_comment_97 : decode cX11_comment 97 = .ok (.invokespecial 293, 3) := by decide +kernel
theorem dX11_comment_100 : decode cX11_comment 100 = .ok (.invokespecial 296, 3) := by decide +kernel
theorem dX11_comment_103 : decode cX11_comment 103 = .ok (.invokevirtual 172, 3) := by decide +kernel
theorem dX11_comment_106 : decode cX11_comment 106 = .ok (.pop, 1) := by decide +kernel
theorem dX11_comment_107 : decode cX11_comment 107 = .ok (.iload 10, 2) := by decide +kernel
theorem dX11_comment_109 : decode cX11_comment 109 = .ok (.ireturn, 1) := by decide +kernel
theorem dX11_answer_0 : decode cX11_answer 0 = .ok (.iload_n 1, 1) := by decide +kernel
theorem dX11_answer_1 : decode cX11_answer 1 = .ok (.invokestatic 152, 3) := by decide +kernel
theorem dX11_answer_4 : decode cX11_answer 4 = .ok (.aload_n 0, 1) := by decide +kernel
theorem dX11_answer_5 : decode cX11_answer 5 = .ok (.iload_n 2, 1) := by decide +kernel
theorem dX11_answer_6 : decode cX11_answer 6 = .ok (.invokevirtual 299, 3) := by decide +kernel
theorem dX11_answer_9 : decode cX11_answer 9 = .ok (.astore 4, 2) := by decide +kernel
theorem dX11_answer_11 : decode cX11_answer 11 = .ok (.aload 4, 2) := by decide +kernel
theorem dX11_answer_13 : decode cX11_answer 13 = .ok (.getfield 303, 3) := by decide +kernel
theorem dX11_answer_16 : decode cX11_answer 16 = .ok (.ifCond .eq 12, 3) := by decide +kernel
theorem dX11_answer_19 : decode cX11_answer 19 = .ok (.aload 4, 2) := by decide +kernel
theorem dX11_answer_21 : decode cX11_answer 21 = .ok (.getfield 306, 3) := by decide +kernel
theorem dX11_answer_24 : decode cX11_answer 24 = .ok (.iload_n 2, 1) := by decide +kernel
theorem dX11_answer_25 : decode cX11_answer 25 = .ok (.if_icmp .eq 14, 3) := by decide +kernel
theorem dX11_answer_28 : decode cX11_answer 28 = .ok (.new 121, 3) := by decide +kernel
theorem dX11_answer_31 : decode cX11_answer 31 = .ok (.dup, 1) := by decide +kernel
theorem dX11_answer_32 : decode cX11_answer 32 = .ok (.ldc_w 309, 3) := by decide +kernel
theorem dX11_answer_35 : decode cX11_answer 35 = .ok (.invokespecial 125, 3) := by decide +kernel
theorem dX11_answer_38 : decode cX11_answer 38 = .ok (.athrow, 1) := by decide +kernel
theorem dX11_answer_39 : decode cX11_answer 39 = .ok (.iload_n 1, 1) := by decide +kernel
theorem dX11_answer_40 : decode cX11_answer 40 = .ok (.aload_n 0, 1) := by decide +kernel
theorem dX11_answer_41 : decode cX11_answer 41 = .ok (.aload 4, 2) := by decide +kernel
theorem dX11_answer_43 : decode cX11_answer 43 = .ok (.getfield 311, 3) := by decide +kernel
theorem dX11_answer_46 : decode cX11_answer 46 = .ok (.getfield 315, 3) := by decide +kernel
theorem dX11_answer_49 : decode cX11_answer 49 = .ok (.invokevirtual 91, 3) := by decide +kernel
theorem dX11_answer_52 : decode cX11_answer 52 = .ok (.invokestatic 283, 3) := by decide +kernel
theorem dX11_answer_55 : decode cX11_answer 55 = .ok (.aload_n 0, 1) := by decide +kernel
theorem dX11_answer_56 : decode cX11_answer 56 = .ok (.invokevirtual 286, 3) := by decide +kernel
theorem dX11_answer_59 : decode cX11_answer 59 = .ok (.aload_n 0, 1) := by decide +kernel
theorem dX11_answer_60 : decode cX11_answer 60 = .ok (.getfield 53, 3) := by decide +kernel
theorem dX11_answer_63 : decode cX11_answer 63 = .ok (.new 289, 3) := by decide +kernel
theorem dX11_answer_66 : decode cX11_answer 66 = .ok (.dup, 1) := by decide +kernel
theorem dX11_answer_67 : decode cX11_answer 67 = .ok (.iload_n 1, 1) := by decide +kernel
theorem dX11_answer_68 : decode cX11_answer 68 = .ok (.iload_n 2, 1) := by decide +kernel
theorem dX11_answer_69 : decode cX11_answer 69 = .ok (.iload_n 3, 1) := by decide +kernel
theorem dX11_answer_70 : decode cX11_answer 70 = .ok (.aload 4, 2) := by decide +kernel
theorem dX11_answer_72 : decode cX11_answer 72 = .ok (.getfield 311, 3) := by decide +kernel
theorem dX11_answer_75 : decode cX11_answer 75 = .ok (.invokespecial 296, 3) := by decide +kernel
theorem dX11_answer_78 : decode cX11_answer 78 = .ok (.invokevirtual 172, 3) := by decide +kernel
theorem dX11_answer_81 : decode cX11_answer 81 = .ok (.pop, 1) := by decide +kernel
theorem dX11_answer_82 : decode cX11_answer 82 = .ok (.aload_n 0, 1) := by decide +kernel
theorem dX11_answer_83 : decode cX11_answer 83 = .ok (.getfield 53, 3) := by decide +kernel
theorem dX11_answer_86 : decode cX11_answer 86 = .ok (.invokevirtual 155, 3) := by decide +kernel
theorem dX11_answer_89 : decode cX11_answer 89 = .ok (.iconst 1, 1) := by decide +kernel
theorem dX11_answer_90 : decode cX11_answer 90 = .ok (.isub, 1) := by decide +kernel
theorem dX11_answer_91 : decode cX11_answer 91 = .ok (.ireturn, 1) := by decide +kernel
theorem dX11_publish_0 : decode cX11_publish 0 = .ok (.iload_n 1, 1) := by decide +kernel
theorem dX11_publish_1 : decode cX11_publish 1 = .ok (.invokestatic 152, 3) := by decide +kernel
theorem dX11_publish_4 : decode cX11_publish 4 = .ok (.aload_n 0, 1) := by decide +kernel
theorem dX11_publish_5 : decode cX11_publish 5 = .ok (.iload_n 2, 1) := by decide +kernel
theorem dX11_publish_6 : decode cX11_publish 6 = .ok (.invokevirtual 91, 3) := by decide +kernel
theorem dX11_publish_9 : decode cX11_publish 9 = .ok (.astore_n 3, 1) := by decide +kernel
theorem dX11_publish_10 : decode cX11_publish 10 = .ok (.iload_n 1, 1) := by decide +kernel
theorem dX11_publish_11 : decode cX11_publish 11 = .ok (.aload_n 3, 1) := by decide +kernel
theorem dX11_publish_12 : decode cX11_publish 12 = .ok (.invokestatic 283, 3) := by decide +kernel
theorem dX11_publish_15 : decode cX11_publish 15 = .ok (.iconst 0, 1) := by decide +kernel
theorem dX11_publish_16 : decode cX11_publish 16 = .ok (.istore 4, 2) := by decide +kernel
theorem dX11_publish_18 : decode cX11_publish 18 = .ok (.iconst 0, 1) := by decide +kernel
theorem dX11_publish_19 : decode cX11_publish 19 = .ok (.istore 5, 2) := by decide +kernel
theorem dX11_publish_21 : decode cX11_publish 21 = .ok (.iload 5, 2) := by decide +kernel
theorem dX11_publish_23 : decode cX11_publish 23 = .ok (.aload_n 0, 1) := by decide +kernel
theorem dX11_publish_24 : decode cX11_publish 24 = .ok (.getfield 53, 3) := by decide +kernel
theorem dX11_publish_27 : decode cX11_publish 27 = .ok (.invokevirtual 155, 3) := by decide +kernel
theorem dX11_publish_30 : decode cX11_publish 30 = .ok (.if_icmp .ge 61, 3) := by decide +kernel
theorem dX11_publish_33 : decode cX11_publish 33 = .ok (.aload_n 0, 1) := by decide +kernel
theorem dX11_publish_34 : decode cX11_publish 34 = .ok (.getfield 53, 3) := by decide +kernel
theorem dX11_publish_37 : decode cX11_publish 37 = .ok (.iload 5, 2) := by decide +kernel
theorem dX11_publish_39 : decode cX11_publish 39 = .ok (.invokevirtual 223, 3) := by decide +kernel
theorem dX11_publish_42 : decode cX11_publish 42 = .ok (.checkcast 289, 3) := by decide +kernel
theorem dX11_publish_45 : decode cX11_publish 45 = .ok (.astore 6, 2) := by decide +kernel
theorem dX11_publish_47 : decode cX11_publish 47 = .ok (.aload 6, 2) := by decide +kernel
theorem dX11_publish_49 : decode cX11_publish 49 = .ok (.getfield 303, 3) := by decide +kernel
theorem dX11_publish_52 : decode cX11_publish 52 = .ok (.ifCond .ne 33, 3) := by decide +kernel
theorem dX11_publish_55 : decode cX11_publish 55 = .ok (.aload 6, 2) := by decide +kernel
theorem dX11_publish_57 : decode cX11_publish 57 = .ok (.getfield 318, 3) := by decide +kernel
theorem dX11_publish_60 : decode cX11_publish 60 = .ok (.iload_n 1, 1) := by decide +kernel
theorem dX11_publish_61 : decode cX11_publish 61 = .ok (.if_icmp .ne 24, 3) := by decide +kernel
theorem dX11_publish_64 : decode cX11_publish 64 = .ok (.aload 6, 2) := by decide +kernel
theorem dX11_publish_66 : decode cX11_publish 66 = .ok (.getfield 311, 3) := by decide +kernel
theorem dX11_publish_69 : decode cX11_publish 69 = .ok (.getfield 315, 3) := by decide +kernel
theorem dX11_publish_72 : decode cX11_publish 72 = .ok (.iload_n 2, 1) := by decide +kernel
theorem dX11_publish_73 : decode cX11_publish 73 = .ok (.if_icmp .ne 12, 3) := by decide +kernel
theorem dX11_publish_76 : decode cX11_publish 76 = .ok (.aload 6, 2) := by decide +kernel
theorem dX11_publish_78 : decode cX11_publish 78 = .ok (.iconst 1, 1) := by decide +kernel
theorem dX11_publish_79 : decode cX11_publish 79 = .ok (.putfield 303, 3) := by decide +kernel
theorem dX11_publish_82 : decode cX11_publish 82 = .ok (.iinc 4 1, 3) := by decide +kernel
theorem dX11_publish_85 : decode cX11_publish 85 = .ok (.iinc 5 1, 3) := by decide +kernel
theorem dX11_publish_88 : decode cX11_publish 88 = .ok (.goto (-67), 3) := by decide +kernel
theorem dX11_publish_91 : decode cX11_publish 91 = .ok (.iload 4, 2) := by decide +kernel
theorem dX11_publish_93 : decode cX11_publish 93 = .ok (.ifCond .ne 14, 3) := by decide +kernel
theorem dX11_publish_96 : decode cX11_publish 96 = .ok (.new 121, 3) := by decide +kernel
theorem dX11_publish_99 : decode cX11_publish 99 = .ok (.dup, 1) := by decide +kernel
theorem dX11_publish_100 : decode cX11_publish 100 = .ok (.ldc_w 321, 3) := by decide +kernel
theorem dX11_publish_103 : decode cX11_publish 103 = .ok (.invokespecial 125, 3) := by decide +kernel
theorem dX11_publish_106 : decode cX11_publish 106 = .ok (.athrow, 1) := by decide +kernel
theorem dX11_publish_107 : decode cX11_publish 107 = .ok (.aload_n 3, 1) := by decide +kernel
theorem dX11_publish_108 : decode cX11_publish 108 = .ok (.iload_n 1, 1) := by decide +kernel
theorem dX11_publish_109 : decode cX11_publish 109 = .ok (.invokevirtual 323, 3) := by decide +kernel
theorem dX11_publish_112 : decode cX11_publish 112 = .ok (.aload_n 0, 1) := by decide +kernel
theorem dX11_publish_113 : decode cX11_publish 113 = .ok (.iload_n 1, 1) := by decide +kernel
theorem dX11_publish_114 : decode cX11_publish 114 = .ok (.aload_n 3, 1) := by decide +kernel
theorem dX11_publish_115 : decode cX11_publish 115 = .ok (.iconst 1, 1) := by decide +kernel
theorem dX11_publish_116 : decode cX11_publish 116 = .ok (.invokevirtual 326, 3) := by decide +kernel
theorem dX11_publish_119 : decode cX11_publish 119 = .ok (.aload_n 0, 1) := by decide +kernel
theorem dX11_publish_120 : decode cX11_publish 120 = .ok (.iload_n 1, 1) := by decide +kernel
theorem dX11_publish_121 : decode cX11_publish 121 = .ok (.aload_n 3, 1) := by decide +kernel
theorem dX11_publish_122 : decode cX11_publish 122 = .ok (.invokevirtual 330, 3) := by decide +kernel
theorem dX11_publish_125 : decode cX11_publish 125 = .ok (.iload 4, 2) := by decide +kernel
theorem dX11_publish_127 : decode cX11_publish 127 = .ok (.ireturn, 1) := by decide +kernel
theorem dX11_shown_0 : decode cX11_shown 0 = .ok (.aload_n 0, 1) := by decide +kernel
theorem dX11_shown_1 : decode cX11_shown 1 = .ok (.iload_n 1, 1) := by decide +kernel
theorem dX11_shown_2 : decode cX11_shown 2 = .ok (.invokevirtual 299, 3) := by decide +kernel
theorem dX11_shown_5 : decode cX11_shown 5 = .ok (.getfield 311, 3) := by decide +kernel
theorem dX11_shown_8 : decode cX11_shown 8 = .ok (.astore_n 3, 1) := by decide +kernel
theorem dX11_shown_9 : decode cX11_shown 9 = .ok (.aload_n 0, 1) := by decide +kernel
theorem dX11_shown_10 : decode cX11_shown 10 = .ok (.aload_n 3, 1) := by decide +kernel
theorem dX11_shown_11 : decode cX11_shown 11 = .ok (.getfield 315, 3) := by decide +kernel
theorem dX11_shown_14 : decode cX11_shown 14 = .ok (.invokevirtual 91, 3) := by decide +kernel
theorem dX11_shown_17 : decode cX11_shown 17 = .ok (.astore 4, 2) := by decide +kernel
theorem dX11_shown_19 : decode cX11_shown 19 = .ok (.aload 4, 2) := by decide +kernel
theorem dX11_shown_21 : decode cX11_shown 21 = .ok (.iload_n 2, 1) := by decide +kernel
theorem dX11_shown_22 : decode cX11_shown 22 = .ok (.invokestatic 95, 3) := by decide +kernel
theorem dX11_shown_25 : decode cX11_shown 25 = .ok (.pop, 1) := by decide +kernel
theorem dX11_shown_26 : decode cX11_shown 26 = .ok (.iload_n 2, 1) := by decide +kernel
theorem dX11_shown_27 : decode cX11_shown 27 = .ok (.aload_n 3, 1) := by decide +kernel
theorem dX11_shown_28 : decode cX11_shown 28 = .ok (.getfield 333, 3) := by decide +kernel
theorem dX11_shown_31 : decode cX11_shown 31 = .ok (.if_icmp .ge 5, 3) := by decide +kernel
theorem dX11_shown_34 : decode cX11_shown 34 = .ok (.iconst 0, 1) := by decide +kernel
theorem dX11_shown_35 : decode cX11_shown 35 = .ok (.ireturn, 1) := by decide +kernel
theorem dX11_shown_36 : decode cX11_shown 36 = .ok (.aload 4, 2) := by decide +kernel
theorem dX11_shown_38 : decode cX11_shown 38 = .ok (.aload_n 3, 1) := by decide +kernel
theorem dX11_shown_39 : decode cX11_shown 39 = .ok (.getfield 333, 3) := by decide +kernel
theorem dX11_shown_42 : decode cX11_shown 42 = .ok (.invokevirtual 336, 3) := by decide +kernel
theorem dX11_shown_45 : decode cX11_shown 45 = .ok (.istore 5, 2) := by decide +kernel
theorem dX11_shown_47 : decode cX11_shown 47 = .ok (.iconst 1, 1) := by decide +kernel
theorem dX11_shown_48 : decode cX11_shown 48 = .ok (.aload_n 3, 1) := by decide +kernel
theorem dX11_shown_49 : decode cX11_shown 49 = .ok (.getfield 339, 3) := by decide +kernel
theorem dX11_shown_52 : decode cX11_shown 52 = .ok (.ishl, 1) := by decide +kernel
theorem dX11_shown_53 : decode cX11_shown 53 = .ok (.iconst 1, 1) := by decide +kernel
theorem dX11_shown_54 : decode cX11_shown 54 = .ok (.isub, 1) := by decide +kernel
theorem dX11_shown_55 : decode cX11_shown 55 = .ok (.aload_n 3, 1) := by decide +kernel
theorem dX11_shown_56 : decode cX11_shown 56 = .ok (.getfield 342, 3) := by decide +kernel
theorem dX11_shown_59 : decode cX11_shown 59 = .ok (.ishl, 1) := by decide +kernel
theorem dX11_shown_60 : decode cX11_shown 60 = .ok (.istore 6, 2) := by decide +kernel
theorem dX11_shown_62 : decode cX11_shown 62 = .ok (.aload_n 3, 1) := by decide +kernel
theorem dX11_shown_63 : decode cX11_shown 63 = .ok (.getfield 333, 3) := by decide +kernel
theorem dX11_shown_66 : decode cX11_shown 66 = .ok (.iconst 1, 1) := by decide +kernel
theorem dX11_shown_67 : decode cX11_shown 67 = .ok (.iadd, 1) := by decide +kernel
theorem dX11_shown_68 : decode cX11_shown 68 = .ok (.istore 7, 2) := by decide +kernel
theorem dX11_shown_70 : decode cX11_shown 70 = .ok (.iload 7, 2) := by decide +kernel
theorem dX11_shown_72 : decode cX11_shown 72 = .ok (.iload_n 2, 1) := by decide +kernel
theorem dX11_shown_73 : decode cX11_shown 73 = .ok (.if_icmp .gt 63, 3) := by decide +kernel
theorem dX11_shown_76 : decode cX11_shown 76 = .ok (.aload 4, 2) := by decide +kernel
theorem dX11_shown_78 : decode cX11_shown 78 = .ok (.iload 7, 2) := by decide +kernel
theorem dX11_shown_80 : decode cX11_shown 80 = .ok (.invokevirtual 336, 3) := by decide +kernel
theorem dX11_shown_83 : decode cX11_shown 83 = .ok (.istore 8, 2) := by decide +kernel
theorem dX11_shown_85 : decode cX11_shown 85 = .ok (.aload_n 0, 1) := by decide +kernel
theorem dX11_shown_86 : decode cX11_shown 86 = .ok (.getfield 21, 3) := by decide +kernel
theorem dX11_shown_89 : decode cX11_shown 89 = .ok (.iload 6, 2) := by decide +kernel
theorem dX11_shown_91 : decode cX11_shown 91 = .ok (.aload 4, 2) := by decide +kernel
theorem dX11_shown_93 : decode cX11_shown 93 = .ok (.iload 7, 2) := by decide +kernel
theorem dX11_shown_95 : decode cX11_shown 95 = .ok (.iconst 1, 1) := by decide +kernel
theorem dX11_shown_96 : decode cX11_shown 96 = .ok (.isub, 1) := by decide +kernel
theorem dX11_shown_97 : decode cX11_shown 97 = .ok (.invokevirtual 336, 3) := by decide +kernel
theorem dX11_shown_100 : decode cX11_shown 100 = .ok (.iload 8, 2) := by decide +kernel
theorem dX11_shown_102 : decode cX11_shown 102 = .ok (.aload_n 3, 1) := by decide +kernel
theorem dX11_shown_103 : decode cX11_shown 103 = .ok (.getfield 345, 3) := by decide +kernel
theorem dX11_shown_106 : decode cX11_shown 106 = .ok (.invokevirtual 348, 3) := by decide +kernel
theorem dX11_shown_109 : decode cX11_shown 109 = .ok (.istore 6, 2) := by decide +kernel
theorem dX11_shown_111 : decode cX11_shown 111 = .ok (.iload 6, 2) := by decide +kernel
theorem dX11_shown_113 : decode cX11_shown 113 = .ok (.ifCond .ne 17, 3) := by decide +kernel
theorem dX11_shown_116 : decode cX11_shown 116 = .ok (.aload_n 0, 1) := by decide +kernel
theorem dX11_shown_117 : decode cX11_shown 117 = .ok (.getfield 10, 3) := by decide +kernel
theorem dX11_shown_120 : decode cX11_shown 120 = .ok (.aload_n 3, 1) := by decide +kernel
theorem dX11_shown_121 : decode cX11_shown 121 = .ok (.iload 5, 2) := by decide +kernel
theorem dX11_shown_123 : decode cX11_shown 123 = .ok (.iload 8, 2) := by decide +kernel
theorem dX11_shown_125 : decode cX11_shown 125 = .ok (.invokevirtual 352, 3) := by decide +kernel
theorem dX11_shown_128 : decode cX11_shown 128 = .ok (.istore 6, 2) := by decide +kernel
theorem dX11_shown_130 : decode cX11_shown 130 = .ok (.iinc 7 1, 3) := by decide +kernel
theorem dX11_shown_133 : decode cX11_shown 133 = .ok (.goto (-63), 3) := by decide +kernel
theorem dX11_shown_136 : decode cX11_shown 136 = .ok (.iload 6, 2) := by decide +kernel
theorem dX11_shown_138 : decode cX11_shown 138 = .ok (.ireturn, 1) := by decide +kernel
theorem dX11_unresolved_0 : decode cX11_unresolved 0 = .ok (.aload_n 0, 1) := by decide +kernel
theorem dX11_unresolved_1 : decode cX11_unresolved 1 = .ok (.iload_n 1, 1) := by decide +kernel
theorem dX11_unresolved_2 : decode cX11_unresolved 2 = .ok (.invokevirtual 91, 3) := by decide +kernel
theorem dX11_unresolved_5 : decode cX11_unresolved 5 = .ok (.pop, 1) := by decide +kernel
theorem dX11_unresolved_6 : decode cX11_unresolved 6 = .ok (.aload_n 0, 1) := by decide +kernel
theorem dX11_unresolved_7 : decode cX11_unresolved 7 = .ok (.iload_n 1, 1) := by decide +kernel
theorem dX11_unresolved_8 : decode cX11_unresolved 8 = .ok (.invokevirtual 356, 3) := by decide +kernel
theorem dX11_unresolved_11 : decode cX11_unresolved 11 = .ok (.ireturn, 1) := by decide +kernel
theorem dX11_find_0 : decode cX11_find 0 = .ok (.aload_n 0, 1) := by decide +kernel
theorem dX11_find_1 : decode cX11_find 1 = .ok (.iload_n 1, 1) := by decide +kernel
theorem dX11_find_2 : decode cX11_find 2 = .ok (.invokevirtual 91, 3) := by decide +kernel
theorem dX11_find_5 : decode cX11_find 5 = .ok (.iload_n 2, 1) := by decide +kernel
theorem dX11_find_6 : decode cX11_find 6 = .ok (.invokestatic 95, 3) := by decide +kernel
theorem dX11_find_9 : decode cX11_find 9 = .ok (.istore 7, 2) := by decide +kernel
theorem dX11_find_11 : decode cX11_find 11 = .ok (.iload_n 3, 1) := by decide +kernel
theorem dX11_find_12 : decode cX11_find 12 = .ok (.invokestatic 102, 3) := by decide +kernel
theorem dX11_find_15 : decode cX11_find 15 = .ok (.iload 5, 2) := by decide +kernel
theorem dX11_find_17 : decode cX11_find 17 = .ok (.ifCond .ge 14, 3) := by decide +kernel
theorem dX11_find_20 : decode cX11_find 20 = .ok (.new 116, 3) := by decide +kernel
theorem dX11_find_23 : decode cX11_find 23 = .ok (.dup, 1) := by decide +kernel
theorem dX11_find_24 : decode cX11_find 24 = .ok (.ldc_w 359, 3) := by decide +kernel
theorem dX11_find_27 : decode cX11_find 27 = .ok (.invokespecial 120, 3) := by decide +kernel
theorem dX11_find_30 : decode cX11_find 30 = .ok (.athrow, 1) := by decide +kernel
theorem dX11_find_31 : decode cX11_find 31 = .ok (.aload_n 0, 1) := by decide +kernel
theorem dX11_find_32 : decode cX11_find 32 = .ok (.iload 7, 2) := by decide +kernel
theorem dX11_find_34 : decode cX11_find 34 = .ok (.iload_n 3, 1) := by decide +kernel
theorem dX11_find_35 : decode cX11_find 35 = .ok (.iload 4, 2) := by decide +kernel
theorem dX11_find_37 : decode cX11_find 37 = .ok (.iload 5, 2) := by decide +kernel
theorem dX11_find_39 : decode cX11_find 39 = .ok (.invokevirtual 279, 3) := by decide +kernel
theorem dX11_find_42 : decode cX11_find 42 = .ok (.iload 6, 2) := by decide +kernel
theorem dX11_find_44 : decode cX11_find 44 = .ok (.iconst (-1), 1) := by decide +kernel
theorem dX11_find_45 : decode cX11_find 45 = .ok (.if_icmp .lt 11, 3) := by decide +kernel
theorem dX11_find_48 : decode cX11_find 48 = .ok (.iload 6, 2) := by decide +kernel
theorem dX11_find_50 : decode cX11_find 50 = .ok (.sipush 400, 3) := by decide +kernel
theorem dX11_find_53 : decode cX11_find 53 = .ok (.if_icmp .lt 13, 3) := by decide +kernel
theorem dX11_find_56 : decode cX11_find 56 = .ok (.new 116, 3) := by decide +kernel
theorem dX11_find_59 : decode cX11_find 59 = .ok (.dup, 1) := by decide +kernel
theorem dX11_find_60 : decode cX11_find 60 = .ok (.ldc 118, 2) := by decide +kernel
theorem dX11_find_62 : decode cX11_find 62 = .ok (.invokespecial 120, 3) := by decide +kernel
theorem dX11_find_65 : decode cX11_find 65 = .ok (.athrow, 1) := by decide +kernel
theorem dX11_find_66 : decode cX11_find 66 = .ok (.aload_n 0, 1) := by decide +kernel
theorem dX11_find_67 : decode cX11_find 67 = .ok (.getfield 56, 3) := by decide +kernel
theorem dX11_find_70 : decode cX11_find 70 = .ok (.invokevirtual 155, 3) := by decide +kernel
theorem dX11_find_73 : decode cX11_find 73 = .ok (.bipush 40, 2) := by decide +kernel
theorem dX11_find_75 : decode cX11_find 75 = .ok (.if_icmp .lt 14, 3) := by decide +kernel
theorem dX11_find_78 : decode cX11_find 78 = .ok (.new 121, 3) := by decide +kernel
theorem dX11_find_81 : decode cX11_find 81 = .ok (.dup, 1) := by decide +kernel
theorem dX11_find_82 : decode cX11_find 82 = .ok (.ldc_w 361, 3) := by decide +kernel
theorem dX11_find_85 : decode cX11_find 85 = .ok (.invokespecial 125, 3) := by decide +kernel
theorem dX11_find_88 : decode cX11_find 88 = .ok (.athrow, 1) := by decide +kernel
theorem dX11_find_89 : decode cX11_find 89 = .ok (.aload_n 0, 1) := by decide +kernel
theorem dX11_find_90 : decode cX11_find 90 = .ok (.getfield 56, 3) := by decide +kernel
theorem dX11_find_93 : decode cX11_find 93 = .ok (.new 363, 3) := by decide +kernel
theorem dX11_find_96 : decode cX11_find 96 = .ok (.dup, 1) := by decide +kernel
theorem dX11_find_97 : decode cX11_find 97 = .ok (.iload 7, 2) := by decide +kernel
theorem dX11_find_99 : decode cX11_find 99 = .ok (.iload 6, 2) := by decide +kernel
theorem dX11_find_101 : decode cX11_find 101 = .ok (.new 291, 3) := by decide +kernel
theorem dX11_find_104 : decode cX11_find 104 = .ok (.dup, 1) := by decide +kernel
theorem dX11_find_105 : decode cX11_find 105 = .ok (.iload_n 1, 1) := by decide +kernel
theorem dX11_find_106 : decode cX11_find 106 = .ok (.iload_n 2, 1) := by decide +kernel
theorem dX11_find_107 : decode cX11_find 107 = .ok (.iload_n 3, 1) := by decide +kernel
theorem dX11_find_108 : decode cX11_find 108 = .ok (.iload 4, 2) := by decide +kernel
theorem dX11_find_110 : decode cX11_find 110 = .ok (.iload 5, 2) := by decide +kernel
theorem dX11_find_112 : decode cX11_find 112 = .ok (.invokespecial 293, 3) := by decide +kernel
theorem dX11_find_115 : decode cX11_find 115 = .ok (.invokespecial 365, 3) := by decide +kernel
theorem dX11_find_118 : decode cX11_find 118 = .ok (.invokevirtual 172, 3) := by decide +kernel
theorem dX11_find_121 : decode cX11_find 121 = .ok (.pop, 1) := by decide +kernel
theorem dX11_find_122 : decode cX11_find 122 = .ok (.aload_n 0, 1) := by decide +kernel
theorem dX11_find_123 : decode cX11_find 123 = .ok (.getfield 56, 3) := by decide +kernel
theorem dX11_find_126 : decode cX11_find 126 = .ok (.invokevirtual 155, 3) := by decide +kernel
theorem dX11_find_129 : decode cX11_find 129 = .ok (.iconst 1, 1) := by decide +kernel
theorem dX11_find_130 : decode cX11_find 130 = .ok (.isub, 1) := by decide +kernel
theorem dX11_find_131 : decode cX11_find 131 = .ok (.ireturn, 1) := by decide +kernel
theorem dX11_takeFixes_0 : decode cX11_takeFixes 0 = .ok (.aload_n 0, 1) := by decide +kernel
theorem dX11_takeFixes_1 : decode cX11_takeFixes 1 = .ok (.getfield 10, 3) := by decide +kernel
theorem dX11_takeFixes_4 : decode cX11_takeFixes 4 = .ok (.aload_n 0, 1) := by decide +kernel
theorem dX11_takeFixes_5 : decode cX11_takeFixes 5 = .ok (.iload_n 1, 1) := by decide +kernel
theorem dX11_takeFixes_6 : decode cX11_takeFixes 6 = .ok (.invokevirtual 91, 3) := by decide +kernel
theorem dX11_takeFixes_9 : decode cX11_takeFixes 9 = .ok (.getfield 180, 3) := by decide +kernel
theorem dX11_takeFixes_12 : decode cX11_takeFixes 12 = .ok (.invokevirtual 204, 3) := by decide +kernel
theorem dX11_takeFixes_15 : decode cX11_takeFixes 15 = .ok (.istore_n 3, 1) := by decide +kernel
theorem dX11_takeFixes_16 : decode cX11_takeFixes 16 = .ok (.aload_n 0, 1) := by decide +kernel
theorem dX11_takeFixes_17 : decode cX11_takeFixes 17 = .ok (.iload_n 3, 1) := by decide +kernel
theorem dX11_takeFixes_18 : decode cX11_takeFixes 18 = .ok (.iload_n 2, 1) := by decide +kernel
theorem dX11_takeFixes_19 : decode cX11_takeFixes 19 = .ok (.invokevirtual 368, 3) := by decide +kernel
theorem dX11_takeFixes_22 : decode cX11_takeFixes 22 = .ok (.lstore 4, 2) := by decide +kernel
theorem dX11_takeFixes_24 : decode cX11_takeFixes 24 = .ok (.aload_n 0, 1) := by decide +kernel
theorem dX11_takeFixes_25 : decode cX11_takeFixes 25 = .ok (.lload 4, 2) := by decide +kernel
theorem dX11_takeFixes_27 : decode cX11_takeFixes 27 = .ok (.invokevirtual 372, 3) := by decide +kernel
theorem dX11_takeFixes_30 : decode cX11_takeFixes 30 = .ok (.ifCond .eq 14, 3) := by decide +kernel
theorem dX11_takeFixes_33 : decode cX11_takeFixes 33 = .ok (.new 121, 3) := by decide +kernel
theorem dX11_takeFixes_36 : decode cX11_takeFixes 36 = .ok (.dup, 1) := by decide +kernel
theorem dX11_takeFixes_37 : decode cX11_takeFixes 37 = .ok (.ldc_w 376, 3) := by decide +kernel
theorem dX11_takeFixes_40 : decode cX11_takeFixes 40 = .ok (.invokespecial 125, 3) := by decide +kernel
theorem dX11_takeFixes_43 : decode cX11_takeFixes 43 = .ok (.athrow, 1) := by decide +kernel
theorem dX11_takeFixes_44 : decode cX11_takeFixes 44 = .ok (.iconst 0, 1) := by decide +kernel
theorem dX11_takeFixes_45 : decode cX11_takeFixes 45 = .ok (.istore 6, 2) := by decide +kernel
theorem dX11_takeFixes_47 : decode cX11_takeFixes 47 = .ok (.iload 6, 2) := by decide +kernel
theorem dX11_takeFixes_49 : decode cX11_takeFixes 49 = .ok (.iconst 4, 1) := by decide +kernel
theorem dX11_takeFixes_50 : decode cX11_takeFixes 50 = .ok (.if_icmp .ge 32, 3) := by decide +kernel
theorem dX11_takeFixes_53 : decode cX11_takeFixes 53 = .ok (.aload_n 0, 1) := by decide +kernel
theorem dX11_takeFixes_54 : decode cX11_takeFixes 54 = .ok (.iload_n 3, 1) := by decide +kernel
theorem dX11_takeFixes_55 : decode cX11_takeFixes 55 = .ok (.iload 6, 2) := by decide +kernel
theorem dX11_takeFixes_57 : decode cX11_takeFixes 57 = .ok (.lload 4, 2) := by decide +kernel
theorem dX11_takeFixes_59 : decode cX11_takeFixes 59 = .ok (.invokevirtual 378, 3) := by decide +kernel
theorem dX11_takeFixes_62 : decode cX11_takeFixes 62 = .ok (.ifCond .ne 14, 3) := by decide +kernel
theorem dX11_takeFixes_65 : decode cX11_takeFixes 65 = .ok (.new 121, 3) := by decide +kernel
theorem dX11_takeFixes_68 : decode cX11_takeFixes 68 = .ok (.dup, 1) := by decide +kernel
theorem dX11_takeFixes_69 : decode cX11_takeFixes 69 = .ok (.ldc_w 382, 3) := by decide +kernel
theorem dX11_takeFixes_72 : decode cX11_takeFixes 72 = .ok (.invokespecial 125, 3) := by decide +kernel
theorem dX11_takeFixes_75 : decode cX11_takeFixes 75 = .ok (.athrow, 1) := by decide +kernel
theorem dX11_takeFixes_76 : decode cX11_takeFixes 76 = .ok (.iinc 6 1, 3) := by decide +kernel
theorem dX11_takeFixes_79 : decode cX11_takeFixes 79 = .ok (.goto (-32), 3) := by decide +kernel
theorem dX11_takeFixes_82 : decode cX11_takeFixes 82 = .ok (.aload_n 0, 1) := by decide +kernel
theorem dX11_takeFixes_83 : decode cX11_takeFixes 83 = .ok (.getfield 10, 3) := by decide +kernel
theorem dX11_takeFixes_86 : decode cX11_takeFixes 86 = .ok (.bipush 81, 2) := by decide +kernel
theorem dX11_takeFixes_88 : decode cX11_takeFixes 88 = .ok (.bipush 80, 2) := by decide +kernel
theorem dX11_takeFixes_90 : decode cX11_takeFixes 90 = .ok (.invokevirtual 83, 3) := by decide +kernel
theorem dX11_takeFixes_93 : decode cX11_takeFixes 93 = .ok (.aload_n 0, 1) := by decide +kernel
theorem dX11_takeFixes_94 : decode cX11_takeFixes 94 = .ok (.aload_n 0, 1) := by decide +kernel
theorem dX11_takeFixes_95 : decode cX11_takeFixes 95 = .ok (.getfield 10, 3) := by decide +kernel
theorem dX11_takeFixes_98 : decode cX11_takeFixes 98 = .ok (.iload_n 3, 1) := by decide +kernel
theorem dX11_takeFixes_99 : decode cX11_takeFixes 99 = .ok (.invokevirtual 99, 3) := by decide +kernel
theorem dX11_takeFixes_102 : decode cX11_takeFixes 102 = .ok (.invokevirtual 87, 3) := by decide +kernel
theorem dX11_takeFixes_105 : decode cX11_takeFixes 105 = .ok (.pop, 1) := by decide +kernel
theorem dX11_takeFixes_106 : decode cX11_takeFixes 106 = .ok (.iload_n 2, 1) := by decide +kernel
theorem dX11_takeFixes_107 : decode cX11_takeFixes 107 = .ok (.invokestatic 384, 3) := by decide +kernel
theorem dX11_takeFixes_110 : decode cX11_takeFixes 110 = .ok (.ireturn, 1) := by decide +kernel
theorem dX11_setOwners_0 : decode cX11_setOwners 0 = .ok (.iload_n 1, 1) := by decide +kernel
theorem dX11_setOwners_1 : decode cX11_setOwners 1 = .ok (.invokestatic 143, 3) := by decide +kernel
theorem dX11_setOwners_4 : decode cX11_setOwners 4 = .ok (.iload_n 2, 1) := by decide +kernel
theorem dX11_setOwners_5 : decode cX11_setOwners 5 = .ok (.ifCond .lt 9, 3) := by decide +kernel
theorem dX11_setOwners_8 : decode cX11_setOwners 8 = .ok (.iload_n 2, 1) := by decide +kernel
theorem dX11_setOwners_9 : decode cX11_setOwners 9 = .ok (.bipush 7, 2) := by decide +kernel
theorem dX11_setOwners_11 : decode cX11_setOwners 11 = .ok (.if_icmp .lt 14, 3) := by decide +kernel
theorem dX11_setOwners_14 : decode cX11_setOwners 14 = .ok (.new 109, 3) := by decide +kernel
theorem dX11_setOwners_17 : decode cX11_setOwners 17 = .ok (.dup, 1) := by decide +kernel
theorem dX11_setOwners_18 : decode cX11_setOwners 18 = .ok (.ldc_w 389, 3) := by decide +kernel
theorem dX11_setOwners_21 : decode cX11_setOwners 21 = .ok (.invokespecial 113, 3) := by decide +kernel
theorem dX11_setOwners_24 : decode cX11_setOwners 24 = .ok (.athrow, 1) := by decide +kernel
theorem dX11_setOwners_25 : decode cX11_setOwners 25 = .ok (.iload_n 3, 1) := by decide +kernel
theorem dX11_setOwners_26 : decode cX11_setOwners 26 = .ok (.ifCond .lt 9, 3) := by decide +kernel
theorem dX11_setOwners_29 : decode cX11_setOwners 29 = .ok (.iload_n 3, 1) := by decide +kernel
theorem dX11_setOwners_30 : decode cX11_setOwners 30 = .ok (.bipush 64, 2) := by decide +kernel
theorem dX11_setOwners_32 : decode cX11_setOwners 32 = .ok (.if_icmp .lt 14, 3) := by decide +kernel
theorem dX11_setOwners_35 : decode cX11_setOwners 35 = .ok (.new 116, 3) := by decide +kernel
theorem dX11_setOwners_38 : decode cX11_setOwners 38 = .ok (.dup, 1) := by decide +kernel
theorem dX11_setOwners_39 : decode cX11_setOwners 39 = .ok (.ldc_w 391, 3) := by decide +kernel
theorem dX11_setOwners_42 : decode cX11_setOwners 42 = .ok (.invokespecial 120, 3) := by decide +kernel
theorem dX11_setOwners_45 : decode cX11_setOwners 45 = .ok (.athrow, 1) := by decide +kernel
theorem dX11_setOwners_46 : decode cX11_setOwners 46 = .ok (.aload_n 0, 1) := by decide +kernel
theorem dX11_setOwners_47 : decode cX11_setOwners 47 = .ok (.getfield 42, 3) := by decide +kernel
theorem dX11_setOwners_50 : decode cX11_setOwners 50 = .ok (.iload_n 1, 1) := by decide +kernel
theorem dX11_setOwners_51 : decode cX11_setOwners 51 = .ok (.bipush 7, 2) := by decide +kernel
theorem dX11_setOwners_53 : decode cX11_setOwners 53 = .ok (.imul, 1) := by decide +kernel
theorem dX11_setOwners_54 : decode cX11_setOwners 54 = .ok (.iload_n 2, 1) := by decide +kernel
theorem dX11_setOwners_55 : decode cX11_setOwners 55 = .ok (.iadd, 1) := by decide +kernel
theorem dX11_setOwners_56 : decode cX11_setOwners 56 = .ok (.iload_n 3, 1) := by decide +kernel
theorem dX11_setOwners_57 : decode cX11_setOwners 57 = .ok (.iload 4, 2) := by decide +kernel
theorem dX11_setOwners_59 : decode cX11_setOwners 59 = .ok (.invokevirtual 393, 3) := by decide +kernel
theorem dX11_setOwners_62 : decode cX11_setOwners 62 = .ok (.ireturn, 1) := by decide +kernel
theorem dX11_setInclude_0 : decode cX11_setInclude 0 = .ok (.iload_n 1, 1) := by decide +kernel
theorem dX11_setInclude_1 : decode cX11_setInclude 1 = .ok (.invokestatic 143, 3) := by decide +kernel
theorem dX11_setInclude_4 : decode cX11_setInclude 4 = .ok (.iload_n 2, 1) := by decide +kernel
theorem dX11_setInclude_5 : decode cX11_setInclude 5 = .ok (.ifCond .lt 8, 3) := by decide +kernel
theorem dX11_setInclude_8 : decode cX11_setInclude 8 = .ok (.iload_n 2, 1) := by decide +kernel
theorem dX11_setInclude_9 : decode cX11_setInclude 9 = .ok (.iconst 2, 1) := by decide +kernel
theorem dX11_setInclude_10 : decode cX11_setInclude 10 = .ok (.if_icmp .lt 14, 3) := by decide +kernel
theorem dX11_setInclude_13 : decode cX11_setInclude 13 = .ok (.new 109, 3) := by decide +kernel
theorem dX11_setInclude_16 : decode cX11_setInclude 16 = .ok (.dup, 1) := by decide +kernel
theorem dX11_setInclude_17 : decode cX11_setInclude 17 = .ok (.ldc_w 397, 3) := by decide +kernel
theorem dX11_setInclude_20 : decode cX11_setInclude 20 = .ok (.invokespecial 113, 3) := by decide +kernel
theorem dX11_setInclude_23 : decode cX11_setInclude 23 = .ok (.athrow, 1) := by decide +kernel
theorem dX11_setInclude_24 : decode cX11_setInclude 24 = .ok (.aload_n 0, 1) := by decide +kernel
theorem dX11_setInclude_25 : decode cX11_setInclude 25 = .ok (.getfield 42, 3) := by decide +kernel
theorem dX11_setInclude_28 : decode cX11_setInclude 28 = .ok (.iload_n 1, 1) := by decide +kernel
theorem dX11_setInclude_29 : decode cX11_setInclude 29 = .ok (.iconst 2, 1) := by decide +kernel
theorem dX11_setInclude_30 : decode cX11_setInclude 30 = .ok (.imul, 1) := by decide +kernel
theorem dX11_setInclude_31 : decode cX11_setInclude 31 = .ok (.iload_n 2, 1) := by decide +kernel
theorem dX11_setInclude_32 : decode cX11_setInclude 32 = .ok (.iadd, 1) := by decide +kernel
theorem dX11_setInclude_33 : decode cX11_setInclude 33 = .ok (.iload_n 3, 1) := by decide +kernel
theorem dX11_setInclude_34 : decode cX11_setInclude 34 = .ok (.invokevirtual 399, 3) := by decide +kernel
theorem dX11_setInclude_37 : decode cX11_setInclude 37 = .ok (.ireturn, 1) := by decide +kernel
theorem dX11_setLastResort_0 : decode cX11_setLastResort 0 = .ok (.iload_n 1, 1) := by decide +kernel
theorem dX11_setLastResort_1 : decode cX11_setLastResort 1 = .ok (.invokestatic 152, 3) := by decide +kernel
theorem dX11_setLastResort_4 : decode cX11_setLastResort 4 = .ok (.aload_n 0, 1) := by decide +kernel
theorem dX11_setLastResort_5 : decode cX11_setLastResort 5 = .ok (.getfield 42, 3) := by decide +kernel
theorem dX11_setLastResort_8 : decode cX11_setLastResort 8 = .ok (.getfield 403, 3) := by decide +kernel
theorem dX11_setLastResort_11 : decode cX11_setLastResort 11 = .ok (.istore_n 2, 1) := by decide +kernel
theorem dX11_setLastResort_12 : decode cX11_setLastResort 12 = .ok (.aload_n 0, 1) := by decide +kernel
theorem dX11_setLastResort_13 : decode cX11_setLastResort 13 = .ok (.getfield 42, 3) := by decide +kernel
theorem dX11_setLastResort_16 : decode cX11_setLastResort 16 = .ok (.iload_n 1, 1) := by decide +kernel
theorem dX11_setLastResort_17 : decode cX11_setLastResort 17 = .ok (.putfield 403, 3) := by decide +kernel
theorem dX11_setLastResort_20 : decode cX11_setLastResort 20 = .ok (.iload_n 2, 1) := by decide +kernel
theorem dX11_setLastResort_21 : decode cX11_setLastResort 21 = .ok (.ireturn, 1) := by decide +kernel
theorem dX11_owners_0 : decode cX11_owners 0 = .ok (.iload_n 1, 1) := by decide +kernel
theorem dX11_owners_1 : decode cX11_owners 1 = .ok (.invokestatic 143, 3) := by decide +kernel
theorem dX11_owners_4 : decode cX11_owners 4 = .ok (.iload_n 2, 1) := by decide +kernel
theorem dX11_owners_5 : decode cX11_owners 5 = .ok (.invokestatic 102, 3) := by decide +kernel
theorem dX11_owners_8 : decode cX11_owners 8 = .ok (.aload_n 0, 1) := by decide +kernel
theorem dX11_owners_9 : decode cX11_owners 9 = .ok (.getfield 42, 3) := by decide +kernel
theorem dX11_owners_12 : decode cX11_owners 12 = .ok (.iload_n 1, 1) := by decide +kernel
theorem dX11_owners_13 : decode cX11_owners 13 = .ok (.iload_n 2, 1) := by decide +kernel
theorem dX11_owners_14 : decode cX11_owners 14 = .ok (.invokevirtual 406, 3) := by decide +kernel
theorem dX11_owners_17 : decode cX11_owners 17 = .ok (.ireturn, 1) := by decide +kernel
theorem dX11_fewest_0 : decode cX11_fewest 0 = .ok (.aload_n 0, 1) := by decide +kernel
theorem dX11_fewest_1 : decode cX11_fewest 1 = .ok (.iload_n 1, 1) := by decide +kernel
theorem dX11_fewest_2 : decode cX11_fewest 2 = .ok (.invokevirtual 91, 3) := by decide +kernel
theorem dX11_fewest_5 : decode cX11_fewest 5 = .ok (.astore_n 2, 1) := by decide +kernel
theorem dX11_fewest_6 : decode cX11_fewest 6 = .ok (.bipush 63, 2) := by decide +kernel
theorem dX11_fewest_8 : decode cX11_fewest 8 = .ok (.istore_n 3, 1) := by decide +kernel
theorem dX11_fewest_9 : decode cX11_fewest 9 = .ok (.iconst 0, 1) := by decide +kernel
theorem dX11_fewest_10 : decode cX11_fewest 10 = .ok (.istore 4, 2) := by decide +kernel
theorem dX11_fewest_12 : decode cX11_fewest 12 = .ok (.iload 4, 2) := by decide +kernel
theorem dX11_fewest_14 : decode cX11_fewest 14 = .ok (.bipush 64, 2) := by decide +kernel
theorem dX11_fewest_16 : decode cX11_fewest 16 = .ok (.if_icmp .ge 34, 3) := by decide +kernel
theorem dX11_fewest_19 : decode cX11_fewest 19 = .ok (.iload 4, 2) := by decide +kernel
theorem dX11_fewest_21 : decode cX11_fewest 21 = .ok (.invokestatic 384, 3) := by decide +kernel
theorem dX11_fewest_24 : decode cX11_fewest 24 = .ok (.iload_n 3, 1) := by decide +kernel
theorem dX11_fewest_25 : decode cX11_fewest 25 = .ok (.invokestatic 384, 3) := by decide +kernel
theorem dX11_fewest_28 : decode cX11_fewest 28 = .ok (.if_icmp .ge 16, 3) := by decide +kernel
theorem dX11_fewest_31 : decode cX11_fewest 31 = .ok (.aload_n 0, 1) := by decide +kernel
theorem dX11_fewest_32 : decode cX11_fewest 32 = .ok (.aload_n 2, 1) := by decide +kernel
theorem dX11_fewest_33 : decode cX11_fewest 33 = .ok (.iload 4, 2) := by decide +kernel
theorem dX11_fewest_35 : decode cX11_fewest 35 = .ok (.invokevirtual 409, 3) := by decide +kernel
theorem dX11_fewest_38 : decode cX11_fewest 38 = .ok (.ifCond .eq 6, 3) := by decide +kernel
theorem dX11_fewest_41 : decode cX11_fewest 41 = .ok (.iload 4, 2) := by decide +kernel
theorem dX11_fewest_43 : decode cX11_fewest 43 = .ok (.istore_n 3, 1) := by decide +kernel
theorem dX11_fewest_44 : decode cX11_fewest 44 = .ok (.iinc 4 1, 3) := by decide +kernel
theorem dX11_fewest_47 : decode cX11_fewest 47 = .ok (.goto (-35), 3) := by decide +kernel
theorem dX11_fewest_50 : decode cX11_fewest 50 = .ok (.iload_n 3, 1) := by decide +kernel
theorem dX11_fewest_51 : decode cX11_fewest 51 = .ok (.ireturn, 1) := by decide +kernel
theorem dX11_vote_0 : decode cX11_vote 0 = .ok (.iload_n 1, 1) := by decide +kernel
theorem dX11_vote_1 : decode cX11_vote 1 = .ok (.invokestatic 152, 3) := by decide +kernel
theorem dX11_vote_4 : decode cX11_vote 4 = .ok (.aload_n 0, 1) := by decide +kernel
theorem dX11_vote_5 : decode cX11_vote 5 = .ok (.iload_n 2, 1) := by decide +kernel
theorem dX11_vote_6 : decode cX11_vote 6 = .ok (.invokevirtual 91, 3) := by decide +kernel
theorem dX11_vote_9 : decode cX11_vote 9 = .ok (.astore 6, 2) := by decide +kernel
theorem dX11_vote_11 : decode cX11_vote 11 = .ok (.aload 6, 2) := by decide +kernel
theorem dX11_vote_13 : decode cX11_vote 13 = .ok (.iload_n 3, 1) := by decide +kernel
theorem dX11_vote_14 : decode cX11_vote 14 = .ok (.invokestatic 95, 3) := by decide +kernel
theorem dX11_vote_17 : decode cX11_vote 17 = .ok (.istore 7, 2) := by decide +kernel
theorem dX11_vote_19 : decode cX11_vote 19 = .ok (.iload 4, 2) := by decide +kernel
theorem dX11_vote_21 : decode cX11_vote 21 = .ok (.invokestatic 413, 3) := by decide +kernel
theorem dX11_vote_24 : decode cX11_vote 24 = .ok (.iload 4, 2) := by decide +kernel
theorem dX11_vote_26 : decode cX11_vote 26 = .ok (.ifCond .ne 7, 3) := by decide +kernel
theorem dX11_vote_29 : decode cX11_vote 29 = .ok (.iconst 2, 1) := by decide +kernel
theorem dX11_vote_30 : decode cX11_vote 30 = .ok (.goto 4, 3) := by decide +kernel
theorem dX11_vote_33 : decode cX11_vote 33 = .ok (.iconst 1, 1) := by decide +kernel
theorem dX11_vote_34 : decode cX11_vote 34 = .ok (.istore 8, 2) := by decide +kernel
theorem dX11_vote_36 : decode cX11_vote 36 = .ok (.iload 5, 2) := by decide +kernel
theorem dX11_vote_38 : decode cX11_vote 38 = .ok (.iload 8, 2) := by decide +kernel
theorem dX11_vote_40 : decode cX11_vote 40 = .ok (.ineg, 1) := by decide +kernel
theorem dX11_vote_41 : decode cX11_vote 41 = .ok (.if_icmp .lt 10, 3) := by decide +kernel
theorem dX11_vote_44 : decode cX11_vote 44 = .ok (.iload 5, 2) := by decide +kernel
theorem dX11_vote_46 : decode cX11_vote 46 = .ok (.iload 8, 2) := by decide +kernel
theorem dX11_vote_48 : decode cX11_vote 48 = .ok (.if_icmp .le 14, 3) := by decide +kernel
theorem dX11_vote_51 : decode cX11_vote 51 = .ok (.new 116, 3) := by decide +kernel
theorem dX11_vote_54 : decode cX11_vote 54 = .ok (.dup, 1) := by decide +kernel
theorem dX11_vote_55 : decode cX11_vote 55 = .ok (.ldc_w 416, 3) := by decide +kernel
theorem dX11_vote_58 : decode cX11_vote 58 = .ok (.invokespecial 120, 3) := by decide +kernel
theorem dX11_vote_61 : decode cX11_vote 61 = .ok (.athrow, 1) := by decide +kernel
theorem dX11_vote_62 : decode cX11_vote 62 = .ok (.iload_n 1, 1) := by decide +kernel
theorem dX11_vote_63 : decode cX11_vote 63 = .ok (.aload 6, 2) := by decide +kernel
theorem dX11_vote_65 : decode cX11_vote 65 = .ok (.invokestatic 183, 3) := by decide +kernel
theorem dX11_vote_68 : decode cX11_vote 68 = .ok (.aload_n 0, 1) := by decide +kernel
theorem dX11_vote_69 : decode cX11_vote 69 = .ok (.getfield 28, 3) := by decide +kernel
theorem dX11_vote_72 : decode cX11_vote 72 = .ok (.iload 7, 2) := by decide +kernel
theorem dX11_vote_74 : decode cX11_vote 74 = .ok (.iload 4, 2) := by decide +kernel
theorem dX11_vote_76 : decode cX11_vote 76 = .ok (.iload_n 1, 1) := by decide +kernel
theorem dX11_vote_77 : decode cX11_vote 77 = .ok (.iload 5, 2) := by decide +kernel
theorem dX11_vote_79 : decode cX11_vote 79 = .ok (.invokevirtual 418, 3) := by decide +kernel
theorem dX11_vote_82 : decode cX11_vote 82 = .ok (.aload 6, 2) := by decide +kernel
theorem dX11_vote_84 : decode cX11_vote 84 = .ok (.iload_n 1, 1) := by decide +kernel
theorem dX11_vote_85 : decode cX11_vote 85 = .ok (.invokevirtual 323, 3) := by decide +kernel
theorem dX11_vote_88 : decode cX11_vote 88 = .ok (.aload_n 0, 1) := by decide +kernel
theorem dX11_vote_89 : decode cX11_vote 89 = .ok (.iload_n 1, 1) := by decide +kernel
theorem dX11_vote_90 : decode cX11_vote 90 = .ok (.aload 6, 2) := by decide +kernel
theorem dX11_vote_92 : decode cX11_vote 92 = .ok (.iconst 0, 1) := by decide +kernel
theorem dX11_vote_93 : decode cX11_vote 93 = .ok (.invokevirtual 326, 3) := by decide +kernel
theorem dX11_vote_96 : decode cX11_vote 96 = .ok (.aload_n 0, 1) := by decide +kernel
theorem dX11_vote_97 : decode cX11_vote 97 = .ok (.iload_n 1, 1) := by decide +kernel
theorem dX11_vote_98 : decode cX11_vote 98 = .ok (.aload 6, 2) := by decide +kernel
theorem dX11_vote_100 : decode cX11_vote 100 = .ok (.invokevirtual 330, 3) := by decide +kernel
theorem dX11_vote_103 : decode cX11_vote 103 = .ok (.aload_n 0, 1) := by decide +kernel
theorem dX11_vote_104 : decode cX11_vote 104 = .ok (.getfield 28, 3) := by decide +kernel
theorem dX11_vote_107 : decode cX11_vote 107 = .ok (.aload 6, 2) := by decide +kernel
theorem dX11_vote_109 : decode cX11_vote 109 = .ok (.aload 6, 2) := by decide +kernel
theorem dX11_vote_111 : decode cX11_vote 111 = .ok (.getfield 238, 3) := by decide +kernel
theorem dX11_vote_114 : decode cX11_vote 114 = .ok (.iconst 1, 1) := by decide +kernel
theorem dX11_vote_115 : decode cX11_vote 115 = .ok (.isub, 1) := by decide +kernel
theorem dX11_vote_116 : decode cX11_vote 116 = .ok (.iload 4, 2) := by decide +kernel
theorem dX11_vote_118 : decode cX11_vote 118 = .ok (.iload_n 1, 1) := by decide +kernel
theorem dX11_vote_119 : decode cX11_vote 119 = .ok (.invokevirtual 421, 3) := by decide +kernel
theorem dX11_vote_122 : decode cX11_vote 122 = .ok (.ireturn, 1) := by decide +kernel
theorem dX11_worth_0 : decode cX11_worth 0 = .ok (.iload_n 1, 1) := by decide +kernel
theorem dX11_worth_1 : decode cX11_worth 1 = .ok (.invokestatic 152, 3) := by decide +kernel
theorem dX11_worth_4 : decode cX11_worth 4 = .ok (.aload_n 0, 1) := by decide +kernel
theorem dX11_worth_5 : decode cX11_worth 5 = .ok (.iload_n 2, 1) := by decide +kernel
theorem dX11_worth_6 : decode cX11_worth 6 = .ok (.invokevirtual 91, 3) := by decide +kernel
theorem dX11_worth_9 : decode cX11_worth 9 = .ok (.astore 5, 2) := by decide +kernel
theorem dX11_worth_11 : decode cX11_worth 11 = .ok (.aload 5, 2) := by decide +kernel
theorem dX11_worth_13 : decode cX11_worth 13 = .ok (.iload_n 3, 1) := by decide +kernel
theorem dX11_worth_14 : decode cX11_worth 14 = .ok (.invokestatic 95, 3) := by decide +kernel
theorem dX11_worth_17 : decode cX11_worth 17 = .ok (.pop, 1) := by decide +kernel
theorem dX11_worth_18 : decode cX11_worth 18 = .ok (.iload 4, 2) := by decide +kernel
theorem dX11_worth_20 : decode cX11_worth 20 = .ok (.invokestatic 413, 3) := by decide +kernel
theorem dX11_worth_23 : decode cX11_worth 23 = .ok (.aload_n 0, 1) := by decide +kernel
theorem dX11_worth_24 : decode cX11_worth 24 = .ok (.getfield 28, 3) := by decide +kernel
theorem dX11_worth_27 : decode cX11_worth 27 = .ok (.aload 5, 2) := by decide +kernel
theorem dX11_worth_29 : decode cX11_worth 29 = .ok (.iload_n 3, 1) := by decide +kernel
theorem dX11_worth_30 : decode cX11_worth 30 = .ok (.iload 4, 2) := by decide +kernel
theorem dX11_worth_32 : decode cX11_worth 32 = .ok (.iload_n 1, 1) := by decide +kernel
theorem dX11_worth_33 : decode cX11_worth 33 = .ok (.invokevirtual 421, 3) := by decide +kernel
theorem dX11_worth_36 : decode cX11_worth 36 = .ok (.ireturn, 1) := by decide +kernel
theorem dX11_setCopied_0 : decode cX11_setCopied 0 = .ok (.iload_n 1, 1) := by decide +kernel
theorem dX11_setCopied_1 : decode cX11_setCopied 1 = .ok (.invokestatic 413, 3) := by decide +kernel
theorem dX11_setCopied_4 : decode cX11_setCopied 4 = .ok (.iload_n 2, 1) := by decide +kernel
theorem dX11_setCopied_5 : decode cX11_setCopied 5 = .ok (.ifCond .lt 8, 3) := by decide +kernel
theorem dX11_setCopied_8 : decode cX11_setCopied 8 = .ok (.iload_n 2, 1) := by decide +kernel
theorem dX11_setCopied_9 : decode cX11_setCopied 9 = .ok (.iconst 3, 1) := by decide +kernel
theorem dX11_setCopied_10 : decode cX11_setCopied 10 = .ok (.if_icmp .lt 14, 3) := by decide +kernel
theorem dX11_setCopied_13 : decode cX11_setCopied 13 = .ok (.new 116, 3) := by decide +kernel
theorem dX11_setCopied_16 : decode cX11_setCopied 16 = .ok (.dup, 1) := by decide +kernel
theorem dX11_setCopied_17 : decode cX11_setCopied 17 = .ok (.ldc_w 425, 3) := by decide +kernel
theorem dX11_setCopied_20 : decode cX11_setCopied 20 = .ok (.invokespecial 120, 3) := by decide +kernel
theorem dX11_setCopied_23 : decode cX11_setCopied 23 = .ok (.athrow, 1) := by decide +kernel
theorem dX11_setCopied_24 : decode cX11_setCopied 24 = .ok (.iload_n 3, 1) := by decide +kernel
theorem dX11_setCopied_25 : decode cX11_setCopied 25 = .ok (.ifCond .lt 9, 3) := by decide +kernel
theorem dX11_setCopied_28 : decode cX11_setCopied 28 = .ok (.iload_n 3, 1) := by decide +kernel
theorem dX11_setCopied_29 : decode cX11_setCopied 29 = .ok (.bipush 32, 2) := by decide +kernel
theorem dX11_setCopied_31 : decode cX11_setCopied 31 = .ok (.if_icmp .lt 14, 3) := by decide +kernel
theorem dX11_setCopied_34 : decode cX11_setCopied 34 = .ok (.new 116, 3) := by decide +kernel
theorem dX11_setCopied_37 : decode cX11_setCopied 37 = .ok (.dup, 1) := by decide +kernel
theorem dX11_setCopied_38 : decode cX11_setCopied 38 = .ok (.ldc_w 427, 3) := by decide +kernel
theorem dX11_setCopied_41 : decode cX11_setCopied 41 = .ok (.invokespecial 120, 3) := by decide +kernel
theorem dX11_setCopied_44 : decode cX11_setCopied 44 = .ok (.athrow, 1) := by decide +kernel
theorem dX11_setCopied_45 : decode cX11_setCopied 45 = .ok (.aload_n 0, 1) := by decide +kernel
theorem dX11_setCopied_46 : decode cX11_setCopied 46 = .ok (.getfield 28, 3) := by decide +kernel
theorem dX11_setCopied_49 : decode cX11_setCopied 49 = .ok (.iload_n 1, 1) := by decide +kernel
theorem dX11_setCopied_50 : decode cX11_setCopied 50 = .ok (.iconst 3, 1) := by decide +kernel
theorem dX11_setCopied_51 : decode cX11_setCopied 51 = .ok (.imul, 1) := by decide +kernel
theorem dX11_setCopied_52 : decode cX11_setCopied 52 = .ok (.iload_n 2, 1) := by decide +kernel
theorem dX11_setCopied_53 : decode cX11_setCopied 53 = .ok (.iadd, 1) := by decide +kernel
theorem dX11_setCopied_54 : decode cX11_setCopied 54 = .ok (.iload_n 3, 1) := by decide +kernel
theorem dX11_setCopied_55 : decode cX11_setCopied 55 = .ok (.invokevirtual 429, 3) := by decide +kernel
theorem dX11_setCopied_58 : decode cX11_setCopied 58 = .ok (.ireturn, 1) := by decide +kernel
theorem dX11_addRule_0 : decode cX11_addRule 0 = .ok (.iload_n 1, 1) := by decide +kernel
theorem dX11_addRule_1 : decode cX11_addRule 1 = .ok (.bipush 8, 2) := by decide +kernel
theorem dX11_addRule_3 : decode cX11_addRule 3 = .ok (.if_icmp .lt 9, 3) := by decide +kernel
theorem dX11_addRule_6 : decode cX11_addRule 6 = .ok (.iload_n 1, 1) := by decide +kernel
theorem dX11_addRule_7 : decode cX11_addRule 7 = .ok (.bipush 16, 2) := by decide +kernel
theorem dX11_addRule_9 : decode cX11_addRule 9 = .ok (.if_icmp .lt 14, 3) := by decide +kernel
theorem dX11_addRule_12 : decode cX11_addRule 12 = .ok (.new 116, 3) := by decide +kernel
theorem dX11_addRule_15 : decode cX11_addRule 15 = .ok (.dup, 1) := by decide +kernel
theorem dX11_addRule_16 : decode cX11_addRule 16 = .ok (.ldc_w 432, 3) := by decide +kernel
theorem dX11_addRule_19 : decode cX11_addRule 19 = .ok (.invokespecial 120, 3) := by decide +kernel
theorem dX11_addRule_22 : decode cX11_addRule 22 = .ok (.athrow, 1) := by decide +kernel
theorem dX11_addRule_23 : decode cX11_addRule 23 = .ok (.iload_n 2, 1) := by decide +kernel
theorem dX11_addRule_24 : decode cX11_addRule 24 = .ok (.ifCond .lt 21, 3) := by decide +kernel
theorem dX11_addRule_27 : decode cX11_addRule 27 = .ok (.iload_n 2, 1) := by decide +kernel
theorem dX11_addRule_28 : decode cX11_addRule 28 = .ok (.ldc_w 434, 3) := by decide +kernel
theorem dX11_addRule_31 : decode cX11_addRule 31 = .ok (.if_icmp .ge 14, 3) := by decide +kernel
theorem dX11_addRule_34 : decode cX11_addRule 34 = .ok (.iload_n 3, 1) := by decide +kernel
theorem dX11_addRule_35 : decode cX11_addRule 35 = .ok (.ifCond .lt 10, 3) := by decide +kernel
theorem dX11_addRule_38 : decode cX11_addRule 38 = .ok (.iload_n 3, 1) := by decide +kernel
theorem dX11_addRule_39 : decode cX11_addRule 39 = .ok (.ldc_w 434, 3) := by decide +kernel
theorem dX11_addRule_42 : decode cX11_addRule 42 = .ok (.if_icmp .lt 14, 3) := by decide +kernel
theorem dX11_addRule_45 : decode cX11_addRule 45 = .ok (.new 116, 3) := by decide +kernel
theorem dX11_addRule_48 : decode cX11_addRule 48 = .ok (.dup, 1) := by decide +kernel
theorem dX11_addRule_49 : decode cX11_addRule 49 = .ok (.ldc_w 435, 3) := by decide +kernel
theorem dX11_addRule_52 : decode cX11_addRule 52 = .ok (.invokespecial 120, 3) := by decide +kernel
theorem dX11_addRule_55 : decode cX11_addRule 55 = .ok (.athrow, 1) := by decide +kernel
theorem dX11_addRule_56 : decode cX11_addRule 56 = .ok (.aload_n 0, 1) := by decide +kernel
theorem dX11_addRule_57 : decode cX11_addRule 57 = .ok (.getfield 35, 3) := by decide +kernel
theorem dX11_addRule_60 : decode cX11_addRule 60 = .ok (.iload_n 1, 1) := by decide +kernel
theorem dX11_addRule_61 : decode cX11_addRule 61 = .ok (.iload_n 2, 1) := by decide +kernel
theorem dX11_addRule_62 : decode cX11_addRule 62 = .ok (.iload_n 3, 1) := by decide +kernel
theorem dX11_addRule_63 : decode cX11_addRule 63 = .ok (.invokevirtual 437, 3) := by decide +kernel
theorem dX11_addRule_66 : decode cX11_addRule 66 = .ok (.istore 4, 2) := by decide +kernel
theorem dX11_addRule_68 : decode cX11_addRule 68 = .ok (.iload 4, 2) := by decide +kernel
theorem dX11_addRule_70 : decode cX11_addRule 70 = .ok (.iconst (-1), 1) := by decide +kernel
theorem dX11_addRule_71 : decode cX11_addRule 71 = .ok (.if_icmp .ne 14, 3) := by decide +kernel
theorem dX11_addRule_74 : decode cX11_addRule 74 = .ok (.new 121, 3) := by decide +kernel
theorem dX11_addRule_77 : decode cX11_addRule 77 = .ok (.dup, 1) := by decide +kernel
theorem dX11_addRule_78 : decode cX11_addRule 78 = .ok (.ldc_w 440, 3) := by decide +kernel
theorem dX11_addRule_81 : decode cX11_addRule 81 = .ok (.invokespecial 125, 3) := by decide +kernel
theorem dX11_addRule_84 : decode cX11_addRule 84 = .ok (.athrow, 1) := by decide +kernel
theorem dX11_addRule_85 : decode cX11_addRule 85 = .ok (.iload 4, 2) := by decide +kernel
theorem dX11_addRule_87 : decode cX11_addRule 87 = .ok (.ireturn, 1) := by decide +kernel
theorem dX11_dropRule_0 : decode cX11_dropRule 0 = .ok (.aload_n 0, 1) := by decide +kernel
theorem dX11_dropRule_1 : decode cX11_dropRule 1 = .ok (.getfield 35, 3) := by decide +kernel
theorem dX11_dropRule_4 : decode cX11_dropRule 4 = .ok (.iload_n 1, 1) := by decide +kernel
theorem dX11_dropRule_5 : decode cX11_dropRule 5 = .ok (.invokevirtual 442, 3) := by decide +kernel
theorem dX11_dropRule_8 : decode cX11_dropRule 8 = .ok (.istore_n 2, 1) := by decide +kernel
theorem dX11_dropRule_9 : decode cX11_dropRule 9 = .ok (.iload_n 2, 1) := by decide +kernel
theorem dX11_dropRule_10 : decode cX11_dropRule 10 = .ok (.iconst (-1), 1) := by decide +kernel
theorem dX11_dropRule_11 : decode cX11_dropRule 11 = .ok (.if_icmp .ne 14, 3) := by decide +kernel
theorem dX11_dropRule_14 : decode cX11_dropRule 14 = .ok (.new 109, 3) := by decide +kernel
theorem dX11_dropRule_17 : decode cX11_dropRule 17 = .ok (.dup, 1) := by decide +kernel
theorem dX11_dropRule_18 : decode cX11_dropRule 18 = .ok (.ldc_w 445, 3) := by decide +kernel
theorem dX11_dropRule_21 : decode cX11_dropRule 21 = .ok (.invokespecial 113, 3) := by decide +kernel
theorem dX11_dropRule_24 : decode cX11_dropRule 24 = .ok (.athrow, 1) := by decide +kernel
theorem dX11_dropRule_25 : decode cX11_dropRule 25 = .ok (.iload_n 2, 1) := by decide +kernel
theorem dX11_dropRule_26 : decode cX11_dropRule 26 = .ok (.ireturn, 1) := by decide +kernel
theorem dX11_statements_0 : decode cX11_statements 0 = .ok (.aload_n 0, 1) := by decide +kernel
theorem dX11_statements_1 : decode cX11_statements 1 = .ok (.getfield 35, 3) := by decide +kernel
theorem dX11_statements_4 : decode cX11_statements 4 = .ok (.aload_n 0, 1) := by decide +kernel
theorem dX11_statements_5 : decode cX11_statements 5 = .ok (.aload_n 0, 1) := by decide +kernel
theorem dX11_statements_6 : decode cX11_statements 6 = .ok (.iload_n 1, 1) := by decide +kernel
theorem dX11_statements_7 : decode cX11_statements 7 = .ok (.invokevirtual 91, 3) := by decide +kernel
theorem dX11_statements_10 : decode cX11_statements 10 = .ok (.iconst 0, 1) := by decide +kernel
theorem dX11_statements_11 : decode cX11_statements 11 = .ok (.invokevirtual 447, 3) := by decide +kernel
theorem dX11_statements_14 : decode cX11_statements 14 = .ok (.invokevirtual 450, 3) := by decide +kernel
theorem dX11_statements_17 : decode cX11_statements 17 = .ok (.ireturn, 1) := by decide +kernel
theorem dX11_lacks_0 : decode cX11_lacks 0 = .ok (.aload_n 0, 1) := by decide +kernel
theorem dX11_lacks_1 : decode cX11_lacks 1 = .ok (.getfield 35, 3) := by decide +kernel
theorem dX11_lacks_4 : decode cX11_lacks 4 = .ok (.aload_n 0, 1) := by decide +kernel
theorem dX11_lacks_5 : decode cX11_lacks 5 = .ok (.aload_n 0, 1) := by decide +kernel
theorem dX11_lacks_6 : decode cX11_lacks 6 = .ok (.iload_n 1, 1) := by decide +kernel
theorem dX11_lacks_7 : decode cX11_lacks 7 = .ok (.invokevirtual 91, 3) := by decide +kernel
theorem dX11_lacks_10 : decode cX11_lacks 10 = .ok (.iconst 0, 1) := by decide +kernel
theorem dX11_lacks_11 : decode cX11_lacks 11 = .ok (.invokevirtual 447, 3) := by decide +kernel
theorem dX11_lacks_14 : decode cX11_lacks 14 = .ok (.invokevirtual 452, 3) := by decide +kernel
theorem dX11_lacks_17 : decode cX11_lacks 17 = .ok (.ireturn, 1) := by decide +kernel
theorem dX11_setWay_0 : decode cX11_setWay 0 = .ok (.iload_n 1, 1) := by decide +kernel
theorem dX11_setWay_1 : decode cX11_setWay 1 = .ok (.invokestatic 143, 3) := by decide +kernel
theorem dX11_setWay_4 : decode cX11_setWay 4 = .ok (.iload_n 2, 1) := by decide +kernel
theorem dX11_setWay_5 : decode cX11_setWay 5 = .ok (.ifCond .lt 8, 3) := by decide +kernel
theorem dX11_setWay_8 : decode cX11_setWay 8 = .ok (.iload_n 2, 1) := by decide +kernel
theorem dX11_setWay_9 : decode cX11_setWay 9 = .ok (.iconst 2, 1) := by decide +kernel
theorem dX11_setWay_10 : decode cX11_setWay 10 = .ok (.if_icmp .le 14, 3) := by decide +kernel
theorem dX11_setWay_13 : decode cX11_setWay 13 = .ok (.new 116, 3) := by decide +kernel
theorem dX11_setWay_16 : decode cX11_setWay 16 = .ok (.dup, 1) := by decide +kernel
theorem dX11_setWay_17 : decode cX11_setWay 17 = .ok (.ldc_w 455, 3) := by decide +kernel
theorem dX11_setWay_20 : decode cX11_setWay 20 = .ok (.invokespecial 120, 3) := by decide +kernel
theorem dX11_setWay_23 : decode cX11_setWay 23 = .ok (.athrow, 1) := by decide +kernel
theorem dX11_setWay_24 : decode cX11_setWay 24 = .ok (.aload_n 0, 1) := by decide +kernel
theorem dX11_setWay_25 : decode cX11_setWay 25 = .ok (.getfield 64, 3) := by decide +kernel
theorem dX11_setWay_28 : decode cX11_setWay 28 = .ok (.iload_n 1, 1) := by decide +kernel
theorem dX11_setWay_29 : decode cX11_setWay 29 = .ok (.iload_n 2, 1) := by decide +kernel
theorem dX11_setWay_30 : decode cX11_setWay 30 = .ok (.invokevirtual 457, 3) := by decide +kernel
theorem dX11_setWay_33 : decode cX11_setWay 33 = .ok (.ireturn, 1) := by decide +kernel
theorem dX11_group_0 : decode cX11_group 0 = .ok (.aload_n 0, 1) := by decide +kernel
theorem dX11_group_1 : decode cX11_group 1 = .ok (.iload_n 1, 1) := by decide +kernel
theorem dX11_group_2 : decode cX11_group 2 = .ok (.invokevirtual 91, 3) := by decide +kernel
theorem dX11_group_5 : decode cX11_group 5 = .ok (.getfield 227, 3) := by decide +kernel
theorem dX11_group_8 : decode cX11_group 8 = .ok (.ifCond .eq 13, 3) := by decide +kernel
theorem dX11_group_11 : decode cX11_group 11 = .ok (.new 121, 3) := by decide +kernel
theorem dX11_group_14 : decode cX11_group 14 = .ok (.dup, 1) := by decide +kernel
theorem dX11_group_15 : decode cX11_group 15 = .ok (.ldc 241, 2) := by decide +kernel
theorem dX11_group_17 : decode cX11_group 17 = .ok (.invokespecial 125, 3) := by decide +kernel
theorem dX11_group_20 : decode cX11_group 20 = .ok (.athrow, 1) := by decide +kernel
theorem dX11_group_21 : decode cX11_group 21 = .ok (.aload_n 0, 1) := by decide +kernel
theorem dX11_group_22 : decode cX11_group 22 = .ok (.getfield 64, 3) := by decide +kernel
theorem dX11_group_25 : decode cX11_group 25 = .ok (.iload_n 1, 1) := by decide +kernel
theorem dX11_group_26 : decode cX11_group 26 = .ok (.invokevirtual 460, 3) := by decide +kernel
theorem dX11_group_29 : decode cX11_group 29 = .ok (.ireturn, 1) := by decide +kernel
theorem dX11_land_0 : decode cX11_land 0 = .ok (.iload_n 1, 1) := by decide +kernel
theorem dX11_land_1 : decode cX11_land 1 = .ok (.invokestatic 152, 3) := by decide +kernel
theorem dX11_land_4 : decode cX11_land 4 = .ok (.iload_n 1, 1) := by decide +kernel
theorem dX11_land_5 : decode cX11_land 5 = .ok (.aload_n 0, 1) := by decide +kernel
theorem dX11_land_6 : decode cX11_land 6 = .ok (.iload_n 2, 1) := by decide +kernel
theorem dX11_land_7 : decode cX11_land 7 = .ok (.invokevirtual 91, 3) := by decide +kernel
theorem dX11_land_10 : decode cX11_land 10 = .ok (.invokestatic 183, 3) := by decide +kernel
theorem dX11_land_13 : decode cX11_land 13 = .ok (.aload_n 0, 1) := by decide +kernel
theorem dX11_land_14 : decode cX11_land 14 = .ok (.getfield 64, 3) := by decide +kernel
theorem dX11_land_17 : decode cX11_land 17 = .ok (.iload_n 2, 1) := by decide +kernel
theorem dX11_land_18 : decode cX11_land 18 = .ok (.invokevirtual 460, 3) := by decide +kernel
theorem dX11_land_21 : decode cX11_land 21 = .ok (.istore_n 3, 1) := by decide +kernel
theorem dX11_land_22 : decode cX11_land 22 = .ok (.iconst 0, 1) := by decide +kernel
theorem dX11_land_23 : decode cX11_land 23 = .ok (.istore 4, 2) := by decide +kernel
theorem dX11_land_25 : decode cX11_land 25 = .ok (.iload 4, 2) := by decide +kernel
theorem dX11_land_27 : decode cX11_land 27 = .ok (.aload_n 0, 1) := by decide +kernel
theorem dX11_land_28 : decode cX11_land 28 = .ok (.getfield 49, 3) := by decide +kernel
theorem dX11_land_31 : decode cX11_land 31 = .ok (.invokevirtual 155, 3) := by decide +kernel
theorem dX11_land_34 : decode cX11_land 34 = .ok (.if_icmp .ge 40, 3) := by decide +kernel
theorem dX11_land_37 : decode cX11_land 37 = .ok (.iload_n 3, 1) := by decide +kernel
theorem dX11_land_38 : decode cX11_land 38 = .ok (.iload 4, 2) := by decide +kernel
theorem dX11_land_40 : decode cX11_land 40 = .ok (.invokestatic 463, 3) := by decide +kernel
theorem dX11_land_43 : decode cX11_land 43 = .ok (.ifCond .eq 25, 3) := by decide +kernel
theorem dX11_land_46 : decode cX11_land 46 = .ok (.aload_n 0, 1) := by decide +kernel
theorem dX11_land_47 : decode cX11_land 47 = .ok (.iload_n 3, 1) := by decide +kernel
theorem dX11_land_48 : decode cX11_land 48 = .ok (.aload_n 0, 1) := by decide +kernel
theorem dX11_land_49 : decode cX11_land 49 = .ok (.getfield 49, 3) := by decide +kernel
theorem dX11_land_52 : decode cX11_land 52 = .ok (.iload 4, 2) := by decide +kernel
theorem dX11_land_54 : decode cX11_land 54 = .ok (.invokevirtual 223, 3) := by decide +kernel
theorem dX11_land_57 : decode cX11_land 57 = .ok (.checkcast 165, 3) := by decide +kernel
theorem dX11_land_60 : decode cX11_land 60 = .ok (.invokevirtual 466, 3) := by decide +kernel
theorem dX11_land_63 : decode cX11_land 63 = .ok (.ifCond .ne 5, 3) := by decide +kernel
theorem dX11_land_66 : decode cX11_land 66 = .ok (.iconst 0, 1) := by decide +kernel
theorem dX11_land_67 : decode cX11_land 67 = .ok (.ireturn, 1) := by decide +kernel
theorem dX11_land_68 : decode cX11_land 68 = .ok (.iinc 4 1, 3) := by decide +kernel
theorem dX11_land_71 : decode cX11_land 71 = .ok (.goto (-46), 3) := by decide +kernel
theorem dX11_land_74 : decode cX11_land 74 = .ok (.aload_n 0, 1) := by decide +kernel
theorem dX11_land_75 : decode cX11_land 75 = .ok (.getfield 64, 3) := by decide +kernel
theorem dX11_land_78 : decode cX11_land 78 = .ok (.iload_n 3, 1) := by decide +kernel
theorem dX11_land_79 : decode cX11_land 79 = .ok (.invokevirtual 470, 3) := by decide +kernel
theorem dX11_land_82 : decode cX11_land 82 = .ok (.ifCond .ne 5, 3) := by decide +kernel
theorem dX11_land_85 : decode cX11_land 85 = .ok (.iconst (-1), 1) := by decide +kernel
theorem dX11_land_86 : decode cX11_land 86 = .ok (.ireturn, 1) := by decide +kernel
theorem dX11_land_87 : decode cX11_land 87 = .ok (.iconst 0, 1) := by decide +kernel
theorem dX11_land_88 : decode cX11_land 88 = .ok (.istore 4, 2) := by decide +kernel
theorem dX11_land_90 : decode cX11_land 90 = .ok (.iload 4, 2) := by decide +kernel
theorem dX11_land_92 : decode cX11_land 92 = .ok (.aload_n 0, 1) := by decide +kernel
theorem dX11_land_93 : decode cX11_land 93 = .ok (.getfield 49, 3) := by decide +kernel
theorem dX11_land_96 : decode cX11_land 96 = .ok (.invokevirtual 155, 3) := by decide +kernel
theorem dX11_land_99 : decode cX11_land 99 = .ok (.if_icmp .ge 36, 3) := by decide +kernel
theorem dX11_land_102 : decode cX11_land 102 = .ok (.iload_n 3, 1) := by decide +kernel
theorem dX11_land_103 : decode cX11_land 103 = .ok (.iload 4, 2) := by decide +kernel
theorem dX11_land_105 : decode cX11_land 105 = .ok (.invokestatic 463, 3) := by decide +kernel
theorem dX11_land_108 : decode cX11_land 108 = .ok (.ifCond .eq 21, 3) := by decide +kernel
theorem dX11_land_111 : decode cX11_land 111 = .ok (.aload_n 0, 1) := by decide +kernel
theorem dX11_land_112 : decode cX11_land 112 = .ok (.aload_n 0, 1) := by decide +kernel
theorem dX11_land_113 : decode cX11_land 113 = .ok (.getfield 49, 3) := by decide +kernel
theorem dX11_land_116 : decode cX11_land 116 = .ok (.iload 4, 2) := by decide +kernel
theorem dX11_land_118 : decode cX11_land 118 = .ok (.invokevirtual 223, 3) := by decide +kernel
theorem dX11_land_121 : decode cX11_land 121 = .ok (.checkcast 165, 3) := by decide +kernel
theorem dX11_land_124 : decode cX11_land 124 = .ok (.iconst 1, 1) := by decide +kernel
theorem dX11_land_125 : decode cX11_land 125 = .ok (.iload_n 1, 1) := by decide +kernel
theorem dX11_land_126 : decode cX11_land 126 = .ok (.invokevirtual 219, 3) := by decide +kernel
theorem dX11_land_129 : decode cX11_land 129 = .ok (.iinc 4 1, 3) := by decide +kernel
theorem dX11_land_132 : decode cX11_land 132 = .ok (.goto (-42), 3) := by decide +kernel
theorem dX11_land_135 : decode cX11_land 135 = .ok (.iload_n 3, 1) := by decide +kernel
theorem dX11_land_136 : decode cX11_land 136 = .ok (.invokestatic 384, 3) := by decide +kernel
theorem dX11_land_139 : decode cX11_land 139 = .ok (.ireturn, 1) := by decide +kernel
theorem dX11_addReviewer_0 : decode cX11_addReviewer 0 = .ok (.iload_n 1, 1) := by decide +kernel
theorem dX11_addReviewer_1 : decode cX11_addReviewer 1 = .ok (.invokestatic 152, 3) := by decide +kernel
theorem dX11_addReviewer_4 : decode cX11_addReviewer 4 = .ok (.aload_n 0, 1) := by decide +kernel
theorem dX11_addReviewer_5 : decode cX11_addReviewer 5 = .ok (.iload_n 2, 1) := by decide +kernel
theorem dX11_addReviewer_6 : decode cX11_addReviewer 6 = .ok (.invokevirtual 91, 3) := by decide +kernel
theorem dX11_addReviewer_9 : decode cX11_addReviewer 9 = .ok (.astore_n 3, 1) := by decide +kernel
theorem dX11_addReviewer_10 : decode cX11_addReviewer 10 = .ok (.aload_n 3, 1) := by decide +kernel
theorem dX11_addReviewer_11 : decode cX11_addReviewer 11 = .ok (.getfield 227, 3) := by decide +kernel
theorem dX11_addReviewer_14 : decode cX11_addReviewer 14 = .ok (.ifCond .ne 11, 3) := by decide +kernel
theorem dX11_addReviewer_17 : decode cX11_addReviewer 17 = .ok (.aload_n 3, 1) := by decide +kernel
theorem dX11_addReviewer_18 : decode cX11_addReviewer 18 = .ok (.getfield 473, 3) := by decide +kernel
theorem dX11_addReviewer_21 : decode cX11_addReviewer 21 = .ok (.iload_n 1, 1) := by decide +kernel
theorem dX11_addReviewer_22 : decode cX11_addReviewer 22 = .ok (.if_icmp .ne 14, 3) := by decide +kernel
theorem dX11_addReviewer_25 : decode cX11_addReviewer 25 = .ok (.new 121, 3) := by decide +kernel
theorem dX11_addReviewer_28 : decode cX11_addReviewer 28 = .ok (.dup, 1) := by decide +kernel
theorem dX11_addReviewer_29 : decode cX11_addReviewer 29 = .ok (.ldc_w 476, 3) := by decide +kernel
theorem dX11_addReviewer_32 : decode cX11_addReviewer 32 = .ok (.invokespecial 125, 3) := by decide +kernel
theorem dX11_addReviewer_35 : decode cX11_addReviewer 35 = .ok (.athrow, 1) := by decide +kernel
theorem dX11_addReviewer_36 : decode cX11_addReviewer 36 = .ok (.aload_n 3, 1) := by decide +kernel
theorem dX11_addReviewer_37 : decode cX11_addReviewer 37 = .ok (.getfield 253, 3) := by decide +kernel
theorem dX11_addReviewer_40 : decode cX11_addReviewer 40 = .ok (.iload_n 1, 1) := by decide +kernel
theorem dX11_addReviewer_41 : decode cX11_addReviewer 41 = .ok (.invokestatic 463, 3) := by decide +kernel
theorem dX11_addReviewer_44 : decode cX11_addReviewer 44 = .ok (.ifCond .ne 7, 3) := by decide +kernel
theorem dX11_addReviewer_47 : decode cX11_addReviewer 47 = .ok (.iconst 1, 1) := by decide +kernel
theorem dX11_addReviewer_48 : decode cX11_addReviewer 48 = .ok (.goto 4, 3) := by decide +kernel
theorem dX11_addReviewer_51 : decode cX11_addReviewer 51 = .ok (.iconst 0, 1) := by decide +kernel
theorem dX11_addReviewer_52 : decode cX11_addReviewer 52 = .ok (.istore 4, 2) := by decide +kernel
theorem dX11_addReviewer_54 : decode cX11_addReviewer 54 = .ok (.aload_n 3, 1) := by decide +kernel
theorem dX11_addReviewer_55 : decode cX11_addReviewer 55 = .ok (.dup, 1) := by decide +kernel
theorem dX11_addReviewer_56 : decode cX11_addReviewer 56 = .ok (.getfield 253, 3) := by decide +kernel
theorem dX11_addReviewer_59 : decode cX11_addReviewer 59 = .ok (.iconst 1, 1) := by decide +kernel
theorem dX11_addReviewer_60 : decode cX11_addReviewer 60 = .ok (.iload_n 1, 1) := by decide +kernel
theorem dX11_addReviewer_61 : decode cX11_addReviewer 61 = .ok (.ishl, 1) := by decide +kernel
theorem dX11_addReviewer_62 : decode cX11_addReviewer 62 = .ok (.ior, 1) := by decide +kernel
theorem dX11_addReviewer_63 : decode cX11_addReviewer 63 = .ok (.putfield 253, 3) := by decide +kernel
theorem dX11_addReviewer_66 : decode cX11_addReviewer 66 = .ok (.aload_n 3, 1) := by decide +kernel
theorem dX11_addReviewer_67 : decode cX11_addReviewer 67 = .ok (.iconst 1, 1) := by decide +kernel
theorem dX11_addReviewer_68 : decode cX11_addReviewer 68 = .ok (.iload_n 1, 1) := by decide +kernel
theorem dX11_addReviewer_69 : decode cX11_addReviewer 69 = .ok (.ishl, 1) := by decide +kernel
theorem dX11_addReviewer_70 : decode cX11_addReviewer 70 = .ok (.invokevirtual 478, 3) := by decide +kernel
theorem dX11_addReviewer_73 : decode cX11_addReviewer 73 = .ok (.iload 4, 2) := by decide +kernel
theorem dX11_addReviewer_75 : decode cX11_addReviewer 75 = .ok (.ireturn, 1) := by decide +kernel
theorem dX11_reviewers_0 : decode cX11_reviewers 0 = .ok (.aload_n 0, 1) := by decide +kernel
theorem dX11_reviewers_1 : decode cX11_reviewers 1 = .ok (.iload_n 1, 1) := by decide +kernel
theorem dX11_reviewers_2 : decode cX11_reviewers 2 = .ok (.invokevirtual 91, 3) := by decide +kernel
theorem dX11_reviewers_5 : decode cX11_reviewers 5 = .ok (.getfield 253, 3) := by decide +kernel
theorem dX11_reviewers_8 : decode cX11_reviewers 8 = .ok (.ireturn, 1) := by decide +kernel
theorem dX11_whoseTurn_0 : decode cX11_whoseTurn 0 = .ok (.aload_n 0, 1) := by decide +kernel
theorem dX11_whoseTurn_1 : decode cX11_whoseTurn 1 = .ok (.iload_n 1, 1) := by decide +kernel
theorem dX11_whoseTurn_2 : decode cX11_whoseTurn 2 = .ok (.invokevirtual 91, 3) := by decide +kernel
theorem dX11_whoseTurn_5 : decode cX11_whoseTurn 5 = .ok (.getfield 250, 3) := by decide +kernel
theorem dX11_whoseTurn_8 : decode cX11_whoseTurn 8 = .ok (.ireturn, 1) := by decide +kernel
theorem dX11_watch_0 : decode cX11_watch 0 = .ok (.iload_n 1, 1) := by decide +kernel
theorem dX11_watch_1 : decode cX11_watch 1 = .ok (.invokestatic 152, 3) := by decide +kernel
theorem dX11_watch_4 : decode cX11_watch 4 = .ok (.iload_n 2, 1) := by decide +kernel
theorem dX11_watch_5 : decode cX11_watch 5 = .ok (.invokestatic 143, 3) := by decide +kernel
theorem dX11_watch_8 : decode cX11_watch 8 = .ok (.aload_n 0, 1) := by decide +kernel
theorem dX11_watch_9 : decode cX11_watch 9 = .ok (.getfield 68, 3) := by decide +kernel
theorem dX11_watch_12 : decode cX11_watch 12 = .ok (.iload_n 2, 1) := by decide +kernel
theorem dX11_watch_13 : decode cX11_watch 13 = .ok (.iaload, 1) := by decide +kernel
theorem dX11_watch_14 : decode cX11_watch 14 = .ok (.iload_n 1, 1) := by decide +kernel
theorem dX11_watch_15 : decode cX11_watch 15 = .ok (.invokestatic 463, 3) := by decide +kernel
theorem dX11_watch_18 : decode cX11_watch 18 = .ok (.istore 4, 2) := by decide +kernel
theorem dX11_watch_20 : decode cX11_watch 20 = .ok (.iload_n 3, 1) := by decide +kernel
theorem dX11_watch_21 : decode cX11_watch 21 = .ok (.ifCond .eq 18, 3) := by decide +kernel
theorem dX11_watch_24 : decode cX11_watch 24 = .ok (.aload_n 0, 1) := by decide +kernel
theorem dX11_watch_25 : decode cX11_watch 25 = .ok (.getfield 68, 3) := by decide +kernel
theorem dX11_watch_28 : decode cX11_watch 28 = .ok (.iload_n 2, 1) := by decide +kernel
theorem dX11_watch_29 : decode cX11_watch 29 = .ok (.dup2, 1) := by decide +kernel
theorem dX11_watch_30 : decode cX11_watch 30 = .ok (.iaload, 1) := by decide +kernel
theorem dX11_watch_31 : decode cX11_watch 31 = .ok (.iconst 1, 1) := by decide +kernel
theorem dX11_watch_32 : decode cX11_watch 32 = .ok (.iload_n 1, 1) := by decide +kernel
theorem dX11_watch_33 : decode cX11_watch 33 = .ok (.ishl, 1) := by decide +kernel
theorem dX11_watch_34 : decode cX11_watch 34 = .ok (.ior, 1) := by decide +kernel
theorem dX11_watch_35 : decode cX11_watch 35 = .ok (.iastore, 1) := by decide +kernel
theorem dX11_watch_36 : decode cX11_watch 36 = .ok (.goto 17, 3) := by decide +kernel
theorem dX11_watch_39 : decode cX11_watch 39 = .ok (.aload_n 0, 1) := by decide +kernel
theorem dX11_watch_40 : decode cX11_watch 40 = .ok (.getfield 68, 3) := by decide +kernel
theorem dX11_watch_43 : decode cX11_watch 43 = .ok (.iload_n 2, 1) := by decide +kernel
theorem dX11_watch_44 : decode cX11_watch 44 = .ok (.dup2, 1) := by decide +kernel
theorem dX11_watch_45 : decode cX11_watch 45 = .ok (.iaload, 1) := by decide +kernel
theorem dX11_watch_46 : decode cX11_watch 46 = .ok (.iconst 1, 1) := by decide +kernel
theorem dX11_watch_47 : decode cX11_watch 47 = .ok (.iload_n 1, 1) := by decide +kernel
theorem dX11_watch_48 : decode cX11_watch 48 = .ok (.ishl, 1) := by decide +kernel
theorem dX11_watch_49 : decode cX11_watch 49 = .ok (.iconst (-1), 1) := by decide +kernel
theorem dX11_watch_50 : decode cX11_watch 50 = .ok (.ixor, 1) := by decide +kernel
theorem dX11_watch_51 : decode cX11_watch 51 = .ok (.iand, 1) := by decide +kernel
theorem dX11_watch_52 : decode cX11_watch 52 = .ok (.iastore, 1) := by decide +kernel
theorem dX11_watch_53 : decode cX11_watch 53 = .ok (.iload 4, 2) := by decide +kernel
theorem dX11_watch_55 : decode cX11_watch 55 = .ok (.ireturn, 1) := by decide +kernel
theorem dX11_mails_0 : decode cX11_mails 0 = .ok (.iload_n 1, 1) := by decide +kernel
theorem dX11_mails_1 : decode cX11_mails 1 = .ok (.invokestatic 152, 3) := by decide +kernel
theorem dX11_mails_4 : decode cX11_mails 4 = .ok (.aload_n 0, 1) := by decide +kernel
theorem dX11_mails_5 : decode cX11_mails 5 = .ok (.getfield 72, 3) := by decide +kernel
theorem dX11_mails_8 : decode cX11_mails 8 = .ok (.iload_n 1, 1) := by decide +kernel
theorem dX11_mails_9 : decode cX11_mails 9 = .ok (.iaload, 1) := by decide +kernel
theorem dX11_mails_10 : decode cX11_mails 10 = .ok (.ireturn, 1) := by decide +kernel
theorem dX11_advance_0 : decode cX11_advance 0 = .ok (.iload_n 1, 1) := by decide +kernel
theorem dX11_advance_1 : decode cX11_advance 1 = .ok (.iconst 1, 1) := by decide +kernel
theorem dX11_advance_2 : decode cX11_advance 2 = .ok (.if_icmp .lt 9, 3) := by decide +kernel
theorem dX11_advance_5 : decode cX11_advance 5 = .ok (.iload_n 1, 1) := by decide +kernel
theorem dX11_advance_6 : decode cX11_advance 6 = .ok (.bipush 100, 2) := by decide +kernel
theorem dX11_advance_8 : decode cX11_advance 8 = .ok (.if_icmp .le 14, 3) := by decide +kernel
theorem dX11_advance_11 : decode cX11_advance 11 = .ok (.new 116, 3) := by decide +kernel
theorem dX11_advance_14 : decode cX11_advance 14 = .ok (.dup, 1) := by decide +kernel
theorem dX11_advance_15 : decode cX11_advance 15 = .ok (.ldc_w 481, 3) := by decide +kernel
theorem dX11_advance_18 : decode cX11_advance 18 = .ok (.invokespecial 120, 3) := by decide +kernel
theorem dX11_advance_21 : decode cX11_advance 21 = .ok (.athrow, 1) := by decide +kernel
theorem dX11_advance_22 : decode cX11_advance 22 = .ok (.aload_n 0, 1) := by decide +kernel
theorem dX11_advance_23 : decode cX11_advance 23 = .ok (.getfield 75, 3) := by decide +kernel
theorem dX11_advance_26 : decode cX11_advance 26 = .ok (.iload_n 1, 1) := by decide +kernel
theorem dX11_advance_27 : decode cX11_advance 27 = .ok (.iadd, 1) := by decide +kernel
theorem dX11_advance_28 : decode cX11_advance 28 = .ok (.sipush 10000, 3) := by decide +kernel
theorem dX11_advance_31 : decode cX11_advance 31 = .ok (.if_icmp .le 14, 3) := by decide +kernel
theorem dX11_advance_34 : decode cX11_advance 34 = .ok (.new 121, 3) := by decide +kernel
theorem dX11_advance_37 : decode cX11_advance 37 = .ok (.dup, 1) := by decide +kernel
theorem dX11_advance_38 : decode cX11_advance 38 = .ok (.ldc_w 483, 3) := by decide +kernel
theorem dX11_advance_41 : decode cX11_advance 41 = .ok (.invokespecial 125, 3) := by decide +kernel
theorem dX11_advance_44 : decode cX11_advance 44 = .ok (.athrow, 1) := by decide +kernel
theorem dX11_advance_45 : decode cX11_advance 45 = .ok (.aload_n 0, 1) := by decide +kernel
theorem dX11_advance_46 : decode cX11_advance 46 = .ok (.dup, 1) := by decide +kernel
theorem dX11_advance_47 : decode cX11_advance 47 = .ok (.getfield 75, 3) := by decide +kernel
theorem dX11_advance_50 : decode cX11_advance 50 = .ok (.iload_n 1, 1) := by decide +kernel
theorem dX11_advance_51 : decode cX11_advance 51 = .ok (.iadd, 1) := by decide +kernel
theorem dX11_advance_52 : decode cX11_advance 52 = .ok (.putfield 75, 3) := by decide +kernel
theorem dX11_advance_55 : decode cX11_advance 55 = .ok (.iconst 0, 1) := by decide +kernel
theorem dX11_advance_56 : decode cX11_advance 56 = .ok (.istore_n 2, 1) := by decide +kernel
theorem dX11_advance_57 : decode cX11_advance 57 = .ok (.iconst 0, 1) := by decide +kernel
theorem dX11_advance_58 : decode cX11_advance 58 = .ok (.istore_n 3, 1) := by decide +kernel
theorem dX11_advance_59 : decode cX11_advance 59 = .ok (.iload_n 3, 1) := by decide +kernel
theorem dX11_advance_60 : decode cX11_advance 60 = .ok (.aload_n 0, 1) := by decide +kernel
theorem dX11_advance_61 : decode cX11_advance 61 = .ok (.getfield 49, 3) := by decide +kernel
theorem dX11_advance_64 : decode cX11_advance 64 = .ok (.invokevirtual 155, 3) := by decide +kernel
theorem dX11_advance_67 : decode cX11_advance 67 = .ok (.if_icmp .ge 56, 3) := by decide +kernel
theorem dX11_advance_70 : decode cX11_advance 70 = .ok (.aload_n 0, 1) := by decide +kernel
theorem dX11_advance_71 : decode cX11_advance 71 = .ok (.getfield 49, 3) := by decide +kernel
theorem dX11_advance_74 : decode cX11_advance 74 = .ok (.iload_n 3, 1) := by decide +kernel
theorem dX11_advance_75 : decode cX11_advance 75 = .ok (.invokevirtual 223, 3) := by decide +kernel
theorem dX11_advance_78 : decode cX11_advance 78 = .ok (.checkcast 165, 3) := by decide +kernel
theorem dX11_advance_81 : decode cX11_advance 81 = .ok (.astore 4, 2) := by decide +kernel
theorem dX11_advance_83 : decode cX11_advance 83 = .ok (.aload 4, 2) := by decide +kernel
theorem dX11_advance_85 : decode cX11_advance 85 = .ok (.getfield 227, 3) := by decide +kernel
theorem dX11_advance_88 : decode cX11_advance 88 = .ok (.ifCond .ne 29, 3) := by decide +kernel
theorem dX11_advance_91 : decode cX11_advance 91 = .ok (.aload_n 0, 1) := by decide +kernel
theorem dX11_advance_92 : decode cX11_advance 92 = .ok (.getfield 75, 3) := by decide +kernel
theorem dX11_advance_95 : decode cX11_advance 95 = .ok (.aload 4, 2) := by decide +kernel
theorem dX11_advance_97 : decode cX11_advance 97 = .ok (.getfield 235, 3) := by decide +kernel
theorem dX11_advance_100 : decode cX11_advance 100 = .ok (.isub, 1) := by decide +kernel
theorem dX11_advance_101 : decode cX11_advance 101 = .ok (.bipush 30, 2) := by decide +kernel
theorem dX11_advance_103 : decode cX11_advance 103 = .ok (.if_icmp .lt 14, 3) := by decide +kernel
theorem dX11_advance_106 : decode cX11_advance 106 = .ok (.aload_n 0, 1) := by decide +kernel
theorem dX11_advance_107 : decode cX11_advance 107 = .ok (.aload 4, 2) := by decide +kernel
theorem dX11_advance_109 : decode cX11_advance 109 = .ok (.iconst 2, 1) := by decide +kernel
theorem dX11_advance_110 : decode cX11_advance 110 = .ok (.iconst (-1), 1) := by decide +kernel
theorem dX11_advance_111 : decode cX11_advance 111 = .ok (.invokevirtual 219, 3) := by decide +kernel
theorem dX11_advance_114 : decode cX11_advance 114 = .ok (.iinc 2 1, 3) := by decide +kernel
theorem dX11_advance_117 : decode cX11_advance 117 = .ok (.iinc 3 1, 3) := by decide +kernel
theorem dX11_advance_120 : decode cX11_advance 120 = .ok (.goto (-61), 3) := by decide +kernel
theorem dX11_advance_123 : decode cX11_advance 123 = .ok (.iload_n 2, 1) := by decide +kernel
theorem dX11_advance_124 : decode cX11_advance 124 = .ok (.ireturn, 1) := by decide +kernel
theorem dX11_day_0 : decode cX11_day 0 = .ok (.aload_n 0, 1) := by decide +kernel
theorem dX11_day_1 : decode cX11_day 1 = .ok (.getfield 75, 3) := by decide +kernel
theorem dX11_day_4 : decode cX11_day 4 = .ok (.ireturn, 1) := by decide +kernel
theorem dX11_needPerson_0 : decode cX11_needPerson 0 = .ok (.iload_n 0, 1) := by decide +kernel
theorem dX11_needPerson_1 : decode cX11_needPerson 1 = .ok (.ifCond .lt 9, 3) := by decide +kernel
theorem dX11_needPerson_4 : decode cX11_needPerson 4 = .ok (.iload_n 0, 1) := by decide +kernel
theorem dX11_needPerson_5 : decode cX11_needPerson 5 = .ok (.bipush 6, 2) := by decide +kernel
theorem dX11_needPerson_7 : decode cX11_needPerson 7 = .ok (.if_icmp .lt 14, 3) := by decide +kernel
theorem dX11_needPerson_10 : decode cX11_needPerson 10 = .ok (.new 109, 3) := by decide +kernel
theorem dX11_needPerson_13 : decode cX11_needPerson 13 = .ok (.dup, 1) := by decide +kernel
theorem dX11_needPerson_14 : decode cX11_needPerson 14 = .ok (.ldc_w 485, 3) := by decide +kernel
theorem dX11_needPerson_17 : decode cX11_needPerson 17 = .ok (.invokespecial 113, 3) := by decide +kernel
theorem dX11_needPerson_20 : decode cX11_needPerson 20 = .ok (.athrow, 1) := by decide +kernel
theorem dX11_needPerson_21 : decode cX11_needPerson 21 = .ok (.return_, 1) := by decide +kernel
theorem dX11_needRepository_0 : decode cX11_needRepository 0 = .ok (.iload_n 0, 1) := by decide +kernel
theorem dX11_needRepository_1 : decode cX11_needRepository 1 = .ok (.ifCond .lt 8, 3) := by decide +kernel
theorem dX11_needRepository_4 : decode cX11_needRepository 4 = .ok (.iload_n 0, 1) := by decide +kernel
theorem dX11_needRepository_5 : decode cX11_needRepository 5 = .ok (.iconst 2, 1) := by decide +kernel
theorem dX11_needRepository_6 : decode cX11_needRepository 6 = .ok (.if_icmp .lt 14, 3) := by decide +kernel
theorem dX11_needRepository_9 : decode cX11_needRepository 9 = .ok (.new 109, 3) := by decide +kernel
theorem dX11_needRepository_12 : decode cX11_needRepository 12 = .ok (.dup, 1) := by decide +kernel
theorem dX11_needRepository_13 : decode cX11_needRepository 13 = .ok (.ldc_w 487, 3) := by decide +kernel
theorem dX11_needRepository_16 : decode cX11_needRepository 16 = .ok (.invokespecial 113, 3) := by decide +kernel
theorem dX11_needRepository_19 : decode cX11_needRepository 19 = .ok (.athrow, 1) := by decide +kernel
theorem dX11_needRepository_20 : decode cX11_needRepository 20 = .ok (.return_, 1) := by decide +kernel
theorem dX11_needFile_0 : decode cX11_needFile 0 = .ok (.iload_n 0, 1) := by decide +kernel
theorem dX11_needFile_1 : decode cX11_needFile 1 = .ok (.ifCond .lt 8, 3) := by decide +kernel
theorem dX11_needFile_4 : decode cX11_needFile 4 = .ok (.iload_n 0, 1) := by decide +kernel
theorem dX11_needFile_5 : decode cX11_needFile 5 = .ok (.iconst 4, 1) := by decide +kernel
theorem dX11_needFile_6 : decode cX11_needFile 6 = .ok (.if_icmp .lt 14, 3) := by decide +kernel
theorem dX11_needFile_9 : decode cX11_needFile 9 = .ok (.new 109, 3) := by decide +kernel
theorem dX11_needFile_12 : decode cX11_needFile 12 = .ok (.dup, 1) := by decide +kernel
theorem dX11_needFile_13 : decode cX11_needFile 13 = .ok (.ldc_w 489, 3) := by decide +kernel
theorem dX11_needFile_16 : decode cX11_needFile 16 = .ok (.invokespecial 113, 3) := by decide +kernel
theorem dX11_needFile_19 : decode cX11_needFile 19 = .ok (.athrow, 1) := by decide +kernel
theorem dX11_needFile_20 : decode cX11_needFile 20 = .ok (.return_, 1) := by decide +kernel
theorem dX11_needLabel_0 : decode cX11_needLabel 0 = .ok (.iload_n 0, 1) := by decide +kernel
theorem dX11_needLabel_1 : decode cX11_needLabel 1 = .ok (.ifCond .lt 8, 3) := by decide +kernel
theorem dX11_needLabel_4 : decode cX11_needLabel 4 = .ok (.iload_n 0, 1) := by decide +kernel
theorem dX11_needLabel_5 : decode cX11_needLabel 5 = .ok (.iconst 2, 1) := by decide +kernel
theorem dX11_needLabel_6 : decode cX11_needLabel 6 = .ok (.if_icmp .lt 14, 3) := by decide +kernel
theorem dX11_needLabel_9 : decode cX11_needLabel 9 = .ok (.new 116, 3) := by decide +kernel
theorem dX11_needLabel_12 : decode cX11_needLabel 12 = .ok (.dup, 1) := by decide +kernel
theorem dX11_needLabel_13 : decode cX11_needLabel 13 = .ok (.ldc_w 491, 3) := by decide +kernel
theorem dX11_needLabel_16 : decode cX11_needLabel 16 = .ok (.invokespecial 120, 3) := by decide +kernel
theorem dX11_needLabel_19 : decode cX11_needLabel 19 = .ok (.athrow, 1) := by decide +kernel
theorem dX11_needLabel_20 : decode cX11_needLabel 20 = .ok (.return_, 1) := by decide +kernel
theorem dX11_needCommit_0 : decode cX11_needCommit 0 = .ok (.iload_n 1, 1) := by decide +kernel
theorem dX11_needCommit_1 : decode cX11_needCommit 1 = .ok (.ifCond .lt 14, 3) := by decide +kernel
theorem dX11_needCommit_4 : decode cX11_needCommit 4 = .ok (.iload_n 1, 1) := by decide +kernel
theorem dX11_needCommit_5 : decode cX11_needCommit 5 = .ok (.aload_n 0, 1) := by decide +kernel
theorem dX11_needCommit_6 : decode cX11_needCommit 6 = .ok (.getfield 10, 3) := by decide +kernel
theorem dX11_needCommit_9 : decode cX11_needCommit 9 = .ok (.getfield 137, 3) := by decide +kernel
theorem dX11_needCommit_12 : decode cX11_needCommit 12 = .ok (.if_icmp .lt 14, 3) := by decide +kernel
theorem dX11_needCommit_15 : decode cX11_needCommit 15 = .ok (.new 109, 3) := by decide +kernel
theorem dX11_needCommit_18 : decode cX11_needCommit 18 = .ok (.dup, 1) := by decide +kernel
theorem dX11_needCommit_19 : decode cX11_needCommit 19 = .ok (.ldc_w 493, 3) := by decide +kernel
theorem dX11_needCommit_22 : decode cX11_needCommit 22 = .ok (.invokespecial 113, 3) := by decide +kernel
theorem dX11_needCommit_25 : decode cX11_needCommit 25 = .ok (.athrow, 1) := by decide +kernel
theorem dX11_needCommit_26 : decode cX11_needCommit 26 = .ok (.return_, 1) := by decide +kernel
theorem dX11_needCommitOrDesk_0 : decode cX11_needCommitOrDesk 0 = .ok (.iload_n 1, 1) := by decide +kernel
theorem dX11_needCommitOrDesk_1 : decode cX11_needCommitOrDesk 1 = .ok (.iconst (-1), 1) := by decide +kernel
theorem dX11_needCommitOrDesk_2 : decode cX11_needCommitOrDesk 2 = .ok (.if_icmp .ne 6, 3) := by decide +kernel
theorem dX11_needCommitOrDesk_5 : decode cX11_needCommitOrDesk 5 = .ok (.bipush 80, 2) := by decide +kernel
theorem dX11_needCommitOrDesk_7 : decode cX11_needCommitOrDesk 7 = .ok (.ireturn, 1) := by decide +kernel
theorem dX11_needCommitOrDesk_8 : decode cX11_needCommitOrDesk 8 = .ok (.aload_n 0, 1) := by decide +kernel
theorem dX11_needCommitOrDesk_9 : decode cX11_needCommitOrDesk 9 = .ok (.iload_n 1, 1) := by decide +kernel
theorem dX11_needCommitOrDesk_10 : decode cX11_needCommitOrDesk 10 = .ok (.invokevirtual 79, 3) := by decide +kernel
theorem dX11_needCommitOrDesk_13 : decode cX11_needCommitOrDesk 13 = .ok (.iload_n 1, 1) := by decide +kernel
theorem dX11_needCommitOrDesk_14 : decode cX11_needCommitOrDesk 14 = .ok (.ireturn, 1) := by decide +kernel
theorem dX11_needChange_0 : decode cX11_needChange 0 = .ok (.iload_n 1, 1) := by decide +kernel
theorem dX11_needChange_1 : decode cX11_needChange 1 = .ok (.ifCond .lt 14, 3) := by decide +kernel
theorem dX11_needChange_4 : decode cX11_needChange 4 = .ok (.iload_n 1, 1) := by decide +kernel
theorem dX11_needChange_5 : decode cX11_needChange 5 = .ok (.aload_n 0, 1) := by decide +kernel
theorem dX11_needChange_6 : decode cX11_needChange 6 = .ok (.getfield 49, 3) := by decide +kernel
theorem dX11_needChange_9 : decode cX11_needChange 9 = .ok (.invokevirtual 155, 3) := by decide +kernel
theorem dX11_needChange_12 : decode cX11_needChange 12 = .ok (.if_icmp .lt 14, 3) := by decide +kernel
theorem dX11_needChange_15 : decode cX11_needChange 15 = .ok (.new 109, 3) := by decide +kernel
theorem dX11_needChange_18 : decode cX11_needChange 18 = .ok (.dup, 1) := by decide +kernel
theorem dX11_needChange_19 : decode cX11_needChange 19 = .ok (.ldc_w 495, 3) := by decide +kernel
theorem dX11_needChange_22 : decode cX11_needChange 22 = .ok (.invokespecial 113, 3) := by decide +kernel
theorem dX11_needChange_25 : decode cX11_needChange 25 = .ok (.athrow, 1) := by decide +kernel
theorem dX11_needChange_26 : decode cX11_needChange 26 = .ok (.aload_n 0, 1) := by decide +kernel
theorem dX11_needChange_27 : decode cX11_needChange 27 = .ok (.getfield 49, 3) := by decide +kernel
theorem dX11_needChange_30 : decode cX11_needChange 30 = .ok (.iload_n 1, 1) := by decide +kernel
theorem dX11_needChange_31 : decode cX11_needChange 31 = .ok (.invokevirtual 223, 3) := by decide +kernel
theorem dX11_needChange_34 : decode cX11_needChange 34 = .ok (.checkcast 165, 3) := by decide +kernel
theorem dX11_needChange_37 : decode cX11_needChange 37 = .ok (.areturn, 1) := by decide +kernel
theorem dX11_needSet_0 : decode cX11_needSet 0 = .ok (.iload_n 1, 1) := by decide +kernel
theorem dX11_needSet_1 : decode cX11_needSet 1 = .ok (.ifCond .lt 11, 3) := by decide +kernel
theorem dX11_needSet_4 : decode cX11_needSet 4 = .ok (.iload_n 1, 1) := by decide +kernel
theorem dX11_needSet_5 : decode cX11_needSet 5 = .ok (.aload_n 0, 1) := by decide +kernel
theorem dX11_needSet_6 : decode cX11_needSet 6 = .ok (.getfield 238, 3) := by decide +kernel
theorem dX11_needSet_9 : decode cX11_needSet 9 = .ok (.if_icmp .lt 14, 3) := by decide +kernel
theorem dX11_needSet_12 : decode cX11_needSet 12 = .ok (.new 109, 3) := by decide +kernel
theorem dX11_needSet_15 : decode cX11_needSet 15 = .ok (.dup, 1) := by decide +kernel
theorem dX11_needSet_16 : decode cX11_needSet 16 = .ok (.ldc_w 497, 3) := by decide +kernel
theorem dX11_needSet_19 : decode cX11_needSet 19 = .ok (.invokespecial 113, 3) := by decide +kernel
theorem dX11_needSet_22 : decode cX11_needSet 22 = .ok (.athrow, 1) := by decide +kernel
theorem dX11_needSet_23 : decode cX11_needSet 23 = .ok (.aload_n 0, 1) := by decide +kernel
theorem dX11_needSet_24 : decode cX11_needSet 24 = .ok (.iload_n 1, 1) := by decide +kernel
theorem dX11_needSet_25 : decode cX11_needSet 25 = .ok (.invokevirtual 336, 3) := by decide +kernel
theorem dX11_needSet_28 : decode cX11_needSet 28 = .ok (.ireturn, 1) := by decide +kernel
theorem dX11_needComment_0 : decode cX11_needComment 0 = .ok (.iload_n 1, 1) := by decide +kernel
theorem dX11_needComment_1 : decode cX11_needComment 1 = .ok (.ifCond .lt 14, 3) := by decide +kernel
theorem dX11_needComment_4 : decode cX11_needComment 4 = .ok (.iload_n 1, 1) := by decide +kernel
theorem dX11_needComment_5 : decode cX11_needComment 5 = .ok (.aload_n 0, 1) := by decide +kernel
theorem dX11_needComment_6 : decode cX11_needComment 6 = .ok (.getfield 53, 3) := by decide +kernel
theorem dX11_needComment_9 : decode cX11_needComment 9 = .ok (.invokevirtual 155, 3) := by decide +kernel
theorem dX11_needComment_12 : decode cX11_needComment 12 = .ok (.if_icmp .lt 14, 3) := by decide +kernel
theorem dX11_needComment_15 : decode cX11_needComment 15 = .ok (.new 109, 3) := by decide +kernel
theorem dX11_needComment_18 : decode cX11_needComment 18 = .ok (.dup, 1) := by decide +kernel
theorem dX11_needComment_19 : decode cX11_needComment 19 = .ok (.ldc_w 499, 3) := by decide +kernel
theorem dX11_needComment_22 : decode cX11_needComment 22 = .ok (.invokespecial 113, 3) := by decide +kernel
theorem dX11_needComment_25 : decode cX11_needComment 25 = .ok (.athrow, 1) := by decide +kernel
theorem dX11_needComment_26 : decode cX11_needComment 26 = .ok (.aload_n 0, 1) := by decide +kernel
theorem dX11_needComment_27 : decode cX11_needComment 27 = .ok (.getfield 53, 3) := by decide +kernel
theorem dX11_needComment_30 : decode cX11_needComment 30 = .ok (.iload_n 1, 1) := by decide +kernel
theorem dX11_needComment_31 : decode cX11_needComment 31 = .ok (.invokevirtual 223, 3) := by decide +kernel
theorem dX11_needComment_34 : decode cX11_needComment 34 = .ok (.checkcast 289, 3) := by decide +kernel
theorem dX11_needComment_37 : decode cX11_needComment 37 = .ok (.areturn, 1) := by decide +kernel
theorem dX11_needLines_0 : decode cX11_needLines 0 = .ok (.aload_n 0, 1) := by decide +kernel
theorem dX11_needLines_1 : decode cX11_needLines 1 = .ok (.getfield 10, 3) := by decide +kernel
theorem dX11_needLines_4 : decode cX11_needLines 4 = .ok (.iload_n 1, 1) := by decide +kernel
theorem dX11_needLines_5 : decode cX11_needLines 5 = .ok (.iload_n 2, 1) := by decide +kernel
theorem dX11_needLines_6 : decode cX11_needLines 6 = .ok (.invokevirtual 105, 3) := by decide +kernel
theorem dX11_needLines_9 : decode cX11_needLines 9 = .ok (.istore 5, 2) := by decide +kernel
theorem dX11_needLines_11 : decode cX11_needLines 11 = .ok (.iload_n 3, 1) := by decide +kernel
theorem dX11_needLines_12 : decode cX11_needLines 12 = .ok (.ifCond .lt 18, 3) := by decide +kernel
theorem dX11_needLines_15 : decode cX11_needLines 15 = .ok (.iload_n 3, 1) := by decide +kernel
theorem dX11_needLines_16 : decode cX11_needLines 16 = .ok (.iload 5, 2) := by decide +kernel
theorem dX11_needLines_18 : decode cX11_needLines 18 = .ok (.if_icmp .gt 12, 3) := by decide +kernel
theorem dX11_needLines_21 : decode cX11_needLines 21 = .ok (.iload 4, 2) := by decide +kernel
theorem dX11_needLines_23 : decode cX11_needLines 23 = .ok (.iload 5, 2) := by decide +kernel
theorem dX11_needLines_25 : decode cX11_needLines 25 = .ok (.iload_n 3, 1) := by decide +kernel
theorem dX11_needLines_26 : decode cX11_needLines 26 = .ok (.isub, 1) := by decide +kernel
theorem dX11_needLines_27 : decode cX11_needLines 27 = .ok (.if_icmp .le 14, 3) := by decide +kernel
theorem dX11_needLines_30 : decode cX11_needLines 30 = .ok (.new 116, 3) := by decide +kernel
theorem dX11_needLines_33 : decode cX11_needLines 33 = .ok (.dup, 1) := by decide +kernel
theorem dX11_needLines_34 : decode cX11_needLines 34 = .ok (.ldc_w 359, 3) := by decide +kernel
theorem dX11_needLines_37 : decode cX11_needLines 37 = .ok (.invokespecial 120, 3) := by decide +kernel
theorem dX11_needLines_40 : decode cX11_needLines 40 = .ok (.athrow, 1) := by decide +kernel
theorem dX11_needLines_41 : decode cX11_needLines 41 = .ok (.return_, 1) := by decide +kernel
theorem dX11_needSeen_0 : decode cX11_needSeen 0 = .ok (.aload_n 1, 1) := by decide +kernel
theorem dX11_needSeen_1 : decode cX11_needSeen 1 = .ok (.getfield 247, 3) := by decide +kernel
theorem dX11_needSeen_4 : decode cX11_needSeen 4 = .ok (.ifCond .eq 33, 3) := by decide +kernel
theorem dX11_needSeen_7 : decode cX11_needSeen 7 = .ok (.aload_n 1, 1) := by decide +kernel
theorem dX11_needSeen_8 : decode cX11_needSeen 8 = .ok (.getfield 473, 3) := by decide +kernel
theorem dX11_needSeen_11 : decode cX11_needSeen 11 = .ok (.iload_n 0, 1) := by decide +kernel
theorem dX11_needSeen_12 : decode cX11_needSeen 12 = .ok (.if_icmp .eq 25, 3) := by decide +kernel
theorem dX11_needSeen_15 : decode cX11_needSeen 15 = .ok (.aload_n 1, 1) := by decide +kernel
theorem dX11_needSeen_16 : decode cX11_needSeen 16 = .ok (.getfield 253, 3) := by decide +kernel
theorem dX11_needSeen_19 : decode cX11_needSeen 19 = .ok (.iload_n 0, 1) := by decide +kernel
theorem dX11_needSeen_20 : decode cX11_needSeen 20 = .ok (.invokestatic 463, 3) := by decide +kernel
theorem dX11_needSeen_23 : decode cX11_needSeen 23 = .ok (.ifCond .ne 14, 3) := by decide +kernel
theorem dX11_needSeen_26 : decode cX11_needSeen 26 = .ok (.new 121, 3) := by decide +kernel
theorem dX11_needSeen_29 : decode cX11_needSeen 29 = .ok (.dup, 1) := by decide +kernel
theorem dX11_needSeen_30 : decode cX11_needSeen 30 = .ok (.ldc_w 501, 3) := by decide +kernel
theorem dX11_needSeen_33 : decode cX11_needSeen 33 = .ok (.invokespecial 125, 3) := by decide +kernel
theorem dX11_needSeen_36 : decode cX11_needSeen 36 = .ok (.athrow, 1) := by decide +kernel
theorem dX11_needSeen_37 : decode cX11_needSeen 37 = .ok (.return_, 1) := by decide +kernel
theorem dX11_needOpenAndSeen_0 : decode cX11_needOpenAndSeen 0 = .ok (.aload_n 1, 1) := by decide +kernel
theorem dX11_needOpenAndSeen_1 : decode cX11_needOpenAndSeen 1 = .ok (.getfield 227, 3) := by decide +kernel
theorem dX11_needOpenAndSeen_4 : decode cX11_needOpenAndSeen 4 = .ok (.ifCond .eq 13, 3) := by decide +kernel
theorem dX11_needOpenAndSeen_7 : decode cX11_needOpenAndSeen 7 = .ok (.new 121, 3) := by decide +kernel
theorem dX11_needOpenAndSeen_10 : decode cX11_needOpenAndSeen 10 = .ok (.dup, 1) := by decide +kernel
theorem dX11_needOpenAndSeen_11 : decode cX11_needOpenAndSeen 11 = .ok (.ldc 241, 2) := by decide +kernel
theorem dX11_needOpenAndSeen_13 : decode cX11_needOpenAndSeen 13 = .ok (.invokespecial 125, 3) := by decide +kernel
theorem dX11_needOpenAndSeen_16 : decode cX11_needOpenAndSeen 16 = .ok (.athrow, 1) := by decide +kernel
theorem dX11_needOpenAndSeen_17 : decode cX11_needOpenAndSeen 17 = .ok (.iload_n 0, 1) := by decide +kernel
theorem dX11_needOpenAndSeen_18 : decode cX11_needOpenAndSeen 18 = .ok (.aload_n 1, 1) := by decide +kernel
theorem dX11_needOpenAndSeen_19 : decode cX11_needOpenAndSeen 19 = .ok (.invokestatic 283, 3) := by decide +kernel
theorem dX11_needOpenAndSeen_22 : decode cX11_needOpenAndSeen 22 = .ok (.return_, 1) := by decide +kernel
theorem dX11_needRoomForCommit_0 : decode cX11_needRoomForCommit 0 = .ok (.aload_n 0, 1) := by decide +kernel
theorem dX11_needRoomForCommit_1 : decode cX11_needRoomForCommit 1 = .ok (.getfield 10, 3) := by decide +kernel
theorem dX11_needRoomForCommit_4 : decode cX11_needRoomForCommit 4 = .ok (.invokevirtual 159, 3) := by decide +kernel
theorem dX11_needRoomForCommit_7 : decode cX11_needRoomForCommit 7 = .ok (.ifCond .eq 14, 3) := by decide +kernel
theorem dX11_needRoomForCommit_10 : decode cX11_needRoomForCommit 10 = .ok (.new 121, 3) := by decide +kernel
theorem dX11_needRoomForCommit_13 : decode cX11_needRoomForCommit 13 = .ok (.dup, 1) := by decide +kernel
theorem dX11_needRoomForCommit_14 : decode cX11_needRoomForCommit 14 = .ok (.ldc_w 503, 3) := by decide +kernel
theorem dX11_needRoomForCommit_17 : decode cX11_needRoomForCommit 17 = .ok (.invokespecial 125, 3) := by decide +kernel
theorem dX11_needRoomForCommit_20 : decode cX11_needRoomForCommit 20 = .ok (.athrow, 1) := by decide +kernel
theorem dX11_needRoomForCommit_21 : decode cX11_needRoomForCommit 21 = .ok (.return_, 1) := by decide +kernel
theorem dX11_needRoomForComment_0 : decode cX11_needRoomForComment 0 = .ok (.aload_n 0, 1) := by decide +kernel
theorem dX11_needRoomForComment_1 : decode cX11_needRoomForComment 1 = .ok (.getfield 53, 3) := by decide +kernel
theorem dX11_needRoomForComment_4 : decode cX11_needRoomForComment 4 = .ok (.invokevirtual 155, 3) := by decide +kernel
theorem dX11_needRoomForComment_7 : decode cX11_needRoomForComment 7 = .ok (.bipush 60, 2) := by decide +kernel
theorem dX11_needRoomForComment_9 : decode cX11_needRoomForComment 9 = .ok (.if_icmp .lt 14, 3) := by decide +kernel
theorem dX11_needRoomForComment_12 : decode cX11_needRoomForComment 12 = .ok (.new 121, 3) := by decide +kernel
theorem dX11_needRoomForComment_15 : decode cX11_needRoomForComment 15 = .ok (.dup, 1) := by decide +kernel
theorem dX11_needRoomForComment_16 : decode cX11_needRoomForComment 16 = .ok (.ldc_w 505, 3) := by decide +kernel
theorem dX11_needRoomForComment_19 : decode cX11_needRoomForComment 19 = .ok (.invokespecial 125, 3) := by decide +kernel
theorem dX11_needRoomForComment_22 : decode cX11_needRoomForComment 22 = .ok (.athrow, 1) := by decide +kernel
theorem dX11_needRoomForComment_23 : decode cX11_needRoomForComment 23 = .ok (.return_, 1) := by decide +kernel
theorem dX11_isIn_0 : decode cX11_isIn 0 = .ok (.iload_n 0, 1) := by decide +kernel
theorem dX11_isIn_1 : decode cX11_isIn 1 = .ok (.iload_n 1, 1) := by decide +kernel
theorem dX11_isIn_2 : decode cX11_isIn 2 = .ok (.ishr, 1) := by decide +kernel
theorem dX11_isIn_3 : decode cX11_isIn 3 = .ok (.iconst 1, 1) := by decide +kernel
theorem dX11_isIn_4 : decode cX11_isIn 4 = .ok (.iand, 1) := by decide +kernel
theorem dX11_isIn_5 : decode cX11_isIn 5 = .ok (.iconst 1, 1) := by decide +kernel
theorem dX11_isIn_6 : decode cX11_isIn 6 = .ok (.if_icmp .ne 7, 3) := by decide +kernel
theorem dX11_isIn_9 : decode cX11_isIn 9 = .ok (.iconst 1, 1) := by decide +kernel
theorem dX11_isIn_10 : decode cX11_isIn 10 = .ok (.goto 4, 3) := by decide +kernel
theorem dX11_isIn_13 : decode cX11_isIn 13 = .ok (.iconst 0, 1) := by decide +kernel
theorem dX11_isIn_14 : decode cX11_isIn 14 = .ok (.ireturn, 1) := by decide +kernel
theorem dX11_moveDesk_0 : decode cX11_moveDesk 0 = .ok (.aload_n 0, 1) := by decide +kernel
theorem dX11_moveDesk_1 : decode cX11_moveDesk 1 = .ok (.getfield 10, 3) := by decide +kernel
theorem dX11_moveDesk_4 : decode cX11_moveDesk 4 = .ok (.iload_n 1, 1) := by decide +kernel
theorem dX11_moveDesk_5 : decode cX11_moveDesk 5 = .ok (.invokevirtual 507, 3) := by decide +kernel
theorem dX11_moveDesk_8 : decode cX11_moveDesk 8 = .ok (.ireturn, 1) := by decide +kernel
theorem dX11_addSet_0 : decode cX11_addSet 0 = .ok (.aload_n 0, 1) := by decide +kernel
theorem dX11_addSet_1 : decode cX11_addSet 1 = .ok (.getfield 10, 3) := by decide +kernel
theorem dX11_addSet_4 : decode cX11_addSet 4 = .ok (.aload_n 2, 1) := by decide +kernel
theorem dX11_addSet_5 : decode cX11_addSet 5 = .ok (.getfield 180, 3) := by decide +kernel
theorem dX11_addSet_8 : decode cX11_addSet 8 = .ok (.invokevirtual 204, 3) := by decide +kernel
theorem dX11_addSet_11 : decode cX11_addSet 11 = .ok (.istore 5, 2) := by decide +kernel
theorem dX11_addSet_13 : decode cX11_addSet 13 = .ok (.aload_n 0, 1) := by decide +kernel
theorem dX11_addSet_14 : decode cX11_addSet 14 = .ok (.getfield 10, 3) := by decide +kernel
theorem dX11_addSet_17 : decode cX11_addSet 17 = .ok (.iload_n 3, 1) := by decide +kernel
theorem dX11_addSet_18 : decode cX11_addSet 18 = .ok (.aload_n 2, 1) := by decide +kernel
theorem dX11_addSet_19 : decode cX11_addSet 19 = .ok (.getfield 187, 3) := by decide +kernel
theorem dX11_addSet_22 : decode cX11_addSet 22 = .ok (.iload 4, 2) := by decide +kernel
theorem dX11_addSet_24 : decode cX11_addSet 24 = .ok (.invokevirtual 510, 3) := by decide +kernel
theorem dX11_addSet_27 : decode cX11_addSet 27 = .ok (.istore 6, 2) := by decide +kernel
theorem dX11_addSet_29 : decode cX11_addSet 29 = .ok (.iload 5, 2) := by decide +kernel
theorem dX11_addSet_31 : decode cX11_addSet 31 = .ok (.iconst (-1), 1) := by decide +kernel
theorem dX11_addSet_32 : decode cX11_addSet 32 = .ok (.if_icmp .ne 7, 3) := by decide +kernel
theorem dX11_addSet_35 : decode cX11_addSet 35 = .ok (.iconst 0, 1) := by decide +kernel
theorem dX11_addSet_36 : decode cX11_addSet 36 = .ok (.goto 14, 3) := by decide +kernel
theorem dX11_addSet_39 : decode cX11_addSet 39 = .ok (.aload_n 0, 1) := by decide +kernel
theorem dX11_addSet_40 : decode cX11_addSet 40 = .ok (.getfield 21, 3) := by decide +kernel
theorem dX11_addSet_43 : decode cX11_addSet 43 = .ok (.iload 5, 2) := by decide +kernel
theorem dX11_addSet_45 : decode cX11_addSet 45 = .ok (.iload 6, 2) := by decide +kernel
theorem dX11_addSet_47 : decode cX11_addSet 47 = .ok (.invokevirtual 513, 3) := by decide +kernel
theorem dX11_addSet_50 : decode cX11_addSet 50 = .ok (.istore 7, 2) := by decide +kernel
theorem dX11_addSet_52 : decode cX11_addSet 52 = .ok (.aload_n 0, 1) := by decide +kernel
theorem dX11_addSet_53 : decode cX11_addSet 53 = .ok (.getfield 10, 3) := by decide +kernel
theorem dX11_addSet_56 : decode cX11_addSet 56 = .ok (.iload 6, 2) := by decide +kernel
theorem dX11_addSet_58 : decode cX11_addSet 58 = .ok (.aload_n 2, 1) := by decide +kernel
theorem dX11_addSet_59 : decode cX11_addSet 59 = .ok (.getfield 180, 3) := by decide +kernel
theorem dX11_addSet_62 : decode cX11_addSet 62 = .ok (.iload_n 1, 1) := by decide +kernel
theorem dX11_addSet_63 : decode cX11_addSet 63 = .ok (.iload 7, 2) := by decide +kernel
theorem dX11_addSet_65 : decode cX11_addSet 65 = .ok (.invokevirtual 516, 3) := by decide +kernel
theorem dX11_addSet_68 : decode cX11_addSet 68 = .ok (.aload_n 2, 1) := by decide +kernel
theorem dX11_addSet_69 : decode cX11_addSet 69 = .ok (.iload 6, 2) := by decide +kernel
theorem dX11_addSet_71 : decode cX11_addSet 71 = .ok (.invokevirtual 519, 3) := by decide +kernel
theorem dX11_addSet_74 : decode cX11_addSet 74 = .ok (.aload_n 0, 1) := by decide +kernel
theorem dX11_addSet_75 : decode cX11_addSet 75 = .ok (.iload_n 1, 1) := by decide +kernel
theorem dX11_addSet_76 : decode cX11_addSet 76 = .ok (.aload_n 2, 1) := by decide +kernel
theorem dX11_addSet_77 : decode cX11_addSet 77 = .ok (.iconst 1, 1) := by decide +kernel
theorem dX11_addSet_78 : decode cX11_addSet 78 = .ok (.invokevirtual 326, 3) := by decide +kernel
theorem dX11_addSet_81 : decode cX11_addSet 81 = .ok (.aload_n 0, 1) := by decide +kernel
theorem dX11_addSet_82 : decode cX11_addSet 82 = .ok (.iload_n 1, 1) := by decide +kernel
theorem dX11_addSet_83 : decode cX11_addSet 83 = .ok (.aload_n 2, 1) := by decide +kernel
theorem dX11_addSet_84 : decode cX11_addSet 84 = .ok (.invokevirtual 330, 3) := by decide +kernel
theorem dX11_addSet_87 : decode cX11_addSet 87 = .ok (.aload_n 2, 1) := by decide +kernel
theorem dX11_addSet_88 : decode cX11_addSet 88 = .ok (.getfield 238, 3) := by decide +kernel
theorem dX11_addSet_91 : decode cX11_addSet 91 = .ok (.iconst 1, 1) := by decide +kernel
theorem dX11_addSet_92 : decode cX11_addSet 92 = .ok (.isub, 1) := by decide +kernel
theorem dX11_addSet_93 : decode cX11_addSet 93 = .ok (.ireturn, 1) := by decide +kernel
theorem dX11_isAtOrAbove_0 : decode cX11_isAtOrAbove 0 = .ok (.iload_n 2, 1) := by decide +kernel
theorem dX11_isAtOrAbove_1 : decode cX11_isAtOrAbove 1 = .ok (.istore_n 3, 1) := by decide +kernel
theorem dX11_isAtOrAbove_2 : decode cX11_isAtOrAbove 2 = .ok (.iconst 0, 1) := by decide +kernel
theorem dX11_isAtOrAbove_3 : decode cX11_isAtOrAbove 3 = .ok (.istore 4, 2) := by decide +kernel
theorem dX11_isAtOrAbove_5 : decode cX11_isAtOrAbove 5 = .ok (.iload 4, 2) := by decide +kernel
theorem dX11_isAtOrAbove_7 : decode cX11_isAtOrAbove 7 = .ok (.bipush 20, 2) := by decide +kernel
theorem dX11_isAtOrAbove_9 : decode cX11_isAtOrAbove 9 = .ok (.if_icmp .gt 30, 3) := by decide +kernel
theorem dX11_isAtOrAbove_12 : decode cX11_isAtOrAbove 12 = .ok (.iload_n 3, 1) := by decide +kernel
theorem dX11_isAtOrAbove_13 : decode cX11_isAtOrAbove 13 = .ok (.iconst (-1), 1) := by decide +kernel
theorem dX11_isAtOrAbove_14 : decode cX11_isAtOrAbove 14 = .ok (.if_icmp .eq 25, 3) := by decide +kernel
theorem dX11_isAtOrAbove_17 : decode cX11_isAtOrAbove 17 = .ok (.iload_n 3, 1) := by decide +kernel
theorem dX11_isAtOrAbove_18 : decode cX11_isAtOrAbove 18 = .ok (.iload_n 1, 1) := by decide +kernel
theorem dX11_isAtOrAbove_19 : decode cX11_isAtOrAbove 19 = .ok (.if_icmp .ne 5, 3) := by decide +kernel
theorem dX11_isAtOrAbove_22 : decode cX11_isAtOrAbove 22 = .ok (.iconst 1, 1) := by decide +kernel
theorem dX11_isAtOrAbove_23 : decode cX11_isAtOrAbove 23 = .ok (.ireturn, 1) := by decide +kernel
theorem dX11_isAtOrAbove_24 : decode cX11_isAtOrAbove 24 = .ok (.aload_n 0, 1) := by decide +kernel
theorem dX11_isAtOrAbove_25 : decode cX11_isAtOrAbove 25 = .ok (.getfield 10, 3) := by decide +kernel
theorem dX11_isAtOrAbove_28 : decode cX11_isAtOrAbove 28 = .ok (.iload_n 3, 1) := by decide +kernel
theorem dX11_isAtOrAbove_29 : decode cX11_isAtOrAbove 29 = .ok (.invokevirtual 230, 3) := by decide +kernel
theorem dX11_isAtOrAbove_32 : decode cX11_isAtOrAbove 32 = .ok (.istore_n 3, 1) := by decide +kernel
theorem dX11_isAtOrAbove_33 : decode cX11_isAtOrAbove 33 = .ok (.iinc 4 1, 3) := by decide +kernel
theorem dX11_isAtOrAbove_36 : decode cX11_isAtOrAbove 36 = .ok (.goto (-31), 3) := by decide +kernel
theorem dX11_isAtOrAbove_39 : decode cX11_isAtOrAbove 39 = .ok (.iconst 0, 1) := by decide +kernel
theorem dX11_isAtOrAbove_40 : decode cX11_isAtOrAbove 40 = .ok (.ireturn, 1) := by decide +kernel
theorem dX11_newBaseOf_0 : decode cX11_newBaseOf 0 = .ok (.aload_n 0, 1) := by decide +kernel
theorem dX11_newBaseOf_1 : decode cX11_newBaseOf 1 = .ok (.aload_n 1, 1) := by decide +kernel
theorem dX11_newBaseOf_2 : decode cX11_newBaseOf 2 = .ok (.invokevirtual 521, 3) := by decide +kernel
theorem dX11_newBaseOf_5 : decode cX11_newBaseOf 5 = .ok (.astore_n 2, 1) := by decide +kernel
theorem dX11_newBaseOf_6 : decode cX11_newBaseOf 6 = .ok (.aload_n 2, 1) := by decide +kernel
theorem dX11_newBaseOf_7 : decode cX11_newBaseOf 7 = .ok (.ifnull 22, 3) := by decide +kernel
theorem dX11_newBaseOf_10 : decode cX11_newBaseOf 10 = .ok (.aload_n 2, 1) := by decide +kernel
theorem dX11_newBaseOf_11 : decode cX11_newBaseOf 11 = .ok (.getfield 227, 3) := by decide +kernel
theorem dX11_newBaseOf_14 : decode cX11_newBaseOf 14 = .ok (.ifCond .ne 15, 3) := by decide +kernel
theorem dX11_newBaseOf_17 : decode cX11_newBaseOf 17 = .ok (.aload_n 0, 1) := by decide +kernel
theorem dX11_newBaseOf_18 : decode cX11_newBaseOf 18 = .ok (.getfield 10, 3) := by decide +kernel
theorem dX11_newBaseOf_21 : decode cX11_newBaseOf 21 = .ok (.aload_n 2, 1) := by decide +kernel
theorem dX11_newBaseOf_22 : decode cX11_newBaseOf 22 = .ok (.getfield 180, 3) := by decide +kernel
theorem dX11_newBaseOf_25 : decode cX11_newBaseOf 25 = .ok (.invokevirtual 204, 3) := by decide +kernel
theorem dX11_newBaseOf_28 : decode cX11_newBaseOf 28 = .ok (.ireturn, 1) := by decide +kernel
theorem dX11_newBaseOf_29 : decode cX11_newBaseOf 29 = .ok (.aload_n 2, 1) := by decide +kernel
theorem dX11_newBaseOf_30 : decode cX11_newBaseOf 30 = .ok (.ifnull 16, 3) := by decide +kernel
theorem dX11_newBaseOf_33 : decode cX11_newBaseOf 33 = .ok (.aload_n 2, 1) := by decide +kernel
theorem dX11_newBaseOf_34 : decode cX11_newBaseOf 34 = .ok (.getfield 227, 3) := by decide +kernel
theorem dX11_newBaseOf_37 : decode cX11_newBaseOf 37 = .ok (.iconst 1, 1) := by decide +kernel
theorem dX11_newBaseOf_38 : decode cX11_newBaseOf 38 = .ok (.if_icmp .ne 8, 3) := by decide +kernel
theorem dX11_newBaseOf_41 : decode cX11_newBaseOf 41 = .ok (.aload_n 2, 1) := by decide +kernel
theorem dX11_newBaseOf_42 : decode cX11_newBaseOf 42 = .ok (.getfield 525, 3) := by decide +kernel
theorem dX11_newBaseOf_45 : decode cX11_newBaseOf 45 = .ok (.ireturn, 1) := by decide +kernel
theorem dX11_newBaseOf_46 : decode cX11_newBaseOf 46 = .ok (.aload_n 0, 1) := by decide +kernel
theorem dX11_newBaseOf_47 : decode cX11_newBaseOf 47 = .ok (.getfield 10, 3) := by decide +kernel
theorem dX11_newBaseOf_50 : decode cX11_newBaseOf 50 = .ok (.aload_n 1, 1) := by decide +kernel
theorem dX11_newBaseOf_51 : decode cX11_newBaseOf 51 = .ok (.getfield 187, 3) := by decide +kernel
theorem dX11_newBaseOf_54 : decode cX11_newBaseOf 54 = .ok (.invokevirtual 146, 3) := by decide +kernel
theorem dX11_newBaseOf_57 : decode cX11_newBaseOf 57 = .ok (.ireturn, 1) := by decide +kernel
theorem dX11_endChange_0 : decode cX11_endChange 0 = .ok (.aload_n 1, 1) := by decide +kernel
theorem dX11_endChange_1 : decode cX11_endChange 1 = .ok (.iload_n 2, 1) := by decide +kernel
theorem dX11_endChange_2 : decode cX11_endChange 2 = .ok (.putfield 227, 3) := by decide +kernel
theorem dX11_endChange_5 : decode cX11_endChange 5 = .ok (.aload_n 1, 1) := by decide +kernel
theorem dX11_endChange_6 : decode cX11_endChange 6 = .ok (.iconst 0, 1) := by decide +kernel
theorem dX11_endChange_7 : decode cX11_endChange 7 = .ok (.putfield 250, 3) := by decide +kernel
theorem dX11_endChange_10 : decode cX11_endChange 10 = .ok (.aload_n 0, 1) := by decide +kernel
theorem dX11_endChange_11 : decode cX11_endChange 11 = .ok (.iload_n 3, 1) := by decide +kernel
theorem dX11_endChange_12 : decode cX11_endChange 12 = .ok (.aload_n 1, 1) := by decide +kernel
theorem dX11_endChange_13 : decode cX11_endChange 13 = .ok (.invokevirtual 330, 3) := by decide +kernel
theorem dX11_endChange_16 : decode cX11_endChange 16 = .ok (.return_, 1) := by decide +kernel
theorem dX11_passTurns_0 : decode cX11_passTurns 0 = .ok (.aload_n 2, 1) := by decide +kernel
theorem dX11_passTurns_1 : decode cX11_passTurns 1 = .ok (.dup, 1) := by decide +kernel
theorem dX11_passTurns_2 : decode cX11_passTurns 2 = .ok (.getfield 250, 3) := by decide +kernel
theorem dX11_passTurns_5 : decode cX11_passTurns 5 = .ok (.iconst 1, 1) := by decide +kernel
theorem dX11_passTurns_6 : decode cX11_passTurns 6 = .ok (.iload_n 1, 1) := by decide +kernel
theorem dX11_passTurns_7 : decode cX11_passTurns 7 = .ok (.ishl, 1) := by decide +kernel
theorem dX11_passTurns_8 : decode cX11_passTurns 8 = .ok (.iconst (-1), 1) := by decide +kernel
theorem dX11_passTurns_9 : decode cX11_passTurns 9 = .ok (.ixor, 1) := by decide +kernel
theorem dX11_passTurns_10 : decode cX11_passTurns 10 = .ok (.iand, 1) := by decide +kernel
theorem dX11_passTurns_11 : decode cX11_passTurns 11 = .ok (.putfield 250, 3) := by decide +kernel
theorem dX11_passTurns_14 : decode cX11_passTurns 14 = .ok (.iload_n 1, 1) := by decide +kernel
theorem dX11_passTurns_15 : decode cX11_passTurns 15 = .ok (.aload_n 2, 1) := by decide +kernel
theorem dX11_passTurns_16 : decode cX11_passTurns 16 = .ok (.getfield 473, 3) := by decide +kernel
theorem dX11_passTurns_19 : decode cX11_passTurns 19 = .ok (.if_icmp .eq 16, 3) := by decide +kernel
theorem dX11_passTurns_22 : decode cX11_passTurns 22 = .ok (.aload_n 2, 1) := by decide +kernel
theorem dX11_passTurns_23 : decode cX11_passTurns 23 = .ok (.iconst 1, 1) := by decide +kernel
theorem dX11_passTurns_24 : decode cX11_passTurns 24 = .ok (.aload_n 2, 1) := by decide +kernel
theorem dX11_passTurns_25 : decode cX11_passTurns 25 = .ok (.getfield 473, 3) := by decide +kernel
theorem dX11_passTurns_28 : decode cX11_passTurns 28 = .ok (.ishl, 1) := by decide +kernel
theorem dX11_passTurns_29 : decode cX11_passTurns 29 = .ok (.invokevirtual 478, 3) := by decide +kernel
theorem dX11_passTurns_32 : decode cX11_passTurns 32 = .ok (.goto 28, 3) := by decide +kernel
theorem dX11_passTurns_35 : decode cX11_passTurns 35 = .ok (.iload_n 3, 1) := by decide +kernel
theorem dX11_passTurns_36 : decode cX11_passTurns 36 = .ok (.ifCond .eq 24, 3) := by decide +kernel
theorem dX11_passTurns_39 : decode cX11_passTurns 39 = .ok (.aload_n 2, 1) := by decide +kernel
theorem dX11_passTurns_40 : decode cX11_passTurns 40 = .ok (.aload_n 2, 1) := by decide +kernel
theorem dX11_passTurns_41 : decode cX11_passTurns 41 = .ok (.getfield 253, 3) := by decide +kernel
theorem dX11_passTurns_44 : decode cX11_passTurns 44 = .ok (.aload_n 0, 1) := by decide +kernel
theorem dX11_passTurns_45 : decode cX11_passTurns 45 = .ok (.getfield 28, 3) := by decide +kernel
theorem dX11_passTurns_48 : decode cX11_passTurns 48 = .ok (.aload_n 2, 1) := by decide +kernel
theorem dX11_passTurns_49 : decode cX11_passTurns 49 = .ok (.iconst 0, 1) := by decide +kernel
theorem dX11_passTurns_50 : decode cX11_passTurns 50 = .ok (.iconst 2, 1) := by decide +kernel
theorem dX11_passTurns_51 : decode cX11_passTurns 51 = .ok (.invokevirtual 528, 3) := by decide +kernel
theorem dX11_passTurns_54 : decode cX11_passTurns 54 = .ok (.iconst (-1), 1) := by decide +kernel
theorem dX11_passTurns_55 : decode cX11_passTurns 55 = .ok (.ixor, 1) := by decide +kernel
theorem dX11_passTurns_56 : decode cX11_passTurns 56 = .ok (.iand, 1) := by decide +kernel
theorem dX11_passTurns_57 : decode cX11_passTurns 57 = .ok (.invokevirtual 478, 3) := by decide +kernel
theorem dX11_passTurns_60 : decode cX11_passTurns 60 = .ok (.return_, 1) := by decide +kernel
theorem dX11_noteAct_0 : decode cX11_noteAct 0 = .ok (.aload_n 2, 1) := by decide +kernel
theorem dX11_noteAct_1 : decode cX11_noteAct 1 = .ok (.aload_n 0, 1) := by decide +kernel
theorem dX11_noteAct_2 : decode cX11_noteAct 2 = .ok (.getfield 75, 3) := by decide +kernel
theorem dX11_noteAct_5 : decode cX11_noteAct 5 = .ok (.putfield 235, 3) := by decide +kernel
theorem dX11_noteAct_8 : decode cX11_noteAct 8 = .ok (.aload_n 2, 1) := by decide +kernel
theorem dX11_noteAct_9 : decode cX11_noteAct 9 = .ok (.getfield 253, 3) := by decide +kernel
theorem dX11_noteAct_12 : decode cX11_noteAct 12 = .ok (.iconst 1, 1) := by decide +kernel
theorem dX11_noteAct_13 : decode cX11_noteAct 13 = .ok (.aload_n 2, 1) := by decide +kernel
theorem dX11_noteAct_14 : decode cX11_noteAct 14 = .ok (.getfield 473, 3) := by decide +kernel
theorem dX11_noteAct_17 : decode cX11_noteAct 17 = .ok (.ishl, 1) := by decide +kernel
theorem dX11_noteAct_18 : decode cX11_noteAct 18 = .ok (.ior, 1) := by decide +kernel
theorem dX11_noteAct_19 : decode cX11_noteAct 19 = .ok (.istore_n 3, 1) := by decide +kernel
theorem dX11_noteAct_20 : decode cX11_noteAct 20 = .ok (.aload_n 2, 1) := by decide +kernel
theorem dX11_noteAct_21 : decode cX11_noteAct 21 = .ok (.getfield 247, 3) := by decide +kernel
theorem dX11_noteAct_24 : decode cX11_noteAct 24 = .ok (.ifCond .ne 22, 3) := by decide +kernel
theorem dX11_noteAct_27 : decode cX11_noteAct 27 = .ok (.aload_n 2, 1) := by decide +kernel
theorem dX11_noteAct_28 : decode cX11_noteAct 28 = .ok (.getfield 243, 3) := by decide +kernel
theorem dX11_noteAct_31 : decode cX11_noteAct 31 = .ok (.ifCond .ne 15, 3) := by decide +kernel
theorem dX11_noteAct_34 : decode cX11_noteAct 34 = .ok (.iload_n 3, 1) := by decide +kernel
theorem dX11_noteAct_35 : decode cX11_noteAct 35 = .ok (.aload_n 0, 1) := by decide +kernel
theorem dX11_noteAct_36 : decode cX11_noteAct 36 = .ok (.getfield 68, 3) := by decide +kernel
theorem dX11_noteAct_39 : decode cX11_noteAct 39 = .ok (.aload_n 2, 1) := by decide +kernel
theorem dX11_noteAct_40 : decode cX11_noteAct 40 = .ok (.getfield 187, 3) := by decide +kernel
theorem dX11_noteAct_43 : decode cX11_noteAct 43 = .ok (.iaload, 1) := by decide +kernel
theorem dX11_noteAct_44 : decode cX11_noteAct 44 = .ok (.ior, 1) := by decide +kernel
theorem dX11_noteAct_45 : decode cX11_noteAct 45 = .ok (.istore_n 3, 1) := by decide +kernel
theorem dX11_noteAct_46 : decode cX11_noteAct 46 = .ok (.iconst 0, 1) := by decide +kernel
theorem dX11_noteAct_47 : decode cX11_noteAct 47 = .ok (.istore 4, 2) := by decide +kernel
theorem dX11_noteAct_49 : decode cX11_noteAct 49 = .ok (.iload 4, 2) := by decide +kernel
theorem dX11_noteAct_51 : decode cX11_noteAct 51 = .ok (.bipush 6, 2) := by decide +kernel
theorem dX11_noteAct_53 : decode cX11_noteAct 53 = .ok (.if_icmp .ge 35, 3) := by decide +kernel
theorem dX11_noteAct_56 : decode cX11_noteAct 56 = .ok (.iload 4, 2) := by decide +kernel
theorem dX11_noteAct_58 : decode cX11_noteAct 58 = .ok (.iload_n 1, 1) := by decide +kernel
theorem dX11_noteAct_59 : decode cX11_noteAct 59 = .ok (.if_icmp .eq 23, 3) := by decide +kernel
theorem dX11_noteAct_62 : decode cX11_noteAct 62 = .ok (.iload_n 3, 1) := by decide +kernel
theorem dX11_noteAct_63 : decode cX11_noteAct 63 = .ok (.iload 4, 2) := by decide +kernel
theorem dX11_noteAct_65 : decode cX11_noteAct 65 = .ok (.invokestatic 463, 3) := by decide +kernel
theorem dX11_noteAct_68 : decode cX11_noteAct 68 = .ok (.ifCond .eq 14, 3) := by decide +kernel
theorem dX11_noteAct_71 : decode cX11_noteAct 71 = .ok (.aload_n 0, 1) := by decide +kernel
theorem dX11_noteAct_72 : decode cX11_noteAct 72 = .ok (.getfield 72, 3) := by decide +kernel
theorem dX11_noteAct_75 : decode cX11_noteAct 75 = .ok (.iload 4, 2) := by decide +kernel
theorem dX11_noteAct_77 : decode cX11_noteAct 77 = .ok (.dup2, 1) := by decide +kernel
theorem dX11_noteAct_78 : decode cX11_noteAct 78 = .ok (.iaload, 1) := by decide +kernel
theorem dX11_noteAct_79 : decode cX11_noteAct 79 = .ok (.iconst 1, 1) := by decide +kernel
theorem dX11_noteAct_80 : decode cX11_noteAct 80 = .ok (.iadd, 1) := by decide +kernel
theorem dX11_noteAct_81 : decode cX11_noteAct 81 = .ok (.iastore, 1) := by decide +kernel
theorem dX11_noteAct_82 : decode cX11_noteAct 82 = .ok (.iinc 4 1, 3) := by decide +kernel
theorem dX11_noteAct_85 : decode cX11_noteAct 85 = .ok (.goto (-36), 3) := by decide +kernel
theorem dX11_noteAct_88 : decode cX11_noteAct 88 = .ok (.return_, 1) := by decide +kernel
theorem dX11_findDifference_0 : decode cX11_findDifference 0 = .ok (.aload_n 0, 1) := by decide +kernel
theorem dX11_findDifference_1 : decode cX11_findDifference 1 = .ok (.iload_n 1, 1) := by decide +kernel
theorem dX11_findDifference_2 : decode cX11_findDifference 2 = .ok (.invokevirtual 91, 3) := by decide +kernel
theorem dX11_findDifference_5 : decode cX11_findDifference 5 = .ok (.astore 6, 2) := by decide +kernel
theorem dX11_findDifference_7 : decode cX11_findDifference 7 = .ok (.aload 6, 2) := by decide +kernel
theorem dX11_findDifference_9 : decode cX11_findDifference 9 = .ok (.iload_n 2, 1) := by decide +kernel
theorem dX11_findDifference_10 : decode cX11_findDifference 10 = .ok (.invokestatic 95, 3) := by decide +kernel
theorem dX11_findDifference_13 : decode cX11_findDifference 13 = .ok (.istore 7, 2) := by decide +kernel
theorem dX11_findDifference_15 : decode cX11_findDifference 15 = .ok (.aload 6, 2) := by decide +kernel
theorem dX11_findDifference_17 : decode cX11_findDifference 17 = .ok (.iload_n 3, 1) := by decide +kernel
theorem dX11_findDifference_18 : decode cX11_findDifference 18 = .ok (.invokestatic 95, 3) := by decide +kernel
theorem dX11_findDifference_21 : decode cX11_findDifference 21 = .ok (.istore 8, 2) := by decide +kernel
theorem dX11_findDifference_23 : decode cX11_findDifference 23 = .ok (.iload 4, 2) := by decide +kernel
theorem dX11_findDifference_25 : decode cX11_findDifference 25 = .ok (.invokestatic 102, 3) := by decide +kernel
theorem dX11_findDifference_28 : decode cX11_findDifference 28 = .ok (.aload_n 0, 1) := by decide +kernel
theorem dX11_findDifference_29 : decode cX11_findDifference 29 = .ok (.getfield 21, 3) := by decide +kernel
theorem dX11_findDifference_32 : decode cX11_findDifference 32 = .ok (.iload 7, 2) := by decide +kernel
theorem dX11_findDifference_34 : decode cX11_findDifference 34 = .ok (.iload 8, 2) := by decide +kernel
theorem dX11_findDifference_36 : decode cX11_findDifference 36 = .ok (.iload 4, 2) := by decide +kernel
theorem dX11_findDifference_38 : decode cX11_findDifference 38 = .ok (.iload 5, 2) := by decide +kernel
theorem dX11_findDifference_40 : decode cX11_findDifference 40 = .ok (.invokevirtual 532, 3) := by decide +kernel
theorem dX11_findDifference_43 : decode cX11_findDifference 43 = .ok (.ireturn, 1) := by decide +kernel
theorem dX11_countUnresolved_0 : decode cX11_countUnresolved 0 = .ok (.iconst 0, 1) := by decide +kernel
theorem dX11_countUnresolved_1 : decode cX11_countUnresolved 1 = .ok (.istore_n 2, 1) := by decide +kernel
theorem dX11_countUnresolved_2 : decode cX11_countUnresolved 2 = .ok (.iconst 0, 1) := by decide +kernel
theorem dX11_countUnresolved_3 : decode cX11_countUnresolved 3 = .ok (.istore_n 3, 1) := by decide +kernel
theorem dX11_countUnresolved_4 : decode cX11_countUnresolved 4 = .ok (.iload_n 3, 1) := by decide +kernel
theorem dX11_countUnresolved_5 : decode cX11_countUnresolved 5 = .ok (.aload_n 0, 1) := by decide +kernel
theorem dX11_countUnresolved_6 : decode cX11_countUnresolved 6 = .ok (.getfield 53, 3) := by decide +kernel
theorem dX11_countUnresolved_9 : decode cX11_countUnresolved 9 = .ok (.invokevirtual 155, 3) := by decide +kernel
theorem dX11_countUnresolved_12 : decode cX11_countUnresolved 12 = .ok (.if_icmp .ge 41, 3) := by decide +kernel
theorem dX11_countUnresolved_15 : decode cX11_countUnresolved 15 = .ok (.aload_n 0, 1) := by decide +kernel
theorem dX11_countUnresolved_16 : decode cX11_countUnresolved 16 = .ok (.getfield 53, 3) := by decide +kernel
theorem dX11_countUnresolved_19 : decode cX11_countUnresolved 19 = .ok (.iload_n 3, 1) := by decide +kernel
theorem dX11_countUnresolved_20 : decode cX11_countUnresolved 20 = .ok (.invokevirtual 223, 3) := by decide +kernel
theorem dX11_countUnresolved_23 : decode cX11_countUnresolved 23 = .ok (.checkcast 289, 3) := by decide +kernel
theorem dX11_countUnresolved_26 : decode cX11_countUnresolved 26 = .ok (.getfield 311, 3) := by decide +kernel
theorem dX11_countUnresolved_29 : decode cX11_countUnresolved 29 = .ok (.getfield 315, 3) := by decide +kernel
theorem dX11_countUnresolved_32 : decode cX11_countUnresolved 32 = .ok (.iload_n 1, 1) := by decide +kernel
theorem dX11_countUnresolved_33 : decode cX11_countUnresolved 33 = .ok (.if_icmp .ne 14, 3) := by decide +kernel
theorem dX11_countUnresolved_36 : decode cX11_countUnresolved 36 = .ok (.aload_n 0, 1) := by decide +kernel
theorem dX11_countUnresolved_37 : decode cX11_countUnresolved 37 = .ok (.iload_n 3, 1) := by decide +kernel
theorem dX11_countUnresolved_38 : decode cX11_countUnresolved 38 = .ok (.invokevirtual 536, 3) := by decide +kernel
theorem dX11_countUnresolved_41 : decode cX11_countUnresolved 41 = .ok (.ifCond .eq 6, 3) := by decide +kernel
theorem dX11_countUnresolved_44 : decode cX11_countUnresolved 44 = .ok (.iinc 2 1, 3) := by decide +kernel
theorem dX11_countUnresolved_47 : decode cX11_countUnresolved 47 = .ok (.iinc 3 1, 3) := by decide +kernel
theorem dX11_countUnresolved_50 : decode cX11_countUnresolved 50 = .ok (.goto (-46), 3) := by decide +kernel
theorem dX11_countUnresolved_53 : decode cX11_countUnresolved 53 = .ok (.iload_n 2, 1) := by decide +kernel
theorem dX11_countUnresolved_54 : decode cX11_countUnresolved 54 = .ok (.ireturn, 1) := by decide +kernel
theorem dX11_isThreadUnresolved_0 : decode cX11_isThreadUnresolved 0 = .ok (.iconst 0, 1) := by decide +kernel
theorem dX11_isThreadUnresolved_1 : decode cX11_isThreadUnresolved 1 = .ok (.istore_n 2, 1) := by decide +kernel
theorem dX11_isThreadUnresolved_2 : decode cX11_isThreadUnresolved 2 = .ok (.iload_n 1, 1) := by decide +kernel
theorem dX11_isThreadUnresolved_3 : decode cX11_isThreadUnresolved 3 = .ok (.istore_n 3, 1) := by decide +kernel
theorem dX11_isThreadUnresolved_4 : decode cX11_isThreadUnresolved 4 = .ok (.iload_n 3, 1) := by decide +kernel
theorem dX11_isThreadUnresolved_5 : decode cX11_isThreadUnresolved 5 = .ok (.aload_n 0, 1) := by decide +kernel
theorem dX11_isThreadUnresolved_6 : decode cX11_isThreadUnresolved 6 = .ok (.getfield 53, 3) := by decide +kernel
theorem dX11_isThreadUnresolved_9 : decode cX11_isThreadUnresolved 9 = .ok (.invokevirtual 155, 3) := by decide +kernel
theorem dX11_isThreadUnresolved_12 : decode cX11_isThreadUnresolved 12 = .ok (.if_icmp .ge 45, 3) := by decide +kernel
theorem dX11_isThreadUnresolved_15 : decode cX11_isThreadUnresolved 15 = .ok (.aload_n 0, 1) := by decide +kernel
theorem dX11_isThreadUnresolved_16 : decode cX11_isThreadUnresolved 16 = .ok (.getfield 53, 3) := by decide +kernel
theorem dX11_isThreadUnresolved_19 : decode cX11_isThreadUnresolved 19 = .ok (.iload_n 3, 1) := by decide +kernel
theorem dX11_isThreadUnresolved_20 : decode cX11_isThreadUnresolved 20 = .ok (.invokevirtual 223, 3) := by decide +kernel
theorem dX11_isThreadUnresolved_23 : decode cX11_isThreadUnresolved 23 = .ok (.checkcast 289, 3) := by decide +kernel
theorem dX11_isThreadUnresolved_26 : decode cX11_isThreadUnresolved 26 = .ok (.astore 4, 2) := by decide +kernel
theorem dX11_isThreadUnresolved_28 : decode cX11_isThreadUnresolved 28 = .ok (.aload 4, 2) := by decide +kernel
theorem dX11_isThreadUnresolved_30 : decode cX11_isThreadUnresolved 30 = .ok (.getfield 306, 3) := by decide +kernel
theorem dX11_isThreadUnresolved_33 : decode cX11_isThreadUnresolved 33 = .ok (.iload_n 1, 1) := by decide +kernel
theorem dX11_isThreadUnresolved_34 : decode cX11_isThreadUnresolved 34 = .ok (.if_icmp .ne 17, 3) := by decide +kernel
theorem dX11_isThreadUnresolved_37 : decode cX11_isThreadUnresolved 37 = .ok (.aload 4, 2) := by decide +kernel
theorem dX11_isThreadUnresolved_39 : decode cX11_isThreadUnresolved 39 = .ok (.getfield 303, 3) := by decide +kernel
theorem dX11_isThreadUnresolved_42 : decode cX11_isThreadUnresolved 42 = .ok (.ifCond .eq 9, 3) := by decide +kernel
theorem dX11_isThreadUnresolved_45 : decode cX11_isThreadUnresolved 45 = .ok (.aload 4, 2) := by decide +kernel
theorem dX11_isThreadUnresolved_47 : decode cX11_isThreadUnresolved 47 = .ok (.getfield 539, 3) := by decide +kernel
theorem dX11_isThreadUnresolved_50 : decode cX11_isThreadUnresolved 50 = .ok (.istore_n 2, 1) := by decide +kernel
theorem dX11_isThreadUnresolved_51 : decode cX11_isThreadUnresolved 51 = .ok (.iinc 3 1, 3) := by decide +kernel
theorem dX11_isThreadUnresolved_54 : decode cX11_isThreadUnresolved 54 = .ok (.goto (-50), 3) := by decide +kernel
theorem dX11_isThreadUnresolved_57 : decode cX11_isThreadUnresolved 57 = .ok (.iload_n 2, 1) := by decide +kernel
theorem dX11_isThreadUnresolved_58 : decode cX11_isThreadUnresolved 58 = .ok (.ireturn, 1) := by decide +kernel
theorem dX11_chooseFixes_0 : decode cX11_chooseFixes 0 = .ok (.iload_n 2, 1) := by decide +kernel
theorem dX11_chooseFixes_1 : decode cX11_chooseFixes 1 = .ok (.ifCond .ge 14, 3) := by decide +kernel
theorem dX11_chooseFixes_4 : decode cX11_chooseFixes 4 = .ok (.new 116, 3) := by decide +kernel
theorem dX11_chooseFixes_7 : decode cX11_chooseFixes 7 = .ok (.dup, 1) := by decide +kernel
theorem dX11_chooseFixes_8 : decode cX11_chooseFixes 8 = .ok (.ldc_w 542, 3) := by decide +kernel
theorem dX11_chooseFixes_11 : decode cX11_chooseFixes 11 = .ok (.invokespecial 120, 3) := by decide +kernel
theorem dX11_chooseFixes_14 : decode cX11_chooseFixes 14 = .ok (.athrow, 1) := by decide +kernel
theorem dX11_chooseFixes_15 : decode cX11_chooseFixes 15 = .ok (.lconst 0, 1) := by decide +kernel
theorem dX11_chooseFixes_16 : decode cX11_chooseFixes 16 = .ok (.lstore_n 3, 1) := by decide +kernel
theorem dX11_chooseFixes_17 : decode cX11_chooseFixes 17 = .ok (.iconst 0, 1) := by decide +kernel
theorem dX11_chooseFixes_18 : decode cX11_chooseFixes 18 = .ok (.istore 5, 2) := by decide +kernel
theorem dX11_chooseFixes_20 : decode cX11_chooseFixes 20 = .ok (.iconst 0, 1) := by decide +kernel
theorem dX11_chooseFixes_21 : decode cX11_chooseFixes 21 = .ok (.istore 6, 2) := by decide +kernel
theorem dX11_chooseFixes_23 : decode cX11_chooseFixes 23 = .ok (.iload 6, 2) := by decide +kernel
theorem dX11_chooseFixes_25 : decode cX11_chooseFixes 25 = .ok (.aload_n 0, 1) := by decide +kernel
theorem dX11_chooseFixes_26 : decode cX11_chooseFixes 26 = .ok (.getfield 56, 3) := by decide +kernel
theorem dX11_chooseFixes_29 : decode cX11_chooseFixes 29 = .ok (.invokevirtual 155, 3) := by decide +kernel
theorem dX11_chooseFixes_32 : decode cX11_chooseFixes 32 = .ok (.if_icmp .ge 54, 3) := by decide +kernel
theorem dX11_chooseFixes_35 : decode cX11_chooseFixes 35 = .ok (.aload_n 0, 1) := by decide +kernel
theorem dX11_chooseFixes_36 : decode cX11_chooseFixes 36 = .ok (.getfield 56, 3) := by decide +kernel
theorem dX11_chooseFixes_39 : decode cX11_chooseFixes 39 = .ok (.iload 6, 2) := by decide +kernel
theorem dX11_chooseFixes_41 : decode cX11_chooseFixes 41 = .ok (.invokevirtual 223, 3) := by decide +kernel
theorem dX11_chooseFixes_44 : decode cX11_chooseFixes 44 = .ok (.checkcast 363, 3) := by decide +kernel
theorem dX11_chooseFixes_47 : decode cX11_chooseFixes 47 = .ok (.getfield 544, 3) := by decide +kernel
theorem dX11_chooseFixes_50 : decode cX11_chooseFixes 50 = .ok (.iload_n 1, 1) := by decide +kernel
theorem dX11_chooseFixes_51 : decode cX11_chooseFixes 51 = .ok (.if_icmp .ne 29, 3) := by decide +kernel
theorem dX11_chooseFixes_54 : decode cX11_chooseFixes 54 = .ok (.iload 5, 2) := by decide +kernel
theorem dX11_chooseFixes_56 : decode cX11_chooseFixes 56 = .ok (.bipush 31, 2) := by decide +kernel
theorem dX11_chooseFixes_58 : decode cX11_chooseFixes 58 = .ok (.if_icmp .ge 19, 3) := by decide +kernel
theorem dX11_chooseFixes_61 : decode cX11_chooseFixes 61 = .ok (.iload_n 2, 1) := by decide +kernel
theorem dX11_chooseFixes_62 : decode cX11_chooseFixes 62 = .ok (.iload 5, 2) := by decide +kernel
theorem dX11_chooseFixes_64 : decode cX11_chooseFixes 64 = .ok (.invokestatic 463, 3) := by decide +kernel
theorem dX11_chooseFixes_67 : decode cX11_chooseFixes 67 = .ok (.ifCond .eq 10, 3) := by decide +kernel
theorem dX11_chooseFixes_70 : decode cX11_chooseFixes 70 = .ok (.lload_n 3, 1) := by decide +kernel
theorem dX11_chooseFixes_71 : decode cX11_chooseFixes 71 = .ok (.lconst 1, 1) := by decide +kernel
theorem dX11_chooseFixes_72 : decode cX11_chooseFixes 72 = .ok (.iload 6, 2) := by decide +kernel
theorem dX11_chooseFixes_74 : decode cX11_chooseFixes 74 = .ok (.lshl, 1) := by decide +kernel
theorem dX11_chooseFixes_75 : decode cX11_chooseFixes 75 = .ok (.lor, 1) := by decide +kernel
theorem dX11_chooseFixes_76 : decode cX11_chooseFixes 76 = .ok (.lstore_n 3, 1) := by decide +kernel
theorem dX11_chooseFixes_77 : decode cX11_chooseFixes 77 = .ok (.iinc 5 1, 3) := by decide +kernel
theorem dX11_chooseFixes_80 : decode cX11_chooseFixes 80 = .ok (.iinc 6 1, 3) := by decide +kernel
theorem dX11_chooseFixes_83 : decode cX11_chooseFixes 83 = .ok (.goto (-60), 3) := by decide +kernel
theorem dX11_chooseFixes_86 : decode cX11_chooseFixes 86 = .ok (.iload 5, 2) := by decide +kernel
theorem dX11_chooseFixes_88 : decode cX11_chooseFixes 88 = .ok (.bipush 31, 2) := by decide +kernel
theorem dX11_chooseFixes_90 : decode cX11_chooseFixes 90 = .ok (.if_icmp .ge 21, 3) := by decide +kernel
theorem dX11_chooseFixes_93 : decode cX11_chooseFixes 93 = .ok (.iload_n 2, 1) := by decide +kernel
theorem dX11_chooseFixes_94 : decode cX11_chooseFixes 94 = .ok (.iload 5, 2) := by decide +kernel
theorem dX11_chooseFixes_96 : decode cX11_chooseFixes 96 = .ok (.ishr, 1) := by decide +kernel
theorem dX11_chooseFixes_97 : decode cX11_chooseFixes 97 = .ok (.ifCond .eq 14, 3) := by decide +kernel
theorem dX11_chooseFixes_100 : decode cX11_chooseFixes 100 = .ok (.new 116, 3) := by decide +kernel
theorem dX11_chooseFixes_103 : decode cX11_chooseFixes 103 = .ok (.dup, 1) := by decide +kernel
theorem dX11_chooseFixes_104 : decode cX11_chooseFixes 104 = .ok (.ldc_w 542, 3) := by decide +kernel
theorem dX11_chooseFixes_107 : decode cX11_chooseFixes 107 = .ok (.invokespecial 120, 3) := by decide +kernel
theorem dX11_chooseFixes_110 : decode cX11_chooseFixes 110 = .ok (.athrow, 1) := by decide +kernel
theorem dX11_chooseFixes_111 : decode cX11_chooseFixes 111 = .ok (.lload_n 3, 1) := by decide +kernel
theorem dX11_chooseFixes_112 : decode cX11_chooseFixes 112 = .ok (.lreturn, 1) := by decide +kernel
theorem dX11_isSomeTouching_0 : decode cX11_isSomeTouching 0 = .ok (.iconst 0, 1) := by decide +kernel
theorem dX11_isSomeTouching_1 : decode cX11_isSomeTouching 1 = .ok (.istore_n 3, 1) := by decide +kernel
theorem dX11_isSomeTouching_2 : decode cX11_isSomeTouching 2 = .ok (.iload_n 3, 1) := by decide +kernel
theorem dX11_isSomeTouching_3 : decode cX11_isSomeTouching 3 = .ok (.aload_n 0, 1) := by decide +kernel
theorem dX11_isSomeTouching_4 : decode cX11_isSomeTouching 4 = .ok (.getfield 56, 3) := by decide +kernel
theorem dX11_isSomeTouching_7 : decode cX11_isSomeTouching 7 = .ok (.invokevirtual 155, 3) := by decide +kernel
theorem dX11_isSomeTouching_10 : decode cX11_isSomeTouching 10 = .ok (.if_icmp .ge 88, 3) := by decide +kernel
theorem dX11_isSomeTouching_13 : decode cX11_isSomeTouching 13 = .ok (.iconst 0, 1) := by decide +kernel
theorem dX11_isSomeTouching_14 : decode cX11_isSomeTouching 14 = .ok (.istore 4, 2) := by decide +kernel
theorem dX11_isSomeTouching_16 : decode cX11_isSomeTouching 16 = .ok (.iload 4, 2) := by decide +kernel
theorem dX11_isSomeTouching_18 : decode cX11_isSomeTouching 18 = .ok (.iload_n 3, 1) := by decide +kernel
theorem dX11_isSomeTouching_19 : decode cX11_isSomeTouching 19 = .ok (.if_icmp .ge 73, 3) := by decide +kernel
theorem dX11_isSomeTouching_22 : decode cX11_isSomeTouching 22 = .ok (.lload_n 1, 1) := by decide +kernel
theorem dX11_isSomeTouching_23 : decode cX11_isSomeTouching 23 = .ok (.iload_n 3, 1) := by decide +kernel
theorem dX11_isSomeTouching_24 : decode cX11_isSomeTouching 24 = .ok (.lshr, 1) := by decide +kernel
theorem dX11_isSomeTouching_25 : decode cX11_isSomeTouching 25 = .ok (.lload_n 1, 1) := by decide +kernel
theorem dX11_isSomeTouching_26 : decode cX11_isSomeTouching 26 = .ok (.iload 4, 2) := by decide +kernel
theorem dX11_isSomeTouching_28 : decode cX11_isSomeTouching 28 = .ok (.lshr, 1) := by decide +kernel
theorem dX11_isSomeTouching_29 : decode cX11_isSomeTouching 29 = .ok (.land, 1) := by decide +kernel
theorem dX11_isSomeTouching_30 : decode cX11_isSomeTouching 30 = .ok (.lconst 1, 1) := by decide +kernel
theorem dX11_isSomeTouching_31 : decode cX11_isSomeTouching 31 = .ok (.land, 1) := by decide +kernel
theorem dX11_isSomeTouching_32 : decode cX11_isSomeTouching 32 = .ok (.lconst 1, 1) := by decide +kernel
theorem dX11_isSomeTouching_33 : decode cX11_isSomeTouching 33 = .ok (.lcmp, 1) := by decide +kernel
theorem dX11_isSomeTouching_34 : decode cX11_isSomeTouching 34 = .ok (.ifCond .ne 7, 3) := by decide +kernel
theorem dX11_isSomeTouching_37 : decode cX11_isSomeTouching 37 = .ok (.iconst 1, 1) := by decide +kernel
theorem dX11_isSomeTouching_38 : decode cX11_isSomeTouching 38 = .ok (.goto 4, 3) := by decide +kernel
theorem dX11_isSomeTouching_41 : decode cX11_isSomeTouching 41 = .ok (.iconst 0, 1) := by decide +kernel
theorem dX11_isSomeTouching_42 : decode cX11_isSomeTouching 42 = .ok (.istore 5, 2) := by decide +kernel
theorem dX11_isSomeTouching_44 : decode cX11_isSomeTouching 44 = .ok (.iload 5, 2) := by decide +kernel
theorem dX11_isSomeTouching_46 : decode cX11_isSomeTouching 46 = .ok (.ifCond .eq 40, 3) := by decide +kernel
theorem dX11_isSomeTouching_49 : decode cX11_isSomeTouching 49 = .ok (.aload_n 0, 1) := by decide +kernel
theorem dX11_isSomeTouching_50 : decode cX11_isSomeTouching 50 = .ok (.getfield 56, 3) := by decide +kernel
theorem dX11_isSomeTouching_53 : decode cX11_isSomeTouching 53 = .ok (.iload_n 3, 1) := by decide +kernel
theorem dX11_isSomeTouching_54 : decode cX11_isSomeTouching 54 = .ok (.invokevirtual 223, 3) := by decide +kernel
theorem dX11_isSomeTouching_57 : decode cX11_isSomeTouching 57 = .ok (.checkcast 363, 3) := by decide +kernel
theorem dX11_isSomeTouching_60 : decode cX11_isSomeTouching 60 = .ok (.getfield 547, 3) := by decide +kernel
theorem dX11_isSomeTouching_63 : decode cX11_isSomeTouching 63 = .ok (.aload_n 0, 1) := by decide +kernel
theorem dX11_isSomeTouching_64 : decode cX11_isSomeTouching 64 = .ok (.getfield 56, 3) := by decide +kernel
theorem dX11_isSomeTouching_67 : decode cX11_isSomeTouching 67 = .ok (.iload 4, 2) := by decide +kernel
theorem dX11_isSomeTouching_69 : decode cX11_isSomeTouching 69 = .ok (.invokevirtual 223, 3) := by decide +kernel
theorem dX11_isSomeTouching_72 : decode cX11_isSomeTouching 72 = .ok (.checkcast 363, 3) := by decide +kernel
theorem dX11_isSomeTouching_75 : decode cX11_isSomeTouching 75 = .ok (.getfield 547, 3) := by decide +kernel
theorem dX11_isSomeTouching_78 : decode cX11_isSomeTouching 78 = .ok (.invokevirtual 548, 3) := by decide +kernel
theorem dX11_isSomeTouching_81 : decode cX11_isSomeTouching 81 = .ok (.ifCond .eq 5, 3) := by decide +kernel
theorem dX11_isSomeTouching_84 : decode cX11_isSomeTouching 84 = .ok (.iconst 1, 1) := by decide +kernel
theorem dX11_isSomeTouching_85 : decode cX11_isSomeTouching 85 = .ok (.ireturn, 1) := by decide +kernel
theorem dX11_isSomeTouching_86 : decode cX11_isSomeTouching 86 = .ok (.iinc 4 1, 3) := by decide +kernel
theorem dX11_isSomeTouching_89 : decode cX11_isSomeTouching 89 = .ok (.goto (-73), 3) := by decide +kernel
theorem dX11_isSomeTouching_92 : decode cX11_isSomeTouching 92 = .ok (.iinc 3 1, 3) := by decide +kernel
theorem dX11_isSomeTouching_95 : decode cX11_isSomeTouching 95 = .ok (.goto (-93), 3) := by decide +kernel
theorem dX11_isSomeTouching_98 : decode cX11_isSomeTouching 98 = .ok (.iconst 0, 1) := by decide +kernel
theorem dX11_isSomeTouching_99 : decode cX11_isSomeTouching 99 = .ok (.ireturn, 1) := by decide +kernel
theorem dX11_makeFixedFile_0 : decode cX11_makeFixedFile 0 = .ok (.aload_n 0, 1) := by decide +kernel
theorem dX11_makeFixedFile_1 : decode cX11_makeFixedFile 1 = .ok (.getfield 10, 3) := by decide +kernel
theorem dX11_makeFixedFile_4 : decode cX11_makeFixedFile 4 = .ok (.iload_n 1, 1) := by decide +kernel
theorem dX11_makeFixedFile_5 : decode cX11_makeFixedFile 5 = .ok (.iload_n 2, 1) := by decide +kernel
theorem dX11_makeFixedFile_6 : decode cX11_makeFixedFile 6 = .ok (.invokevirtual 105, 3) := by decide +kernel
theorem dX11_makeFixedFile_9 : decode cX11_makeFixedFile 9 = .ok (.istore 5, 2) := by decide +kernel
theorem dX11_makeFixedFile_11 : decode cX11_makeFixedFile 11 = .ok (.iconst 0, 1) := by decide +kernel
theorem dX11_makeFixedFile_12 : decode cX11_makeFixedFile 12 = .ok (.istore 6, 2) := by decide +kernel
theorem dX11_makeFixedFile_14 : decode cX11_makeFixedFile 14 = .ok (.aload_n 0, 1) := by decide +kernel
theorem dX11_makeFixedFile_15 : decode cX11_makeFixedFile 15 = .ok (.getfield 10, 3) := by decide +kernel
theorem dX11_makeFixedFile_18 : decode cX11_makeFixedFile 18 = .ok (.iload_n 2, 1) := by decide +kernel
theorem dX11_makeFixedFile_19 : decode cX11_makeFixedFile 19 = .ok (.invokevirtual 552, 3) := by decide +kernel
theorem dX11_makeFixedFile_22 : decode cX11_makeFixedFile 22 = .ok (.iconst 0, 1) := by decide +kernel
theorem dX11_makeFixedFile_23 : decode cX11_makeFixedFile 23 = .ok (.istore 7, 2) := by decide +kernel
theorem dX11_makeFixedFile_25 : decode cX11_makeFixedFile 25 = .ok (.iload 7, 2) := by decide +kernel
theorem dX11_makeFixedFile_27 : decode cX11_makeFixedFile 27 = .ok (.iload 5, 2) := by decide +kernel
theorem dX11_makeFixedFile_29 : decode cX11_makeFixedFile 29 = .ok (.if_icmp .gt 117, 3) := by decide +kernel
theorem dX11_makeFixedFile_32 : decode cX11_makeFixedFile 32 = .ok (.aload_n 0, 1) := by decide +kernel
theorem dX11_makeFixedFile_33 : decode cX11_makeFixedFile 33 = .ok (.iload_n 2, 1) := by decide +kernel
theorem dX11_makeFixedFile_34 : decode cX11_makeFixedFile 34 = .ok (.iload 7, 2) := by decide +kernel
theorem dX11_makeFixedFile_36 : decode cX11_makeFixedFile 36 = .ok (.lload_n 3, 1) := by decide +kernel
theorem dX11_makeFixedFile_37 : decode cX11_makeFixedFile 37 = .ok (.invokevirtual 555, 3) := by decide +kernel
theorem dX11_makeFixedFile_40 : decode cX11_makeFixedFile 40 = .ok (.istore 8, 2) := by decide +kernel
theorem dX11_makeFixedFile_42 : decode cX11_makeFixedFile 42 = .ok (.iload 8, 2) := by decide +kernel
theorem dX11_makeFixedFile_44 : decode cX11_makeFixedFile 44 = .ok (.iconst (-1), 1) := by decide +kernel
theorem dX11_makeFixedFile_45 : decode cX11_makeFixedFile 45 = .ok (.if_icmp .eq 57, 3) := by decide +kernel
theorem dX11_makeFixedFile_48 : decode cX11_makeFixedFile 48 = .ok (.aload_n 0, 1) := by decide +kernel
theorem dX11_makeFixedFile_49 : decode cX11_makeFixedFile 49 = .ok (.getfield 56, 3) := by decide +kernel
theorem dX11_makeFixedFile_52 : decode cX11_makeFixedFile 52 = .ok (.iload 8, 2) := by decide +kernel
theorem dX11_makeFixedFile_54 : decode cX11_makeFixedFile 54 = .ok (.invokevirtual 223, 3) := by decide +kernel
theorem dX11_makeFixedFile_57 : decode cX11_makeFixedFile 57 = .ok (.checkcast 363, 3) := by decide +kernel
theorem dX11_makeFixedFile_60 : decode cX11_makeFixedFile 60 = .ok (.astore 9, 2) := by decide +kernel
theorem dX11_makeFixedFile_62 : decode cX11_makeFixedFile 62 = .ok (.iload 7, 2) := by decide +kernel
theorem dX11_makeFixedFile_64 : decode cX11_makeFixedFile 64 = .ok (.aload 9, 2) := by decide +kernel
theorem dX11_makeFixedFile_66 : decode cX11_makeFixedFile 66 = .ok (.getfield 547, 3) := by decide +kernel
theorem dX11_makeFixedFile_69 : decode cX11_makeFixedFile 69 = .ok (.getfield 339, 3) := by decide +kernel
theorem dX11_makeFixedFile_72 : decode cX11_makeFixedFile 72 = .ok (.iadd, 1) := by decide +kernel
theorem dX11_makeFixedFile_73 : decode cX11_makeFixedFile 73 = .ok (.istore 6, 2) := by decide +kernel
theorem dX11_makeFixedFile_75 : decode cX11_makeFixedFile 75 = .ok (.aload 9, 2) := by decide +kernel
theorem dX11_makeFixedFile_77 : decode cX11_makeFixedFile 77 = .ok (.getfield 559, 3) := by decide +kernel
theorem dX11_makeFixedFile_80 : decode cX11_makeFixedFile 80 = .ok (.iconst (-1), 1) := by decide +kernel
theorem dX11_makeFixedFile_81 : decode cX11_makeFixedFile 81 = .ok (.if_icmp .eq 21, 3) := by decide +kernel
theorem dX11_makeFixedFile_84 : decode cX11_makeFixedFile 84 = .ok (.aload_n 0, 1) := by decide +kernel
theorem dX11_makeFixedFile_85 : decode cX11_makeFixedFile 85 = .ok (.getfield 10, 3) := by decide +kernel
theorem dX11_makeFixedFile_88 : decode cX11_makeFixedFile 88 = .ok (.iload_n 2, 1) := by decide +kernel
theorem dX11_makeFixedFile_89 : decode cX11_makeFixedFile 89 = .ok (.aload 9, 2) := by decide +kernel
theorem dX11_makeFixedFile_91 : decode cX11_makeFixedFile 91 = .ok (.getfield 559, 3) := by decide +kernel
theorem dX11_makeFixedFile_94 : decode cX11_makeFixedFile 94 = .ok (.invokevirtual 562, 3) := by decide +kernel
theorem dX11_makeFixedFile_97 : decode cX11_makeFixedFile 97 = .ok (.ifCond .ne 5, 3) := by decide +kernel
theorem dX11_makeFixedFile_100 : decode cX11_makeFixedFile 100 = .ok (.iconst 0, 1) := by decide +kernel
theorem dX11_makeFixedFile_101 : decode cX11_makeFixedFile 101 = .ok (.ireturn, 1) := by decide +kernel
theorem dX11_makeFixedFile_102 : decode cX11_makeFixedFile 102 = .ok (.iload 7, 2) := by decide +kernel
theorem dX11_makeFixedFile_104 : decode cX11_makeFixedFile 104 = .ok (.iload 5, 2) := by decide +kernel
theorem dX11_makeFixedFile_106 : decode cX11_makeFixedFile 106 = .ok (.if_icmp .ge 34, 3) := by decide +kernel
theorem dX11_makeFixedFile_109 : decode cX11_makeFixedFile 109 = .ok (.iload 7, 2) := by decide +kernel
theorem dX11_makeFixedFile_111 : decode cX11_makeFixedFile 111 = .ok (.iload 6, 2) := by decide +kernel
theorem dX11_makeFixedFile_113 : decode cX11_makeFixedFile 113 = .ok (.if_icmp .lt 27, 3) := by decide +kernel
theorem dX11_makeFixedFile_116 : decode cX11_makeFixedFile 116 = .ok (.aload_n 0, 1) := by decide +kernel
theorem dX11_makeFixedFile_117 : decode cX11_makeFixedFile 117 = .ok (.getfield 10, 3) := by decide +kernel
theorem dX11_makeFixedFile_120 : decode cX11_makeFixedFile 120 = .ok (.iload_n 2, 1) := by decide +kernel
theorem dX11_makeFixedFile_121 : decode cX11_makeFixedFile 121 = .ok (.aload_n 0, 1) := by decide +kernel
theorem dX11_makeFixedFile_122 : decode cX11_makeFixedFile 122 = .ok (.getfield 10, 3) := by decide +kernel
theorem dX11_makeFixedFile_125 : decode cX11_makeFixedFile 125 = .ok (.iload_n 1, 1) := by decide +kernel
theorem dX11_makeFixedFile_126 : decode cX11_makeFixedFile 126 = .ok (.iload_n 2, 1) := by decide +kernel
theorem dX11_makeFixedFile_127 : decode cX11_makeFixedFile 127 = .ok (.iload 7, 2) := by decide +kernel
theorem dX11_makeFixedFile_129 : decode cX11_makeFixedFile 129 = .ok (.invokevirtual 130, 3) := by decide +kernel
theorem dX11_makeFixedFile_132 : decode cX11_makeFixedFile 132 = .ok (.invokevirtual 562, 3) := by decide +kernel
theorem dX11_makeFixedFile_135 : decode cX11_makeFixedFile 135 = .ok (.ifCond .ne 5, 3) := by decide +kernel
theorem dX11_makeFixedFile_138 : decode cX11_makeFixedFile 138 = .ok (.iconst 0, 1) := by decide +kernel
theorem dX11_makeFixedFile_139 : decode cX11_makeFixedFile 139 = .ok (.ireturn, 1) := by decide +kernel
theorem dX11_makeFixedFile_140 : decode cX11_makeFixedFile 140 = .ok (.iinc 7 1, 3) := by decide +kernel
theorem dX11_makeFixedFile_143 : decode cX11_makeFixedFile 143 = .ok (.goto (-118), 3) := by decide +kernel
theorem dX11_makeFixedFile_146 : decode cX11_makeFixedFile 146 = .ok (.iconst 1, 1) := by decide +kernel
theorem dX11_makeFixedFile_147 : decode cX11_makeFixedFile 147 = .ok (.ireturn, 1) := by decide +kernel
theorem dX11_fixAt_0 : decode cX11_fixAt 0 = .ok (.iconst 0, 1) := by decide +kernel
theorem dX11_fixAt_1 : decode cX11_fixAt 1 = .ok (.istore 5, 2) := by decide +kernel
theorem dX11_fixAt_3 : decode cX11_fixAt 3 = .ok (.iload 5, 2) := by decide +kernel
theorem dX11_fixAt_5 : decode cX11_fixAt 5 = .ok (.aload_n 0, 1) := by decide +kernel
theorem dX11_fixAt_6 : decode cX11_fixAt 6 = .ok (.getfield 56, 3) := by decide +kernel
theorem dX11_fixAt_9 : decode cX11_fixAt 9 = .ok (.invokevirtual 155, 3) := by decide +kernel
theorem dX11_fixAt_12 : decode cX11_fixAt 12 = .ok (.if_icmp .ge 58, 3) := by decide +kernel
theorem dX11_fixAt_15 : decode cX11_fixAt 15 = .ok (.aload_n 0, 1) := by decide +kernel
theorem dX11_fixAt_16 : decode cX11_fixAt 16 = .ok (.getfield 56, 3) := by decide +kernel
theorem dX11_fixAt_19 : decode cX11_fixAt 19 = .ok (.iload 5, 2) := by decide +kernel
theorem dX11_fixAt_21 : decode cX11_fixAt 21 = .ok (.invokevirtual 223, 3) := by decide +kernel
theorem dX11_fixAt_24 : decode cX11_fixAt 24 = .ok (.checkcast 363, 3) := by decide +kernel
theorem dX11_fixAt_27 : decode cX11_fixAt 27 = .ok (.getfield 547, 3) := by decide +kernel
theorem dX11_fixAt_30 : decode cX11_fixAt 30 = .ok (.astore 6, 2) := by decide +kernel
theorem dX11_fixAt_32 : decode cX11_fixAt 32 = .ok (.lload_n 3, 1) := by decide +kernel
theorem dX11_fixAt_33 : decode cX11_fixAt 33 = .ok (.iload 5, 2) := by decide +kernel
theorem dX11_fixAt_35 : decode cX11_fixAt 35 = .ok (.lshr, 1) := by decide +kernel
theorem dX11_fixAt_36 : decode cX11_fixAt 36 = .ok (.lconst 1, 1) := by decide +kernel
theorem dX11_fixAt_37 : decode cX11_fixAt 37 = .ok (.land, 1) := by decide +kernel
theorem dX11_fixAt_38 : decode cX11_fixAt 38 = .ok (.lconst 1, 1) := by decide +kernel
theorem dX11_fixAt_39 : decode cX11_fixAt 39 = .ok (.lcmp, 1) := by decide +kernel
theorem dX11_fixAt_40 : decode cX11_fixAt 40 = .ok (.ifCond .ne 24, 3) := by decide +kernel
theorem dX11_fixAt_43 : decode cX11_fixAt 43 = .ok (.aload 6, 2) := by decide +kernel
theorem dX11_fixAt_45 : decode cX11_fixAt 45 = .ok (.getfield 345, 3) := by decide +kernel
theorem dX11_fixAt_48 : decode cX11_fixAt 48 = .ok (.iload_n 1, 1) := by decide +kernel
theorem dX11_fixAt_49 : decode cX11_fixAt 49 = .ok (.if_icmp .ne 15, 3) := by decide +kernel
theorem dX11_fixAt_52 : decode cX11_fixAt 52 = .ok (.aload 6, 2) := by decide +kernel
theorem dX11_fixAt_54 : decode cX11_fixAt 54 = .ok (.getfield 342, 3) := by decide +kernel
theorem dX11_fixAt_57 : decode cX11_fixAt 57 = .ok (.iload_n 2, 1) := by decide +kernel
theorem dX11_fixAt_58 : decode cX11_fixAt 58 = .ok (.if_icmp .ne 6, 3) := by decide +kernel
theorem dX11_fixAt_61 : decode cX11_fixAt 61 = .ok (.iload 5, 2) := by decide +kernel
theorem dX11_fixAt_63 : decode cX11_fixAt 63 = .ok (.ireturn, 1) := by decide +kernel
theorem dX11_fixAt_64 : decode cX11_fixAt 64 = .ok (.iinc 5 1, 3) := by decide +kernel
theorem dX11_fixAt_67 : decode cX11_fixAt 67 = .ok (.goto (-64), 3) := by decide +kernel
theorem dX11_fixAt_70 : decode cX11_fixAt 70 = .ok (.iconst (-1), 1) := by decide +kernel
theorem dX11_fixAt_71 : decode cX11_fixAt 71 = .ok (.ireturn, 1) := by decide +kernel
theorem dX11_isChanged_0 : decode cX11_isChanged 0 = .ok (.aload_n 0, 1) := by decide +kernel
theorem dX11_isChanged_1 : decode cX11_isChanged 1 = .ok (.getfield 10, 3) := by decide +kernel
theorem dX11_isChanged_4 : decode cX11_isChanged 4 = .ok (.aload_n 1, 1) := by decide +kernel
theorem dX11_isChanged_5 : decode cX11_isChanged 5 = .ok (.getfield 180, 3) := by decide +kernel
theorem dX11_isChanged_8 : decode cX11_isChanged 8 = .ok (.invokevirtual 204, 3) := by decide +kernel
theorem dX11_isChanged_11 : decode cX11_isChanged 11 = .ok (.istore_n 3, 1) := by decide +kernel
theorem dX11_isChanged_12 : decode cX11_isChanged 12 = .ok (.aload_n 0, 1) := by decide +kernel
theorem dX11_isChanged_13 : decode cX11_isChanged 13 = .ok (.getfield 10, 3) := by decide +kernel
theorem dX11_isChanged_16 : decode cX11_isChanged 16 = .ok (.iload_n 3, 1) := by decide +kernel
theorem dX11_isChanged_17 : decode cX11_isChanged 17 = .ok (.aload_n 0, 1) := by decide +kernel
theorem dX11_isChanged_18 : decode cX11_isChanged 18 = .ok (.getfield 10, 3) := by decide +kernel
theorem dX11_isChanged_21 : decode cX11_isChanged 21 = .ok (.iload_n 3, 1) := by decide +kernel
theorem dX11_isChanged_22 : decode cX11_isChanged 22 = .ok (.invokevirtual 99, 3) := by decide +kernel
theorem dX11_isChanged_25 : decode cX11_isChanged 25 = .ok (.iload_n 2, 1) := by decide +kernel
theorem dX11_isChanged_26 : decode cX11_isChanged 26 = .ok (.invokevirtual 565, 3) := by decide +kernel
theorem dX11_isChanged_29 : decode cX11_isChanged 29 = .ok (.ifCond .ne 7, 3) := by decide +kernel
theorem dX11_isChanged_32 : decode cX11_isChanged 32 = .ok (.iconst 1, 1) := by decide +kernel
theorem dX11_isChanged_33 : decode cX11_isChanged 33 = .ok (.goto 4, 3) := by decide +kernel
theorem dX11_isChanged_36 : decode cX11_isChanged 36 = .ok (.iconst 0, 1) := by decide +kernel
theorem dX11_isChanged_37 : decode cX11_isChanged 37 = .ok (.ireturn, 1) := by decide +kernel
theorem dX11_isOwnedBy_0 : decode cX11_isOwnedBy 0 = .ok (.iconst 0, 1) := by decide +kernel
theorem dX11_isOwnedBy_1 : decode cX11_isOwnedBy 1 = .ok (.istore_n 3, 1) := by decide +kernel
theorem dX11_isOwnedBy_2 : decode cX11_isOwnedBy 2 = .ok (.iload_n 3, 1) := by decide +kernel
theorem dX11_isOwnedBy_3 : decode cX11_isOwnedBy 3 = .ok (.iconst 4, 1) := by decide +kernel
theorem dX11_isOwnedBy_4 : decode cX11_isOwnedBy 4 = .ok (.if_icmp .ge 37, 3) := by decide +kernel
theorem dX11_isOwnedBy_7 : decode cX11_isOwnedBy 7 = .ok (.aload_n 0, 1) := by decide +kernel
theorem dX11_isOwnedBy_8 : decode cX11_isOwnedBy 8 = .ok (.getfield 42, 3) := by decide +kernel
theorem dX11_isOwnedBy_11 : decode cX11_isOwnedBy 11 = .ok (.aload_n 1, 1) := by decide +kernel
theorem dX11_isOwnedBy_12 : decode cX11_isOwnedBy 12 = .ok (.getfield 187, 3) := by decide +kernel
theorem dX11_isOwnedBy_15 : decode cX11_isOwnedBy 15 = .ok (.iload_n 3, 1) := by decide +kernel
theorem dX11_isOwnedBy_16 : decode cX11_isOwnedBy 16 = .ok (.invokevirtual 406, 3) := by decide +kernel
theorem dX11_isOwnedBy_19 : decode cX11_isOwnedBy 19 = .ok (.iload_n 2, 1) := by decide +kernel
theorem dX11_isOwnedBy_20 : decode cX11_isOwnedBy 20 = .ok (.iand, 1) := by decide +kernel
theorem dX11_isOwnedBy_21 : decode cX11_isOwnedBy 21 = .ok (.ifCond .ne 14, 3) := by decide +kernel
theorem dX11_isOwnedBy_24 : decode cX11_isOwnedBy 24 = .ok (.aload_n 0, 1) := by decide +kernel
theorem dX11_isOwnedBy_25 : decode cX11_isOwnedBy 25 = .ok (.aload_n 1, 1) := by decide +kernel
theorem dX11_isOwnedBy_26 : decode cX11_isOwnedBy 26 = .ok (.iload_n 3, 1) := by decide +kernel
theorem dX11_isOwnedBy_27 : decode cX11_isOwnedBy 27 = .ok (.invokevirtual 568, 3) := by decide +kernel
theorem dX11_isOwnedBy_30 : decode cX11_isOwnedBy 30 = .ok (.ifCond .eq 5, 3) := by decide +kernel
theorem dX11_isOwnedBy_33 : decode cX11_isOwnedBy 33 = .ok (.iconst 0, 1) := by decide +kernel
theorem dX11_isOwnedBy_34 : decode cX11_isOwnedBy 34 = .ok (.ireturn, 1) := by decide +kernel
theorem dX11_isOwnedBy_35 : decode cX11_isOwnedBy 35 = .ok (.iinc 3 1, 3) := by decide +kernel
theorem dX11_isOwnedBy_38 : decode cX11_isOwnedBy 38 = .ok (.goto (-36), 3) := by decide +kernel
theorem dX11_isOwnedBy_41 : decode cX11_isOwnedBy 41 = .ok (.iconst 1, 1) := by decide +kernel
theorem dX11_isOwnedBy_42 : decode cX11_isOwnedBy 42 = .ok (.ireturn, 1) := by decide +kernel
theorem dX11_factsOf_0 : decode cX11_factsOf 0 = .ok (.aload_n 0, 1) := by decide +kernel
theorem dX11_factsOf_1 : decode cX11_factsOf 1 = .ok (.getfield 28, 3) := by decide +kernel
theorem dX11_factsOf_4 : decode cX11_factsOf 4 = .ok (.aload_n 1, 1) := by decide +kernel
theorem dX11_factsOf_5 : decode cX11_factsOf 5 = .ok (.iconst 0, 1) := by decide +kernel
theorem dX11_factsOf_6 : decode cX11_factsOf 6 = .ok (.iconst 2, 1) := by decide +kernel
theorem dX11_factsOf_7 : decode cX11_factsOf 7 = .ok (.invokevirtual 528, 3) := by decide +kernel
theorem dX11_factsOf_10 : decode cX11_factsOf 10 = .ok (.istore_n 3, 1) := by decide +kernel
theorem dX11_factsOf_11 : decode cX11_factsOf 11 = .ok (.aload_n 0, 1) := by decide +kernel
theorem dX11_factsOf_12 : decode cX11_factsOf 12 = .ok (.getfield 10, 3) := by decide +kernel
theorem dX11_factsOf_15 : decode cX11_factsOf 15 = .ok (.aload_n 0, 1) := by decide +kernel
theorem dX11_factsOf_16 : decode cX11_factsOf 16 = .ok (.getfield 10, 3) := by decide +kernel
theorem dX11_factsOf_19 : decode cX11_factsOf 19 = .ok (.aload_n 1, 1) := by decide +kernel
theorem dX11_factsOf_20 : decode cX11_factsOf 20 = .ok (.getfield 180, 3) := by decide +kernel
theorem dX11_factsOf_23 : decode cX11_factsOf 23 = .ok (.invokevirtual 204, 3) := by decide +kernel
theorem dX11_factsOf_26 : decode cX11_factsOf 26 = .ok (.invokevirtual 571, 3) := by decide +kernel
theorem dX11_factsOf_29 : decode cX11_factsOf 29 = .ok (.istore 4, 2) := by decide +kernel
theorem dX11_factsOf_31 : decode cX11_factsOf 31 = .ok (.iconst 0, 1) := by decide +kernel
theorem dX11_factsOf_32 : decode cX11_factsOf 32 = .ok (.istore 5, 2) := by decide +kernel
theorem dX11_factsOf_34 : decode cX11_factsOf 34 = .ok (.iload 5, 2) := by decide +kernel
theorem dX11_factsOf_36 : decode cX11_factsOf 36 = .ok (.aload_n 0, 1) := by decide +kernel
theorem dX11_factsOf_37 : decode cX11_factsOf 37 = .ok (.aload_n 1, 1) := by decide +kernel
theorem dX11_factsOf_38 : decode cX11_factsOf 38 = .ok (.iload_n 3, 1) := by decide +kernel
theorem dX11_factsOf_39 : decode cX11_factsOf 39 = .ok (.iconst 1, 1) := by decide +kernel
theorem dX11_factsOf_40 : decode cX11_factsOf 40 = .ok (.aload_n 1, 1) := by decide +kernel
theorem dX11_factsOf_41 : decode cX11_factsOf 41 = .ok (.getfield 473, 3) := by decide +kernel
theorem dX11_factsOf_44 : decode cX11_factsOf 44 = .ok (.ishl, 1) := by decide +kernel
theorem dX11_factsOf_45 : decode cX11_factsOf 45 = .ok (.iconst (-1), 1) := by decide +kernel
theorem dX11_factsOf_46 : decode cX11_factsOf 46 = .ok (.ixor, 1) := by decide +kernel
theorem dX11_factsOf_47 : decode cX11_factsOf 47 = .ok (.iand, 1) := by decide +kernel
theorem dX11_factsOf_48 : decode cX11_factsOf 48 = .ok (.invokevirtual 409, 3) := by decide +kernel
theorem dX11_factsOf_51 : decode cX11_factsOf 51 = .ok (.ifCond .eq 7, 3) := by decide +kernel
theorem dX11_factsOf_54 : decode cX11_factsOf 54 = .ok (.iconst 1, 1) := by decide +kernel
theorem dX11_factsOf_55 : decode cX11_factsOf 55 = .ok (.goto 4, 3) := by decide +kernel
theorem dX11_factsOf_58 : decode cX11_factsOf 58 = .ok (.iconst 0, 1) := by decide +kernel
theorem dX11_factsOf_59 : decode cX11_factsOf 59 = .ok (.ior, 1) := by decide +kernel
theorem dX11_factsOf_60 : decode cX11_factsOf 60 = .ok (.istore 5, 2) := by decide +kernel
theorem dX11_factsOf_62 : decode cX11_factsOf 62 = .ok (.iload 5, 2) := by decide +kernel
theorem dX11_factsOf_64 : decode cX11_factsOf 64 = .ok (.aload_n 0, 1) := by decide +kernel
theorem dX11_factsOf_65 : decode cX11_factsOf 65 = .ok (.getfield 28, 3) := by decide +kernel
theorem dX11_factsOf_68 : decode cX11_factsOf 68 = .ok (.aload_n 1, 1) := by decide +kernel
theorem dX11_factsOf_69 : decode cX11_factsOf 69 = .ok (.iconst 0, 1) := by decide +kernel
theorem dX11_factsOf_70 : decode cX11_factsOf 70 = .ok (.bipush (-2), 2) := by decide +kernel
theorem dX11_factsOf_72 : decode cX11_factsOf 72 = .ok (.invokevirtual 528, 3) := by decide +kernel
theorem dX11_factsOf_75 : decode cX11_factsOf 75 = .ok (.ifCond .ne 7, 3) := by decide +kernel
theorem dX11_factsOf_78 : decode cX11_factsOf 78 = .ok (.iconst 2, 1) := by decide +kernel
theorem dX11_factsOf_79 : decode cX11_factsOf 79 = .ok (.goto 4, 3) := by decide +kernel
theorem dX11_factsOf_82 : decode cX11_factsOf 82 = .ok (.iconst 0, 1) := by decide +kernel
theorem dX11_factsOf_83 : decode cX11_factsOf 83 = .ok (.ior, 1) := by decide +kernel
theorem dX11_factsOf_84 : decode cX11_factsOf 84 = .ok (.istore 5, 2) := by decide +kernel
theorem dX11_factsOf_86 : decode cX11_factsOf 86 = .ok (.iload 5, 2) := by decide +kernel
theorem dX11_factsOf_88 : decode cX11_factsOf 88 = .ok (.aload_n 0, 1) := by decide +kernel
theorem dX11_factsOf_89 : decode cX11_factsOf 89 = .ok (.getfield 28, 3) := by decide +kernel
theorem dX11_factsOf_92 : decode cX11_factsOf 92 = .ok (.aload_n 1, 1) := by decide +kernel
theorem dX11_factsOf_93 : decode cX11_factsOf 93 = .ok (.iconst 1, 1) := by decide +kernel
theorem dX11_factsOf_94 : decode cX11_factsOf 94 = .ok (.iconst 1, 1) := by decide +kernel
theorem dX11_factsOf_95 : decode cX11_factsOf 95 = .ok (.invokevirtual 528, 3) := by decide +kernel
theorem dX11_factsOf_98 : decode cX11_factsOf 98 = .ok (.ifCond .eq 20, 3) := by decide +kernel
theorem dX11_factsOf_101 : decode cX11_factsOf 101 = .ok (.aload_n 0, 1) := by decide +kernel
theorem dX11_factsOf_102 : decode cX11_factsOf 102 = .ok (.getfield 28, 3) := by decide +kernel
theorem dX11_factsOf_105 : decode cX11_factsOf 105 = .ok (.aload_n 1, 1) := by decide +kernel
theorem dX11_factsOf_106 : decode cX11_factsOf 106 = .ok (.iconst 1, 1) := by decide +kernel
theorem dX11_factsOf_107 : decode cX11_factsOf 107 = .ok (.iconst (-1), 1) := by decide +kernel
theorem dX11_factsOf_108 : decode cX11_factsOf 108 = .ok (.invokevirtual 528, 3) := by decide +kernel
theorem dX11_factsOf_111 : decode cX11_factsOf 111 = .ok (.ifCond .ne 7, 3) := by decide +kernel
theorem dX11_factsOf_114 : decode cX11_factsOf 114 = .ok (.iconst 4, 1) := by decide +kernel
theorem dX11_factsOf_115 : decode cX11_factsOf 115 = .ok (.goto 4, 3) := by decide +kernel
theorem dX11_factsOf_118 : decode cX11_factsOf 118 = .ok (.iconst 0, 1) := by decide +kernel
theorem dX11_factsOf_119 : decode cX11_factsOf 119 = .ok (.ior, 1) := by decide +kernel
theorem dX11_factsOf_120 : decode cX11_factsOf 120 = .ok (.istore 5, 2) := by decide +kernel
theorem dX11_factsOf_122 : decode cX11_factsOf 122 = .ok (.iload 5, 2) := by decide +kernel
theorem dX11_factsOf_124 : decode cX11_factsOf 124 = .ok (.aload_n 0, 1) := by decide +kernel
theorem dX11_factsOf_125 : decode cX11_factsOf 125 = .ok (.aload_n 1, 1) := by decide +kernel
theorem dX11_factsOf_126 : decode cX11_factsOf 126 = .ok (.getfield 180, 3) := by decide +kernel
theorem dX11_factsOf_129 : decode cX11_factsOf 129 = .ok (.invokevirtual 356, 3) := by decide +kernel
theorem dX11_factsOf_132 : decode cX11_factsOf 132 = .ok (.ifCond .ne 8, 3) := by decide +kernel
theorem dX11_factsOf_135 : decode cX11_factsOf 135 = .ok (.bipush 8, 2) := by decide +kernel
theorem dX11_factsOf_137 : decode cX11_factsOf 137 = .ok (.goto 4, 3) := by decide +kernel
theorem dX11_factsOf_140 : decode cX11_factsOf 140 = .ok (.iconst 0, 1) := by decide +kernel
theorem dX11_factsOf_141 : decode cX11_factsOf 141 = .ok (.ior, 1) := by decide +kernel
theorem dX11_factsOf_142 : decode cX11_factsOf 142 = .ok (.istore 5, 2) := by decide +kernel
theorem dX11_factsOf_144 : decode cX11_factsOf 144 = .ok (.iload 5, 2) := by decide +kernel
theorem dX11_factsOf_146 : decode cX11_factsOf 146 = .ok (.aload_n 1, 1) := by decide +kernel
theorem dX11_factsOf_147 : decode cX11_factsOf 147 = .ok (.getfield 243, 3) := by decide +kernel
theorem dX11_factsOf_150 : decode cX11_factsOf 150 = .ok (.ifCond .eq 8, 3) := by decide +kernel
theorem dX11_factsOf_153 : decode cX11_factsOf 153 = .ok (.bipush 16, 2) := by decide +kernel
theorem dX11_factsOf_155 : decode cX11_factsOf 155 = .ok (.goto 4, 3) := by decide +kernel
theorem dX11_factsOf_158 : decode cX11_factsOf 158 = .ok (.iconst 0, 1) := by decide +kernel
theorem dX11_factsOf_159 : decode cX11_factsOf 159 = .ok (.ior, 1) := by decide +kernel
theorem dX11_factsOf_160 : decode cX11_factsOf 160 = .ok (.istore 5, 2) := by decide +kernel
theorem dX11_factsOf_162 : decode cX11_factsOf 162 = .ok (.iload 5, 2) := by decide +kernel
theorem dX11_factsOf_164 : decode cX11_factsOf 164 = .ok (.aload_n 1, 1) := by decide +kernel
theorem dX11_factsOf_165 : decode cX11_factsOf 165 = .ok (.getfield 247, 3) := by decide +kernel
theorem dX11_factsOf_168 : decode cX11_factsOf 168 = .ok (.ifCond .eq 8, 3) := by decide +kernel
theorem dX11_factsOf_171 : decode cX11_factsOf 171 = .ok (.bipush 32, 2) := by decide +kernel
theorem dX11_factsOf_173 : decode cX11_factsOf 173 = .ok (.goto 4, 3) := by decide +kernel
theorem dX11_factsOf_176 : decode cX11_factsOf 176 = .ok (.iconst 0, 1) := by decide +kernel
theorem dX11_factsOf_177 : decode cX11_factsOf 177 = .ok (.ior, 1) := by decide +kernel
theorem dX11_factsOf_178 : decode cX11_factsOf 178 = .ok (.istore 5, 2) := by decide +kernel
theorem dX11_factsOf_180 : decode cX11_factsOf 180 = .ok (.iload 5, 2) := by decide +kernel
theorem dX11_factsOf_182 : decode cX11_factsOf 182 = .ok (.aload_n 0, 1) := by decide +kernel
theorem dX11_factsOf_183 : decode cX11_factsOf 183 = .ok (.aload_n 1, 1) := by decide +kernel
theorem dX11_factsOf_184 : decode cX11_factsOf 184 = .ok (.iload_n 2, 1) := by decide +kernel
theorem dX11_factsOf_185 : decode cX11_factsOf 185 = .ok (.invokevirtual 574, 3) := by decide +kernel
theorem dX11_factsOf_188 : decode cX11_factsOf 188 = .ok (.ifCond .eq 8, 3) := by decide +kernel
theorem dX11_factsOf_191 : decode cX11_factsOf 191 = .ok (.bipush 64, 2) := by decide +kernel
theorem dX11_factsOf_193 : decode cX11_factsOf 193 = .ok (.goto 4, 3) := by decide +kernel
theorem dX11_factsOf_196 : decode cX11_factsOf 196 = .ok (.iconst 0, 1) := by decide +kernel
theorem dX11_factsOf_197 : decode cX11_factsOf 197 = .ok (.ior, 1) := by decide +kernel
theorem dX11_factsOf_198 : decode cX11_factsOf 198 = .ok (.istore 5, 2) := by decide +kernel
theorem dX11_factsOf_200 : decode cX11_factsOf 200 = .ok (.iload 5, 2) := by decide +kernel
theorem dX11_factsOf_202 : decode cX11_factsOf 202 = .ok (.iload_n 3, 1) := by decide +kernel
theorem dX11_factsOf_203 : decode cX11_factsOf 203 = .ok (.iconst 1, 1) := by decide +kernel
theorem dX11_factsOf_204 : decode cX11_factsOf 204 = .ok (.iload 4, 2) := by decide +kernel
theorem dX11_factsOf_206 : decode cX11_factsOf 206 = .ok (.ishl, 1) := by decide +kernel
theorem dX11_factsOf_207 : decode cX11_factsOf 207 = .ok (.iconst (-1), 1) := by decide +kernel
theorem dX11_factsOf_208 : decode cX11_factsOf 208 = .ok (.ixor, 1) := by decide +kernel
theorem dX11_factsOf_209 : decode cX11_factsOf 209 = .ok (.iand, 1) := by decide +kernel
theorem dX11_factsOf_210 : decode cX11_factsOf 210 = .ok (.ifCond .eq 9, 3) := by decide +kernel
theorem dX11_factsOf_213 : decode cX11_factsOf 213 = .ok (.sipush 128, 3) := by decide +kernel
theorem dX11_factsOf_216 : decode cX11_factsOf 216 = .ok (.goto 4, 3) := by decide +kernel
theorem dX11_factsOf_219 : decode cX11_factsOf 219 = .ok (.iconst 0, 1) := by decide +kernel
theorem dX11_factsOf_220 : decode cX11_factsOf 220 = .ok (.ior, 1) := by decide +kernel
theorem dX11_factsOf_221 : decode cX11_factsOf 221 = .ok (.istore 5, 2) := by decide +kernel
theorem dX11_factsOf_223 : decode cX11_factsOf 223 = .ok (.iload 5, 2) := by decide +kernel
theorem dX11_factsOf_225 : decode cX11_factsOf 225 = .ok (.ireturn, 1) := by decide +kernel
theorem dX11_isParentSettled_0 : decode cX11_isParentSettled 0 = .ok (.aload_n 0, 1) := by decide +kernel
theorem dX11_isParentSettled_1 : decode cX11_isParentSettled 1 = .ok (.aload_n 1, 1) := by decide +kernel
theorem dX11_isParentSettled_2 : decode cX11_isParentSettled 2 = .ok (.invokevirtual 521, 3) := by decide +kernel
theorem dX11_isParentSettled_5 : decode cX11_isParentSettled 5 = .ok (.astore_n 3, 1) := by decide +kernel
theorem dX11_isParentSettled_6 : decode cX11_isParentSettled 6 = .ok (.aload_n 3, 1) := by decide +kernel
theorem dX11_isParentSettled_7 : decode cX11_isParentSettled 7 = .ok (.ifnull 22, 3) := by decide +kernel
theorem dX11_isParentSettled_10 : decode cX11_isParentSettled 10 = .ok (.aload_n 3, 1) := by decide +kernel
theorem dX11_isParentSettled_11 : decode cX11_isParentSettled 11 = .ok (.getfield 227, 3) := by decide +kernel
theorem dX11_isParentSettled_14 : decode cX11_isParentSettled 14 = .ok (.iconst 1, 1) := by decide +kernel
theorem dX11_isParentSettled_15 : decode cX11_isParentSettled 15 = .ok (.if_icmp .eq 14, 3) := by decide +kernel
theorem dX11_isParentSettled_18 : decode cX11_isParentSettled 18 = .ok (.iload_n 2, 1) := by decide +kernel
theorem dX11_isParentSettled_19 : decode cX11_isParentSettled 19 = .ok (.aload_n 3, 1) := by decide +kernel
theorem dX11_isParentSettled_20 : decode cX11_isParentSettled 20 = .ok (.getfield 180, 3) := by decide +kernel
theorem dX11_isParentSettled_23 : decode cX11_isParentSettled 23 = .ok (.invokestatic 463, 3) := by decide +kernel
theorem dX11_isParentSettled_26 : decode cX11_isParentSettled 26 = .ok (.ifCond .eq 7, 3) := by decide +kernel
theorem dX11_isParentSettled_29 : decode cX11_isParentSettled 29 = .ok (.iconst 1, 1) := by decide +kernel
theorem dX11_isParentSettled_30 : decode cX11_isParentSettled 30 = .ok (.goto 4, 3) := by decide +kernel
theorem dX11_isParentSettled_33 : decode cX11_isParentSettled 33 = .ok (.iconst 0, 1) := by decide +kernel
theorem dX11_isParentSettled_34 : decode cX11_isParentSettled 34 = .ok (.ireturn, 1) := by decide +kernel
theorem dX11_canLandIn_0 : decode cX11_canLandIn 0 = .ok (.aload_n 0, 1) := by decide +kernel
theorem dX11_canLandIn_1 : decode cX11_canLandIn 1 = .ok (.getfield 35, 3) := by decide +kernel
theorem dX11_canLandIn_4 : decode cX11_canLandIn 4 = .ok (.aload_n 0, 1) := by decide +kernel
theorem dX11_canLandIn_5 : decode cX11_canLandIn 5 = .ok (.aload_n 2, 1) := by decide +kernel
theorem dX11_canLandIn_6 : decode cX11_canLandIn 6 = .ok (.iload_n 1, 1) := by decide +kernel
theorem dX11_canLandIn_7 : decode cX11_canLandIn 7 = .ok (.invokevirtual 447, 3) := by decide +kernel
theorem dX11_canLandIn_10 : decode cX11_canLandIn 10 = .ok (.invokevirtual 450, 3) := by decide +kernel
theorem dX11_canLandIn_13 : decode cX11_canLandIn 13 = .ok (.bipush 15, 2) := by decide +kernel
theorem dX11_canLandIn_15 : decode cX11_canLandIn 15 = .ok (.invokestatic 463, 3) := by decide +kernel
theorem dX11_canLandIn_18 : decode cX11_canLandIn 18 = .ok (.ifCond .eq 21, 3) := by decide +kernel
theorem dX11_canLandIn_21 : decode cX11_canLandIn 21 = .ok (.aload_n 0, 1) := by decide +kernel
theorem dX11_canLandIn_22 : decode cX11_canLandIn 22 = .ok (.getfield 10, 3) := by decide +kernel
theorem dX11_canLandIn_25 : decode cX11_canLandIn 25 = .ok (.aload_n 2, 1) := by decide +kernel
theorem dX11_canLandIn_26 : decode cX11_canLandIn 26 = .ok (.getfield 180, 3) := by decide +kernel
theorem dX11_canLandIn_29 : decode cX11_canLandIn 29 = .ok (.invokevirtual 264, 3) := by decide +kernel
theorem dX11_canLandIn_32 : decode cX11_canLandIn 32 = .ok (.ifCond .ne 7, 3) := by decide +kernel
theorem dX11_canLandIn_35 : decode cX11_canLandIn 35 = .ok (.iconst 1, 1) := by decide +kernel
theorem dX11_canLandIn_36 : decode cX11_canLandIn 36 = .ok (.goto 4, 3) := by decide +kernel
theorem dX11_canLandIn_39 : decode cX11_canLandIn 39 = .ok (.iconst 0, 1) := by decide +kernel
theorem dX11_canLandIn_40 : decode cX11_canLandIn 40 = .ok (.ireturn, 1) := by decide +kernel
theorem dX11_findParent_0 : decode cX11_findParent 0 = .ok (.aload_n 0, 1) := by decide +kernel
theorem dX11_findParent_1 : decode cX11_findParent 1 = .ok (.getfield 10, 3) := by decide +kernel
theorem dX11_findParent_4 : decode cX11_findParent 4 = .ok (.aload_n 1, 1) := by decide +kernel
theorem dX11_findParent_5 : decode cX11_findParent 5 = .ok (.getfield 180, 3) := by decide +kernel
theorem dX11_findParent_8 : decode cX11_findParent 8 = .ok (.invokevirtual 230, 3) := by decide +kernel
theorem dX11_findParent_11 : decode cX11_findParent 11 = .ok (.istore_n 2, 1) := by decide +kernel
theorem dX11_findParent_12 : decode cX11_findParent 12 = .ok (.iload_n 2, 1) := by decide +kernel
theorem dX11_findParent_13 : decode cX11_findParent 13 = .ok (.ifCond .lt 28, 3) := by decide +kernel
theorem dX11_findParent_16 : decode cX11_findParent 16 = .ok (.iload_n 2, 1) := by decide +kernel
theorem dX11_findParent_17 : decode cX11_findParent 17 = .ok (.aload_n 0, 1) := by decide +kernel
theorem dX11_findParent_18 : decode cX11_findParent 18 = .ok (.getfield 49, 3) := by decide +kernel
theorem dX11_findParent_21 : decode cX11_findParent 21 = .ok (.invokevirtual 155, 3) := by decide +kernel
theorem dX11_findParent_24 : decode cX11_findParent 24 = .ok (.if_icmp .ge 17, 3) := by decide +kernel
theorem dX11_findParent_27 : decode cX11_findParent 27 = .ok (.aload_n 0, 1) := by decide +kernel
theorem dX11_findParent_28 : decode cX11_findParent 28 = .ok (.getfield 49, 3) := by decide +kernel
theorem dX11_findParent_31 : decode cX11_findParent 31 = .ok (.iload_n 2, 1) := by decide +kernel
theorem dX11_findParent_32 : decode cX11_findParent 32 = .ok (.invokevirtual 223, 3) := by decide +kernel
theorem dX11_findParent_35 : decode cX11_findParent 35 = .ok (.checkcast 165, 3) := by decide +kernel
theorem dX11_findParent_38 : decode cX11_findParent 38 = .ok (.goto 4, 3) := by decide +kernel
theorem dX11_findParent_41 : decode cX11_findParent 41 = .ok (.aconst_null, 1) := by decide +kernel
theorem dX11_findParent_42 : decode cX11_findParent 42 = .ok (.areturn, 1) := by decide +kernel
