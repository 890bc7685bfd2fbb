theorem dX0_init_0 : decode cX0_init 0 = .ok (.aload_n 0, 1) := by decide +kernel
theorem dX0_init_1 : decode cX0_init 1 = .ok (.invokespecial 3, 3) := by decide +kernel
theorem dX0_init_4 : decode cX0_init 4 = .ok (.aload_n 0, 1) := by decide +kernel
theorem dX0_init_5 : decode cX0_init 5 = .ok (.bipush 80, 2) := by decide +kernel
theorem dX0_init_7 : decode cX0_init 7 = .ok (.newarray .int, 2) := by decide +kernel
theorem dX0_init_9 : decode cX0_init 9 = .ok (.putfield 9, 3) := by decide +kernel
theorem dX0_init_12 : decode cX0_init 12 = .ok (.aload_n 0, 1) := by decide +kernel
theorem dX0_init_13 : decode cX0_init 13 = .ok (.iconst 0, 1) := by decide +kernel
theorem dX0_init_14 : decode cX0_init 14 = .ok (.putfield 15, 3) := by decide +kernel
theorem dX0_init_17 : decode cX0_init 17 = .ok (.aload_n 0, 1) := by decide +kernel
theorem dX0_init_18 : decode cX0_init 18 = .ok (.iconst (-1), 1) := by decide +kernel
theorem dX0_init_19 : decode cX0_init 19 = .ok (.putfield 19, 3) := by decide +kernel
theorem dX0_init_22 : decode cX0_init 22 = .ok (.aload_n 0, 1) := by decide +kernel
theorem dX0_init_23 : decode cX0_init 23 = .ok (.iconst (-1), 1) := by decide +kernel
theorem dX0_init_24 : decode cX0_init 24 = .ok (.putfield 22, 3) := by decide +kernel
theorem dX0_init_27 : decode cX0_init 27 = .ok (.aload_n 0, 1) := by decide +kernel
theorem dX0_init_28 : decode cX0_init 28 = .ok (.iload_n 1, 1) := by decide +kernel
theorem dX0_init_29 : decode cX0_init 29 = .ok (.putfield 25, 3) := by decide +kernel
theorem dX0_init_32 : decode cX0_init 32 = .ok (.aload_n 0, 1) := by decide +kernel
theorem dX0_init_33 : decode cX0_init 33 = .ok (.iload_n 2, 1) := by decide +kernel
theorem dX0_init_34 : decode cX0_init 34 = .ok (.putfield 28, 3) := by decide +kernel
theorem dX0_init_37 : decode cX0_init 37 = .ok (.aload_n 0, 1) := by decide +kernel
theorem dX0_init_38 : decode cX0_init 38 = .ok (.iload_n 3, 1) := by decide +kernel
theorem dX0_init_39 : decode cX0_init 39 = .ok (.putfield 31, 3) := by decide +kernel
theorem dX0_init_42 : decode cX0_init 42 = .ok (.return_, 1) := by decide +kernel
theorem dX0_addCommit_0 : decode cX0_addCommit 0 = .ok (.aload_n 0, 1) := by decide +kernel
theorem dX0_addCommit_1 : decode cX0_addCommit 1 = .ok (.getfield 34, 3) := by decide +kernel
theorem dX0_addCommit_4 : decode cX0_addCommit 4 = .ok (.aload_n 0, 1) := by decide +kernel
theorem dX0_addCommit_5 : decode cX0_addCommit 5 = .ok (.getfield 9, 3) := by decide +kernel
theorem dX0_addCommit_8 : decode cX0_addCommit 8 = .ok (.arraylength, 1) := by decide +kernel
theorem dX0_addCommit_9 : decode cX0_addCommit 9 = .ok (.if_icmp .ge 23, 3) := by decide +kernel
theorem dX0_addCommit_12 : decode cX0_addCommit 12 = .ok (.aload_n 0, 1) := by decide +kernel
theorem dX0_addCommit_13 : decode cX0_addCommit 13 = .ok (.getfield 9, 3) := by decide +kernel
theorem dX0_addCommit_16 : decode cX0_addCommit 16 = .ok (.aload_n 0, 1) := by decide +kernel
theorem dX0_addCommit_17 : decode cX0_addCommit 17 = .ok (.getfield 34, 3) := by decide +kernel
theorem dX0_addCommit_20 : decode cX0_addCommit 20 = .ok (.iload_n 1, 1) := by decide +kernel
theorem dX0_addCommit_21 : decode cX0_addCommit 21 = .ok (.iastore, 1) := by decide +kernel
theorem dX0_addCommit_22 : decode cX0_addCommit 22 = .ok (.aload_n 0, 1) := by decide +kernel
theorem dX0_addCommit_23 : decode cX0_addCommit 23 = .ok (.dup, 1) := by decide +kernel
theorem dX0_addCommit_24 : decode cX0_addCommit 24 = .ok (.getfield 34, 3) := by decide +kernel
theorem dX0_addCommit_27 : decode cX0_addCommit 27 = .ok (.iconst 1, 1) := by decide +kernel
theorem dX0_addCommit_28 : decode cX0_addCommit 28 = .ok (.iadd, 1) := by decide +kernel
theorem dX0_addCommit_29 : decode cX0_addCommit 29 = .ok (.putfield 34, 3) := by decide +kernel
theorem dX0_addCommit_32 : decode cX0_addCommit 32 = .ok (.return_, 1) := by decide +kernel
theorem dX0_commitAt_0 : decode cX0_commitAt 0 = .ok (.iload_n 1, 1) := by decide +kernel
theorem dX0_commitAt_1 : decode cX0_commitAt 1 = .ok (.aload_n 0, 1) := by decide +kernel
theorem dX0_commitAt_2 : decode cX0_commitAt 2 = .ok (.getfield 34, 3) := by decide +kernel
theorem dX0_commitAt_5 : decode cX0_commitAt 5 = .ok (.if_icmp .ge 14, 3) := by decide +kernel
theorem dX0_commitAt_8 : decode cX0_commitAt 8 = .ok (.aload_n 0, 1) := by decide +kernel
theorem dX0_commitAt_9 : decode cX0_commitAt 9 = .ok (.getfield 9, 3) := by decide +kernel
theorem dX0_commitAt_12 : decode cX0_commitAt 12 = .ok (.iload_n 1, 1) := by decide +kernel
theorem dX0_commitAt_13 : decode cX0_commitAt 13 = .ok (.invokestatic 37, 3) := by decide +kernel
theorem dX0_commitAt_16 : decode cX0_commitAt 16 = .ok (.goto 4, 3) := by decide +kernel
theorem dX0_commitAt_19 : decode cX0_commitAt 19 = .ok (.iconst (-1), 1) := by decide +kernel
theorem dX0_commitAt_20 : decode cX0_commitAt 20 = .ok (.ireturn, 1) := by decide +kernel
theorem dX0_takePart_0 : decode cX0_takePart 0 = .ok (.iload_n 1, 1) := by decide +kernel
theorem dX0_takePart_1 : decode cX0_takePart 1 = .ok (.aload_n 0, 1) := by decide +kernel
theorem dX0_takePart_2 : decode cX0_takePart 2 = .ok (.getfield 28, 3) := by decide +kernel
theorem dX0_takePart_5 : decode cX0_takePart 5 = .ok (.if_icmp .eq 15, 3) := by decide +kernel
theorem dX0_takePart_8 : decode cX0_takePart 8 = .ok (.aload_n 0, 1) := by decide +kernel
theorem dX0_takePart_9 : decode cX0_takePart 9 = .ok (.dup, 1) := by decide +kernel
theorem dX0_takePart_10 : decode cX0_takePart 10 = .ok (.getfield 43, 3) := by decide +kernel
theorem dX0_takePart_13 : decode cX0_takePart 13 = .ok (.iconst 1, 1) := by decide +kernel
theorem dX0_takePart_14 : decode cX0_takePart 14 = .ok (.iload_n 1, 1) := by decide +kernel
theorem dX0_takePart_15 : decode cX0_takePart 15 = .ok (.ishl, 1) := by decide +kernel
theorem dX0_takePart_16 : decode cX0_takePart 16 = .ok (.ior, 1) := by decide +kernel
theorem dX0_takePart_17 : decode cX0_takePart 17 = .ok (.putfield 43, 3) := by decide +kernel
theorem dX0_takePart_20 : decode cX0_takePart 20 = .ok (.return_, 1) := by decide +kernel
theorem dX0_giveTurns_0 : decode cX0_giveTurns 0 = .ok (.aload_n 0, 1) := by decide +kernel
theorem dX0_giveTurns_1 : decode cX0_giveTurns 1 = .ok (.getfield 15, 3) := by decide +kernel
theorem dX0_giveTurns_4 : decode cX0_giveTurns 4 = .ok (.ifCond .ne 20, 3) := by decide +kernel
theorem dX0_giveTurns_7 : decode cX0_giveTurns 7 = .ok (.aload_n 0, 1) := by decide +kernel
theorem dX0_giveTurns_8 : decode cX0_giveTurns 8 = .ok (.getfield 46, 3) := by decide +kernel
theorem dX0_giveTurns_11 : decode cX0_giveTurns 11 = .ok (.ifCond .ne 13, 3) := by decide +kernel
theorem dX0_giveTurns_14 : decode cX0_giveTurns 14 = .ok (.aload_n 0, 1) := by decide +kernel
theorem dX0_giveTurns_15 : decode cX0_giveTurns 15 = .ok (.dup, 1) := by decide +kernel
theorem dX0_giveTurns_16 : decode cX0_giveTurns 16 = .ok (.getfield 50, 3) := by decide +kernel
theorem dX0_giveTurns_19 : decode cX0_giveTurns 19 = .ok (.iload_n 1, 1) := by decide +kernel
theorem dX0_giveTurns_20 : decode cX0_giveTurns 20 = .ok (.ior, 1) := by decide +kernel
theorem dX0_giveTurns_21 : decode cX0_giveTurns 21 = .ok (.putfield 50, 3) := by decide +kernel
theorem dX0_giveTurns_24 : decode cX0_giveTurns 24 = .ok (.return_, 1) := by decide +kernel
theorem dX1_init_0 : decode cX1_init 0 = .ok (.aload_n 0, 1) := by decide +kernel
theorem dX1_init_1 : decode cX1_init 1 = .ok (.invokespecial 1, 3) := by decide +kernel
theorem dX1_init_4 : decode cX1_init 4 = .ok (.aload_n 0, 1) := by decide +kernel
theorem dX1_init_5 : decode cX1_init 5 = .ok (.iload_n 1, 1) := by decide +kernel
theorem dX1_init_6 : decode cX1_init 6 = .ok (.putfield 7, 3) := by decide +kernel
theorem dX1_init_9 : decode cX1_init 9 = .ok (.aload_n 0, 1) := by decide +kernel
theorem dX1_init_10 : decode cX1_init 10 = .ok (.iload_n 2, 1) := by decide +kernel
theorem dX1_init_11 : decode cX1_init 11 = .ok (.putfield 13, 3) := by decide +kernel
theorem dX1_init_14 : decode cX1_init 14 = .ok (.aload_n 0, 1) := by decide +kernel
theorem dX1_init_15 : decode cX1_init 15 = .ok (.iload_n 3, 1) := by decide +kernel
theorem dX1_init_16 : decode cX1_init 16 = .ok (.putfield 16, 3) := by decide +kernel
theorem dX1_init_19 : decode cX1_init 19 = .ok (.aload_n 0, 1) := by decide +kernel
theorem dX1_init_20 : decode cX1_init 20 = .ok (.aload 4, 2) := by decide +kernel
theorem dX1_init_22 : decode cX1_init 22 = .ok (.putfield 20, 3) := by decide +kernel
theorem dX1_init_25 : decode cX1_init 25 = .ok (.return_, 1) := by decide +kernel
theorem dX2_init_0 : decode cX2_init 0 = .ok (.aload_n 0, 1) := by decide +kernel
theorem dX2_init_1 : decode cX2_init 1 = .ok (.invokespecial 3, 3) := by decide +kernel
theorem dX2_init_4 : decode cX2_init 4 = .ok (.aload_n 0, 1) := by decide +kernel
theorem dX2_init_5 : decode cX2_init 5 = .ok (.new 9, 3) := by decide +kernel
theorem dX2_init_8 : decode cX2_init 8 = .ok (.dup, 1) := by decide +kernel
theorem dX2_init_9 : decode cX2_init 9 = .ok (.invokespecial 11, 3) := by decide +kernel
theorem dX2_init_12 : decode cX2_init 12 = .ok (.putfield 12, 3) := by decide +kernel
theorem dX2_init_15 : decode cX2_init 15 = .ok (.aload_n 0, 1) := by decide +kernel
theorem dX2_init_16 : decode cX2_init 16 = .ok (.new 9, 3) := by decide +kernel
theorem dX2_init_19 : decode cX2_init 19 = .ok (.dup, 1) := by decide +kernel
theorem dX2_init_20 : decode cX2_init 20 = .ok (.invokespecial 11, 3) := by decide +kernel
theorem dX2_init_23 : decode cX2_init 23 = .ok (.putfield 18, 3) := by decide +kernel
theorem dX2_init_26 : decode cX2_init 26 = .ok (.aload_n 0, 1) := by decide +kernel
theorem dX2_init_27 : decode cX2_init 27 = .ok (.bipush 11, 2) := by decide +kernel
theorem dX2_init_29 : decode cX2_init 29 = .ok (.newarray .int, 2) := by decide +kernel
theorem dX2_init_31 : decode cX2_init 31 = .ok (.putfield 21, 3) := by decide +kernel
theorem dX2_init_34 : decode cX2_init 34 = .ok (.aload_n 0, 1) := by decide +kernel
theorem dX2_init_35 : decode cX2_init 35 = .ok (.aload_n 1, 1) := by decide +kernel
theorem dX2_init_36 : decode cX2_init 36 = .ok (.putfield 25, 3) := by decide +kernel
theorem dX2_init_39 : decode cX2_init 39 = .ok (.return_, 1) := by decide +kernel
theorem dX2_mergeRows_0 : decode cX2_mergeRows 0 = .ok (.iconst 0, 1) := by decide +kernel
theorem dX2_mergeRows_1 : decode cX2_mergeRows 1 = .ok (.istore 4, 2) := by decide +kernel
theorem dX2_mergeRows_3 : decode cX2_mergeRows 3 = .ok (.iload 4, 2) := by decide +kernel
theorem dX2_mergeRows_5 : decode cX2_mergeRows 5 = .ok (.iconst 4, 1) := by decide +kernel
theorem dX2_mergeRows_6 : decode cX2_mergeRows 6 = .ok (.if_icmp .ge 66, 3) := by decide +kernel
theorem dX2_mergeRows_9 : decode cX2_mergeRows 9 = .ok (.aload_n 0, 1) := by decide +kernel
theorem dX2_mergeRows_10 : decode cX2_mergeRows 10 = .ok (.getfield 12, 3) := by decide +kernel
theorem dX2_mergeRows_13 : decode cX2_mergeRows 13 = .ok (.aload_n 0, 1) := by decide +kernel
theorem dX2_mergeRows_14 : decode cX2_mergeRows 14 = .ok (.getfield 25, 3) := by decide +kernel
theorem dX2_mergeRows_17 : decode cX2_mergeRows 17 = .ok (.iload_n 1, 1) := by decide +kernel
theorem dX2_mergeRows_18 : decode cX2_mergeRows 18 = .ok (.iload_n 2, 1) := by decide +kernel
theorem dX2_mergeRows_19 : decode cX2_mergeRows 19 = .ok (.iload 4, 2) := by decide +kernel
theorem dX2_mergeRows_21 : decode cX2_mergeRows 21 = .ok (.iconst 0, 1) := by decide +kernel
theorem dX2_mergeRows_22 : decode cX2_mergeRows 22 = .ok (.invokevirtual 29, 3) := by decide +kernel
theorem dX2_mergeRows_25 : decode cX2_mergeRows 25 = .ok (.aload_n 0, 1) := by decide +kernel
theorem dX2_mergeRows_26 : decode cX2_mergeRows 26 = .ok (.getfield 18, 3) := by decide +kernel
theorem dX2_mergeRows_29 : decode cX2_mergeRows 29 = .ok (.aload_n 0, 1) := by decide +kernel
theorem dX2_mergeRows_30 : decode cX2_mergeRows 30 = .ok (.getfield 25, 3) := by decide +kernel
theorem dX2_mergeRows_33 : decode cX2_mergeRows 33 = .ok (.iload_n 1, 1) := by decide +kernel
theorem dX2_mergeRows_34 : decode cX2_mergeRows 34 = .ok (.iload_n 3, 1) := by decide +kernel
theorem dX2_mergeRows_35 : decode cX2_mergeRows 35 = .ok (.iload 4, 2) := by decide +kernel
theorem dX2_mergeRows_37 : decode cX2_mergeRows 37 = .ok (.iconst 0, 1) := by decide +kernel
theorem dX2_mergeRows_38 : decode cX2_mergeRows 38 = .ok (.invokevirtual 29, 3) := by decide +kernel
theorem dX2_mergeRows_41 : decode cX2_mergeRows 41 = .ok (.aload_n 0, 1) := by decide +kernel
theorem dX2_mergeRows_42 : decode cX2_mergeRows 42 = .ok (.getfield 12, 3) := by decide +kernel
theorem dX2_mergeRows_45 : decode cX2_mergeRows 45 = .ok (.aload_n 0, 1) := by decide +kernel
theorem dX2_mergeRows_46 : decode cX2_mergeRows 46 = .ok (.getfield 18, 3) := by decide +kernel
theorem dX2_mergeRows_49 : decode cX2_mergeRows 49 = .ok (.invokevirtual 33, 3) := by decide +kernel
theorem dX2_mergeRows_52 : decode cX2_mergeRows 52 = .ok (.ifCond .ne 12, 3) := by decide +kernel
theorem dX2_mergeRows_55 : decode cX2_mergeRows 55 = .ok (.aload_n 0, 1) := by decide +kernel
theorem dX2_mergeRows_56 : decode cX2_mergeRows 56 = .ok (.iload 4, 2) := by decide +kernel
theorem dX2_mergeRows_58 : decode cX2_mergeRows 58 = .ok (.invokevirtual 37, 3) := by decide +kernel
theorem dX2_mergeRows_61 : decode cX2_mergeRows 61 = .ok (.ifCond .ne 5, 3) := by decide +kernel
theorem dX2_mergeRows_64 : decode cX2_mergeRows 64 = .ok (.iconst 0, 1) := by decide +kernel
theorem dX2_mergeRows_65 : decode cX2_mergeRows 65 = .ok (.ireturn, 1) := by decide +kernel
theorem dX2_mergeRows_66 : decode cX2_mergeRows 66 = .ok (.iinc 4 1, 3) := by decide +kernel
theorem dX2_mergeRows_69 : decode cX2_mergeRows 69 = .ok (.goto (-66), 3) := by decide +kernel
theorem dX2_mergeRows_72 : decode cX2_mergeRows 72 = .ok (.iconst 1, 1) := by decide +kernel
theorem dX2_mergeRows_73 : decode cX2_mergeRows 73 = .ok (.ireturn, 1) := by decide +kernel
theorem dX2_makeMergedFile_0 : decode cX2_makeMergedFile 0 = .ok (.iconst 0, 1) := by decide +kernel
theorem dX2_makeMergedFile_1 : decode cX2_makeMergedFile 1 = .ok (.istore_n 2, 1) := by decide +kernel
theorem dX2_makeMergedFile_2 : decode cX2_makeMergedFile 2 = .ok (.aload_n 0, 1) := by decide +kernel
theorem dX2_makeMergedFile_3 : decode cX2_makeMergedFile 3 = .ok (.getfield 25, 3) := by decide +kernel
theorem dX2_makeMergedFile_6 : decode cX2_makeMergedFile 6 = .ok (.iload_n 1, 1) := by decide +kernel
theorem dX2_makeMergedFile_7 : decode cX2_makeMergedFile 7 = .ok (.invokevirtual 41, 3) := by decide +kernel
theorem dX2_makeMergedFile_10 : decode cX2_makeMergedFile 10 = .ok (.iconst 0, 1) := by decide +kernel
theorem dX2_makeMergedFile_11 : decode cX2_makeMergedFile 11 = .ok (.istore_n 3, 1) := by decide +kernel
theorem dX2_makeMergedFile_12 : decode cX2_makeMergedFile 12 = .ok (.iload_n 3, 1) := by decide +kernel
theorem dX2_makeMergedFile_13 : decode cX2_makeMergedFile 13 = .ok (.aload_n 0, 1) := by decide +kernel
theorem dX2_makeMergedFile_14 : decode cX2_makeMergedFile 14 = .ok (.getfield 12, 3) := by decide +kernel
theorem dX2_makeMergedFile_17 : decode cX2_makeMergedFile 17 = .ok (.getfield 47, 3) := by decide +kernel
theorem dX2_makeMergedFile_20 : decode cX2_makeMergedFile 20 = .ok (.if_icmp .gt 149, 3) := by decide +kernel
theorem dX2_makeMergedFile_23 : decode cX2_makeMergedFile 23 = .ok (.aload_n 0, 1) := by decide +kernel
theorem dX2_makeMergedFile_24 : decode cX2_makeMergedFile 24 = .ok (.getfield 12, 3) := by decide +kernel
theorem dX2_makeMergedFile_27 : decode cX2_makeMergedFile 27 = .ok (.iload_n 3, 1) := by decide +kernel
theorem dX2_makeMergedFile_28 : decode cX2_makeMergedFile 28 = .ok (.invokevirtual 51, 3) := by decide +kernel
theorem dX2_makeMergedFile_31 : decode cX2_makeMergedFile 31 = .ok (.iconst (-1), 1) := by decide +kernel
theorem dX2_makeMergedFile_32 : decode cX2_makeMergedFile 32 = .ok (.if_icmp .eq 10, 3) := by decide +kernel
theorem dX2_makeMergedFile_35 : decode cX2_makeMergedFile 35 = .ok (.aload_n 0, 1) := by decide +kernel
theorem dX2_makeMergedFile_36 : decode cX2_makeMergedFile 36 = .ok (.getfield 12, 3) := by decide +kernel
theorem dX2_makeMergedFile_39 : decode cX2_makeMergedFile 39 = .ok (.goto 7, 3) := by decide +kernel
theorem dX2_makeMergedFile_42 : decode cX2_makeMergedFile 42 = .ok (.aload_n 0, 1) := by decide +kernel
theorem dX2_makeMergedFile_43 : decode cX2_makeMergedFile 43 = .ok (.getfield 18, 3) := by decide +kernel
theorem dX2_makeMergedFile_46 : decode cX2_makeMergedFile 46 = .ok (.astore 4, 2) := by decide +kernel
theorem dX2_makeMergedFile_48 : decode cX2_makeMergedFile 48 = .ok (.aload 4, 2) := by decide +kernel
theorem dX2_makeMergedFile_50 : decode cX2_makeMergedFile 50 = .ok (.iload_n 3, 1) := by decide +kernel
theorem dX2_makeMergedFile_51 : decode cX2_makeMergedFile 51 = .ok (.invokevirtual 51, 3) := by decide +kernel
theorem dX2_makeMergedFile_54 : decode cX2_makeMergedFile 54 = .ok (.istore 5, 2) := by decide +kernel
theorem dX2_makeMergedFile_56 : decode cX2_makeMergedFile 56 = .ok (.iload 5, 2) := by decide +kernel
theorem dX2_makeMergedFile_58 : decode cX2_makeMergedFile 58 = .ok (.iconst (-1), 1) := by decide +kernel
theorem dX2_makeMergedFile_59 : decode cX2_makeMergedFile 59 = .ok (.if_icmp .eq 66, 3) := by decide +kernel
theorem dX2_makeMergedFile_62 : decode cX2_makeMergedFile 62 = .ok (.iload_n 3, 1) := by decide +kernel
theorem dX2_makeMergedFile_63 : decode cX2_makeMergedFile 63 = .ok (.aload 4, 2) := by decide +kernel
theorem dX2_makeMergedFile_65 : decode cX2_makeMergedFile 65 = .ok (.getfield 55, 3) := by decide +kernel
theorem dX2_makeMergedFile_68 : decode cX2_makeMergedFile 68 = .ok (.iload 5, 2) := by decide +kernel
theorem dX2_makeMergedFile_70 : decode cX2_makeMergedFile 70 = .ok (.iaload, 1) := by decide +kernel
theorem dX2_makeMergedFile_71 : decode cX2_makeMergedFile 71 = .ok (.iadd, 1) := by decide +kernel
theorem dX2_makeMergedFile_72 : decode cX2_makeMergedFile 72 = .ok (.istore_n 2, 1) := by decide +kernel
theorem dX2_makeMergedFile_73 : decode cX2_makeMergedFile 73 = .ok (.iconst 0, 1) := by decide +kernel
theorem dX2_makeMergedFile_74 : decode cX2_makeMergedFile 74 = .ok (.istore 6, 2) := by decide +kernel
theorem dX2_makeMergedFile_76 : decode cX2_makeMergedFile 76 = .ok (.iload 6, 2) := by decide +kernel
theorem dX2_makeMergedFile_78 : decode cX2_makeMergedFile 78 = .ok (.aload 4, 2) := by decide +kernel
theorem dX2_makeMergedFile_80 : decode cX2_makeMergedFile 80 = .ok (.getfield 58, 3) := by decide +kernel
theorem dX2_makeMergedFile_83 : decode cX2_makeMergedFile 83 = .ok (.iload 5, 2) := by decide +kernel
theorem dX2_makeMergedFile_85 : decode cX2_makeMergedFile 85 = .ok (.iaload, 1) := by decide +kernel
theorem dX2_makeMergedFile_86 : decode cX2_makeMergedFile 86 = .ok (.if_icmp .ge 39, 3) := by decide +kernel
theorem dX2_makeMergedFile_89 : decode cX2_makeMergedFile 89 = .ok (.aload_n 0, 1) := by decide +kernel
theorem dX2_makeMergedFile_90 : decode cX2_makeMergedFile 90 = .ok (.getfield 25, 3) := by decide +kernel
theorem dX2_makeMergedFile_93 : decode cX2_makeMergedFile 93 = .ok (.iload_n 1, 1) := by decide +kernel
theorem dX2_makeMergedFile_94 : decode cX2_makeMergedFile 94 = .ok (.aload 4, 2) := by decide +kernel
theorem dX2_makeMergedFile_96 : decode cX2_makeMergedFile 96 = .ok (.getfield 61, 3) := by decide +kernel
theorem dX2_makeMergedFile_99 : decode cX2_makeMergedFile 99 = .ok (.aload 4, 2) := by decide +kernel
theorem dX2_makeMergedFile_101 : decode cX2_makeMergedFile 101 = .ok (.getfield 64, 3) := by decide +kernel
theorem dX2_makeMergedFile_104 : decode cX2_makeMergedFile 104 = .ok (.iload 5, 2) := by decide +kernel
theorem dX2_makeMergedFile_106 : decode cX2_makeMergedFile 106 = .ok (.iaload, 1) := by decide +kernel
theorem dX2_makeMergedFile_107 : decode cX2_makeMergedFile 107 = .ok (.iload 6, 2) := by decide +kernel
theorem dX2_makeMergedFile_109 : decode cX2_makeMergedFile 109 = .ok (.iadd, 1) := by decide +kernel
theorem dX2_makeMergedFile_110 : decode cX2_makeMergedFile 110 = .ok (.iaload, 1) := by decide +kernel
theorem dX2_makeMergedFile_111 : decode cX2_makeMergedFile 111 = .ok (.invokevirtual 67, 3) := by decide +kernel
theorem dX2_makeMergedFile_114 : decode cX2_makeMergedFile 114 = .ok (.ifCond .ne 5, 3) := by decide +kernel
theorem dX2_makeMergedFile_117 : decode cX2_makeMergedFile 117 = .ok (.iconst 0, 1) := by decide +kernel
theorem dX2_makeMergedFile_118 : decode cX2_makeMergedFile 118 = .ok (.ireturn, 1) := by decide +kernel
theorem dX2_makeMergedFile_119 : decode cX2_makeMergedFile 119 = .ok (.iinc 6 1, 3) := by decide +kernel
theorem dX2_makeMergedFile_122 : decode cX2_makeMergedFile 122 = .ok (.goto (-46), 3) := by decide +kernel
theorem dX2_makeMergedFile_125 : decode cX2_makeMergedFile 125 = .ok (.iload_n 3, 1) := by decide +kernel
theorem dX2_makeMergedFile_126 : decode cX2_makeMergedFile 126 = .ok (.aload_n 0, 1) := by decide +kernel
theorem dX2_makeMergedFile_127 : decode cX2_makeMergedFile 127 = .ok (.getfield 12, 3) := by decide +kernel
theorem dX2_makeMergedFile_130 : decode cX2_makeMergedFile 130 = .ok (.getfield 47, 3) := by decide +kernel
theorem dX2_makeMergedFile_133 : decode cX2_makeMergedFile 133 = .ok (.if_icmp .ge 30, 3) := by decide +kernel
theorem dX2_makeMergedFile_136 : decode cX2_makeMergedFile 136 = .ok (.iload_n 3, 1) := by decide +kernel
theorem dX2_makeMergedFile_137 : decode cX2_makeMergedFile 137 = .ok (.iload_n 2, 1) := by decide +kernel
theorem dX2_makeMergedFile_138 : decode cX2_makeMergedFile 138 = .ok (.if_icmp .lt 25, 3) := by decide +kernel
theorem dX2_makeMergedFile_141 : decode cX2_makeMergedFile 141 = .ok (.aload_n 0, 1) := by decide +kernel
theorem dX2_makeMergedFile_142 : decode cX2_makeMergedFile 142 = .ok (.getfield 25, 3) := by decide +kernel
theorem dX2_makeMergedFile_145 : decode cX2_makeMergedFile 145 = .ok (.iload_n 1, 1) := by decide +kernel
theorem dX2_makeMergedFile_146 : decode cX2_makeMergedFile 146 = .ok (.aload_n 0, 1) := by decide +kernel
theorem dX2_makeMergedFile_147 : decode cX2_makeMergedFile 147 = .ok (.getfield 12, 3) := by decide +kernel
theorem dX2_makeMergedFile_150 : decode cX2_makeMergedFile 150 = .ok (.getfield 71, 3) := by decide +kernel
theorem dX2_makeMergedFile_153 : decode cX2_makeMergedFile 153 = .ok (.iload_n 3, 1) := by decide +kernel
theorem dX2_makeMergedFile_154 : decode cX2_makeMergedFile 154 = .ok (.iaload, 1) := by decide +kernel
theorem dX2_makeMergedFile_155 : decode cX2_makeMergedFile 155 = .ok (.invokevirtual 67, 3) := by decide +kernel
theorem dX2_makeMergedFile_158 : decode cX2_makeMergedFile 158 = .ok (.ifCond .ne 5, 3) := by decide +kernel
theorem dX2_makeMergedFile_161 : decode cX2_makeMergedFile 161 = .ok (.iconst 0, 1) := by decide +kernel
theorem dX2_makeMergedFile_162 : decode cX2_makeMergedFile 162 = .ok (.ireturn, 1) := by decide +kernel
theorem dX2_makeMergedFile_163 : decode cX2_makeMergedFile 163 = .ok (.iinc 3 1, 3) := by decide +kernel
theorem dX2_makeMergedFile_166 : decode cX2_makeMergedFile 166 = .ok (.goto (-154), 3) := by decide +kernel
theorem dX2_makeMergedFile_169 : decode cX2_makeMergedFile 169 = .ok (.iconst 1, 1) := by decide +kernel
theorem dX2_makeMergedFile_170 : decode cX2_makeMergedFile 170 = .ok (.ireturn, 1) := by decide +kernel
theorem dX2_kindBetween_0 : decode cX2_kindBetween 0 = .ok (.aload_n 0, 1) := by decide +kernel
theorem dX2_kindBetween_1 : decode cX2_kindBetween 1 = .ok (.getfield 25, 3) := by decide +kernel
theorem dX2_kindBetween_4 : decode cX2_kindBetween 4 = .ok (.iload_n 1, 1) := by decide +kernel
theorem dX2_kindBetween_5 : decode cX2_kindBetween 5 = .ok (.invokevirtual 74, 3) := by decide +kernel
theorem dX2_kindBetween_8 : decode cX2_kindBetween 8 = .ok (.aload_n 0, 1) := by decide +kernel
theorem dX2_kindBetween_9 : decode cX2_kindBetween 9 = .ok (.getfield 25, 3) := by decide +kernel
theorem dX2_kindBetween_12 : decode cX2_kindBetween 12 = .ok (.iload_n 2, 1) := by decide +kernel
theorem dX2_kindBetween_13 : decode cX2_kindBetween 13 = .ok (.invokevirtual 74, 3) := by decide +kernel
theorem dX2_kindBetween_16 : decode cX2_kindBetween 16 = .ok (.if_icmp .ne 7, 3) := by decide +kernel
theorem dX2_kindBetween_19 : decode cX2_kindBetween 19 = .ok (.iconst 1, 1) := by decide +kernel
theorem dX2_kindBetween_20 : decode cX2_kindBetween 20 = .ok (.goto 4, 3) := by decide +kernel
theorem dX2_kindBetween_23 : decode cX2_kindBetween 23 = .ok (.iconst 0, 1) := by decide +kernel
theorem dX2_kindBetween_24 : decode cX2_kindBetween 24 = .ok (.istore_n 3, 1) := by decide +kernel
theorem dX2_kindBetween_25 : decode cX2_kindBetween 25 = .ok (.iconst 0, 1) := by decide +kernel
theorem dX2_kindBetween_26 : decode cX2_kindBetween 26 = .ok (.istore 4, 2) := by decide +kernel
theorem dX2_kindBetween_28 : decode cX2_kindBetween 28 = .ok (.iload 4, 2) := by decide +kernel
theorem dX2_kindBetween_30 : decode cX2_kindBetween 30 = .ok (.iconst 4, 1) := by decide +kernel
theorem dX2_kindBetween_31 : decode cX2_kindBetween 31 = .ok (.if_icmp .ge 44, 3) := by decide +kernel
theorem dX2_kindBetween_34 : decode cX2_kindBetween 34 = .ok (.iload_n 3, 1) := by decide +kernel
theorem dX2_kindBetween_35 : decode cX2_kindBetween 35 = .ok (.ifCond .eq 17, 3) := by decide +kernel
theorem dX2_kindBetween_38 : decode cX2_kindBetween 38 = .ok (.aload_n 0, 1) := by decide +kernel
theorem dX2_kindBetween_39 : decode cX2_kindBetween 39 = .ok (.getfield 25, 3) := by decide +kernel
theorem dX2_kindBetween_42 : decode cX2_kindBetween 42 = .ok (.iload_n 1, 1) := by decide +kernel
theorem dX2_kindBetween_43 : decode cX2_kindBetween 43 = .ok (.iload_n 2, 1) := by decide +kernel
theorem dX2_kindBetween_44 : decode cX2_kindBetween 44 = .ok (.iload 4, 2) := by decide +kernel
theorem dX2_kindBetween_46 : decode cX2_kindBetween 46 = .ok (.invokevirtual 77, 3) := by decide +kernel
theorem dX2_kindBetween_49 : decode cX2_kindBetween 49 = .ok (.goto 11, 3) := by decide +kernel
theorem dX2_kindBetween_52 : decode cX2_kindBetween 52 = .ok (.aload_n 0, 1) := by decide +kernel
theorem dX2_kindBetween_53 : decode cX2_kindBetween 53 = .ok (.iload_n 1, 1) := by decide +kernel
theorem dX2_kindBetween_54 : decode cX2_kindBetween 54 = .ok (.iload_n 2, 1) := by decide +kernel
theorem dX2_kindBetween_55 : decode cX2_kindBetween 55 = .ok (.iload 4, 2) := by decide +kernel
theorem dX2_kindBetween_57 : decode cX2_kindBetween 57 = .ok (.invokevirtual 81, 3) := by decide +kernel
theorem dX2_kindBetween_60 : decode cX2_kindBetween 60 = .ok (.istore 5, 2) := by decide +kernel
theorem dX2_kindBetween_62 : decode cX2_kindBetween 62 = .ok (.iload 5, 2) := by decide +kernel
theorem dX2_kindBetween_64 : decode cX2_kindBetween 64 = .ok (.ifCond .ne 5, 3) := by decide +kernel
theorem dX2_kindBetween_67 : decode cX2_kindBetween 67 = .ok (.iconst 0, 1) := by decide +kernel
theorem dX2_kindBetween_68 : decode cX2_kindBetween 68 = .ok (.ireturn, 1) := by decide +kernel
theorem dX2_kindBetween_69 : decode cX2_kindBetween 69 = .ok (.iinc 4 1, 3) := by decide +kernel
theorem dX2_kindBetween_72 : decode cX2_kindBetween 72 = .ok (.goto (-44), 3) := by decide +kernel
theorem dX2_kindBetween_75 : decode cX2_kindBetween 75 = .ok (.iload_n 3, 1) := by decide +kernel
theorem dX2_kindBetween_76 : decode cX2_kindBetween 76 = .ok (.ifCond .eq 7, 3) := by decide +kernel
theorem dX2_kindBetween_79 : decode cX2_kindBetween 79 = .ok (.iconst 2, 1) := by decide +kernel
theorem dX2_kindBetween_80 : decode cX2_kindBetween 80 = .ok (.goto 4, 3) := by decide +kernel
theorem dX2_kindBetween_83 : decode cX2_kindBetween 83 = .ok (.iconst 1, 1) := by decide +kernel
theorem dX2_kindBetween_84 : decode cX2_kindBetween 84 = .ok (.ireturn, 1) := by decide +kernel
theorem dX2_isChangedAlike_0 : decode cX2_isChangedAlike 0 = .ok (.aload_n 0, 1) := by decide +kernel
theorem dX2_isChangedAlike_1 : decode cX2_isChangedAlike 1 = .ok (.getfield 12, 3) := by decide +kernel
theorem dX2_isChangedAlike_4 : decode cX2_isChangedAlike 4 = .ok (.aload_n 0, 1) := by decide +kernel
theorem dX2_isChangedAlike_5 : decode cX2_isChangedAlike 5 = .ok (.getfield 25, 3) := by decide +kernel
theorem dX2_isChangedAlike_8 : decode cX2_isChangedAlike 8 = .ok (.aload_n 0, 1) := by decide +kernel
theorem dX2_isChangedAlike_9 : decode cX2_isChangedAlike 9 = .ok (.getfield 25, 3) := by decide +kernel
theorem dX2_isChangedAlike_12 : decode cX2_isChangedAlike 12 = .ok (.iload_n 1, 1) := by decide +kernel
theorem dX2_isChangedAlike_13 : decode cX2_isChangedAlike 13 = .ok (.invokevirtual 74, 3) := by decide +kernel
theorem dX2_isChangedAlike_16 : decode cX2_isChangedAlike 16 = .ok (.iload_n 1, 1) := by decide +kernel
theorem dX2_isChangedAlike_17 : decode cX2_isChangedAlike 17 = .ok (.iload_n 3, 1) := by decide +kernel
theorem dX2_isChangedAlike_18 : decode cX2_isChangedAlike 18 = .ok (.iconst 0, 1) := by decide +kernel
theorem dX2_isChangedAlike_19 : decode cX2_isChangedAlike 19 = .ok (.invokevirtual 29, 3) := by decide +kernel
theorem dX2_isChangedAlike_22 : decode cX2_isChangedAlike 22 = .ok (.aload_n 0, 1) := by decide +kernel
theorem dX2_isChangedAlike_23 : decode cX2_isChangedAlike 23 = .ok (.getfield 18, 3) := by decide +kernel
theorem dX2_isChangedAlike_26 : decode cX2_isChangedAlike 26 = .ok (.aload_n 0, 1) := by decide +kernel
theorem dX2_isChangedAlike_27 : decode cX2_isChangedAlike 27 = .ok (.getfield 25, 3) := by decide +kernel
theorem dX2_isChangedAlike_30 : decode cX2_isChangedAlike 30 = .ok (.aload_n 0, 1) := by decide +kernel
theorem dX2_isChangedAlike_31 : decode cX2_isChangedAlike 31 = .ok (.getfield 25, 3) := by decide +kernel
theorem dX2_isChangedAlike_34 : decode cX2_isChangedAlike 34 = .ok (.iload_n 2, 1) := by decide +kernel
theorem dX2_isChangedAlike_35 : decode cX2_isChangedAlike 35 = .ok (.invokevirtual 74, 3) := by decide +kernel
theorem dX2_isChangedAlike_38 : decode cX2_isChangedAlike 38 = .ok (.iload_n 2, 1) := by decide +kernel
theorem dX2_isChangedAlike_39 : decode cX2_isChangedAlike 39 = .ok (.iload_n 3, 1) := by decide +kernel
theorem dX2_isChangedAlike_40 : decode cX2_isChangedAlike 40 = .ok (.iconst 0, 1) := by decide +kernel
theorem dX2_isChangedAlike_41 : decode cX2_isChangedAlike 41 = .ok (.invokevirtual 29, 3) := by decide +kernel
theorem dX2_isChangedAlike_44 : decode cX2_isChangedAlike 44 = .ok (.aload_n 0, 1) := by decide +kernel
theorem dX2_isChangedAlike_45 : decode cX2_isChangedAlike 45 = .ok (.getfield 12, 3) := by decide +kernel
theorem dX2_isChangedAlike_48 : decode cX2_isChangedAlike 48 = .ok (.aload_n 0, 1) := by decide +kernel
theorem dX2_isChangedAlike_49 : decode cX2_isChangedAlike 49 = .ok (.getfield 18, 3) := by decide +kernel
theorem dX2_isChangedAlike_52 : decode cX2_isChangedAlike 52 = .ok (.invokevirtual 84, 3) := by decide +kernel
theorem dX2_isChangedAlike_55 : decode cX2_isChangedAlike 55 = .ok (.ireturn, 1) := by decide +kernel
theorem dX2_findLeft_0 : decode cX2_findLeft 0 = .ok (.aload_n 0, 1) := by decide +kernel
theorem dX2_findLeft_1 : decode cX2_findLeft 1 = .ok (.getfield 12, 3) := by decide +kernel
theorem dX2_findLeft_4 : decode cX2_findLeft 4 = .ok (.aload_n 0, 1) := by decide +kernel
theorem dX2_findLeft_5 : decode cX2_findLeft 5 = .ok (.getfield 25, 3) := by decide +kernel
theorem dX2_findLeft_8 : decode cX2_findLeft 8 = .ok (.iload_n 1, 1) := by decide +kernel
theorem dX2_findLeft_9 : decode cX2_findLeft 9 = .ok (.iload_n 2, 1) := by decide +kernel
theorem dX2_findLeft_10 : decode cX2_findLeft 10 = .ok (.iload_n 3, 1) := by decide +kernel
theorem dX2_findLeft_11 : decode cX2_findLeft 11 = .ok (.iload 4, 2) := by decide +kernel
theorem dX2_findLeft_13 : decode cX2_findLeft 13 = .ok (.invokevirtual 29, 3) := by decide +kernel
theorem dX2_findLeft_16 : decode cX2_findLeft 16 = .ok (.aload_n 0, 1) := by decide +kernel
theorem dX2_findLeft_17 : decode cX2_findLeft 17 = .ok (.getfield 18, 3) := by decide +kernel
theorem dX2_findLeft_20 : decode cX2_findLeft 20 = .ok (.aload_n 0, 1) := by decide +kernel
theorem dX2_findLeft_21 : decode cX2_findLeft 21 = .ok (.getfield 25, 3) := by decide +kernel
theorem dX2_findLeft_24 : decode cX2_findLeft 24 = .ok (.aload_n 0, 1) := by decide +kernel
theorem dX2_findLeft_25 : decode cX2_findLeft 25 = .ok (.getfield 25, 3) := by decide +kernel
theorem dX2_findLeft_28 : decode cX2_findLeft 28 = .ok (.iload_n 1, 1) := by decide +kernel
theorem dX2_findLeft_29 : decode cX2_findLeft 29 = .ok (.invokevirtual 74, 3) := by decide +kernel
theorem dX2_findLeft_32 : decode cX2_findLeft 32 = .ok (.aload_n 0, 1) := by decide +kernel
theorem dX2_findLeft_33 : decode cX2_findLeft 33 = .ok (.getfield 25, 3) := by decide +kernel
theorem dX2_findLeft_36 : decode cX2_findLeft 36 = .ok (.iload_n 2, 1) := by decide +kernel
theorem dX2_findLeft_37 : decode cX2_findLeft 37 = .ok (.invokevirtual 74, 3) := by decide +kernel
theorem dX2_findLeft_40 : decode cX2_findLeft 40 = .ok (.iload_n 3, 1) := by decide +kernel
theorem dX2_findLeft_41 : decode cX2_findLeft 41 = .ok (.iload 4, 2) := by decide +kernel
theorem dX2_findLeft_43 : decode cX2_findLeft 43 = .ok (.invokevirtual 29, 3) := by decide +kernel
theorem dX2_findLeft_46 : decode cX2_findLeft 46 = .ok (.iconst 0, 1) := by decide +kernel
theorem dX2_findLeft_47 : decode cX2_findLeft 47 = .ok (.istore 5, 2) := by decide +kernel
theorem dX2_findLeft_49 : decode cX2_findLeft 49 = .ok (.iconst 0, 1) := by decide +kernel
theorem dX2_findLeft_50 : decode cX2_findLeft 50 = .ok (.istore 6, 2) := by decide +kernel
theorem dX2_findLeft_52 : decode cX2_findLeft 52 = .ok (.iload 6, 2) := by decide +kernel
theorem dX2_findLeft_54 : decode cX2_findLeft 54 = .ok (.aload_n 0, 1) := by decide +kernel
theorem dX2_findLeft_55 : decode cX2_findLeft 55 = .ok (.getfield 12, 3) := by decide +kernel
theorem dX2_findLeft_58 : decode cX2_findLeft 58 = .ok (.getfield 87, 3) := by decide +kernel
theorem dX2_findLeft_61 : decode cX2_findLeft 61 = .ok (.if_icmp .ge 37, 3) := by decide +kernel
theorem dX2_findLeft_64 : decode cX2_findLeft 64 = .ok (.aload_n 0, 1) := by decide +kernel
theorem dX2_findLeft_65 : decode cX2_findLeft 65 = .ok (.getfield 18, 3) := by decide +kernel
theorem dX2_findLeft_68 : decode cX2_findLeft 68 = .ok (.aload_n 0, 1) := by decide +kernel
theorem dX2_findLeft_69 : decode cX2_findLeft 69 = .ok (.getfield 12, 3) := by decide +kernel
theorem dX2_findLeft_72 : decode cX2_findLeft 72 = .ok (.iload 6, 2) := by decide +kernel
theorem dX2_findLeft_74 : decode cX2_findLeft 74 = .ok (.invokevirtual 90, 3) := by decide +kernel
theorem dX2_findLeft_77 : decode cX2_findLeft 77 = .ok (.ifCond .ne 15, 3) := by decide +kernel
theorem dX2_findLeft_80 : decode cX2_findLeft 80 = .ok (.aload_n 0, 1) := by decide +kernel
theorem dX2_findLeft_81 : decode cX2_findLeft 81 = .ok (.getfield 21, 3) := by decide +kernel
theorem dX2_findLeft_84 : decode cX2_findLeft 84 = .ok (.iload 5, 2) := by decide +kernel
theorem dX2_findLeft_86 : decode cX2_findLeft 86 = .ok (.iload 6, 2) := by decide +kernel
theorem dX2_findLeft_88 : decode cX2_findLeft 88 = .ok (.iastore, 1) := by decide +kernel
theorem dX2_findLeft_89 : decode cX2_findLeft 89 = .ok (.iinc 5 1, 3) := by decide +kernel
theorem dX2_findLeft_92 : decode cX2_findLeft 92 = .ok (.iinc 6 1, 3) := by decide +kernel
theorem dX2_findLeft_95 : decode cX2_findLeft 95 = .ok (.goto (-43), 3) := by decide +kernel
theorem dX2_findLeft_98 : decode cX2_findLeft 98 = .ok (.iload 5, 2) := by decide +kernel
theorem dX2_findLeft_100 : decode cX2_findLeft 100 = .ok (.ireturn, 1) := by decide +kernel
theorem dX2_tellLeft_0 : decode cX2_tellLeft 0 = .ok (.aload_n 0, 1) := by decide +kernel
theorem dX2_tellLeft_1 : decode cX2_tellLeft 1 = .ok (.getfield 21, 3) := by decide +kernel
theorem dX2_tellLeft_4 : decode cX2_tellLeft 4 = .ok (.iload_n 1, 1) := by decide +kernel
theorem dX2_tellLeft_5 : decode cX2_tellLeft 5 = .ok (.invokestatic 94, 3) := by decide +kernel
theorem dX2_tellLeft_8 : decode cX2_tellLeft 8 = .ok (.istore_n 2, 1) := by decide +kernel
theorem dX2_tellLeft_9 : decode cX2_tellLeft 9 = .ok (.iload_n 2, 1) := by decide +kernel
theorem dX2_tellLeft_10 : decode cX2_tellLeft 10 = .ok (.ifCond .lt 14, 3) := by decide +kernel
theorem dX2_tellLeft_13 : decode cX2_tellLeft 13 = .ok (.iload_n 2, 1) := by decide +kernel
theorem dX2_tellLeft_14 : decode cX2_tellLeft 14 = .ok (.aload_n 0, 1) := by decide +kernel
theorem dX2_tellLeft_15 : decode cX2_tellLeft 15 = .ok (.getfield 12, 3) := by decide +kernel
theorem dX2_tellLeft_18 : decode cX2_tellLeft 18 = .ok (.getfield 87, 3) := by decide +kernel
theorem dX2_tellLeft_21 : decode cX2_tellLeft 21 = .ok (.if_icmp .lt 5, 3) := by decide +kernel
theorem dX2_tellLeft_24 : decode cX2_tellLeft 24 = .ok (.iconst (-1), 1) := by decide +kernel
theorem dX2_tellLeft_25 : decode cX2_tellLeft 25 = .ok (.ireturn, 1) := by decide +kernel
theorem dX2_tellLeft_26 : decode cX2_tellLeft 26 = .ok (.ldc 98, 2) := by decide +kernel
theorem dX2_tellLeft_28 : decode cX2_tellLeft 28 = .ok (.aload_n 0, 1) := by decide +kernel
theorem dX2_tellLeft_29 : decode cX2_tellLeft 29 = .ok (.getfield 12, 3) := by decide +kernel
theorem dX2_tellLeft_32 : decode cX2_tellLeft 32 = .ok (.getfield 99, 3) := by decide +kernel
theorem dX2_tellLeft_35 : decode cX2_tellLeft 35 = .ok (.iload_n 2, 1) := by decide +kernel
theorem dX2_tellLeft_36 : decode cX2_tellLeft 36 = .ok (.iaload, 1) := by decide +kernel
theorem dX2_tellLeft_37 : decode cX2_tellLeft 37 = .ok (.imul, 1) := by decide +kernel
theorem dX2_tellLeft_38 : decode cX2_tellLeft 38 = .ok (.sipush 10000, 3) := by decide +kernel
theorem dX2_tellLeft_41 : decode cX2_tellLeft 41 = .ok (.aload_n 0, 1) := by decide +kernel
theorem dX2_tellLeft_42 : decode cX2_tellLeft 42 = .ok (.getfield 12, 3) := by decide +kernel
theorem dX2_tellLeft_45 : decode cX2_tellLeft 45 = .ok (.getfield 55, 3) := by decide +kernel
theorem dX2_tellLeft_48 : decode cX2_tellLeft 48 = .ok (.iload_n 2, 1) := by decide +kernel
theorem dX2_tellLeft_49 : decode cX2_tellLeft 49 = .ok (.iaload, 1) := by decide +kernel
theorem dX2_tellLeft_50 : decode cX2_tellLeft 50 = .ok (.imul, 1) := by decide +kernel
theorem dX2_tellLeft_51 : decode cX2_tellLeft 51 = .ok (.iadd, 1) := by decide +kernel
theorem dX2_tellLeft_52 : decode cX2_tellLeft 52 = .ok (.bipush 100, 2) := by decide +kernel
theorem dX2_tellLeft_54 : decode cX2_tellLeft 54 = .ok (.aload_n 0, 1) := by decide +kernel
theorem dX2_tellLeft_55 : decode cX2_tellLeft 55 = .ok (.getfield 12, 3) := by decide +kernel
theorem dX2_tellLeft_58 : decode cX2_tellLeft 58 = .ok (.getfield 64, 3) := by decide +kernel
theorem dX2_tellLeft_61 : decode cX2_tellLeft 61 = .ok (.iload_n 2, 1) := by decide +kernel
theorem dX2_tellLeft_62 : decode cX2_tellLeft 62 = .ok (.iaload, 1) := by decide +kernel
theorem dX2_tellLeft_63 : decode cX2_tellLeft 63 = .ok (.imul, 1) := by decide +kernel
theorem dX2_tellLeft_64 : decode cX2_tellLeft 64 = .ok (.iadd, 1) := by decide +kernel
theorem dX2_tellLeft_65 : decode cX2_tellLeft 65 = .ok (.aload_n 0, 1) := by decide +kernel
theorem dX2_tellLeft_66 : decode cX2_tellLeft 66 = .ok (.getfield 12, 3) := by decide +kernel
theorem dX2_tellLeft_69 : decode cX2_tellLeft 69 = .ok (.getfield 58, 3) := by decide +kernel
theorem dX2_tellLeft_72 : decode cX2_tellLeft 72 = .ok (.iload_n 2, 1) := by decide +kernel
theorem dX2_tellLeft_73 : decode cX2_tellLeft 73 = .ok (.iaload, 1) := by decide +kernel
theorem dX2_tellLeft_74 : decode cX2_tellLeft 74 = .ok (.iadd, 1) := by decide +kernel
theorem dX2_tellLeft_75 : decode cX2_tellLeft 75 = .ok (.ireturn, 1) := by decide +kernel
theorem dX2_follow_0 : decode cX2_follow 0 = .ok (.aload_n 0, 1) := by decide +kernel
theorem dX2_follow_1 : decode cX2_follow 1 = .ok (.getfield 12, 3) := by decide +kernel
theorem dX2_follow_4 : decode cX2_follow 4 = .ok (.aload_n 0, 1) := by decide +kernel
theorem dX2_follow_5 : decode cX2_follow 5 = .ok (.getfield 25, 3) := by decide +kernel
theorem dX2_follow_8 : decode cX2_follow 8 = .ok (.iload_n 2, 1) := by decide +kernel
theorem dX2_follow_9 : decode cX2_follow 9 = .ok (.iload_n 3, 1) := by decide +kernel
theorem dX2_follow_10 : decode cX2_follow 10 = .ok (.iload 4, 2) := by decide +kernel
theorem dX2_follow_12 : decode cX2_follow 12 = .ok (.iconst 0, 1) := by decide +kernel
theorem dX2_follow_13 : decode cX2_follow 13 = .ok (.invokevirtual 29, 3) := by decide +kernel
theorem dX2_follow_16 : decode cX2_follow 16 = .ok (.iconst 0, 1) := by decide +kernel
theorem dX2_follow_17 : decode cX2_follow 17 = .ok (.istore 5, 2) := by decide +kernel
theorem dX2_follow_19 : decode cX2_follow 19 = .ok (.iconst 0, 1) := by decide +kernel
theorem dX2_follow_20 : decode cX2_follow 20 = .ok (.istore 6, 2) := by decide +kernel
theorem dX2_follow_22 : decode cX2_follow 22 = .ok (.iload 6, 2) := by decide +kernel
theorem dX2_follow_24 : decode cX2_follow 24 = .ok (.aload_n 0, 1) := by decide +kernel
theorem dX2_follow_25 : decode cX2_follow 25 = .ok (.getfield 12, 3) := by decide +kernel
theorem dX2_follow_28 : decode cX2_follow 28 = .ok (.getfield 47, 3) := by decide +kernel
theorem dX2_follow_31 : decode cX2_follow 31 = .ok (.if_icmp .ge 49, 3) := by decide +kernel
theorem dX2_follow_34 : decode cX2_follow 34 = .ok (.iload_n 1, 1) := by decide +kernel
theorem dX2_follow_35 : decode cX2_follow 35 = .ok (.iload 6, 2) := by decide +kernel
theorem dX2_follow_37 : decode cX2_follow 37 = .ok (.invokestatic 102, 3) := by decide +kernel
theorem dX2_follow_40 : decode cX2_follow 40 = .ok (.ifCond .eq 34, 3) := by decide +kernel
theorem dX2_follow_43 : decode cX2_follow 43 = .ok (.aload_n 0, 1) := by decide +kernel
theorem dX2_follow_44 : decode cX2_follow 44 = .ok (.getfield 12, 3) := by decide +kernel
theorem dX2_follow_47 : decode cX2_follow 47 = .ok (.getfield 105, 3) := by decide +kernel
theorem dX2_follow_50 : decode cX2_follow 50 = .ok (.iload 6, 2) := by decide +kernel
theorem dX2_follow_52 : decode cX2_follow 52 = .ok (.iaload, 1) := by decide +kernel
theorem dX2_follow_53 : decode cX2_follow 53 = .ok (.iconst (-1), 1) := by decide +kernel
theorem dX2_follow_54 : decode cX2_follow 54 = .ok (.if_icmp .eq 20, 3) := by decide +kernel
theorem dX2_follow_57 : decode cX2_follow 57 = .ok (.iload 5, 2) := by decide +kernel
theorem dX2_follow_59 : decode cX2_follow 59 = .ok (.iconst 1, 1) := by decide +kernel
theorem dX2_follow_60 : decode cX2_follow 60 = .ok (.aload_n 0, 1) := by decide +kernel
theorem dX2_follow_61 : decode cX2_follow 61 = .ok (.getfield 12, 3) := by decide +kernel
theorem dX2_follow_64 : decode cX2_follow 64 = .ok (.getfield 105, 3) := by decide +kernel
theorem dX2_follow_67 : decode cX2_follow 67 = .ok (.iload 6, 2) := by decide +kernel
theorem dX2_follow_69 : decode cX2_follow 69 = .ok (.iaload, 1) := by decide +kernel
theorem dX2_follow_70 : decode cX2_follow 70 = .ok (.ishl, 1) := by decide +kernel
theorem dX2_follow_71 : decode cX2_follow 71 = .ok (.ior, 1) := by decide +kernel
theorem dX2_follow_72 : decode cX2_follow 72 = .ok (.istore 5, 2) := by decide +kernel
theorem dX2_follow_74 : decode cX2_follow 74 = .ok (.iinc 6 1, 3) := by decide +kernel
theorem dX2_follow_77 : decode cX2_follow 77 = .ok (.goto (-55), 3) := by decide +kernel
theorem dX2_follow_80 : decode cX2_follow 80 = .ok (.iload 5, 2) := by decide +kernel
theorem dX2_follow_82 : decode cX2_follow 82 = .ok (.ireturn, 1) := by decide +kernel
theorem dX3_init_0 : decode cX3_init 0 = .ok (.aload_n 0, 1) := by decide +kernel
theorem dX3_init_1 : decode cX3_init 1 = .ok (.invokespecial 3, 3) := by decide +kernel
theorem dX3_init_4 : decode cX3_init 4 = .ok (.aload_n 0, 1) := by decide +kernel
theorem dX3_init_5 : decode cX3_init 5 = .ok (.bipush 10, 2) := by decide +kernel
theorem dX3_init_7 : decode cX3_init 7 = .ok (.newarray .int, 2) := by decide +kernel
theorem dX3_init_9 : decode cX3_init 9 = .ok (.putfield 9, 3) := by decide +kernel
theorem dX3_init_12 : decode cX3_init 12 = .ok (.aload_n 0, 1) := by decide +kernel
theorem dX3_init_13 : decode cX3_init 13 = .ok (.bipush 10, 2) := by decide +kernel
theorem dX3_init_15 : decode cX3_init 15 = .ok (.newarray .int, 2) := by decide +kernel
theorem dX3_init_17 : decode cX3_init 17 = .ok (.putfield 15, 3) := by decide +kernel
theorem dX3_init_20 : decode cX3_init 20 = .ok (.aload_n 0, 1) := by decide +kernel
theorem dX3_init_21 : decode cX3_init 21 = .ok (.bipush 121, 2) := by decide +kernel
theorem dX3_init_23 : decode cX3_init 23 = .ok (.newarray .int, 2) := by decide +kernel
theorem dX3_init_25 : decode cX3_init 25 = .ok (.putfield 18, 3) := by decide +kernel
theorem dX3_init_28 : decode cX3_init 28 = .ok (.aload_n 0, 1) := by decide +kernel
theorem dX3_init_29 : decode cX3_init 29 = .ok (.bipush 10, 2) := by decide +kernel
theorem dX3_init_31 : decode cX3_init 31 = .ok (.newarray .int, 2) := by decide +kernel
theorem dX3_init_33 : decode cX3_init 33 = .ok (.putfield 21, 3) := by decide +kernel
theorem dX3_init_36 : decode cX3_init 36 = .ok (.aload_n 0, 1) := by decide +kernel
theorem dX3_init_37 : decode cX3_init 37 = .ok (.bipush 11, 2) := by decide +kernel
theorem dX3_init_39 : decode cX3_init 39 = .ok (.newarray .int, 2) := by decide +kernel
theorem dX3_init_41 : decode cX3_init 41 = .ok (.putfield 24, 3) := by decide +kernel
theorem dX3_init_44 : decode cX3_init 44 = .ok (.aload_n 0, 1) := by decide +kernel
theorem dX3_init_45 : decode cX3_init 45 = .ok (.bipush 11, 2) := by decide +kernel
theorem dX3_init_47 : decode cX3_init 47 = .ok (.newarray .int, 2) := by decide +kernel
theorem dX3_init_49 : decode cX3_init 49 = .ok (.putfield 27, 3) := by decide +kernel
theorem dX3_init_52 : decode cX3_init 52 = .ok (.aload_n 0, 1) := by decide +kernel
theorem dX3_init_53 : decode cX3_init 53 = .ok (.bipush 11, 2) := by decide +kernel
theorem dX3_init_55 : decode cX3_init 55 = .ok (.newarray .int, 2) := by decide +kernel
theorem dX3_init_57 : decode cX3_init 57 = .ok (.putfield 30, 3) := by decide +kernel
theorem dX3_init_60 : decode cX3_init 60 = .ok (.aload_n 0, 1) := by decide +kernel
theorem dX3_init_61 : decode cX3_init 61 = .ok (.bipush 11, 2) := by decide +kernel
theorem dX3_init_63 : decode cX3_init 63 = .ok (.newarray .int, 2) := by decide +kernel
theorem dX3_init_65 : decode cX3_init 65 = .ok (.putfield 33, 3) := by decide +kernel
theorem dX3_init_68 : decode cX3_init 68 = .ok (.return_, 1) := by decide +kernel
theorem dX3_compare_0 : decode cX3_compare 0 = .ok (.aload_n 0, 1) := by decide +kernel
theorem dX3_compare_1 : decode cX3_compare 1 = .ok (.aload_n 1, 1) := by decide +kernel
theorem dX3_compare_2 : decode cX3_compare 2 = .ok (.iload_n 2, 1) := by decide +kernel
theorem dX3_compare_3 : decode cX3_compare 3 = .ok (.iload 4, 2) := by decide +kernel
theorem dX3_compare_5 : decode cX3_compare 5 = .ok (.iload 5, 2) := by decide +kernel
theorem dX3_compare_7 : decode cX3_compare 7 = .ok (.aload_n 0, 1) := by decide +kernel
theorem dX3_compare_8 : decode cX3_compare 8 = .ok (.getfield 9, 3) := by decide +kernel
theorem dX3_compare_11 : decode cX3_compare 11 = .ok (.invokestatic 36, 3) := by decide +kernel
theorem dX3_compare_14 : decode cX3_compare 14 = .ok (.putfield 40, 3) := by decide +kernel
theorem dX3_compare_17 : decode cX3_compare 17 = .ok (.aload_n 0, 1) := by decide +kernel
theorem dX3_compare_18 : decode cX3_compare 18 = .ok (.aload_n 1, 1) := by decide +kernel
theorem dX3_compare_19 : decode cX3_compare 19 = .ok (.iload_n 3, 1) := by decide +kernel
theorem dX3_compare_20 : decode cX3_compare 20 = .ok (.iload 4, 2) := by decide +kernel
theorem dX3_compare_22 : decode cX3_compare 22 = .ok (.iload 5, 2) := by decide +kernel
theorem dX3_compare_24 : decode cX3_compare 24 = .ok (.aload_n 0, 1) := by decide +kernel
theorem dX3_compare_25 : decode cX3_compare 25 = .ok (.getfield 15, 3) := by decide +kernel
theorem dX3_compare_28 : decode cX3_compare 28 = .ok (.invokestatic 36, 3) := by decide +kernel
theorem dX3_compare_31 : decode cX3_compare 31 = .ok (.putfield 44, 3) := by decide +kernel
theorem dX3_compare_34 : decode cX3_compare 34 = .ok (.aload_n 0, 1) := by decide +kernel
theorem dX3_compare_35 : decode cX3_compare 35 = .ok (.invokevirtual 47, 3) := by decide +kernel
theorem dX3_compare_38 : decode cX3_compare 38 = .ok (.aload_n 0, 1) := by decide +kernel
theorem dX3_compare_39 : decode cX3_compare 39 = .ok (.invokevirtual 50, 3) := by decide +kernel
theorem dX3_compare_42 : decode cX3_compare 42 = .ok (.aload_n 0, 1) := by decide +kernel
theorem dX3_compare_43 : decode cX3_compare 43 = .ok (.invokevirtual 53, 3) := by decide +kernel
theorem dX3_compare_46 : decode cX3_compare 46 = .ok (.return_, 1) := by decide +kernel
theorem dX3_readLines_0 : decode cX3_readLines 0 = .ok (.aload_n 0, 1) := by decide +kernel
theorem dX3_readLines_1 : decode cX3_readLines 1 = .ok (.iload_n 1, 1) := by decide +kernel
theorem dX3_readLines_2 : decode cX3_readLines 2 = .ok (.iload_n 2, 1) := by decide +kernel
theorem dX3_readLines_3 : decode cX3_readLines 3 = .ok (.invokevirtual 56, 3) := by decide +kernel
theorem dX3_readLines_6 : decode cX3_readLines 6 = .ok (.aload 4, 2) := by decide +kernel
theorem dX3_readLines_8 : decode cX3_readLines 8 = .ok (.arraylength, 1) := by decide +kernel
theorem dX3_readLines_9 : decode cX3_readLines 9 = .ok (.invokestatic 62, 3) := by decide +kernel
theorem dX3_readLines_12 : decode cX3_readLines 12 = .ok (.istore 5, 2) := by decide +kernel
theorem dX3_readLines_14 : decode cX3_readLines 14 = .ok (.iconst 0, 1) := by decide +kernel
theorem dX3_readLines_15 : decode cX3_readLines 15 = .ok (.istore 6, 2) := by decide +kernel
theorem dX3_readLines_17 : decode cX3_readLines 17 = .ok (.iload 6, 2) := by decide +kernel
theorem dX3_readLines_19 : decode cX3_readLines 19 = .ok (.iload 5, 2) := by decide +kernel
theorem dX3_readLines_21 : decode cX3_readLines 21 = .ok (.if_icmp .ge 38, 3) := by decide +kernel
theorem dX3_readLines_24 : decode cX3_readLines 24 = .ok (.aload_n 0, 1) := by decide +kernel
theorem dX3_readLines_25 : decode cX3_readLines 25 = .ok (.iload_n 1, 1) := by decide +kernel
theorem dX3_readLines_26 : decode cX3_readLines 26 = .ok (.iload_n 2, 1) := by decide +kernel
theorem dX3_readLines_27 : decode cX3_readLines 27 = .ok (.iload 6, 2) := by decide +kernel
theorem dX3_readLines_29 : decode cX3_readLines 29 = .ok (.invokevirtual 67, 3) := by decide +kernel
theorem dX3_readLines_32 : decode cX3_readLines 32 = .ok (.istore 7, 2) := by decide +kernel
theorem dX3_readLines_34 : decode cX3_readLines 34 = .ok (.aload 4, 2) := by decide +kernel
theorem dX3_readLines_36 : decode cX3_readLines 36 = .ok (.iload 6, 2) := by decide +kernel
theorem dX3_readLines_38 : decode cX3_readLines 38 = .ok (.iload_n 3, 1) := by decide +kernel
theorem dX3_readLines_39 : decode cX3_readLines 39 = .ok (.ifCond .eq 11, 3) := by decide +kernel
theorem dX3_readLines_42 : decode cX3_readLines 42 = .ok (.iload 7, 2) := by decide +kernel
theorem dX3_readLines_44 : decode cX3_readLines 44 = .ok (.bipush 100, 2) := by decide +kernel
theorem dX3_readLines_46 : decode cX3_readLines 46 = .ok (.irem, 1) := by decide +kernel
theorem dX3_readLines_47 : decode cX3_readLines 47 = .ok (.goto 5, 3) := by decide +kernel
theorem dX3_readLines_50 : decode cX3_readLines 50 = .ok (.iload 7, 2) := by decide +kernel
theorem dX3_readLines_52 : decode cX3_readLines 52 = .ok (.iastore, 1) := by decide +kernel
theorem dX3_readLines_53 : decode cX3_readLines 53 = .ok (.iinc 6 1, 3) := by decide +kernel
theorem dX3_readLines_56 : decode cX3_readLines 56 = .ok (.goto (-39), 3) := by decide +kernel
theorem dX3_readLines_59 : decode cX3_readLines 59 = .ok (.iload 5, 2) := by decide +kernel
theorem dX3_readLines_61 : decode cX3_readLines 61 = .ok (.ireturn, 1) := by decide +kernel
theorem dX3_countPairs_0 : decode cX3_countPairs 0 = .ok (.aload_n 0, 1) := by decide +kernel
theorem dX3_countPairs_1 : decode cX3_countPairs 1 = .ok (.getfield 40, 3) := by decide +kernel
theorem dX3_countPairs_4 : decode cX3_countPairs 4 = .ok (.istore_n 1, 1) := by decide +kernel
theorem dX3_countPairs_5 : decode cX3_countPairs 5 = .ok (.iload_n 1, 1) := by decide +kernel
theorem dX3_countPairs_6 : decode cX3_countPairs 6 = .ok (.ifCond .lt 119, 3) := by decide +kernel
theorem dX3_countPairs_9 : decode cX3_countPairs 9 = .ok (.aload_n 0, 1) := by decide +kernel
theorem dX3_countPairs_10 : decode cX3_countPairs 10 = .ok (.getfield 44, 3) := by decide +kernel
theorem dX3_countPairs_13 : decode cX3_countPairs 13 = .ok (.istore_n 2, 1) := by decide +kernel
theorem dX3_countPairs_14 : decode cX3_countPairs 14 = .ok (.iload_n 2, 1) := by decide +kernel
theorem dX3_countPairs_15 : decode cX3_countPairs 15 = .ok (.ifCond .lt 104, 3) := by decide +kernel
theorem dX3_countPairs_18 : decode cX3_countPairs 18 = .ok (.iconst 0, 1) := by decide +kernel
theorem dX3_countPairs_19 : decode cX3_countPairs 19 = .ok (.istore_n 3, 1) := by decide +kernel
theorem dX3_countPairs_20 : decode cX3_countPairs 20 = .ok (.iload_n 1, 1) := by decide +kernel
theorem dX3_countPairs_21 : decode cX3_countPairs 21 = .ok (.aload_n 0, 1) := by decide +kernel
theorem dX3_countPairs_22 : decode cX3_countPairs 22 = .ok (.getfield 40, 3) := by decide +kernel
theorem dX3_countPairs_25 : decode cX3_countPairs 25 = .ok (.if_icmp .ge 76, 3) := by decide +kernel
theorem dX3_countPairs_28 : decode cX3_countPairs 28 = .ok (.iload_n 2, 1) := by decide +kernel
theorem dX3_countPairs_29 : decode cX3_countPairs 29 = .ok (.aload_n 0, 1) := by decide +kernel
theorem dX3_countPairs_30 : decode cX3_countPairs 30 = .ok (.getfield 44, 3) := by decide +kernel
theorem dX3_countPairs_33 : decode cX3_countPairs 33 = .ok (.if_icmp .ge 68, 3) := by decide +kernel
theorem dX3_countPairs_36 : decode cX3_countPairs 36 = .ok (.aload_n 0, 1) := by decide +kernel
theorem dX3_countPairs_37 : decode cX3_countPairs 37 = .ok (.getfield 9, 3) := by decide +kernel
theorem dX3_countPairs_40 : decode cX3_countPairs 40 = .ok (.iload_n 1, 1) := by decide +kernel
theorem dX3_countPairs_41 : decode cX3_countPairs 41 = .ok (.iaload, 1) := by decide +kernel
theorem dX3_countPairs_42 : decode cX3_countPairs 42 = .ok (.aload_n 0, 1) := by decide +kernel
theorem dX3_countPairs_43 : decode cX3_countPairs 43 = .ok (.getfield 15, 3) := by decide +kernel
theorem dX3_countPairs_46 : decode cX3_countPairs 46 = .ok (.iload_n 2, 1) := by decide +kernel
theorem dX3_countPairs_47 : decode cX3_countPairs 47 = .ok (.iaload, 1) := by decide +kernel
theorem dX3_countPairs_48 : decode cX3_countPairs 48 = .ok (.if_icmp .ne 23, 3) := by decide +kernel
theorem dX3_countPairs_51 : decode cX3_countPairs 51 = .ok (.aload_n 0, 1) := by decide +kernel
theorem dX3_countPairs_52 : decode cX3_countPairs 52 = .ok (.getfield 18, 3) := by decide +kernel
theorem dX3_countPairs_55 : decode cX3_countPairs 55 = .ok (.iload_n 1, 1) := by decide +kernel
theorem dX3_countPairs_56 : decode cX3_countPairs 56 = .ok (.iconst 1, 1) := by decide +kernel
theorem dX3_countPairs_57 : decode cX3_countPairs 57 = .ok (.iadd, 1) := by decide +kernel
theorem dX3_countPairs_58 : decode cX3_countPairs 58 = .ok (.bipush 11, 2) := by decide +kernel
theorem dX3_countPairs_60 : decode cX3_countPairs 60 = .ok (.imul, 1) := by decide +kernel
theorem dX3_countPairs_61 : decode cX3_countPairs 61 = .ok (.iload_n 2, 1) := by decide +kernel
theorem dX3_countPairs_62 : decode cX3_countPairs 62 = .ok (.iadd, 1) := by decide +kernel
theorem dX3_countPairs_63 : decode cX3_countPairs 63 = .ok (.iconst 1, 1) := by decide +kernel
theorem dX3_countPairs_64 : decode cX3_countPairs 64 = .ok (.iadd, 1) := by decide +kernel
theorem dX3_countPairs_65 : decode cX3_countPairs 65 = .ok (.iaload, 1) := by decide +kernel
theorem dX3_countPairs_66 : decode cX3_countPairs 66 = .ok (.iconst 1, 1) := by decide +kernel
theorem dX3_countPairs_67 : decode cX3_countPairs 67 = .ok (.iadd, 1) := by decide +kernel
theorem dX3_countPairs_68 : decode cX3_countPairs 68 = .ok (.goto 32, 3) := by decide +kernel
theorem dX3_countPairs_71 : decode cX3_countPairs 71 = .ok (.aload_n 0, 1) := by decide +kernel
theorem dX3_countPairs_72 : decode cX3_countPairs 72 = .ok (.getfield 18, 3) := by decide +kernel
theorem dX3_countPairs_75 : decode cX3_countPairs 75 = .ok (.iload_n 1, 1) := by decide +kernel
theorem dX3_countPairs_76 : decode cX3_countPairs 76 = .ok (.iconst 1, 1) := by decide +kernel
theorem dX3_countPairs_77 : decode cX3_countPairs 77 = .ok (.iadd, 1) := by decide +kernel
theorem dX3_countPairs_78 : decode cX3_countPairs 78 = .ok (.bipush 11, 2) := by decide +kernel
theorem dX3_countPairs_80 : decode cX3_countPairs 80 = .ok (.imul, 1) := by decide +kernel
theorem dX3_countPairs_81 : decode cX3_countPairs 81 = .ok (.iload_n 2, 1) := by decide +kernel
theorem dX3_countPairs_82 : decode cX3_countPairs 82 = .ok (.iadd, 1) := by decide +kernel
theorem dX3_countPairs_83 : decode cX3_countPairs 83 = .ok (.iaload, 1) := by decide +kernel
theorem dX3_countPairs_84 : decode cX3_countPairs 84 = .ok (.aload_n 0, 1) := by decide +kernel
theorem dX3_countPairs_85 : decode cX3_countPairs 85 = .ok (.getfield 18, 3) := by decide +kernel
theorem dX3_countPairs_88 : decode cX3_countPairs 88 = .ok (.iload_n 1, 1) := by decide +kernel
theorem dX3_countPairs_89 : decode cX3_countPairs 89 = .ok (.bipush 11, 2) := by decide +kernel
theorem dX3_countPairs_91 : decode cX3_countPairs 91 = .ok (.imul, 1) := by decide +kernel
theorem dX3_countPairs_92 : decode cX3_countPairs 92 = .ok (.iload_n 2, 1) := by decide +kernel
theorem dX3_countPairs_93 : decode cX3_countPairs 93 = .ok (.iadd, 1) := by decide +kernel
theorem dX3_countPairs_94 : decode cX3_countPairs 94 = .ok (.iconst 1, 1) := by decide +kernel
theorem dX3_countPairs_95 : decode cX3_countPairs 95 = .ok (.iadd, 1) := by decide +kernel
theorem dX3_countPairs_96 : decode cX3_countPairs 96 = .ok (.iaload, 1) := by decide +kernel
theorem dX3_countPairs_97 : decode cX3_countPairs 97 = .ok (.invokestatic 71, 3) := by decide +kernel
theorem dX3_countPairs_100 : decode cX3_countPairs 100 = .ok (.istore_n 3, 1) := by decide +kernel
theorem dX3_countPairs_101 : decode cX3_countPairs 101 = .ok (.aload_n 0, 1) := by decide +kernel
theorem dX3_countPairs_102 : decode cX3_countPairs 102 = .ok (.getfield 18, 3) := by decide +kernel
theorem dX3_countPairs_105 : decode cX3_countPairs 105 = .ok (.iload_n 1, 1) := by decide +kernel
theorem dX3_countPairs_106 : decode cX3_countPairs 106 = .ok (.bipush 11, 2) := by decide +kernel
theorem dX3_countPairs_108 : decode cX3_countPairs 108 = .ok (.imul, 1) := by decide +kernel
theorem dX3_countPairs_109 : decode cX3_countPairs 109 = .ok (.iload_n 2, 1) := by decide +kernel
theorem dX3_countPairs_110 : decode cX3_countPairs 110 = .ok (.iadd, 1) := by decide +kernel
theorem dX3_countPairs_111 : decode cX3_countPairs 111 = .ok (.iload_n 3, 1) := by decide +kernel
theorem dX3_countPairs_112 : decode cX3_countPairs 112 = .ok (.iastore, 1) := by decide +kernel
theorem dX3_countPairs_113 : decode cX3_countPairs 113 = .ok (.iinc 2 (-1), 3) := by decide +kernel
theorem dX3_countPairs_116 : decode cX3_countPairs 116 = .ok (.goto (-102), 3) := by decide +kernel
theorem dX3_countPairs_119 : decode cX3_countPairs 119 = .ok (.iinc 1 (-1), 3) := by decide +kernel
theorem dX3_countPairs_122 : decode cX3_countPairs 122 = .ok (.goto (-117), 3) := by decide +kernel
theorem dX3_countPairs_125 : decode cX3_countPairs 125 = .ok (.return_, 1) := by decide +kernel
theorem dX3_pairLines_0 : decode cX3_pairLines 0 = .ok (.aload_n 0, 1) := by decide +kernel
theorem dX3_pairLines_1 : decode cX3_pairLines 1 = .ok (.getfield 21, 3) := by decide +kernel
theorem dX3_pairLines_4 : decode cX3_pairLines 4 = .ok (.iconst (-1), 1) := by decide +kernel
theorem dX3_pairLines_5 : decode cX3_pairLines 5 = .ok (.invokestatic 74, 3) := by decide +kernel
theorem dX3_pairLines_8 : decode cX3_pairLines 8 = .ok (.iconst 0, 1) := by decide +kernel
theorem dX3_pairLines_9 : decode cX3_pairLines 9 = .ok (.istore_n 1, 1) := by decide +kernel
theorem dX3_pairLines_10 : decode cX3_pairLines 10 = .ok (.iconst 0, 1) := by decide +kernel
theorem dX3_pairLines_11 : decode cX3_pairLines 11 = .ok (.istore_n 2, 1) := by decide +kernel
theorem dX3_pairLines_12 : decode cX3_pairLines 12 = .ok (.iconst 0, 1) := by decide +kernel
theorem dX3_pairLines_13 : decode cX3_pairLines 13 = .ok (.istore_n 3, 1) := by decide +kernel
theorem dX3_pairLines_14 : decode cX3_pairLines 14 = .ok (.iload_n 3, 1) := by decide +kernel
theorem dX3_pairLines_15 : decode cX3_pairLines 15 = .ok (.bipush 20, 2) := by decide +kernel
theorem dX3_pairLines_17 : decode cX3_pairLines 17 = .ok (.if_icmp .ge 92, 3) := by decide +kernel
theorem dX3_pairLines_20 : decode cX3_pairLines 20 = .ok (.iload_n 1, 1) := by decide +kernel
theorem dX3_pairLines_21 : decode cX3_pairLines 21 = .ok (.aload_n 0, 1) := by decide +kernel
theorem dX3_pairLines_22 : decode cX3_pairLines 22 = .ok (.getfield 40, 3) := by decide +kernel
theorem dX3_pairLines_25 : decode cX3_pairLines 25 = .ok (.if_icmp .ge 84, 3) := by decide +kernel
theorem dX3_pairLines_28 : decode cX3_pairLines 28 = .ok (.iload_n 2, 1) := by decide +kernel
theorem dX3_pairLines_29 : decode cX3_pairLines 29 = .ok (.aload_n 0, 1) := by decide +kernel
theorem dX3_pairLines_30 : decode cX3_pairLines 30 = .ok (.getfield 44, 3) := by decide +kernel
theorem dX3_pairLines_33 : decode cX3_pairLines 33 = .ok (.if_icmp .ge 76, 3) := by decide +kernel
theorem dX3_pairLines_36 : decode cX3_pairLines 36 = .ok (.aload_n 0, 1) := by decide +kernel
theorem dX3_pairLines_37 : decode cX3_pairLines 37 = .ok (.getfield 9, 3) := by decide +kernel
theorem dX3_pairLines_40 : decode cX3_pairLines 40 = .ok (.iload_n 1, 1) := by decide +kernel
theorem dX3_pairLines_41 : decode cX3_pairLines 41 = .ok (.iaload, 1) := by decide +kernel
theorem dX3_pairLines_42 : decode cX3_pairLines 42 = .ok (.aload_n 0, 1) := by decide +kernel
theorem dX3_pairLines_43 : decode cX3_pairLines 43 = .ok (.getfield 15, 3) := by decide +kernel
theorem dX3_pairLines_46 : decode cX3_pairLines 46 = .ok (.iload_n 2, 1) := by decide +kernel
theorem dX3_pairLines_47 : decode cX3_pairLines 47 = .ok (.iaload, 1) := by decide +kernel
theorem dX3_pairLines_48 : decode cX3_pairLines 48 = .ok (.if_icmp .ne 19, 3) := by decide +kernel
theorem dX3_pairLines_51 : decode cX3_pairLines 51 = .ok (.aload_n 0, 1) := by decide +kernel
theorem dX3_pairLines_52 : decode cX3_pairLines 52 = .ok (.getfield 21, 3) := by decide +kernel
theorem dX3_pairLines_55 : decode cX3_pairLines 55 = .ok (.iload_n 1, 1) := by decide +kernel
theorem dX3_pairLines_56 : decode cX3_pairLines 56 = .ok (.iload_n 2, 1) := by decide +kernel
theorem dX3_pairLines_57 : decode cX3_pairLines 57 = .ok (.iastore, 1) := by decide +kernel
theorem dX3_pairLines_58 : decode cX3_pairLines 58 = .ok (.iinc 1 1, 3) := by decide +kernel
theorem dX3_pairLines_61 : decode cX3_pairLines 61 = .ok (.iinc 2 1, 3) := by decide +kernel
theorem dX3_pairLines_64 : decode cX3_pairLines 64 = .ok (.goto 39, 3) := by decide +kernel
theorem dX3_pairLines_67 : decode cX3_pairLines 67 = .ok (.aload_n 0, 1) := by decide +kernel
theorem dX3_pairLines_68 : decode cX3_pairLines 68 = .ok (.getfield 18, 3) := by decide +kernel
theorem dX3_pairLines_71 : decode cX3_pairLines 71 = .ok (.iload_n 1, 1) := by decide +kernel
theorem dX3_pairLines_72 : decode cX3_pairLines 72 = .ok (.iconst 1, 1) := by decide +kernel
theorem dX3_pairLines_73 : decode cX3_pairLines 73 = .ok (.iadd, 1) := by decide +kernel
theorem dX3_pairLines_74 : decode cX3_pairLines 74 = .ok (.bipush 11, 2) := by decide +kernel
theorem dX3_pairLines_76 : decode cX3_pairLines 76 = .ok (.imul, 1) := by decide +kernel
theorem dX3_pairLines_77 : decode cX3_pairLines 77 = .ok (.iload_n 2, 1) := by decide +kernel
theorem dX3_pairLines_78 : decode cX3_pairLines 78 = .ok (.iadd, 1) := by decide +kernel
theorem dX3_pairLines_79 : decode cX3_pairLines 79 = .ok (.iaload, 1) := by decide +kernel
theorem dX3_pairLines_80 : decode cX3_pairLines 80 = .ok (.aload_n 0, 1) := by decide +kernel
theorem dX3_pairLines_81 : decode cX3_pairLines 81 = .ok (.getfield 18, 3) := by decide +kernel
theorem dX3_pairLines_84 : decode cX3_pairLines 84 = .ok (.iload_n 1, 1) := by decide +kernel
theorem dX3_pairLines_85 : decode cX3_pairLines 85 = .ok (.bipush 11, 2) := by decide +kernel
theorem dX3_pairLines_87 : decode cX3_pairLines 87 = .ok (.imul, 1) := by decide +kernel
theorem dX3_pairLines_88 : decode cX3_pairLines 88 = .ok (.iload_n 2, 1) := by decide +kernel
theorem dX3_pairLines_89 : decode cX3_pairLines 89 = .ok (.iadd, 1) := by decide +kernel
theorem dX3_pairLines_90 : decode cX3_pairLines 90 = .ok (.iaload, 1) := by decide +kernel
theorem dX3_pairLines_91 : decode cX3_pairLines 91 = .ok (.if_icmp .ne 9, 3) := by decide +kernel
theorem dX3_pairLines_94 : decode cX3_pairLines 94 = .ok (.iinc 1 1, 3) := by decide +kernel
theorem dX3_pairLines_97 : decode cX3_pairLines 97 = .ok (.goto 6, 3) := by decide +kernel
theorem dX3_pairLines_100 : decode cX3_pairLines 100 = .ok (.iinc 2 1, 3) := by decide +kernel
theorem dX3_pairLines_103 : decode cX3_pairLines 103 = .ok (.iinc 3 1, 3) := by decide +kernel
theorem dX3_pairLines_106 : decode cX3_pairLines 106 = .ok (.goto (-92), 3) := by decide +kernel
theorem dX3_pairLines_109 : decode cX3_pairLines 109 = .ok (.return_, 1) := by decide +kernel
theorem dX3_gatherHunks_0 : decode cX3_gatherHunks 0 = .ok (.aload_n 0, 1) := by decide +kernel
theorem dX3_gatherHunks_1 : decode cX3_gatherHunks 1 = .ok (.iconst 0, 1) := by decide +kernel
theorem dX3_gatherHunks_2 : decode cX3_gatherHunks 2 = .ok (.putfield 80, 3) := by decide +kernel
theorem dX3_gatherHunks_5 : decode cX3_gatherHunks 5 = .ok (.iconst 0, 1) := by decide +kernel
theorem dX3_gatherHunks_6 : decode cX3_gatherHunks 6 = .ok (.istore_n 1, 1) := by decide +kernel
theorem dX3_gatherHunks_7 : decode cX3_gatherHunks 7 = .ok (.iconst 0, 1) := by decide +kernel
theorem dX3_gatherHunks_8 : decode cX3_gatherHunks 8 = .ok (.istore_n 2, 1) := by decide +kernel
theorem dX3_gatherHunks_9 : decode cX3_gatherHunks 9 = .ok (.iconst 0, 1) := by decide +kernel
theorem dX3_gatherHunks_10 : decode cX3_gatherHunks 10 = .ok (.istore_n 3, 1) := by decide +kernel
theorem dX3_gatherHunks_11 : decode cX3_gatherHunks 11 = .ok (.iload_n 3, 1) := by decide +kernel
theorem dX3_gatherHunks_12 : decode cX3_gatherHunks 12 = .ok (.aload_n 0, 1) := by decide +kernel
theorem dX3_gatherHunks_13 : decode cX3_gatherHunks 13 = .ok (.getfield 40, 3) := by decide +kernel
theorem dX3_gatherHunks_16 : decode cX3_gatherHunks 16 = .ok (.if_icmp .gt 113, 3) := by decide +kernel
theorem dX3_gatherHunks_19 : decode cX3_gatherHunks 19 = .ok (.iload_n 3, 1) := by decide +kernel
theorem dX3_gatherHunks_20 : decode cX3_gatherHunks 20 = .ok (.aload_n 0, 1) := by decide +kernel
theorem dX3_gatherHunks_21 : decode cX3_gatherHunks 21 = .ok (.getfield 40, 3) := by decide +kernel
theorem dX3_gatherHunks_24 : decode cX3_gatherHunks 24 = .ok (.if_icmp .ne 10, 3) := by decide +kernel
theorem dX3_gatherHunks_27 : decode cX3_gatherHunks 27 = .ok (.aload_n 0, 1) := by decide +kernel
theorem dX3_gatherHunks_28 : decode cX3_gatherHunks 28 = .ok (.getfield 44, 3) := by decide +kernel
theorem dX3_gatherHunks_31 : decode cX3_gatherHunks 31 = .ok (.goto 9, 3) := by decide +kernel
theorem dX3_gatherHunks_34 : decode cX3_gatherHunks 34 = .ok (.aload_n 0, 1) := by decide +kernel
theorem dX3_gatherHunks_35 : decode cX3_gatherHunks 35 = .ok (.getfield 21, 3) := by decide +kernel
theorem dX3_gatherHunks_38 : decode cX3_gatherHunks 38 = .ok (.iload_n 3, 1) := by decide +kernel
theorem dX3_gatherHunks_39 : decode cX3_gatherHunks 39 = .ok (.iaload, 1) := by decide +kernel
theorem dX3_gatherHunks_40 : decode cX3_gatherHunks 40 = .ok (.istore 4, 2) := by decide +kernel
theorem dX3_gatherHunks_42 : decode cX3_gatherHunks 42 = .ok (.iload 4, 2) := by decide +kernel
theorem dX3_gatherHunks_44 : decode cX3_gatherHunks 44 = .ok (.iconst (-1), 1) := by decide +kernel
theorem dX3_gatherHunks_45 : decode cX3_gatherHunks 45 = .ok (.if_icmp .eq 78, 3) := by decide +kernel
theorem dX3_gatherHunks_48 : decode cX3_gatherHunks 48 = .ok (.iload_n 3, 1) := by decide +kernel
theorem dX3_gatherHunks_49 : decode cX3_gatherHunks 49 = .ok (.iload_n 1, 1) := by decide +kernel
theorem dX3_gatherHunks_50 : decode cX3_gatherHunks 50 = .ok (.if_icmp .gt 9, 3) := by decide +kernel
theorem dX3_gatherHunks_53 : decode cX3_gatherHunks 53 = .ok (.iload 4, 2) := by decide +kernel
theorem dX3_gatherHunks_55 : decode cX3_gatherHunks 55 = .ok (.iload_n 2, 1) := by decide +kernel
theorem dX3_gatherHunks_56 : decode cX3_gatherHunks 56 = .ok (.if_icmp .le 58, 3) := by decide +kernel
theorem dX3_gatherHunks_59 : decode cX3_gatherHunks 59 = .ok (.aload_n 0, 1) := by decide +kernel
theorem dX3_gatherHunks_60 : decode cX3_gatherHunks 60 = .ok (.getfield 24, 3) := by decide +kernel
theorem dX3_gatherHunks_63 : decode cX3_gatherHunks 63 = .ok (.aload_n 0, 1) := by decide +kernel
theorem dX3_gatherHunks_64 : decode cX3_gatherHunks 64 = .ok (.getfield 80, 3) := by decide +kernel
theorem dX3_gatherHunks_67 : decode cX3_gatherHunks 67 = .ok (.iload_n 1, 1) := by decide +kernel
theorem dX3_gatherHunks_68 : decode cX3_gatherHunks 68 = .ok (.iastore, 1) := by decide +kernel
theorem dX3_gatherHunks_69 : decode cX3_gatherHunks 69 = .ok (.aload_n 0, 1) := by decide +kernel
theorem dX3_gatherHunks_70 : decode cX3_gatherHunks 70 = .ok (.getfield 27, 3) := by decide +kernel
theorem dX3_gatherHunks_73 : decode cX3_gatherHunks 73 = .ok (.aload_n 0, 1) := by decide +kernel
theorem dX3_gatherHunks_74 : decode cX3_gatherHunks 74 = .ok (.getfield 80, 3) := by decide +kernel
theorem dX3_gatherHunks_77 : decode cX3_gatherHunks 77 = .ok (.iload_n 3, 1) := by decide +kernel
theorem dX3_gatherHunks_78 : decode cX3_gatherHunks 78 = .ok (.iload_n 1, 1) := by decide +kernel
theorem dX3_gatherHunks_79 : decode cX3_gatherHunks 79 = .ok (.isub, 1) := by decide +kernel
theorem dX3_gatherHunks_80 : decode cX3_gatherHunks 80 = .ok (.iastore, 1) := by decide +kernel
theorem dX3_gatherHunks_81 : decode cX3_gatherHunks 81 = .ok (.aload_n 0, 1) := by decide +kernel
theorem dX3_gatherHunks_82 : decode cX3_gatherHunks 82 = .ok (.getfield 30, 3) := by decide +kernel
theorem dX3_gatherHunks_85 : decode cX3_gatherHunks 85 = .ok (.aload_n 0, 1) := by decide +kernel
theorem dX3_gatherHunks_86 : decode cX3_gatherHunks 86 = .ok (.getfield 80, 3) := by decide +kernel
theorem dX3_gatherHunks_89 : decode cX3_gatherHunks 89 = .ok (.iload_n 2, 1) := by decide +kernel
theorem dX3_gatherHunks_90 : decode cX3_gatherHunks 90 = .ok (.iastore, 1) := by decide +kernel
theorem dX3_gatherHunks_91 : decode cX3_gatherHunks 91 = .ok (.aload_n 0, 1) := by decide +kernel
theorem dX3_gatherHunks_92 : decode cX3_gatherHunks 92 = .ok (.getfield 33, 3) := by decide +kernel
theorem dX3_gatherHunks_95 : decode cX3_gatherHunks 95 = .ok (.aload_n 0, 1) := by decide +kernel
theorem dX3_gatherHunks_96 : decode cX3_gatherHunks 96 = .ok (.getfield 80, 3) := by decide +kernel
theorem dX3_gatherHunks_99 : decode cX3_gatherHunks 99 = .ok (.iload 4, 2) := by decide +kernel
theorem dX3_gatherHunks_101 : decode cX3_gatherHunks 101 = .ok (.iload_n 2, 1) := by decide +kernel
theorem dX3_gatherHunks_102 : decode cX3_gatherHunks 102 = .ok (.isub, 1) := by decide +kernel
theorem dX3_gatherHunks_103 : decode cX3_gatherHunks 103 = .ok (.iastore, 1) := by decide +kernel
theorem dX3_gatherHunks_104 : decode cX3_gatherHunks 104 = .ok (.aload_n 0, 1) := by decide +kernel
theorem dX3_gatherHunks_105 : decode cX3_gatherHunks 105 = .ok (.dup, 1) := by decide +kernel
theorem dX3_gatherHunks_106 : decode cX3_gatherHunks 106 = .ok (.getfield 80, 3) := by decide +kernel
theorem dX3_gatherHunks_109 : decode cX3_gatherHunks 109 = .ok (.iconst 1, 1) := by decide +kernel
theorem dX3_gatherHunks_110 : decode cX3_gatherHunks 110 = .ok (.iadd, 1) := by decide +kernel
theorem dX3_gatherHunks_111 : decode cX3_gatherHunks 111 = .ok (.putfield 80, 3) := by decide +kernel
theorem dX3_gatherHunks_114 : decode cX3_gatherHunks 114 = .ok (.iload_n 3, 1) := by decide +kernel
theorem dX3_gatherHunks_115 : decode cX3_gatherHunks 115 = .ok (.iconst 1, 1) := by decide +kernel
theorem dX3_gatherHunks_116 : decode cX3_gatherHunks 116 = .ok (.iadd, 1) := by decide +kernel
theorem dX3_gatherHunks_117 : decode cX3_gatherHunks 117 = .ok (.istore_n 1, 1) := by decide +kernel
theorem dX3_gatherHunks_118 : decode cX3_gatherHunks 118 = .ok (.iload 4, 2) := by decide +kernel
theorem dX3_gatherHunks_120 : decode cX3_gatherHunks 120 = .ok (.iconst 1, 1) := by decide +kernel
theorem dX3_gatherHunks_121 : decode cX3_gatherHunks 121 = .ok (.iadd, 1) := by decide +kernel
theorem dX3_gatherHunks_122 : decode cX3_gatherHunks 122 = .ok (.istore_n 2, 1) := by decide +kernel
theorem dX3_gatherHunks_123 : decode cX3_gatherHunks 123 = .ok (.iinc 3 1, 3) := by decide +kernel
theorem dX3_gatherHunks_126 : decode cX3_gatherHunks 126 = .ok (.goto (-115), 3) := by decide +kernel
theorem dX3_gatherHunks_129 : decode cX3_gatherHunks 129 = .ok (.return_, 1) := by decide +kernel
theorem dX3_isAlike_0 : decode cX3_isAlike 0 = .ok (.aload_n 0, 1) := by decide +kernel
theorem dX3_isAlike_1 : decode cX3_isAlike 1 = .ok (.getfield 27, 3) := by decide +kernel
theorem dX3_isAlike_4 : decode cX3_isAlike 4 = .ok (.iload_n 1, 1) := by decide +kernel
theorem dX3_isAlike_5 : decode cX3_isAlike 5 = .ok (.iaload, 1) := by decide +kernel
theorem dX3_isAlike_6 : decode cX3_isAlike 6 = .ok (.aload_n 2, 1) := by decide +kernel
theorem dX3_isAlike_7 : decode cX3_isAlike 7 = .ok (.getfield 27, 3) := by decide +kernel
theorem dX3_isAlike_10 : decode cX3_isAlike 10 = .ok (.iload_n 3, 1) := by decide +kernel
theorem dX3_isAlike_11 : decode cX3_isAlike 11 = .ok (.iaload, 1) := by decide +kernel
theorem dX3_isAlike_12 : decode cX3_isAlike 12 = .ok (.if_icmp .ne 22, 3) := by decide +kernel
theorem dX3_isAlike_15 : decode cX3_isAlike 15 = .ok (.aload_n 0, 1) := by decide +kernel
theorem dX3_isAlike_16 : decode cX3_isAlike 16 = .ok (.getfield 33, 3) := by decide +kernel
theorem dX3_isAlike_19 : decode cX3_isAlike 19 = .ok (.iload_n 1, 1) := by decide +kernel
theorem dX3_isAlike_20 : decode cX3_isAlike 20 = .ok (.iaload, 1) := by decide +kernel
theorem dX3_isAlike_21 : decode cX3_isAlike 21 = .ok (.aload_n 2, 1) := by decide +kernel
theorem dX3_isAlike_22 : decode cX3_isAlike 22 = .ok (.getfield 33, 3) := by decide +kernel
theorem dX3_isAlike_25 : decode cX3_isAlike 25 = .ok (.iload_n 3, 1) := by decide +kernel
theorem dX3_isAlike_26 : decode cX3_isAlike 26 = .ok (.iaload, 1) := by decide +kernel
theorem dX3_isAlike_27 : decode cX3_isAlike 27 = .ok (.if_icmp .ne 7, 3) := by decide +kernel
theorem dX3_isAlike_30 : decode cX3_isAlike 30 = .ok (.iconst 1, 1) := by decide +kernel
theorem dX3_isAlike_31 : decode cX3_isAlike 31 = .ok (.goto 4, 3) := by decide +kernel
theorem dX3_isAlike_34 : decode cX3_isAlike 34 = .ok (.iconst 0, 1) := by decide +kernel
theorem dX3_isAlike_35 : decode cX3_isAlike 35 = .ok (.istore 4, 2) := by decide +kernel
theorem dX3_isAlike_37 : decode cX3_isAlike 37 = .ok (.iconst 0, 1) := by decide +kernel
theorem dX3_isAlike_38 : decode cX3_isAlike 38 = .ok (.istore 5, 2) := by decide +kernel
theorem dX3_isAlike_40 : decode cX3_isAlike 40 = .ok (.iload 5, 2) := by decide +kernel
theorem dX3_isAlike_42 : decode cX3_isAlike 42 = .ok (.aload_n 0, 1) := by decide +kernel
theorem dX3_isAlike_43 : decode cX3_isAlike 43 = .ok (.getfield 27, 3) := by decide +kernel
theorem dX3_isAlike_46 : decode cX3_isAlike 46 = .ok (.iload_n 1, 1) := by decide +kernel
theorem dX3_isAlike_47 : decode cX3_isAlike 47 = .ok (.iaload, 1) := by decide +kernel
theorem dX3_isAlike_48 : decode cX3_isAlike 48 = .ok (.if_icmp .ge 52, 3) := by decide +kernel
theorem dX3_isAlike_51 : decode cX3_isAlike 51 = .ok (.iload 4, 2) := by decide +kernel
theorem dX3_isAlike_53 : decode cX3_isAlike 53 = .ok (.ifCond .eq 47, 3) := by decide +kernel
theorem dX3_isAlike_56 : decode cX3_isAlike 56 = .ok (.aload_n 0, 1) := by decide +kernel
theorem dX3_isAlike_57 : decode cX3_isAlike 57 = .ok (.getfield 9, 3) := by decide +kernel
theorem dX3_isAlike_60 : decode cX3_isAlike 60 = .ok (.aload_n 0, 1) := by decide +kernel
theorem dX3_isAlike_61 : decode cX3_isAlike 61 = .ok (.getfield 24, 3) := by decide +kernel
theorem dX3_isAlike_64 : decode cX3_isAlike 64 = .ok (.iload_n 1, 1) := by decide +kernel
theorem dX3_isAlike_65 : decode cX3_isAlike 65 = .ok (.iaload, 1) := by decide +kernel
theorem dX3_isAlike_66 : decode cX3_isAlike 66 = .ok (.iload 5, 2) := by decide +kernel
theorem dX3_isAlike_68 : decode cX3_isAlike 68 = .ok (.iadd, 1) := by decide +kernel
theorem dX3_isAlike_69 : decode cX3_isAlike 69 = .ok (.iaload, 1) := by decide +kernel
theorem dX3_isAlike_70 : decode cX3_isAlike 70 = .ok (.aload_n 2, 1) := by decide +kernel
theorem dX3_isAlike_71 : decode cX3_isAlike 71 = .ok (.getfield 9, 3) := by decide +kernel
theorem dX3_isAlike_74 : decode cX3_isAlike 74 = .ok (.aload_n 2, 1) := by decide +kernel
theorem dX3_isAlike_75 : decode cX3_isAlike 75 = .ok (.getfield 24, 3) := by decide +kernel
theorem dX3_isAlike_78 : decode cX3_isAlike 78 = .ok (.iload_n 3, 1) := by decide +kernel
theorem dX3_isAlike_79 : decode cX3_isAlike 79 = .ok (.iaload, 1) := by decide +kernel
theorem dX3_isAlike_80 : decode cX3_isAlike 80 = .ok (.iload 5, 2) := by decide +kernel
theorem dX3_isAlike_82 : decode cX3_isAlike 82 = .ok (.iadd, 1) := by decide +kernel
theorem dX3_isAlike_83 : decode cX3_isAlike 83 = .ok (.iaload, 1) := by decide +kernel
theorem dX3_isAlike_84 : decode cX3_isAlike 84 = .ok (.if_icmp .ne 7, 3) := by decide +kernel
theorem dX3_isAlike_87 : decode cX3_isAlike 87 = .ok (.iconst 1, 1) := by decide +kernel
theorem dX3_isAlike_88 : decode cX3_isAlike 88 = .ok (.goto 4, 3) := by decide +kernel
theorem dX3_isAlike_91 : decode cX3_isAlike 91 = .ok (.iconst 0, 1) := by decide +kernel
theorem dX3_isAlike_92 : decode cX3_isAlike 92 = .ok (.istore 4, 2) := by decide +kernel
theorem dX3_isAlike_94 : decode cX3_isAlike 94 = .ok (.iinc 5 1, 3) := by decide +kernel
theorem dX3_isAlike_97 : decode cX3_isAlike 97 = .ok (.goto (-57), 3) := by decide +kernel
theorem dX3_isAlike_100 : decode cX3_isAlike 100 = .ok (.iconst 0, 1) := by decide +kernel
theorem dX3_isAlike_101 : decode cX3_isAlike 101 = .ok (.istore 5, 2) := by decide +kernel
theorem dX3_isAlike_103 : decode cX3_isAlike 103 = .ok (.iload 5, 2) := by decide +kernel
theorem dX3_isAlike_105 : decode cX3_isAlike 105 = .ok (.aload_n 0, 1) := by decide +kernel
theorem dX3_isAlike_106 : decode cX3_isAlike 106 = .ok (.getfield 33, 3) := by decide +kernel
theorem dX3_isAlike_109 : decode cX3_isAlike 109 = .ok (.iload_n 1, 1) := by decide +kernel
theorem dX3_isAlike_110 : decode cX3_isAlike 110 = .ok (.iaload, 1) := by decide +kernel
theorem dX3_isAlike_111 : decode cX3_isAlike 111 = .ok (.if_icmp .ge 52, 3) := by decide +kernel
theorem dX3_isAlike_114 : decode cX3_isAlike 114 = .ok (.iload 4, 2) := by decide +kernel
theorem dX3_isAlike_116 : decode cX3_isAlike 116 = .ok (.ifCond .eq 47, 3) := by decide +kernel
theorem dX3_isAlike_119 : decode cX3_isAlike 119 = .ok (.aload_n 0, 1) := by decide +kernel
theorem dX3_isAlike_120 : decode cX3_isAlike 120 = .ok (.getfield 15, 3) := by decide +kernel
theorem dX3_isAlike_123 : decode cX3_isAlike 123 = .ok (.aload_n 0, 1) := by decide +kernel
theorem dX3_isAlike_124 : decode cX3_isAlike 124 = .ok (.getfield 30, 3) := by decide +kernel
theorem dX3_isAlike_127 : decode cX3_isAlike 127 = .ok (.iload_n 1, 1) := by decide +kernel
theorem dX3_isAlike_128 : decode cX3_isAlike 128 = .ok (.iaload, 1) := by decide +kernel
theorem dX3_isAlike_129 : decode cX3_isAlike 129 = .ok (.iload 5, 2) := by decide +kernel
theorem dX3_isAlike_131 : decode cX3_isAlike 131 = .ok (.iadd, 1) := by decide +kernel
theorem dX3_isAlike_132 : decode cX3_isAlike 132 = .ok (.iaload, 1) := by decide +kernel
theorem dX3_isAlike_133 : decode cX3_isAlike 133 = .ok (.aload_n 2, 1) := by decide +kernel
theorem dX3_isAlike_134 : decode cX3_isAlike 134 = .ok (.getfield 15, 3) := by decide +kernel
theorem dX3_isAlike_137 : decode cX3_isAlike 137 = .ok (.aload_n 2, 1) := by decide +kernel
theorem dX3_isAlike_138 : decode cX3_isAlike 138 = .ok (.getfield 30, 3) := by decide +kernel
theorem dX3_isAlike_141 : decode cX3_isAlike 141 = .ok (.iload_n 3, 1) := by decide +kernel
theorem dX3_isAlike_142 : decode cX3_isAlike 142 = .ok (.iaload, 1) := by decide +kernel
theorem dX3_isAlike_143 : decode cX3_isAlike 143 = .ok (.iload 5, 2) := by decide +kernel
theorem dX3_isAlike_145 : decode cX3_isAlike 145 = .ok (.iadd, 1) := by decide +kernel
theorem dX3_isAlike_146 : decode cX3_isAlike 146 = .ok (.iaload, 1) := by decide +kernel
theorem dX3_isAlike_147 : decode cX3_isAlike 147 = .ok (.if_icmp .ne 7, 3) := by decide +kernel
theorem dX3_isAlike_150 : decode cX3_isAlike 150 = .ok (.iconst 1, 1) := by decide +kernel
theorem dX3_isAlike_151 : decode cX3_isAlike 151 = .ok (.goto 4, 3) := by decide +kernel
theorem dX3_isAlike_154 : decode cX3_isAlike 154 = .ok (.iconst 0, 1) := by decide +kernel
theorem dX3_isAlike_155 : decode cX3_isAlike 155 = .ok (.istore 4, 2) := by decide +kernel
theorem dX3_isAlike_157 : decode cX3_isAlike 157 = .ok (.iinc 5 1, 3) := by decide +kernel
theorem dX3_isAlike_160 : decode cX3_isAlike 160 = .ok (.goto (-57), 3) := by decide +kernel
theorem dX3_isAlike_163 : decode cX3_isAlike 163 = .ok (.iload 4, 2) := by decide +kernel
theorem dX3_isAlike_165 : decode cX3_isAlike 165 = .ok (.ireturn, 1) := by decide +kernel
theorem dX3_isAlikeOneByOne_0 : decode cX3_isAlikeOneByOne 0 = .ok (.aload_n 0, 1) := by decide +kernel
theorem dX3_isAlikeOneByOne_1 : decode cX3_isAlikeOneByOne 1 = .ok (.getfield 80, 3) := by decide +kernel
theorem dX3_isAlikeOneByOne_4 : decode cX3_isAlikeOneByOne 4 = .ok (.aload_n 1, 1) := by decide +kernel
theorem dX3_isAlikeOneByOne_5 : decode cX3_isAlikeOneByOne 5 = .ok (.getfield 80, 3) := by decide +kernel
theorem dX3_isAlikeOneByOne_8 : decode cX3_isAlikeOneByOne 8 = .ok (.if_icmp .ne 7, 3) := by decide +kernel
theorem dX3_isAlikeOneByOne_11 : decode cX3_isAlikeOneByOne 11 = .ok (.iconst 1, 1) := by decide +kernel
theorem dX3_isAlikeOneByOne_12 : decode cX3_isAlikeOneByOne 12 = .ok (.goto 4, 3) := by decide +kernel
theorem dX3_isAlikeOneByOne_15 : decode cX3_isAlikeOneByOne 15 = .ok (.iconst 0, 1) := by decide +kernel
theorem dX3_isAlikeOneByOne_16 : decode cX3_isAlikeOneByOne 16 = .ok (.istore_n 2, 1) := by decide +kernel
theorem dX3_isAlikeOneByOne_17 : decode cX3_isAlikeOneByOne 17 = .ok (.iconst 0, 1) := by decide +kernel
theorem dX3_isAlikeOneByOne_18 : decode cX3_isAlikeOneByOne 18 = .ok (.istore_n 3, 1) := by decide +kernel
theorem dX3_isAlikeOneByOne_19 : decode cX3_isAlikeOneByOne 19 = .ok (.iload_n 3, 1) := by decide +kernel
theorem dX3_isAlikeOneByOne_20 : decode cX3_isAlikeOneByOne 20 = .ok (.aload_n 0, 1) := by decide +kernel
theorem dX3_isAlikeOneByOne_21 : decode cX3_isAlikeOneByOne 21 = .ok (.getfield 80, 3) := by decide +kernel
theorem dX3_isAlikeOneByOne_24 : decode cX3_isAlikeOneByOne 24 = .ok (.if_icmp .ge 21, 3) := by decide +kernel
theorem dX3_isAlikeOneByOne_27 : decode cX3_isAlikeOneByOne 27 = .ok (.iload_n 2, 1) := by decide +kernel
theorem dX3_isAlikeOneByOne_28 : decode cX3_isAlikeOneByOne 28 = .ok (.ifCond .eq 17, 3) := by decide +kernel
theorem dX3_isAlikeOneByOne_31 : decode cX3_isAlikeOneByOne 31 = .ok (.aload_n 0, 1) := by decide +kernel
theorem dX3_isAlikeOneByOne_32 : decode cX3_isAlikeOneByOne 32 = .ok (.iload_n 3, 1) := by decide +kernel
theorem dX3_isAlikeOneByOne_33 : decode cX3_isAlikeOneByOne 33 = .ok (.aload_n 1, 1) := by decide +kernel
theorem dX3_isAlikeOneByOne_34 : decode cX3_isAlikeOneByOne 34 = .ok (.iload_n 3, 1) := by decide +kernel
theorem dX3_isAlikeOneByOne_35 : decode cX3_isAlikeOneByOne 35 = .ok (.invokevirtual 83, 3) := by decide +kernel
theorem dX3_isAlikeOneByOne_38 : decode cX3_isAlikeOneByOne 38 = .ok (.istore_n 2, 1) := by decide +kernel
theorem dX3_isAlikeOneByOne_39 : decode cX3_isAlikeOneByOne 39 = .ok (.iinc 3 1, 3) := by decide +kernel
theorem dX3_isAlikeOneByOne_42 : decode cX3_isAlikeOneByOne 42 = .ok (.goto (-23), 3) := by decide +kernel
theorem dX3_isAlikeOneByOne_45 : decode cX3_isAlikeOneByOne 45 = .ok (.iload_n 2, 1) := by decide +kernel
theorem dX3_isAlikeOneByOne_46 : decode cX3_isAlikeOneByOne 46 = .ok (.ireturn, 1) := by decide +kernel
theorem dX3_hasAlike_0 : decode cX3_hasAlike 0 = .ok (.iconst 0, 1) := by decide +kernel
theorem dX3_hasAlike_1 : decode cX3_hasAlike 1 = .ok (.istore_n 3, 1) := by decide +kernel
theorem dX3_hasAlike_2 : decode cX3_hasAlike 2 = .ok (.iload_n 3, 1) := by decide +kernel
theorem dX3_hasAlike_3 : decode cX3_hasAlike 3 = .ok (.aload_n 0, 1) := by decide +kernel
theorem dX3_hasAlike_4 : decode cX3_hasAlike 4 = .ok (.getfield 80, 3) := by decide +kernel
theorem dX3_hasAlike_7 : decode cX3_hasAlike 7 = .ok (.if_icmp .ge 21, 3) := by decide +kernel
theorem dX3_hasAlike_10 : decode cX3_hasAlike 10 = .ok (.aload_n 0, 1) := by decide +kernel
theorem dX3_hasAlike_11 : decode cX3_hasAlike 11 = .ok (.iload_n 3, 1) := by decide +kernel
theorem dX3_hasAlike_12 : decode cX3_hasAlike 12 = .ok (.aload_n 1, 1) := by decide +kernel
theorem dX3_hasAlike_13 : decode cX3_hasAlike 13 = .ok (.iload_n 2, 1) := by decide +kernel
theorem dX3_hasAlike_14 : decode cX3_hasAlike 14 = .ok (.invokevirtual 83, 3) := by decide +kernel
theorem dX3_hasAlike_17 : decode cX3_hasAlike 17 = .ok (.ifCond .eq 5, 3) := by decide +kernel
theorem dX3_hasAlike_20 : decode cX3_hasAlike 20 = .ok (.iconst 1, 1) := by decide +kernel
theorem dX3_hasAlike_21 : decode cX3_hasAlike 21 = .ok (.ireturn, 1) := by decide +kernel
theorem dX3_hasAlike_22 : decode cX3_hasAlike 22 = .ok (.iinc 3 1, 3) := by decide +kernel
theorem dX3_hasAlike_25 : decode cX3_hasAlike 25 = .ok (.goto (-23), 3) := by decide +kernel
theorem dX3_hasAlike_28 : decode cX3_hasAlike 28 = .ok (.iconst 0, 1) := by decide +kernel
theorem dX3_hasAlike_29 : decode cX3_hasAlike 29 = .ok (.ireturn, 1) := by decide +kernel
theorem dX3_isInConflict_0 : decode cX3_isInConflict 0 = .ok (.iconst 0, 1) := by decide +kernel
theorem dX3_isInConflict_1 : decode cX3_isInConflict 1 = .ok (.istore_n 2, 1) := by decide +kernel
theorem dX3_isInConflict_2 : decode cX3_isInConflict 2 = .ok (.iload_n 2, 1) := by decide +kernel
theorem dX3_isInConflict_3 : decode cX3_isInConflict 3 = .ok (.aload_n 0, 1) := by decide +kernel
theorem dX3_isInConflict_4 : decode cX3_isInConflict 4 = .ok (.getfield 80, 3) := by decide +kernel
theorem dX3_isInConflict_7 : decode cX3_isInConflict 7 = .ok (.if_icmp .ge 120, 3) := by decide +kernel
theorem dX3_isInConflict_10 : decode cX3_isInConflict 10 = .ok (.iconst 0, 1) := by decide +kernel
theorem dX3_isInConflict_11 : decode cX3_isInConflict 11 = .ok (.istore_n 3, 1) := by decide +kernel
theorem dX3_isInConflict_12 : decode cX3_isInConflict 12 = .ok (.iload_n 3, 1) := by decide +kernel
theorem dX3_isInConflict_13 : decode cX3_isInConflict 13 = .ok (.aload_n 1, 1) := by decide +kernel
theorem dX3_isInConflict_14 : decode cX3_isInConflict 14 = .ok (.getfield 80, 3) := by decide +kernel
theorem dX3_isInConflict_17 : decode cX3_isInConflict 17 = .ok (.if_icmp .ge 104, 3) := by decide +kernel
theorem dX3_isInConflict_20 : decode cX3_isInConflict 20 = .ok (.aload_n 0, 1) := by decide +kernel
theorem dX3_isInConflict_21 : decode cX3_isInConflict 21 = .ok (.getfield 24, 3) := by decide +kernel
theorem dX3_isInConflict_24 : decode cX3_isInConflict 24 = .ok (.iload_n 2, 1) := by decide +kernel
theorem dX3_isInConflict_25 : decode cX3_isInConflict 25 = .ok (.iaload, 1) := by decide +kernel
theorem dX3_isInConflict_26 : decode cX3_isInConflict 26 = .ok (.aload_n 1, 1) := by decide +kernel
theorem dX3_isInConflict_27 : decode cX3_isInConflict 27 = .ok (.getfield 24, 3) := by decide +kernel
theorem dX3_isInConflict_30 : decode cX3_isInConflict 30 = .ok (.iload_n 3, 1) := by decide +kernel
theorem dX3_isInConflict_31 : decode cX3_isInConflict 31 = .ok (.iaload, 1) := by decide +kernel
theorem dX3_isInConflict_32 : decode cX3_isInConflict 32 = .ok (.aload_n 1, 1) := by decide +kernel
theorem dX3_isInConflict_33 : decode cX3_isInConflict 33 = .ok (.getfield 27, 3) := by decide +kernel
theorem dX3_isInConflict_36 : decode cX3_isInConflict 36 = .ok (.iload_n 3, 1) := by decide +kernel
theorem dX3_isInConflict_37 : decode cX3_isInConflict 37 = .ok (.iaload, 1) := by decide +kernel
theorem dX3_isInConflict_38 : decode cX3_isInConflict 38 = .ok (.iadd, 1) := by decide +kernel
theorem dX3_isInConflict_39 : decode cX3_isInConflict 39 = .ok (.if_icmp .gt 29, 3) := by decide +kernel
theorem dX3_isInConflict_42 : decode cX3_isInConflict 42 = .ok (.aload_n 1, 1) := by decide +kernel
theorem dX3_isInConflict_43 : decode cX3_isInConflict 43 = .ok (.getfield 24, 3) := by decide +kernel
theorem dX3_isInConflict_46 : decode cX3_isInConflict 46 = .ok (.iload_n 3, 1) := by decide +kernel
theorem dX3_isInConflict_47 : decode cX3_isInConflict 47 = .ok (.iaload, 1) := by decide +kernel
theorem dX3_isInConflict_48 : decode cX3_isInConflict 48 = .ok (.aload_n 0, 1) := by decide +kernel
theorem dX3_isInConflict_49 : decode cX3_isInConflict 49 = .ok (.getfield 24, 3) := by decide +kernel
theorem dX3_isInConflict_52 : decode cX3_isInConflict 52 = .ok (.iload_n 2, 1) := by decide +kernel
theorem dX3_isInConflict_53 : decode cX3_isInConflict 53 = .ok (.iaload, 1) := by decide +kernel
theorem dX3_isInConflict_54 : decode cX3_isInConflict 54 = .ok (.aload_n 0, 1) := by decide +kernel
theorem dX3_isInConflict_55 : decode cX3_isInConflict 55 = .ok (.getfield 27, 3) := by decide +kernel
theorem dX3_isInConflict_58 : decode cX3_isInConflict 58 = .ok (.iload_n 2, 1) := by decide +kernel
theorem dX3_isInConflict_59 : decode cX3_isInConflict 59 = .ok (.iaload, 1) := by decide +kernel
theorem dX3_isInConflict_60 : decode cX3_isInConflict 60 = .ok (.iadd, 1) := by decide +kernel
theorem dX3_isInConflict_61 : decode cX3_isInConflict 61 = .ok (.if_icmp .gt 7, 3) := by decide +kernel
theorem dX3_isInConflict_64 : decode cX3_isInConflict 64 = .ok (.iconst 1, 1) := by decide +kernel
theorem dX3_isInConflict_65 : decode cX3_isInConflict 65 = .ok (.goto 4, 3) := by decide +kernel
theorem dX3_isInConflict_68 : decode cX3_isInConflict 68 = .ok (.iconst 0, 1) := by decide +kernel
theorem dX3_isInConflict_69 : decode cX3_isInConflict 69 = .ok (.istore 4, 2) := by decide +kernel
theorem dX3_isInConflict_71 : decode cX3_isInConflict 71 = .ok (.aload_n 0, 1) := by decide +kernel
theorem dX3_isInConflict_72 : decode cX3_isInConflict 72 = .ok (.getfield 24, 3) := by decide +kernel
theorem dX3_isInConflict_75 : decode cX3_isInConflict 75 = .ok (.iload_n 2, 1) := by decide +kernel
theorem dX3_isInConflict_76 : decode cX3_isInConflict 76 = .ok (.iaload, 1) := by decide +kernel
theorem dX3_isInConflict_77 : decode cX3_isInConflict 77 = .ok (.aload_n 1, 1) := by decide +kernel
theorem dX3_isInConflict_78 : decode cX3_isInConflict 78 = .ok (.getfield 24, 3) := by decide +kernel
theorem dX3_isInConflict_81 : decode cX3_isInConflict 81 = .ok (.iload_n 3, 1) := by decide +kernel
theorem dX3_isInConflict_82 : decode cX3_isInConflict 82 = .ok (.iaload, 1) := by decide +kernel
theorem dX3_isInConflict_83 : decode cX3_isInConflict 83 = .ok (.if_icmp .ne 17, 3) := by decide +kernel
theorem dX3_isInConflict_86 : decode cX3_isInConflict 86 = .ok (.aload_n 0, 1) := by decide +kernel
theorem dX3_isInConflict_87 : decode cX3_isInConflict 87 = .ok (.iload_n 2, 1) := by decide +kernel
theorem dX3_isInConflict_88 : decode cX3_isInConflict 88 = .ok (.aload_n 1, 1) := by decide +kernel
theorem dX3_isInConflict_89 : decode cX3_isInConflict 89 = .ok (.iload_n 3, 1) := by decide +kernel
theorem dX3_isInConflict_90 : decode cX3_isInConflict 90 = .ok (.invokevirtual 83, 3) := by decide +kernel
theorem dX3_isInConflict_93 : decode cX3_isInConflict 93 = .ok (.ifCond .eq 7, 3) := by decide +kernel
theorem dX3_isInConflict_96 : decode cX3_isInConflict 96 = .ok (.iconst 1, 1) := by decide +kernel
theorem dX3_isInConflict_97 : decode cX3_isInConflict 97 = .ok (.goto 4, 3) := by decide +kernel
theorem dX3_isInConflict_100 : decode cX3_isInConflict 100 = .ok (.iconst 0, 1) := by decide +kernel
theorem dX3_isInConflict_101 : decode cX3_isInConflict 101 = .ok (.istore 5, 2) := by decide +kernel
theorem dX3_isInConflict_103 : decode cX3_isInConflict 103 = .ok (.iload 4, 2) := by decide +kernel
theorem dX3_isInConflict_105 : decode cX3_isInConflict 105 = .ok (.ifCond .eq 10, 3) := by decide +kernel
theorem dX3_isInConflict_108 : decode cX3_isInConflict 108 = .ok (.iload 5, 2) := by decide +kernel
theorem dX3_isInConflict_110 : decode cX3_isInConflict 110 = .ok (.ifCond .ne 5, 3) := by decide +kernel
theorem dX3_isInConflict_113 : decode cX3_isInConflict 113 = .ok (.iconst 1, 1) := by decide +kernel
theorem dX3_isInConflict_114 : decode cX3_isInConflict 114 = .ok (.ireturn, 1) := by decide +kernel
theorem dX3_isInConflict_115 : decode cX3_isInConflict 115 = .ok (.iinc 3 1, 3) := by decide +kernel
theorem dX3_isInConflict_118 : decode cX3_isInConflict 118 = .ok (.goto (-106), 3) := by decide +kernel
theorem dX3_isInConflict_121 : decode cX3_isInConflict 121 = .ok (.iinc 2 1, 3) := by decide +kernel
theorem dX3_isInConflict_124 : decode cX3_isInConflict 124 = .ok (.goto (-122), 3) := by decide +kernel
theorem dX3_isInConflict_127 : decode cX3_isInConflict 127 = .ok (.iconst 0, 1) := by decide +kernel
theorem dX3_isInConflict_128 : decode cX3_isInConflict 128 = .ok (.ireturn, 1) := by decide +kernel
theorem dX3_hunkFrom_0 : decode cX3_hunkFrom 0 = .ok (.iconst 0, 1) := by decide +kernel
theorem dX3_hunkFrom_1 : decode cX3_hunkFrom 1 = .ok (.istore_n 2, 1) := by decide +kernel
theorem dX3_hunkFrom_2 : decode cX3_hunkFrom 2 = .ok (.iload_n 2, 1) := by decide +kernel
theorem dX3_hunkFrom_3 : decode cX3_hunkFrom 3 = .ok (.aload_n 0, 1) := by decide +kernel
theorem dX3_hunkFrom_4 : decode cX3_hunkFrom 4 = .ok (.getfield 80, 3) := by decide +kernel
theorem dX3_hunkFrom_7 : decode cX3_hunkFrom 7 = .ok (.if_icmp .ge 21, 3) := by decide +kernel
theorem dX3_hunkFrom_10 : decode cX3_hunkFrom 10 = .ok (.aload_n 0, 1) := by decide +kernel
theorem dX3_hunkFrom_11 : decode cX3_hunkFrom 11 = .ok (.getfield 24, 3) := by decide +kernel
theorem dX3_hunkFrom_14 : decode cX3_hunkFrom 14 = .ok (.iload_n 2, 1) := by decide +kernel
theorem dX3_hunkFrom_15 : decode cX3_hunkFrom 15 = .ok (.iaload, 1) := by decide +kernel
theorem dX3_hunkFrom_16 : decode cX3_hunkFrom 16 = .ok (.iload_n 1, 1) := by decide +kernel
theorem dX3_hunkFrom_17 : decode cX3_hunkFrom 17 = .ok (.if_icmp .ne 5, 3) := by decide +kernel
theorem dX3_hunkFrom_20 : decode cX3_hunkFrom 20 = .ok (.iload_n 2, 1) := by decide +kernel
theorem dX3_hunkFrom_21 : decode cX3_hunkFrom 21 = .ok (.ireturn, 1) := by decide +kernel
theorem dX3_hunkFrom_22 : decode cX3_hunkFrom 22 = .ok (.iinc 2 1, 3) := by decide +kernel
theorem dX3_hunkFrom_25 : decode cX3_hunkFrom 25 = .ok (.goto (-23), 3) := by decide +kernel
theorem dX3_hunkFrom_28 : decode cX3_hunkFrom 28 = .ok (.iconst (-1), 1) := by decide +kernel
theorem dX3_hunkFrom_29 : decode cX3_hunkFrom 29 = .ok (.ireturn, 1) := by decide +kernel
theorem dX4_init_0 : decode cX4_init 0 = .ok (.aload_n 0, 1) := by decide +kernel
theorem dX4_init_1 : decode cX4_init 1 = .ok (.invokespecial 1, 3) := by decide +kernel
theorem dX4_init_4 : decode cX4_init 4 = .ok (.aload_n 0, 1) := by decide +kernel
theorem dX4_init_5 : decode cX4_init 5 = .ok (.iload_n 1, 1) := by decide +kernel
theorem dX4_init_6 : decode cX4_init 6 = .ok (.putfield 7, 3) := by decide +kernel
theorem dX4_init_9 : decode cX4_init 9 = .ok (.aload_n 0, 1) := by decide +kernel
theorem dX4_init_10 : decode cX4_init 10 = .ok (.iload_n 2, 1) := by decide +kernel
theorem dX4_init_11 : decode cX4_init 11 = .ok (.putfield 13, 3) := by decide +kernel
theorem dX4_init_14 : decode cX4_init 14 = .ok (.aload_n 0, 1) := by decide +kernel
theorem dX4_init_15 : decode cX4_init 15 = .ok (.aload_n 3, 1) := by decide +kernel
theorem dX4_init_16 : decode cX4_init 16 = .ok (.putfield 16, 3) := by decide +kernel
theorem dX4_init_19 : decode cX4_init 19 = .ok (.return_, 1) := by decide +kernel
theorem dX5_init_0 : decode cX5_init 0 = .ok (.aload_n 0, 1) := by decide +kernel
theorem dX5_init_1 : decode cX5_init 1 = .ok (.invokespecial 3, 3) := by decide +kernel
theorem dX5_init_4 : decode cX5_init 4 = .ok (.aload_n 0, 1) := by decide +kernel
theorem dX5_init_5 : decode cX5_init 5 = .ok (.iconst 2, 1) := by decide +kernel
theorem dX5_init_6 : decode cX5_init 6 = .ok (.newarray .int, 2) := by decide +kernel
theorem dX5_init_8 : decode cX5_init 8 = .ok (.dup, 1) := by decide +kernel
theorem dX5_init_9 : decode cX5_init 9 = .ok (.iconst 0, 1) := by decide +kernel
theorem dX5_init_10 : decode cX5_init 10 = .ok (.iconst 1, 1) := by decide +kernel
theorem dX5_init_11 : decode cX5_init 11 = .ok (.iastore, 1) := by decide +kernel
theorem dX5_init_12 : decode cX5_init 12 = .ok (.dup, 1) := by decide +kernel
theorem dX5_init_13 : decode cX5_init 13 = .ok (.iconst 1, 1) := by decide +kernel
theorem dX5_init_14 : decode cX5_init 14 = .ok (.iconst 1, 1) := by decide +kernel
theorem dX5_init_15 : decode cX5_init 15 = .ok (.iastore, 1) := by decide +kernel
theorem dX5_init_16 : decode cX5_init 16 = .ok (.putfield 9, 3) := by decide +kernel
theorem dX5_init_19 : decode cX5_init 19 = .ok (.aload_n 0, 1) := by decide +kernel
theorem dX5_init_20 : decode cX5_init 20 = .ok (.bipush 20, 2) := by decide +kernel
theorem dX5_init_22 : decode cX5_init 22 = .ok (.newarray .int, 2) := by decide +kernel
theorem dX5_init_24 : decode cX5_init 24 = .ok (.putfield 15, 3) := by decide +kernel
theorem dX5_init_27 : decode cX5_init 27 = .ok (.aload_n 0, 1) := by decide +kernel
theorem dX5_init_28 : decode cX5_init 28 = .ok (.aload_n 1, 1) := by decide +kernel
theorem dX5_init_29 : decode cX5_init 29 = .ok (.putfield 18, 3) := by decide +kernel
theorem dX5_init_32 : decode cX5_init 32 = .ok (.aload_n 0, 1) := by decide +kernel
theorem dX5_init_33 : decode cX5_init 33 = .ok (.aload_n 2, 1) := by decide +kernel
theorem dX5_init_34 : decode cX5_init 34 = .ok (.putfield 22, 3) := by decide +kernel
theorem dX5_init_37 : decode cX5_init 37 = .ok (.aload_n 0, 1) := by decide +kernel
theorem dX5_init_38 : decode cX5_init 38 = .ok (.aload_n 3, 1) := by decide +kernel
theorem dX5_init_39 : decode cX5_init 39 = .ok (.putfield 26, 3) := by decide +kernel
theorem dX5_init_42 : decode cX5_init 42 = .ok (.return_, 1) := by decide +kernel
theorem dX5_replaceWay_0 : decode cX5_replaceWay 0 = .ok (.aload_n 0, 1) := by decide +kernel
theorem dX5_replaceWay_1 : decode cX5_replaceWay 1 = .ok (.getfield 9, 3) := by decide +kernel
theorem dX5_replaceWay_4 : decode cX5_replaceWay 4 = .ok (.iload_n 1, 1) := by decide +kernel
theorem dX5_replaceWay_5 : decode cX5_replaceWay 5 = .ok (.invokestatic 30, 3) := by decide +kernel
theorem dX5_replaceWay_8 : decode cX5_replaceWay 8 = .ok (.istore_n 3, 1) := by decide +kernel
theorem dX5_replaceWay_9 : decode cX5_replaceWay 9 = .ok (.aload_n 0, 1) := by decide +kernel
theorem dX5_replaceWay_10 : decode cX5_replaceWay 10 = .ok (.getfield 9, 3) := by decide +kernel
theorem dX5_replaceWay_13 : decode cX5_replaceWay 13 = .ok (.iload_n 1, 1) := by decide +kernel
theorem dX5_replaceWay_14 : decode cX5_replaceWay 14 = .ok (.iload_n 2, 1) := by decide +kernel
theorem dX5_replaceWay_15 : decode cX5_replaceWay 15 = .ok (.invokestatic 36, 3) := by decide +kernel
theorem dX5_replaceWay_18 : decode cX5_replaceWay 18 = .ok (.iload_n 3, 1) := by decide +kernel
theorem dX5_replaceWay_19 : decode cX5_replaceWay 19 = .ok (.ireturn, 1) := by decide +kernel
theorem dX5_groupOf_0 : decode cX5_groupOf 0 = .ok (.iconst 1, 1) := by decide +kernel
theorem dX5_groupOf_1 : decode cX5_groupOf 1 = .ok (.iload_n 1, 1) := by decide +kernel
theorem dX5_groupOf_2 : decode cX5_groupOf 2 = .ok (.ishl, 1) := by decide +kernel
theorem dX5_groupOf_3 : decode cX5_groupOf 3 = .ok (.istore_n 2, 1) := by decide +kernel
theorem dX5_groupOf_4 : decode cX5_groupOf 4 = .ok (.iconst 1, 1) := by decide +kernel
theorem dX5_groupOf_5 : decode cX5_groupOf 5 = .ok (.istore_n 3, 1) := by decide +kernel
theorem dX5_groupOf_6 : decode cX5_groupOf 6 = .ok (.iconst 0, 1) := by decide +kernel
theorem dX5_groupOf_7 : decode cX5_groupOf 7 = .ok (.istore 4, 2) := by decide +kernel
theorem dX5_groupOf_9 : decode cX5_groupOf 9 = .ok (.iload 4, 2) := by decide +kernel
theorem dX5_groupOf_11 : decode cX5_groupOf 11 = .ok (.bipush 20, 2) := by decide +kernel
theorem dX5_groupOf_13 : decode cX5_groupOf 13 = .ok (.if_icmp .ge 77, 3) := by decide +kernel
theorem dX5_groupOf_16 : decode cX5_groupOf 16 = .ok (.iload_n 3, 1) := by decide +kernel
theorem dX5_groupOf_17 : decode cX5_groupOf 17 = .ok (.ifCond .eq 73, 3) := by decide +kernel
theorem dX5_groupOf_20 : decode cX5_groupOf 20 = .ok (.iload_n 2, 1) := by decide +kernel
theorem dX5_groupOf_21 : decode cX5_groupOf 21 = .ok (.istore 5, 2) := by decide +kernel
theorem dX5_groupOf_23 : decode cX5_groupOf 23 = .ok (.iconst 0, 1) := by decide +kernel
theorem dX5_groupOf_24 : decode cX5_groupOf 24 = .ok (.istore 6, 2) := by decide +kernel
theorem dX5_groupOf_26 : decode cX5_groupOf 26 = .ok (.iload 6, 2) := by decide +kernel
theorem dX5_groupOf_28 : decode cX5_groupOf 28 = .ok (.aload_n 0, 1) := by decide +kernel
theorem dX5_groupOf_29 : decode cX5_groupOf 29 = .ok (.getfield 26, 3) := by decide +kernel
theorem dX5_groupOf_32 : decode cX5_groupOf 32 = .ok (.invokevirtual 40, 3) := by decide +kernel
theorem dX5_groupOf_35 : decode cX5_groupOf 35 = .ok (.if_icmp .ge 37, 3) := by decide +kernel
theorem dX5_groupOf_38 : decode cX5_groupOf 38 = .ok (.iload_n 2, 1) := by decide +kernel
theorem dX5_groupOf_39 : decode cX5_groupOf 39 = .ok (.iload 6, 2) := by decide +kernel
theorem dX5_groupOf_41 : decode cX5_groupOf 41 = .ok (.invokestatic 46, 3) := by decide +kernel
theorem dX5_groupOf_44 : decode cX5_groupOf 44 = .ok (.ifCond .eq 22, 3) := by decide +kernel
theorem dX5_groupOf_47 : decode cX5_groupOf 47 = .ok (.iload_n 2, 1) := by decide +kernel
theorem dX5_groupOf_48 : decode cX5_groupOf 48 = .ok (.aload_n 0, 1) := by decide +kernel
theorem dX5_groupOf_49 : decode cX5_groupOf 49 = .ok (.aload_n 0, 1) := by decide +kernel
theorem dX5_groupOf_50 : decode cX5_groupOf 50 = .ok (.getfield 26, 3) := by decide +kernel
theorem dX5_groupOf_53 : decode cX5_groupOf 53 = .ok (.iload 6, 2) := by decide +kernel
theorem dX5_groupOf_55 : decode cX5_groupOf 55 = .ok (.invokevirtual 50, 3) := by decide +kernel
theorem dX5_groupOf_58 : decode cX5_groupOf 58 = .ok (.checkcast 54, 3) := by decide +kernel
theorem dX5_groupOf_61 : decode cX5_groupOf 61 = .ok (.invokevirtual 56, 3) := by decide +kernel
theorem dX5_groupOf_64 : decode cX5_groupOf 64 = .ok (.ior, 1) := by decide +kernel
theorem dX5_groupOf_65 : decode cX5_groupOf 65 = .ok (.istore_n 2, 1) := by decide +kernel
theorem dX5_groupOf_66 : decode cX5_groupOf 66 = .ok (.iinc 6 1, 3) := by decide +kernel
theorem dX5_groupOf_69 : decode cX5_groupOf 69 = .ok (.goto (-43), 3) := by decide +kernel
theorem dX5_groupOf_72 : decode cX5_groupOf 72 = .ok (.iload_n 2, 1) := by decide +kernel
theorem dX5_groupOf_73 : decode cX5_groupOf 73 = .ok (.iload 5, 2) := by decide +kernel
theorem dX5_groupOf_75 : decode cX5_groupOf 75 = .ok (.if_icmp .eq 7, 3) := by decide +kernel
theorem dX5_groupOf_78 : decode cX5_groupOf 78 = .ok (.iconst 1, 1) := by decide +kernel
theorem dX5_groupOf_79 : decode cX5_groupOf 79 = .ok (.goto 4, 3) := by decide +kernel
theorem dX5_groupOf_82 : decode cX5_groupOf 82 = .ok (.iconst 0, 1) := by decide +kernel
theorem dX5_groupOf_83 : decode cX5_groupOf 83 = .ok (.istore_n 3, 1) := by decide +kernel
theorem dX5_groupOf_84 : decode cX5_groupOf 84 = .ok (.iinc 4 1, 3) := by decide +kernel
theorem dX5_groupOf_87 : decode cX5_groupOf 87 = .ok (.goto (-78), 3) := by decide +kernel
theorem dX5_groupOf_90 : decode cX5_groupOf 90 = .ok (.iload_n 2, 1) := by decide +kernel
theorem dX5_groupOf_91 : decode cX5_groupOf 91 = .ok (.ireturn, 1) := by decide +kernel
theorem dX5_drawnBy_0 : decode cX5_drawnBy 0 = .ok (.aload_n 0, 1) := by decide +kernel
theorem dX5_drawnBy_1 : decode cX5_drawnBy 1 = .ok (.getfield 18, 3) := by decide +kernel
theorem dX5_drawnBy_4 : decode cX5_drawnBy 4 = .ok (.aload_n 1, 1) := by decide +kernel
theorem dX5_drawnBy_5 : decode cX5_drawnBy 5 = .ok (.getfield 60, 3) := by decide +kernel
theorem dX5_drawnBy_8 : decode cX5_drawnBy 8 = .ok (.invokevirtual 64, 3) := by decide +kernel
theorem dX5_drawnBy_11 : decode cX5_drawnBy 11 = .ok (.istore_n 2, 1) := by decide +kernel
theorem dX5_drawnBy_12 : decode cX5_drawnBy 12 = .ok (.iconst 0, 1) := by decide +kernel
theorem dX5_drawnBy_13 : decode cX5_drawnBy 13 = .ok (.istore_n 3, 1) := by decide +kernel
theorem dX5_drawnBy_14 : decode cX5_drawnBy 14 = .ok (.iconst 0, 1) := by decide +kernel
theorem dX5_drawnBy_15 : decode cX5_drawnBy 15 = .ok (.istore 4, 2) := by decide +kernel
theorem dX5_drawnBy_17 : decode cX5_drawnBy 17 = .ok (.iload 4, 2) := by decide +kernel
theorem dX5_drawnBy_19 : decode cX5_drawnBy 19 = .ok (.aload_n 0, 1) := by decide +kernel
theorem dX5_drawnBy_20 : decode cX5_drawnBy 20 = .ok (.getfield 26, 3) := by decide +kernel
theorem dX5_drawnBy_23 : decode cX5_drawnBy 23 = .ok (.invokevirtual 40, 3) := by decide +kernel
theorem dX5_drawnBy_26 : decode cX5_drawnBy 26 = .ok (.if_icmp .ge 76, 3) := by decide +kernel
theorem dX5_drawnBy_29 : decode cX5_drawnBy 29 = .ok (.aload_n 0, 1) := by decide +kernel
theorem dX5_drawnBy_30 : decode cX5_drawnBy 30 = .ok (.getfield 26, 3) := by decide +kernel
theorem dX5_drawnBy_33 : decode cX5_drawnBy 33 = .ok (.iload 4, 2) := by decide +kernel
theorem dX5_drawnBy_35 : decode cX5_drawnBy 35 = .ok (.invokevirtual 50, 3) := by decide +kernel
theorem dX5_drawnBy_38 : decode cX5_drawnBy 38 = .ok (.checkcast 54, 3) := by decide +kernel
theorem dX5_drawnBy_41 : decode cX5_drawnBy 41 = .ok (.astore 5, 2) := by decide +kernel
theorem dX5_drawnBy_43 : decode cX5_drawnBy 43 = .ok (.aload_n 1, 1) := by decide +kernel
theorem dX5_drawnBy_44 : decode cX5_drawnBy 44 = .ok (.getfield 68, 3) := by decide +kernel
theorem dX5_drawnBy_47 : decode cX5_drawnBy 47 = .ok (.iconst (-1), 1) := by decide +kernel
theorem dX5_drawnBy_48 : decode cX5_drawnBy 48 = .ok (.if_icmp .eq 19, 3) := by decide +kernel
theorem dX5_drawnBy_51 : decode cX5_drawnBy 51 = .ok (.aload 5, 2) := by decide +kernel
theorem dX5_drawnBy_53 : decode cX5_drawnBy 53 = .ok (.getfield 68, 3) := by decide +kernel
theorem dX5_drawnBy_56 : decode cX5_drawnBy 56 = .ok (.aload_n 1, 1) := by decide +kernel
theorem dX5_drawnBy_57 : decode cX5_drawnBy 57 = .ok (.getfield 68, 3) := by decide +kernel
theorem dX5_drawnBy_60 : decode cX5_drawnBy 60 = .ok (.if_icmp .ne 7, 3) := by decide +kernel
theorem dX5_drawnBy_63 : decode cX5_drawnBy 63 = .ok (.iconst 1, 1) := by decide +kernel
theorem dX5_drawnBy_64 : decode cX5_drawnBy 64 = .ok (.goto 4, 3) := by decide +kernel
theorem dX5_drawnBy_67 : decode cX5_drawnBy 67 = .ok (.iconst 0, 1) := by decide +kernel
theorem dX5_drawnBy_68 : decode cX5_drawnBy 68 = .ok (.istore 6, 2) := by decide +kernel
theorem dX5_drawnBy_70 : decode cX5_drawnBy 70 = .ok (.aload 5, 2) := by decide +kernel
theorem dX5_drawnBy_72 : decode cX5_drawnBy 72 = .ok (.getfield 71, 3) := by decide +kernel
theorem dX5_drawnBy_75 : decode cX5_drawnBy 75 = .ok (.ifCond .ne 21, 3) := by decide +kernel
theorem dX5_drawnBy_78 : decode cX5_drawnBy 78 = .ok (.iload 6, 2) := by decide +kernel
theorem dX5_drawnBy_80 : decode cX5_drawnBy 80 = .ok (.ifCond .ne 9, 3) := by decide +kernel
theorem dX5_drawnBy_83 : decode cX5_drawnBy 83 = .ok (.iload 4, 2) := by decide +kernel
theorem dX5_drawnBy_85 : decode cX5_drawnBy 85 = .ok (.iload_n 2, 1) := by decide +kernel
theorem dX5_drawnBy_86 : decode cX5_drawnBy 86 = .ok (.if_icmp .ne 10, 3) := by decide +kernel
theorem dX5_drawnBy_89 : decode cX5_drawnBy 89 = .ok (.iload_n 3, 1) := by decide +kernel
theorem dX5_drawnBy_90 : decode cX5_drawnBy 90 = .ok (.iconst 1, 1) := by decide +kernel
theorem dX5_drawnBy_91 : decode cX5_drawnBy 91 = .ok (.iload 4, 2) := by decide +kernel
theorem dX5_drawnBy_93 : decode cX5_drawnBy 93 = .ok (.ishl, 1) := by decide +kernel
theorem dX5_drawnBy_94 : decode cX5_drawnBy 94 = .ok (.ior, 1) := by decide +kernel
theorem dX5_drawnBy_95 : decode cX5_drawnBy 95 = .ok (.istore_n 3, 1) := by decide +kernel
theorem dX5_drawnBy_96 : decode cX5_drawnBy 96 = .ok (.iinc 4 1, 3) := by decide +kernel
theorem dX5_drawnBy_99 : decode cX5_drawnBy 99 = .ok (.goto (-82), 3) := by decide +kernel
theorem dX5_drawnBy_102 : decode cX5_drawnBy 102 = .ok (.iload_n 3, 1) := by decide +kernel
theorem dX5_drawnBy_103 : decode cX5_drawnBy 103 = .ok (.ireturn, 1) := by decide +kernel
theorem dX5_tryAll_0 : decode cX5_tryAll 0 = .ok (.aload_n 0, 1) := by decide +kernel
theorem dX5_tryAll_1 : decode cX5_tryAll 1 = .ok (.getfield 18, 3) := by decide +kernel
theorem dX5_tryAll_4 : decode cX5_tryAll 4 = .ok (.getfield 74, 3) := by decide +kernel
theorem dX5_tryAll_7 : decode cX5_tryAll 7 = .ok (.istore_n 2, 1) := by decide +kernel
theorem dX5_tryAll_8 : decode cX5_tryAll 8 = .ok (.aload_n 0, 1) := by decide +kernel
theorem dX5_tryAll_9 : decode cX5_tryAll 9 = .ok (.getfield 18, 3) := by decide +kernel
theorem dX5_tryAll_12 : decode cX5_tryAll 12 = .ok (.getfield 77, 3) := by decide +kernel
theorem dX5_tryAll_15 : decode cX5_tryAll 15 = .ok (.iconst 0, 1) := by decide +kernel
theorem dX5_tryAll_16 : decode cX5_tryAll 16 = .ok (.iaload, 1) := by decide +kernel
theorem dX5_tryAll_17 : decode cX5_tryAll 17 = .ok (.istore_n 3, 1) := by decide +kernel
theorem dX5_tryAll_18 : decode cX5_tryAll 18 = .ok (.aload_n 0, 1) := by decide +kernel
theorem dX5_tryAll_19 : decode cX5_tryAll 19 = .ok (.getfield 18, 3) := by decide +kernel
theorem dX5_tryAll_22 : decode cX5_tryAll 22 = .ok (.getfield 77, 3) := by decide +kernel
theorem dX5_tryAll_25 : decode cX5_tryAll 25 = .ok (.iconst 1, 1) := by decide +kernel
theorem dX5_tryAll_26 : decode cX5_tryAll 26 = .ok (.iaload, 1) := by decide +kernel
theorem dX5_tryAll_27 : decode cX5_tryAll 27 = .ok (.istore 4, 2) := by decide +kernel
theorem dX5_tryAll_29 : decode cX5_tryAll 29 = .ok (.aload_n 0, 1) := by decide +kernel
theorem dX5_tryAll_30 : decode cX5_tryAll 30 = .ok (.getfield 15, 3) := by decide +kernel
theorem dX5_tryAll_33 : decode cX5_tryAll 33 = .ok (.iconst (-1), 1) := by decide +kernel
theorem dX5_tryAll_34 : decode cX5_tryAll 34 = .ok (.invokestatic 80, 3) := by decide +kernel
theorem dX5_tryAll_37 : decode cX5_tryAll 37 = .ok (.aload_n 0, 1) := by decide +kernel
theorem dX5_tryAll_38 : decode cX5_tryAll 38 = .ok (.aload_n 0, 1) := by decide +kernel
theorem dX5_tryAll_39 : decode cX5_tryAll 39 = .ok (.iload_n 1, 1) := by decide +kernel
theorem dX5_tryAll_40 : decode cX5_tryAll 40 = .ok (.invokevirtual 86, 3) := by decide +kernel
theorem dX5_tryAll_43 : decode cX5_tryAll 43 = .ok (.putfield 89, 3) := by decide +kernel
theorem dX5_tryAll_46 : decode cX5_tryAll 46 = .ok (.iload_n 1, 1) := by decide +kernel
theorem dX5_tryAll_47 : decode cX5_tryAll 47 = .ok (.istore 5, 2) := by decide +kernel
theorem dX5_tryAll_49 : decode cX5_tryAll 49 = .ok (.iconst 0, 1) := by decide +kernel
theorem dX5_tryAll_50 : decode cX5_tryAll 50 = .ok (.istore 6, 2) := by decide +kernel
theorem dX5_tryAll_52 : decode cX5_tryAll 52 = .ok (.iload 6, 2) := by decide +kernel
theorem dX5_tryAll_54 : decode cX5_tryAll 54 = .ok (.bipush 20, 2) := by decide +kernel
theorem dX5_tryAll_56 : decode cX5_tryAll 56 = .ok (.if_icmp .ge 79, 3) := by decide +kernel
theorem dX5_tryAll_59 : decode cX5_tryAll 59 = .ok (.iload 5, 2) := by decide +kernel
theorem dX5_tryAll_61 : decode cX5_tryAll 61 = .ok (.ifCond .eq 74, 3) := by decide +kernel
theorem dX5_tryAll_64 : decode cX5_tryAll 64 = .ok (.aload_n 0, 1) := by decide +kernel
theorem dX5_tryAll_65 : decode cX5_tryAll 65 = .ok (.iload 5, 2) := by decide +kernel
theorem dX5_tryAll_67 : decode cX5_tryAll 67 = .ok (.invokevirtual 92, 3) := by decide +kernel
theorem dX5_tryAll_70 : decode cX5_tryAll 70 = .ok (.istore 7, 2) := by decide +kernel
theorem dX5_tryAll_72 : decode cX5_tryAll 72 = .ok (.iload 7, 2) := by decide +kernel
theorem dX5_tryAll_74 : decode cX5_tryAll 74 = .ok (.iconst (-1), 1) := by decide +kernel
theorem dX5_tryAll_75 : decode cX5_tryAll 75 = .ok (.if_icmp .eq 12, 3) := by decide +kernel
theorem dX5_tryAll_78 : decode cX5_tryAll 78 = .ok (.aload_n 0, 1) := by decide +kernel
theorem dX5_tryAll_79 : decode cX5_tryAll 79 = .ok (.iload 7, 2) := by decide +kernel
theorem dX5_tryAll_81 : decode cX5_tryAll 81 = .ok (.invokevirtual 95, 3) := by decide +kernel
theorem dX5_tryAll_84 : decode cX5_tryAll 84 = .ok (.ifCond .ne 34, 3) := by decide +kernel
theorem dX5_tryAll_87 : decode cX5_tryAll 87 = .ok (.aload_n 0, 1) := by decide +kernel
theorem dX5_tryAll_88 : decode cX5_tryAll 88 = .ok (.getfield 18, 3) := by decide +kernel
theorem dX5_tryAll_91 : decode cX5_tryAll 91 = .ok (.iload_n 2, 1) := by decide +kernel
theorem dX5_tryAll_92 : decode cX5_tryAll 92 = .ok (.putfield 74, 3) := by decide +kernel
theorem dX5_tryAll_95 : decode cX5_tryAll 95 = .ok (.aload_n 0, 1) := by decide +kernel
theorem dX5_tryAll_96 : decode cX5_tryAll 96 = .ok (.getfield 18, 3) := by decide +kernel
theorem dX5_tryAll_99 : decode cX5_tryAll 99 = .ok (.getfield 77, 3) := by decide +kernel
theorem dX5_tryAll_102 : decode cX5_tryAll 102 = .ok (.iconst 0, 1) := by decide +kernel
theorem dX5_tryAll_103 : decode cX5_tryAll 103 = .ok (.iload_n 3, 1) := by decide +kernel
theorem dX5_tryAll_104 : decode cX5_tryAll 104 = .ok (.iastore, 1) := by decide +kernel
theorem dX5_tryAll_105 : decode cX5_tryAll 105 = .ok (.aload_n 0, 1) := by decide +kernel
theorem dX5_tryAll_106 : decode cX5_tryAll 106 = .ok (.getfield 18, 3) := by decide +kernel
theorem dX5_tryAll_109 : decode cX5_tryAll 109 = .ok (.getfield 77, 3) := by decide +kernel
theorem dX5_tryAll_112 : decode cX5_tryAll 112 = .ok (.iconst 1, 1) := by decide +kernel
theorem dX5_tryAll_113 : decode cX5_tryAll 113 = .ok (.iload 4, 2) := by decide +kernel
theorem dX5_tryAll_115 : decode cX5_tryAll 115 = .ok (.iastore, 1) := by decide +kernel
theorem dX5_tryAll_116 : decode cX5_tryAll 116 = .ok (.iconst 0, 1) := by decide +kernel
theorem dX5_tryAll_117 : decode cX5_tryAll 117 = .ok (.ireturn, 1) := by decide +kernel
theorem dX5_tryAll_118 : decode cX5_tryAll 118 = .ok (.iload 5, 2) := by decide +kernel
theorem dX5_tryAll_120 : decode cX5_tryAll 120 = .ok (.iconst 1, 1) := by decide +kernel
theorem dX5_tryAll_121 : decode cX5_tryAll 121 = .ok (.iload 7, 2) := by decide +kernel
theorem dX5_tryAll_123 : decode cX5_tryAll 123 = .ok (.ishl, 1) := by decide +kernel
theorem dX5_tryAll_124 : decode cX5_tryAll 124 = .ok (.iconst (-1), 1) := by decide +kernel
theorem dX5_tryAll_125 : decode cX5_tryAll 125 = .ok (.ixor, 1) := by decide +kernel
theorem dX5_tryAll_126 : decode cX5_tryAll 126 = .ok (.iand, 1) := by decide +kernel
theorem dX5_tryAll_127 : decode cX5_tryAll 127 = .ok (.istore 5, 2) := by decide +kernel
theorem dX5_tryAll_129 : decode cX5_tryAll 129 = .ok (.iinc 6 1, 3) := by decide +kernel
theorem dX5_tryAll_132 : decode cX5_tryAll 132 = .ok (.goto (-80), 3) := by decide +kernel
theorem dX5_tryAll_135 : decode cX5_tryAll 135 = .ok (.aload_n 0, 1) := by decide +kernel
theorem dX5_tryAll_136 : decode cX5_tryAll 136 = .ok (.iload_n 1, 1) := by decide +kernel
theorem dX5_tryAll_137 : decode cX5_tryAll 137 = .ok (.invokevirtual 99, 3) := by decide +kernel
theorem dX5_tryAll_140 : decode cX5_tryAll 140 = .ok (.iconst 1, 1) := by decide +kernel
theorem dX5_tryAll_141 : decode cX5_tryAll 141 = .ok (.ireturn, 1) := by decide +kernel
theorem dX5_nextOf_0 : decode cX5_nextOf 0 = .ok (.iconst 0, 1) := by decide +kernel
theorem dX5_nextOf_1 : decode cX5_nextOf 1 = .ok (.istore_n 2, 1) := by decide +kernel
theorem dX5_nextOf_2 : decode cX5_nextOf 2 = .ok (.iload_n 2, 1) := by decide +kernel
theorem dX5_nextOf_3 : decode cX5_nextOf 3 = .ok (.aload_n 0, 1) := by decide +kernel
theorem dX5_nextOf_4 : decode cX5_nextOf 4 = .ok (.getfield 26, 3) := by decide +kernel
theorem dX5_nextOf_7 : decode cX5_nextOf 7 = .ok (.invokevirtual 40, 3) := by decide +kernel
theorem dX5_nextOf_10 : decode cX5_nextOf 10 = .ok (.if_icmp .ge 41, 3) := by decide +kernel
theorem dX5_nextOf_13 : decode cX5_nextOf 13 = .ok (.aload_n 0, 1) := by decide +kernel
theorem dX5_nextOf_14 : decode cX5_nextOf 14 = .ok (.getfield 18, 3) := by decide +kernel
theorem dX5_nextOf_17 : decode cX5_nextOf 17 = .ok (.iload_n 2, 1) := by decide +kernel
theorem dX5_nextOf_18 : decode cX5_nextOf 18 = .ok (.invokevirtual 64, 3) := by decide +kernel
theorem dX5_nextOf_21 : decode cX5_nextOf 21 = .ok (.istore_n 3, 1) := by decide +kernel
theorem dX5_nextOf_22 : decode cX5_nextOf 22 = .ok (.iload_n 1, 1) := by decide +kernel
theorem dX5_nextOf_23 : decode cX5_nextOf 23 = .ok (.iload_n 2, 1) := by decide +kernel
theorem dX5_nextOf_24 : decode cX5_nextOf 24 = .ok (.invokestatic 46, 3) := by decide +kernel
theorem dX5_nextOf_27 : decode cX5_nextOf 27 = .ok (.ifCond .eq 18, 3) := by decide +kernel
theorem dX5_nextOf_30 : decode cX5_nextOf 30 = .ok (.iload_n 3, 1) := by decide +kernel
theorem dX5_nextOf_31 : decode cX5_nextOf 31 = .ok (.iconst (-1), 1) := by decide +kernel
theorem dX5_nextOf_32 : decode cX5_nextOf 32 = .ok (.if_icmp .eq 11, 3) := by decide +kernel
theorem dX5_nextOf_35 : decode cX5_nextOf 35 = .ok (.iload_n 1, 1) := by decide +kernel
theorem dX5_nextOf_36 : decode cX5_nextOf 36 = .ok (.iload_n 3, 1) := by decide +kernel
theorem dX5_nextOf_37 : decode cX5_nextOf 37 = .ok (.invokestatic 46, 3) := by decide +kernel
theorem dX5_nextOf_40 : decode cX5_nextOf 40 = .ok (.ifCond .ne 5, 3) := by decide +kernel
theorem dX5_nextOf_43 : decode cX5_nextOf 43 = .ok (.iload_n 2, 1) := by decide +kernel
theorem dX5_nextOf_44 : decode cX5_nextOf 44 = .ok (.ireturn, 1) := by decide +kernel
theorem dX5_nextOf_45 : decode cX5_nextOf 45 = .ok (.iinc 2 1, 3) := by decide +kernel
theorem dX5_nextOf_48 : decode cX5_nextOf 48 = .ok (.goto (-46), 3) := by decide +kernel
theorem dX5_nextOf_51 : decode cX5_nextOf 51 = .ok (.iconst (-1), 1) := by decide +kernel
theorem dX5_nextOf_52 : decode cX5_nextOf 52 = .ok (.ireturn, 1) := by decide +kernel
theorem dX5_findSquashed_0 : decode cX5_findSquashed 0 = .ok (.iconst 0, 1) := by decide +kernel
theorem dX5_findSquashed_1 : decode cX5_findSquashed 1 = .ok (.istore_n 2, 1) := by decide +kernel
theorem dX5_findSquashed_2 : decode cX5_findSquashed 2 = .ok (.iconst 0, 1) := by decide +kernel
theorem dX5_findSquashed_3 : decode cX5_findSquashed 3 = .ok (.istore_n 3, 1) := by decide +kernel
theorem dX5_findSquashed_4 : decode cX5_findSquashed 4 = .ok (.iload_n 3, 1) := by decide +kernel
theorem dX5_findSquashed_5 : decode cX5_findSquashed 5 = .ok (.aload_n 0, 1) := by decide +kernel
theorem dX5_findSquashed_6 : decode cX5_findSquashed 6 = .ok (.getfield 26, 3) := by decide +kernel
theorem dX5_findSquashed_9 : decode cX5_findSquashed 9 = .ok (.invokevirtual 40, 3) := by decide +kernel
theorem dX5_findSquashed_12 : decode cX5_findSquashed 12 = .ok (.if_icmp .ge 86, 3) := by decide +kernel
theorem dX5_findSquashed_15 : decode cX5_findSquashed 15 = .ok (.aload_n 0, 1) := by decide +kernel
theorem dX5_findSquashed_16 : decode cX5_findSquashed 16 = .ok (.getfield 18, 3) := by decide +kernel
theorem dX5_findSquashed_19 : decode cX5_findSquashed 19 = .ok (.iload_n 3, 1) := by decide +kernel
theorem dX5_findSquashed_20 : decode cX5_findSquashed 20 = .ok (.invokevirtual 64, 3) := by decide +kernel
theorem dX5_findSquashed_23 : decode cX5_findSquashed 23 = .ok (.istore 4, 2) := by decide +kernel
theorem dX5_findSquashed_25 : decode cX5_findSquashed 25 = .ok (.iload_n 1, 1) := by decide +kernel
theorem dX5_findSquashed_26 : decode cX5_findSquashed 26 = .ok (.iload_n 3, 1) := by decide +kernel
theorem dX5_findSquashed_27 : decode cX5_findSquashed 27 = .ok (.invokestatic 46, 3) := by decide +kernel
theorem dX5_findSquashed_30 : decode cX5_findSquashed 30 = .ok (.ifCond .eq 22, 3) := by decide +kernel
theorem dX5_findSquashed_33 : decode cX5_findSquashed 33 = .ok (.iload 4, 2) := by decide +kernel
theorem dX5_findSquashed_35 : decode cX5_findSquashed 35 = .ok (.iconst (-1), 1) := by decide +kernel
theorem dX5_findSquashed_36 : decode cX5_findSquashed 36 = .ok (.if_icmp .eq 16, 3) := by decide +kernel
theorem dX5_findSquashed_39 : decode cX5_findSquashed 39 = .ok (.iload_n 1, 1) := by decide +kernel
theorem dX5_findSquashed_40 : decode cX5_findSquashed 40 = .ok (.iload 4, 2) := by decide +kernel
theorem dX5_findSquashed_42 : decode cX5_findSquashed 42 = .ok (.invokestatic 46, 3) := by decide +kernel
theorem dX5_findSquashed_45 : decode cX5_findSquashed 45 = .ok (.ifCond .eq 7, 3) := by decide +kernel
theorem dX5_findSquashed_48 : decode cX5_findSquashed 48 = .ok (.iconst 1, 1) := by decide +kernel
theorem dX5_findSquashed_49 : decode cX5_findSquashed 49 = .ok (.goto 4, 3) := by decide +kernel
theorem dX5_findSquashed_52 : decode cX5_findSquashed 52 = .ok (.iconst 0, 1) := by decide +kernel
theorem dX5_findSquashed_53 : decode cX5_findSquashed 53 = .ok (.istore 5, 2) := by decide +kernel
theorem dX5_findSquashed_55 : decode cX5_findSquashed 55 = .ok (.iload 5, 2) := by decide +kernel
theorem dX5_findSquashed_57 : decode cX5_findSquashed 57 = .ok (.ifCond .eq 35, 3) := by decide +kernel
theorem dX5_findSquashed_60 : decode cX5_findSquashed 60 = .ok (.aload_n 0, 1) := by decide +kernel
theorem dX5_findSquashed_61 : decode cX5_findSquashed 61 = .ok (.getfield 9, 3) := by decide +kernel
theorem dX5_findSquashed_64 : decode cX5_findSquashed 64 = .ok (.aload_n 0, 1) := by decide +kernel
theorem dX5_findSquashed_65 : decode cX5_findSquashed 65 = .ok (.getfield 26, 3) := by decide +kernel
theorem dX5_findSquashed_68 : decode cX5_findSquashed 68 = .ok (.iload_n 3, 1) := by decide +kernel
theorem dX5_findSquashed_69 : decode cX5_findSquashed 69 = .ok (.invokevirtual 50, 3) := by decide +kernel
theorem dX5_findSquashed_72 : decode cX5_findSquashed 72 = .ok (.checkcast 54, 3) := by decide +kernel
theorem dX5_findSquashed_75 : decode cX5_findSquashed 75 = .ok (.getfield 103, 3) := by decide +kernel
theorem dX5_findSquashed_78 : decode cX5_findSquashed 78 = .ok (.invokestatic 30, 3) := by decide +kernel
theorem dX5_findSquashed_81 : decode cX5_findSquashed 81 = .ok (.iconst 2, 1) := by decide +kernel
theorem dX5_findSquashed_82 : decode cX5_findSquashed 82 = .ok (.if_icmp .ne 10, 3) := by decide +kernel
theorem dX5_findSquashed_85 : decode cX5_findSquashed 85 = .ok (.iload_n 2, 1) := by decide +kernel
theorem dX5_findSquashed_86 : decode cX5_findSquashed 86 = .ok (.iconst 1, 1) := by decide +kernel
theorem dX5_findSquashed_87 : decode cX5_findSquashed 87 = .ok (.iload 4, 2) := by decide +kernel
theorem dX5_findSquashed_89 : decode cX5_findSquashed 89 = .ok (.ishl, 1) := by decide +kernel
theorem dX5_findSquashed_90 : decode cX5_findSquashed 90 = .ok (.ior, 1) := by decide +kernel
theorem dX5_findSquashed_91 : decode cX5_findSquashed 91 = .ok (.istore_n 2, 1) := by decide +kernel
theorem dX5_findSquashed_92 : decode cX5_findSquashed 92 = .ok (.iinc 3 1, 3) := by decide +kernel
theorem dX5_findSquashed_95 : decode cX5_findSquashed 95 = .ok (.goto (-91), 3) := by decide +kernel
theorem dX5_findSquashed_98 : decode cX5_findSquashed 98 = .ok (.iload_n 2, 1) := by decide +kernel
theorem dX5_findSquashed_99 : decode cX5_findSquashed 99 = .ok (.ireturn, 1) := by decide +kernel
theorem dX5_tryOne_0 : decode cX5_tryOne 0 = .ok (.aload_n 0, 1) := by decide +kernel
theorem dX5_tryOne_1 : decode cX5_tryOne 1 = .ok (.getfield 18, 3) := by decide +kernel
theorem dX5_tryOne_4 : decode cX5_tryOne 4 = .ok (.iload_n 1, 1) := by decide +kernel
theorem dX5_tryOne_5 : decode cX5_tryOne 5 = .ok (.invokevirtual 106, 3) := by decide +kernel
theorem dX5_tryOne_8 : decode cX5_tryOne 8 = .ok (.istore_n 2, 1) := by decide +kernel
theorem dX5_tryOne_9 : decode cX5_tryOne 9 = .ok (.aload_n 0, 1) := by decide +kernel
theorem dX5_tryOne_10 : decode cX5_tryOne 10 = .ok (.getfield 18, 3) := by decide +kernel
theorem dX5_tryOne_13 : decode cX5_tryOne 13 = .ok (.iload_n 2, 1) := by decide +kernel
theorem dX5_tryOne_14 : decode cX5_tryOne 14 = .ok (.invokevirtual 109, 3) := by decide +kernel
theorem dX5_tryOne_17 : decode cX5_tryOne 17 = .ok (.istore_n 3, 1) := by decide +kernel
theorem dX5_tryOne_18 : decode cX5_tryOne 18 = .ok (.aload_n 0, 1) := by decide +kernel
theorem dX5_tryOne_19 : decode cX5_tryOne 19 = .ok (.getfield 18, 3) := by decide +kernel
theorem dX5_tryOne_22 : decode cX5_tryOne 22 = .ok (.iload_n 3, 1) := by decide +kernel
theorem dX5_tryOne_23 : decode cX5_tryOne 23 = .ok (.invokevirtual 112, 3) := by decide +kernel
theorem dX5_tryOne_26 : decode cX5_tryOne 26 = .ok (.istore 4, 2) := by decide +kernel
theorem dX5_tryOne_28 : decode cX5_tryOne 28 = .ok (.aload_n 0, 1) := by decide +kernel
theorem dX5_tryOne_29 : decode cX5_tryOne 29 = .ok (.getfield 9, 3) := by decide +kernel
theorem dX5_tryOne_32 : decode cX5_tryOne 32 = .ok (.iload_n 3, 1) := by decide +kernel
theorem dX5_tryOne_33 : decode cX5_tryOne 33 = .ok (.invokestatic 30, 3) := by decide +kernel
theorem dX5_tryOne_36 : decode cX5_tryOne 36 = .ok (.ifCond .ne 43, 3) := by decide +kernel
theorem dX5_tryOne_39 : decode cX5_tryOne 39 = .ok (.aload_n 0, 1) := by decide +kernel
theorem dX5_tryOne_40 : decode cX5_tryOne 40 = .ok (.getfield 15, 3) := by decide +kernel
theorem dX5_tryOne_43 : decode cX5_tryOne 43 = .ok (.iload_n 1, 1) := by decide +kernel
theorem dX5_tryOne_44 : decode cX5_tryOne 44 = .ok (.iload_n 2, 1) := by decide +kernel
theorem dX5_tryOne_45 : decode cX5_tryOne 45 = .ok (.invokestatic 36, 3) := by decide +kernel
theorem dX5_tryOne_48 : decode cX5_tryOne 48 = .ok (.aload_n 0, 1) := by decide +kernel
theorem dX5_tryOne_49 : decode cX5_tryOne 49 = .ok (.getfield 18, 3) := by decide +kernel
theorem dX5_tryOne_52 : decode cX5_tryOne 52 = .ok (.getfield 77, 3) := by decide +kernel
theorem dX5_tryOne_55 : decode cX5_tryOne 55 = .ok (.iload_n 3, 1) := by decide +kernel
theorem dX5_tryOne_56 : decode cX5_tryOne 56 = .ok (.iload_n 2, 1) := by decide +kernel
theorem dX5_tryOne_57 : decode cX5_tryOne 57 = .ok (.invokestatic 36, 3) := by decide +kernel
theorem dX5_tryOne_60 : decode cX5_tryOne 60 = .ok (.aload_n 0, 1) := by decide +kernel
theorem dX5_tryOne_61 : decode cX5_tryOne 61 = .ok (.getfield 18, 3) := by decide +kernel
theorem dX5_tryOne_64 : decode cX5_tryOne 64 = .ok (.iload_n 2, 1) := by decide +kernel
theorem dX5_tryOne_65 : decode cX5_tryOne 65 = .ok (.invokevirtual 115, 3) := by decide +kernel
theorem dX5_tryOne_68 : decode cX5_tryOne 68 = .ok (.iload 4, 2) := by decide +kernel
theorem dX5_tryOne_70 : decode cX5_tryOne 70 = .ok (.if_icmp .ne 7, 3) := by decide +kernel
theorem dX5_tryOne_73 : decode cX5_tryOne 73 = .ok (.iconst 1, 1) := by decide +kernel
theorem dX5_tryOne_74 : decode cX5_tryOne 74 = .ok (.goto 4, 3) := by decide +kernel
theorem dX5_tryOne_77 : decode cX5_tryOne 77 = .ok (.iconst 0, 1) := by decide +kernel
theorem dX5_tryOne_78 : decode cX5_tryOne 78 = .ok (.ireturn, 1) := by decide +kernel
theorem dX5_tryOne_79 : decode cX5_tryOne 79 = .ok (.aload_n 0, 1) := by decide +kernel
theorem dX5_tryOne_80 : decode cX5_tryOne 80 = .ok (.getfield 89, 3) := by decide +kernel
theorem dX5_tryOne_83 : decode cX5_tryOne 83 = .ok (.iload_n 1, 1) := by decide +kernel
theorem dX5_tryOne_84 : decode cX5_tryOne 84 = .ok (.invokestatic 46, 3) := by decide +kernel
theorem dX5_tryOne_87 : decode cX5_tryOne 87 = .ok (.ifCond .eq 5, 3) := by decide +kernel
theorem dX5_tryOne_90 : decode cX5_tryOne 90 = .ok (.iconst 1, 1) := by decide +kernel
theorem dX5_tryOne_91 : decode cX5_tryOne 91 = .ok (.ireturn, 1) := by decide +kernel
theorem dX5_tryOne_92 : decode cX5_tryOne 92 = .ok (.aload_n 0, 1) := by decide +kernel
theorem dX5_tryOne_93 : decode cX5_tryOne 93 = .ok (.getfield 18, 3) := by decide +kernel
theorem dX5_tryOne_96 : decode cX5_tryOne 96 = .ok (.invokevirtual 118, 3) := by decide +kernel
theorem dX5_tryOne_99 : decode cX5_tryOne 99 = .ok (.ifCond .ne 21, 3) := by decide +kernel
theorem dX5_tryOne_102 : decode cX5_tryOne 102 = .ok (.aload_n 0, 1) := by decide +kernel
theorem dX5_tryOne_103 : decode cX5_tryOne 103 = .ok (.getfield 22, 3) := by decide +kernel
theorem dX5_tryOne_106 : decode cX5_tryOne 106 = .ok (.aload_n 0, 1) := by decide +kernel
theorem dX5_tryOne_107 : decode cX5_tryOne 107 = .ok (.iload_n 1, 1) := by decide +kernel
theorem dX5_tryOne_108 : decode cX5_tryOne 108 = .ok (.invokevirtual 122, 3) := by decide +kernel
theorem dX5_tryOne_111 : decode cX5_tryOne 111 = .ok (.iload_n 2, 1) := by decide +kernel
theorem dX5_tryOne_112 : decode cX5_tryOne 112 = .ok (.iload 4, 2) := by decide +kernel
theorem dX5_tryOne_114 : decode cX5_tryOne 114 = .ok (.invokevirtual 125, 3) := by decide +kernel
theorem dX5_tryOne_117 : decode cX5_tryOne 117 = .ok (.ifCond .ne 5, 3) := by decide +kernel
theorem dX5_tryOne_120 : decode cX5_tryOne 120 = .ok (.iconst 0, 1) := by decide +kernel
theorem dX5_tryOne_121 : decode cX5_tryOne 121 = .ok (.ireturn, 1) := by decide +kernel
theorem dX5_tryOne_122 : decode cX5_tryOne 122 = .ok (.aload_n 0, 1) := by decide +kernel
theorem dX5_tryOne_123 : decode cX5_tryOne 123 = .ok (.getfield 18, 3) := by decide +kernel
theorem dX5_tryOne_126 : decode cX5_tryOne 126 = .ok (.bipush 81, 2) := by decide +kernel
theorem dX5_tryOne_128 : decode cX5_tryOne 128 = .ok (.iload_n 3, 1) := by decide +kernel
theorem dX5_tryOne_129 : decode cX5_tryOne 129 = .ok (.iload 4, 2) := by decide +kernel
theorem dX5_tryOne_131 : decode cX5_tryOne 131 = .ok (.invokevirtual 131, 3) := by decide +kernel
theorem dX5_tryOne_134 : decode cX5_tryOne 134 = .ok (.istore 5, 2) := by decide +kernel
theorem dX5_tryOne_136 : decode cX5_tryOne 136 = .ok (.aload_n 0, 1) := by decide +kernel
theorem dX5_tryOne_137 : decode cX5_tryOne 137 = .ok (.getfield 18, 3) := by decide +kernel
theorem dX5_tryOne_140 : decode cX5_tryOne 140 = .ok (.getfield 77, 3) := by decide +kernel
theorem dX5_tryOne_143 : decode cX5_tryOne 143 = .ok (.iload_n 3, 1) := by decide +kernel
theorem dX5_tryOne_144 : decode cX5_tryOne 144 = .ok (.iload 5, 2) := by decide +kernel
theorem dX5_tryOne_146 : decode cX5_tryOne 146 = .ok (.invokestatic 36, 3) := by decide +kernel
theorem dX5_tryOne_149 : decode cX5_tryOne 149 = .ok (.aload_n 0, 1) := by decide +kernel
theorem dX5_tryOne_150 : decode cX5_tryOne 150 = .ok (.iload_n 1, 1) := by decide +kernel
theorem dX5_tryOne_151 : decode cX5_tryOne 151 = .ok (.iload 5, 2) := by decide +kernel
theorem dX5_tryOne_153 : decode cX5_tryOne 153 = .ok (.invokevirtual 135, 3) := by decide +kernel
theorem dX5_tryOne_156 : decode cX5_tryOne 156 = .ok (.iconst 1, 1) := by decide +kernel
theorem dX5_tryOne_157 : decode cX5_tryOne 157 = .ok (.ireturn, 1) := by decide +kernel
theorem dX5_squashedParentOf_0 : decode cX5_squashedParentOf 0 = .ok (.aload_n 0, 1) := by decide +kernel
theorem dX5_squashedParentOf_1 : decode cX5_squashedParentOf 1 = .ok (.getfield 18, 3) := by decide +kernel
theorem dX5_squashedParentOf_4 : decode cX5_squashedParentOf 4 = .ok (.iload_n 1, 1) := by decide +kernel
theorem dX5_squashedParentOf_5 : decode cX5_squashedParentOf 5 = .ok (.invokevirtual 64, 3) := by decide +kernel
theorem dX5_squashedParentOf_8 : decode cX5_squashedParentOf 8 = .ok (.istore_n 2, 1) := by decide +kernel
theorem dX5_squashedParentOf_9 : decode cX5_squashedParentOf 9 = .ok (.iload_n 2, 1) := by decide +kernel
theorem dX5_squashedParentOf_10 : decode cX5_squashedParentOf 10 = .ok (.iconst (-1), 1) := by decide +kernel
theorem dX5_squashedParentOf_11 : decode cX5_squashedParentOf 11 = .ok (.if_icmp .eq 18, 3) := by decide +kernel
theorem dX5_squashedParentOf_14 : decode cX5_squashedParentOf 14 = .ok (.aload_n 0, 1) := by decide +kernel
theorem dX5_squashedParentOf_15 : decode cX5_squashedParentOf 15 = .ok (.getfield 89, 3) := by decide +kernel
theorem dX5_squashedParentOf_18 : decode cX5_squashedParentOf 18 = .ok (.iload_n 2, 1) := by decide +kernel
theorem dX5_squashedParentOf_19 : decode cX5_squashedParentOf 19 = .ok (.invokestatic 46, 3) := by decide +kernel
theorem dX5_squashedParentOf_22 : decode cX5_squashedParentOf 22 = .ok (.ifCond .eq 7, 3) := by decide +kernel
theorem dX5_squashedParentOf_25 : decode cX5_squashedParentOf 25 = .ok (.iload_n 2, 1) := by decide +kernel
theorem dX5_squashedParentOf_26 : decode cX5_squashedParentOf 26 = .ok (.goto 4, 3) := by decide +kernel
theorem dX5_squashedParentOf_29 : decode cX5_squashedParentOf 29 = .ok (.iconst (-1), 1) := by decide +kernel
theorem dX5_squashedParentOf_30 : decode cX5_squashedParentOf 30 = .ok (.ireturn, 1) := by decide +kernel
theorem dX5_mergeBaseOf_0 : decode cX5_mergeBaseOf 0 = .ok (.iload_n 1, 1) := by decide +kernel
theorem dX5_mergeBaseOf_1 : decode cX5_mergeBaseOf 1 = .ok (.istore_n 2, 1) := by decide +kernel
theorem dX5_mergeBaseOf_2 : decode cX5_mergeBaseOf 2 = .ok (.aload_n 0, 1) := by decide +kernel
theorem dX5_mergeBaseOf_3 : decode cX5_mergeBaseOf 3 = .ok (.iload_n 2, 1) := by decide +kernel
theorem dX5_mergeBaseOf_4 : decode cX5_mergeBaseOf 4 = .ok (.invokevirtual 139, 3) := by decide +kernel
theorem dX5_mergeBaseOf_7 : decode cX5_mergeBaseOf 7 = .ok (.istore_n 3, 1) := by decide +kernel
theorem dX5_mergeBaseOf_8 : decode cX5_mergeBaseOf 8 = .ok (.iconst 0, 1) := by decide +kernel
theorem dX5_mergeBaseOf_9 : decode cX5_mergeBaseOf 9 = .ok (.istore 4, 2) := by decide +kernel
theorem dX5_mergeBaseOf_11 : decode cX5_mergeBaseOf 11 = .ok (.iload 4, 2) := by decide +kernel
theorem dX5_mergeBaseOf_13 : decode cX5_mergeBaseOf 13 = .ok (.bipush 20, 2) := by decide +kernel
theorem dX5_mergeBaseOf_15 : decode cX5_mergeBaseOf 15 = .ok (.if_icmp .ge 22, 3) := by decide +kernel
theorem dX5_mergeBaseOf_18 : decode cX5_mergeBaseOf 18 = .ok (.iload_n 3, 1) := by decide +kernel
theorem dX5_mergeBaseOf_19 : decode cX5_mergeBaseOf 19 = .ok (.iconst (-1), 1) := by decide +kernel
theorem dX5_mergeBaseOf_20 : decode cX5_mergeBaseOf 20 = .ok (.if_icmp .eq 17, 3) := by decide +kernel
theorem dX5_mergeBaseOf_23 : decode cX5_mergeBaseOf 23 = .ok (.iload_n 3, 1) := by decide +kernel
theorem dX5_mergeBaseOf_24 : decode cX5_mergeBaseOf 24 = .ok (.istore_n 2, 1) := by decide +kernel
theorem dX5_mergeBaseOf_25 : decode cX5_mergeBaseOf 25 = .ok (.aload_n 0, 1) := by decide +kernel
theorem dX5_mergeBaseOf_26 : decode cX5_mergeBaseOf 26 = .ok (.iload_n 2, 1) := by decide +kernel
theorem dX5_mergeBaseOf_27 : decode cX5_mergeBaseOf 27 = .ok (.invokevirtual 139, 3) := by decide +kernel
theorem dX5_mergeBaseOf_30 : decode cX5_mergeBaseOf 30 = .ok (.istore_n 3, 1) := by decide +kernel
theorem dX5_mergeBaseOf_31 : decode cX5_mergeBaseOf 31 = .ok (.iinc 4 1, 3) := by decide +kernel
theorem dX5_mergeBaseOf_34 : decode cX5_mergeBaseOf 34 = .ok (.goto (-23), 3) := by decide +kernel
theorem dX5_mergeBaseOf_37 : decode cX5_mergeBaseOf 37 = .ok (.aload_n 0, 1) := by decide +kernel
theorem dX5_mergeBaseOf_38 : decode cX5_mergeBaseOf 38 = .ok (.getfield 18, 3) := by decide +kernel
theorem dX5_mergeBaseOf_41 : decode cX5_mergeBaseOf 41 = .ok (.aload_n 0, 1) := by decide +kernel
theorem dX5_mergeBaseOf_42 : decode cX5_mergeBaseOf 42 = .ok (.getfield 18, 3) := by decide +kernel
theorem dX5_mergeBaseOf_45 : decode cX5_mergeBaseOf 45 = .ok (.iload_n 2, 1) := by decide +kernel
theorem dX5_mergeBaseOf_46 : decode cX5_mergeBaseOf 46 = .ok (.invokevirtual 106, 3) := by decide +kernel
theorem dX5_mergeBaseOf_49 : decode cX5_mergeBaseOf 49 = .ok (.invokevirtual 115, 3) := by decide +kernel
theorem dX5_mergeBaseOf_52 : decode cX5_mergeBaseOf 52 = .ok (.ireturn, 1) := by decide +kernel
theorem dX5_standFor_0 : decode cX5_standFor 0 = .ok (.iload_n 1, 1) := by decide +kernel
theorem dX5_standFor_1 : decode cX5_standFor 1 = .ok (.istore_n 3, 1) := by decide +kernel
theorem dX5_standFor_2 : decode cX5_standFor 2 = .ok (.iconst 0, 1) := by decide +kernel
theorem dX5_standFor_3 : decode cX5_standFor 3 = .ok (.istore 4, 2) := by decide +kernel
theorem dX5_standFor_5 : decode cX5_standFor 5 = .ok (.iload 4, 2) := by decide +kernel
theorem dX5_standFor_7 : decode cX5_standFor 7 = .ok (.bipush 20, 2) := by decide +kernel
theorem dX5_standFor_9 : decode cX5_standFor 9 = .ok (.if_icmp .ge 41, 3) := by decide +kernel
theorem dX5_standFor_12 : decode cX5_standFor 12 = .ok (.iload_n 3, 1) := by decide +kernel
theorem dX5_standFor_13 : decode cX5_standFor 13 = .ok (.iconst (-1), 1) := by decide +kernel
theorem dX5_standFor_14 : decode cX5_standFor 14 = .ok (.if_icmp .eq 36, 3) := by decide +kernel
theorem dX5_standFor_17 : decode cX5_standFor 17 = .ok (.aload_n 0, 1) := by decide +kernel
theorem dX5_standFor_18 : decode cX5_standFor 18 = .ok (.getfield 15, 3) := by decide +kernel
theorem dX5_standFor_21 : decode cX5_standFor 21 = .ok (.iload_n 3, 1) := by decide +kernel
theorem dX5_standFor_22 : decode cX5_standFor 22 = .ok (.invokestatic 30, 3) := by decide +kernel
theorem dX5_standFor_25 : decode cX5_standFor 25 = .ok (.iconst (-1), 1) := by decide +kernel
theorem dX5_standFor_26 : decode cX5_standFor 26 = .ok (.if_icmp .ne 12, 3) := by decide +kernel
theorem dX5_standFor_29 : decode cX5_standFor 29 = .ok (.aload_n 0, 1) := by decide +kernel
theorem dX5_standFor_30 : decode cX5_standFor 30 = .ok (.getfield 15, 3) := by decide +kernel
theorem dX5_standFor_33 : decode cX5_standFor 33 = .ok (.iload_n 3, 1) := by decide +kernel
theorem dX5_standFor_34 : decode cX5_standFor 34 = .ok (.iload_n 2, 1) := by decide +kernel
theorem dX5_standFor_35 : decode cX5_standFor 35 = .ok (.invokestatic 36, 3) := by decide +kernel
theorem dX5_standFor_38 : decode cX5_standFor 38 = .ok (.aload_n 0, 1) := by decide +kernel
theorem dX5_standFor_39 : decode cX5_standFor 39 = .ok (.iload_n 3, 1) := by decide +kernel
theorem dX5_standFor_40 : decode cX5_standFor 40 = .ok (.invokevirtual 139, 3) := by decide +kernel
theorem dX5_standFor_43 : decode cX5_standFor 43 = .ok (.istore_n 3, 1) := by decide +kernel
theorem dX5_standFor_44 : decode cX5_standFor 44 = .ok (.iinc 4 1, 3) := by decide +kernel
theorem dX5_standFor_47 : decode cX5_standFor 47 = .ok (.goto (-42), 3) := by decide +kernel
theorem dX5_standFor_50 : decode cX5_standFor 50 = .ok (.return_, 1) := by decide +kernel
theorem dX5_nameCommits_0 : decode cX5_nameCommits 0 = .ok (.iconst 0, 1) := by decide +kernel
theorem dX5_nameCommits_1 : decode cX5_nameCommits 1 = .ok (.istore_n 2, 1) := by decide +kernel
theorem dX5_nameCommits_2 : decode cX5_nameCommits 2 = .ok (.iload_n 2, 1) := by decide +kernel
theorem dX5_nameCommits_3 : decode cX5_nameCommits 3 = .ok (.aload_n 0, 1) := by decide +kernel
theorem dX5_nameCommits_4 : decode cX5_nameCommits 4 = .ok (.getfield 26, 3) := by decide +kernel
theorem dX5_nameCommits_7 : decode cX5_nameCommits 7 = .ok (.invokevirtual 40, 3) := by decide +kernel
theorem dX5_nameCommits_10 : decode cX5_nameCommits 10 = .ok (.if_icmp .ge 64, 3) := by decide +kernel
theorem dX5_nameCommits_13 : decode cX5_nameCommits 13 = .ok (.iload_n 1, 1) := by decide +kernel
theorem dX5_nameCommits_14 : decode cX5_nameCommits 14 = .ok (.iload_n 2, 1) := by decide +kernel
theorem dX5_nameCommits_15 : decode cX5_nameCommits 15 = .ok (.invokestatic 46, 3) := by decide +kernel
theorem dX5_nameCommits_18 : decode cX5_nameCommits 18 = .ok (.ifCond .eq 50, 3) := by decide +kernel
theorem dX5_nameCommits_21 : decode cX5_nameCommits 21 = .ok (.aload_n 0, 1) := by decide +kernel
theorem dX5_nameCommits_22 : decode cX5_nameCommits 22 = .ok (.getfield 15, 3) := by decide +kernel
theorem dX5_nameCommits_25 : decode cX5_nameCommits 25 = .ok (.iload_n 2, 1) := by decide +kernel
theorem dX5_nameCommits_26 : decode cX5_nameCommits 26 = .ok (.invokestatic 30, 3) := by decide +kernel
theorem dX5_nameCommits_29 : decode cX5_nameCommits 29 = .ok (.istore_n 3, 1) := by decide +kernel
theorem dX5_nameCommits_30 : decode cX5_nameCommits 30 = .ok (.aload_n 0, 1) := by decide +kernel
theorem dX5_nameCommits_31 : decode cX5_nameCommits 31 = .ok (.getfield 26, 3) := by decide +kernel
theorem dX5_nameCommits_34 : decode cX5_nameCommits 34 = .ok (.iload_n 2, 1) := by decide +kernel
theorem dX5_nameCommits_35 : decode cX5_nameCommits 35 = .ok (.invokevirtual 50, 3) := by decide +kernel
theorem dX5_nameCommits_38 : decode cX5_nameCommits 38 = .ok (.checkcast 54, 3) := by decide +kernel
theorem dX5_nameCommits_41 : decode cX5_nameCommits 41 = .ok (.iload_n 3, 1) := by decide +kernel
theorem dX5_nameCommits_42 : decode cX5_nameCommits 42 = .ok (.putfield 142, 3) := by decide +kernel
theorem dX5_nameCommits_45 : decode cX5_nameCommits 45 = .ok (.aload_n 0, 1) := by decide +kernel
theorem dX5_nameCommits_46 : decode cX5_nameCommits 46 = .ok (.getfield 89, 3) := by decide +kernel
theorem dX5_nameCommits_49 : decode cX5_nameCommits 49 = .ok (.iload_n 2, 1) := by decide +kernel
theorem dX5_nameCommits_50 : decode cX5_nameCommits 50 = .ok (.invokestatic 46, 3) := by decide +kernel
theorem dX5_nameCommits_53 : decode cX5_nameCommits 53 = .ok (.ifCond .ne 15, 3) := by decide +kernel
theorem dX5_nameCommits_56 : decode cX5_nameCommits 56 = .ok (.aload_n 0, 1) := by decide +kernel
theorem dX5_nameCommits_57 : decode cX5_nameCommits 57 = .ok (.getfield 18, 3) := by decide +kernel
theorem dX5_nameCommits_60 : decode cX5_nameCommits 60 = .ok (.getfield 145, 3) := by decide +kernel
theorem dX5_nameCommits_63 : decode cX5_nameCommits 63 = .ok (.iload_n 3, 1) := by decide +kernel
theorem dX5_nameCommits_64 : decode cX5_nameCommits 64 = .ok (.iload_n 2, 1) := by decide +kernel
theorem dX5_nameCommits_65 : decode cX5_nameCommits 65 = .ok (.invokestatic 36, 3) := by decide +kernel
theorem dX5_nameCommits_68 : decode cX5_nameCommits 68 = .ok (.iinc 2 1, 3) := by decide +kernel
theorem dX5_nameCommits_71 : decode cX5_nameCommits 71 = .ok (.goto (-69), 3) := by decide +kernel
theorem dX5_nameCommits_74 : decode cX5_nameCommits 74 = .ok (.return_, 1) := by decide +kernel
theorem dX6_init_0 : decode cX6_init 0 = .ok (.aload_n 0, 1) := by decide +kernel
theorem dX6_init_1 : decode cX6_init 1 = .ok (.invokespecial 5, 3) := by decide +kernel
theorem dX6_init_4 : decode cX6_init 4 = .ok (.aload_n 0, 1) := by decide +kernel
theorem dX6_init_5 : decode cX6_init 5 = .ok (.bipush 14, 2) := by decide +kernel
theorem dX6_init_7 : decode cX6_init 7 = .ok (.newarray .int, 2) := by decide +kernel
theorem dX6_init_9 : decode cX6_init 9 = .ok (.putfield 11, 3) := by decide +kernel
theorem dX6_init_12 : decode cX6_init 12 = .ok (.aload_n 0, 1) := by decide +kernel
theorem dX6_init_13 : decode cX6_init 13 = .ok (.bipush 14, 2) := by decide +kernel
theorem dX6_init_15 : decode cX6_init 15 = .ok (.newarray .boolean, 2) := by decide +kernel
theorem dX6_init_17 : decode cX6_init 17 = .ok (.putfield 15, 3) := by decide +kernel
theorem dX6_init_20 : decode cX6_init 20 = .ok (.aload_n 0, 1) := by decide +kernel
theorem dX6_init_21 : decode cX6_init 21 = .ok (.iconst 4, 1) := by decide +kernel
theorem dX6_init_22 : decode cX6_init 22 = .ok (.newarray .boolean, 2) := by decide +kernel
theorem dX6_init_24 : decode cX6_init 24 = .ok (.putfield 19, 3) := by decide +kernel
theorem dX6_init_27 : decode cX6_init 27 = .ok (.return_, 1) := by decide +kernel
theorem dX6_setList_0 : decode cX6_setList 0 = .ok (.aload_n 0, 1) := by decide +kernel
theorem dX6_setList_1 : decode cX6_setList 1 = .ok (.getfield 11, 3) := by decide +kernel
theorem dX6_setList_4 : decode cX6_setList 4 = .ok (.iload_n 1, 1) := by decide +kernel
theorem dX6_setList_5 : decode cX6_setList 5 = .ok (.invokestatic 22, 3) := by decide +kernel
theorem dX6_setList_8 : decode cX6_setList 8 = .ok (.istore 4, 2) := by decide +kernel
theorem dX6_setList_10 : decode cX6_setList 10 = .ok (.iload_n 1, 1) := by decide +kernel
theorem dX6_setList_11 : decode cX6_setList 11 = .ok (.ifCond .lt 26, 3) := by decide +kernel
theorem dX6_setList_14 : decode cX6_setList 14 = .ok (.iload_n 1, 1) := by decide +kernel
theorem dX6_setList_15 : decode cX6_setList 15 = .ok (.aload_n 0, 1) := by decide +kernel
theorem dX6_setList_16 : decode cX6_setList 16 = .ok (.getfield 11, 3) := by decide +kernel
theorem dX6_setList_19 : decode cX6_setList 19 = .ok (.arraylength, 1) := by decide +kernel
theorem dX6_setList_20 : decode cX6_setList 20 = .ok (.if_icmp .ge 17, 3) := by decide +kernel
theorem dX6_setList_23 : decode cX6_setList 23 = .ok (.aload_n 0, 1) := by decide +kernel
theorem dX6_setList_24 : decode cX6_setList 24 = .ok (.getfield 11, 3) := by decide +kernel
theorem dX6_setList_27 : decode cX6_setList 27 = .ok (.iload_n 1, 1) := by decide +kernel
theorem dX6_setList_28 : decode cX6_setList 28 = .ok (.iload_n 2, 1) := by decide +kernel
theorem dX6_setList_29 : decode cX6_setList 29 = .ok (.iastore, 1) := by decide +kernel
theorem dX6_setList_30 : decode cX6_setList 30 = .ok (.aload_n 0, 1) := by decide +kernel
theorem dX6_setList_31 : decode cX6_setList 31 = .ok (.getfield 15, 3) := by decide +kernel
theorem dX6_setList_34 : decode cX6_setList 34 = .ok (.iload_n 1, 1) := by decide +kernel
theorem dX6_setList_35 : decode cX6_setList 35 = .ok (.iload_n 3, 1) := by decide +kernel
theorem dX6_setList_36 : decode cX6_setList 36 = .ok (.bastore, 1) := by decide +kernel
theorem dX6_setList_37 : decode cX6_setList 37 = .ok (.iload 4, 2) := by decide +kernel
theorem dX6_setList_39 : decode cX6_setList 39 = .ok (.ireturn, 1) := by decide +kernel
theorem dX6_setIncluding_0 : decode cX6_setIncluding 0 = .ok (.iconst 0, 1) := by decide +kernel
theorem dX6_setIncluding_1 : decode cX6_setIncluding 1 = .ok (.istore_n 3, 1) := by decide +kernel
theorem dX6_setIncluding_2 : decode cX6_setIncluding 2 = .ok (.iload_n 1, 1) := by decide +kernel
theorem dX6_setIncluding_3 : decode cX6_setIncluding 3 = .ok (.ifCond .lt 26, 3) := by decide +kernel
theorem dX6_setIncluding_6 : decode cX6_setIncluding 6 = .ok (.iload_n 1, 1) := by decide +kernel
theorem dX6_setIncluding_7 : decode cX6_setIncluding 7 = .ok (.aload_n 0, 1) := by decide +kernel
theorem dX6_setIncluding_8 : decode cX6_setIncluding 8 = .ok (.getfield 19, 3) := by decide +kernel
theorem dX6_setIncluding_11 : decode cX6_setIncluding 11 = .ok (.arraylength, 1) := by decide +kernel
theorem dX6_setIncluding_12 : decode cX6_setIncluding 12 = .ok (.if_icmp .ge 17, 3) := by decide +kernel
theorem dX6_setIncluding_15 : decode cX6_setIncluding 15 = .ok (.aload_n 0, 1) := by decide +kernel
theorem dX6_setIncluding_16 : decode cX6_setIncluding 16 = .ok (.getfield 19, 3) := by decide +kernel
theorem dX6_setIncluding_19 : decode cX6_setIncluding 19 = .ok (.iload_n 1, 1) := by decide +kernel
theorem dX6_setIncluding_20 : decode cX6_setIncluding 20 = .ok (.baload, 1) := by decide +kernel
theorem dX6_setIncluding_21 : decode cX6_setIncluding 21 = .ok (.istore_n 3, 1) := by decide +kernel
theorem dX6_setIncluding_22 : decode cX6_setIncluding 22 = .ok (.aload_n 0, 1) := by decide +kernel
theorem dX6_setIncluding_23 : decode cX6_setIncluding 23 = .ok (.getfield 19, 3) := by decide +kernel
theorem dX6_setIncluding_26 : decode cX6_setIncluding 26 = .ok (.iload_n 1, 1) := by decide +kernel
theorem dX6_setIncluding_27 : decode cX6_setIncluding 27 = .ok (.iload_n 2, 1) := by decide +kernel
theorem dX6_setIncluding_28 : decode cX6_setIncluding 28 = .ok (.bastore, 1) := by decide +kernel
theorem dX6_setIncluding_29 : decode cX6_setIncluding 29 = .ok (.iload_n 3, 1) := by decide +kernel
theorem dX6_setIncluding_30 : decode cX6_setIncluding 30 = .ok (.ireturn, 1) := by decide +kernel
theorem dX6_ownersOf_0 : decode cX6_ownersOf 0 = .ok (.iload_n 1, 1) := by decide +kernel
theorem dX6_ownersOf_1 : decode cX6_ownersOf 1 = .ok (.bipush 7, 2) := by decide +kernel
theorem dX6_ownersOf_3 : decode cX6_ownersOf 3 = .ok (.imul, 1) := by decide +kernel
theorem dX6_ownersOf_4 : decode cX6_ownersOf 4 = .ok (.istore_n 3, 1) := by decide +kernel
theorem dX6_ownersOf_5 : decode cX6_ownersOf 5 = .ok (.iload_n 2, 1) := by decide +kernel
theorem dX6_ownersOf_6 : decode cX6_ownersOf 6 = .ok (.iconst 2, 1) := by decide +kernel
theorem dX6_ownersOf_7 : decode cX6_ownersOf 7 = .ok (.idiv, 1) := by decide +kernel
theorem dX6_ownersOf_8 : decode cX6_ownersOf 8 = .ok (.istore 4, 2) := by decide +kernel
theorem dX6_ownersOf_10 : decode cX6_ownersOf 10 = .ok (.iload_n 3, 1) := by decide +kernel
theorem dX6_ownersOf_11 : decode cX6_ownersOf 11 = .ok (.iconst 4, 1) := by decide +kernel
theorem dX6_ownersOf_12 : decode cX6_ownersOf 12 = .ok (.iadd, 1) := by decide +kernel
theorem dX6_ownersOf_13 : decode cX6_ownersOf 13 = .ok (.iload 4, 2) := by decide +kernel
theorem dX6_ownersOf_15 : decode cX6_ownersOf 15 = .ok (.iadd, 1) := by decide +kernel
theorem dX6_ownersOf_16 : decode cX6_ownersOf 16 = .ok (.istore 5, 2) := by decide +kernel
theorem dX6_ownersOf_18 : decode cX6_ownersOf 18 = .ok (.aload_n 0, 1) := by decide +kernel
theorem dX6_ownersOf_19 : decode cX6_ownersOf 19 = .ok (.getfield 11, 3) := by decide +kernel
theorem dX6_ownersOf_22 : decode cX6_ownersOf 22 = .ok (.iload_n 3, 1) := by decide +kernel
theorem dX6_ownersOf_23 : decode cX6_ownersOf 23 = .ok (.iload_n 2, 1) := by decide +kernel
theorem dX6_ownersOf_24 : decode cX6_ownersOf 24 = .ok (.iadd, 1) := by decide +kernel
theorem dX6_ownersOf_25 : decode cX6_ownersOf 25 = .ok (.iaload, 1) := by decide +kernel
theorem dX6_ownersOf_26 : decode cX6_ownersOf 26 = .ok (.istore 6, 2) := by decide +kernel
theorem dX6_ownersOf_28 : decode cX6_ownersOf 28 = .ok (.aload_n 0, 1) := by decide +kernel
theorem dX6_ownersOf_29 : decode cX6_ownersOf 29 = .ok (.getfield 15, 3) := by decide +kernel
theorem dX6_ownersOf_32 : decode cX6_ownersOf 32 = .ok (.iload_n 3, 1) := by decide +kernel
theorem dX6_ownersOf_33 : decode cX6_ownersOf 33 = .ok (.iload_n 2, 1) := by decide +kernel
theorem dX6_ownersOf_34 : decode cX6_ownersOf 34 = .ok (.iadd, 1) := by decide +kernel
theorem dX6_ownersOf_35 : decode cX6_ownersOf 35 = .ok (.baload, 1) := by decide +kernel
theorem dX6_ownersOf_36 : decode cX6_ownersOf 36 = .ok (.ifCond .ne 71, 3) := by decide +kernel
theorem dX6_ownersOf_39 : decode cX6_ownersOf 39 = .ok (.iload 6, 2) := by decide +kernel
theorem dX6_ownersOf_41 : decode cX6_ownersOf 41 = .ok (.aload_n 0, 1) := by decide +kernel
theorem dX6_ownersOf_42 : decode cX6_ownersOf 42 = .ok (.getfield 11, 3) := by decide +kernel
theorem dX6_ownersOf_45 : decode cX6_ownersOf 45 = .ok (.iload 5, 2) := by decide +kernel
theorem dX6_ownersOf_47 : decode cX6_ownersOf 47 = .ok (.iaload, 1) := by decide +kernel
theorem dX6_ownersOf_48 : decode cX6_ownersOf 48 = .ok (.ior, 1) := by decide +kernel
theorem dX6_ownersOf_49 : decode cX6_ownersOf 49 = .ok (.istore 6, 2) := by decide +kernel
theorem dX6_ownersOf_51 : decode cX6_ownersOf 51 = .ok (.aload_n 0, 1) := by decide +kernel
theorem dX6_ownersOf_52 : decode cX6_ownersOf 52 = .ok (.getfield 19, 3) := by decide +kernel
theorem dX6_ownersOf_55 : decode cX6_ownersOf 55 = .ok (.iload_n 1, 1) := by decide +kernel
theorem dX6_ownersOf_56 : decode cX6_ownersOf 56 = .ok (.iconst 2, 1) := by decide +kernel
theorem dX6_ownersOf_57 : decode cX6_ownersOf 57 = .ok (.imul, 1) := by decide +kernel
theorem dX6_ownersOf_58 : decode cX6_ownersOf 58 = .ok (.iload 4, 2) := by decide +kernel
theorem dX6_ownersOf_60 : decode cX6_ownersOf 60 = .ok (.iadd, 1) := by decide +kernel
theorem dX6_ownersOf_61 : decode cX6_ownersOf 61 = .ok (.baload, 1) := by decide +kernel
theorem dX6_ownersOf_62 : decode cX6_ownersOf 62 = .ok (.ifCond .eq 21, 3) := by decide +kernel
theorem dX6_ownersOf_65 : decode cX6_ownersOf 65 = .ok (.iload 6, 2) := by decide +kernel
theorem dX6_ownersOf_67 : decode cX6_ownersOf 67 = .ok (.aload_n 0, 1) := by decide +kernel
theorem dX6_ownersOf_68 : decode cX6_ownersOf 68 = .ok (.getfield 11, 3) := by decide +kernel
theorem dX6_ownersOf_71 : decode cX6_ownersOf 71 = .ok (.iload_n 3, 1) := by decide +kernel
theorem dX6_ownersOf_72 : decode cX6_ownersOf 72 = .ok (.iconst 4, 1) := by decide +kernel
theorem dX6_ownersOf_73 : decode cX6_ownersOf 73 = .ok (.iadd, 1) := by decide +kernel
theorem dX6_ownersOf_74 : decode cX6_ownersOf 74 = .ok (.iconst 1, 1) := by decide +kernel
theorem dX6_ownersOf_75 : decode cX6_ownersOf 75 = .ok (.iadd, 1) := by decide +kernel
theorem dX6_ownersOf_76 : decode cX6_ownersOf 76 = .ok (.iload 4, 2) := by decide +kernel
theorem dX6_ownersOf_78 : decode cX6_ownersOf 78 = .ok (.isub, 1) := by decide +kernel
theorem dX6_ownersOf_79 : decode cX6_ownersOf 79 = .ok (.iaload, 1) := by decide +kernel
theorem dX6_ownersOf_80 : decode cX6_ownersOf 80 = .ok (.ior, 1) := by decide +kernel
theorem dX6_ownersOf_81 : decode cX6_ownersOf 81 = .ok (.istore 6, 2) := by decide +kernel
theorem dX6_ownersOf_83 : decode cX6_ownersOf 83 = .ok (.aload_n 0, 1) := by decide +kernel
theorem dX6_ownersOf_84 : decode cX6_ownersOf 84 = .ok (.getfield 15, 3) := by decide +kernel
theorem dX6_ownersOf_87 : decode cX6_ownersOf 87 = .ok (.iload 5, 2) := by decide +kernel
theorem dX6_ownersOf_89 : decode cX6_ownersOf 89 = .ok (.baload, 1) := by decide +kernel
theorem dX6_ownersOf_90 : decode cX6_ownersOf 90 = .ok (.ifCond .ne 17, 3) := by decide +kernel
theorem dX6_ownersOf_93 : decode cX6_ownersOf 93 = .ok (.iload 6, 2) := by decide +kernel
theorem dX6_ownersOf_95 : decode cX6_ownersOf 95 = .ok (.aload_n 0, 1) := by decide +kernel
theorem dX6_ownersOf_96 : decode cX6_ownersOf 96 = .ok (.getfield 11, 3) := by decide +kernel
theorem dX6_ownersOf_99 : decode cX6_ownersOf 99 = .ok (.iload_n 3, 1) := by decide +kernel
theorem dX6_ownersOf_100 : decode cX6_ownersOf 100 = .ok (.bipush 6, 2) := by decide +kernel
theorem dX6_ownersOf_102 : decode cX6_ownersOf 102 = .ok (.iadd, 1) := by decide +kernel
theorem dX6_ownersOf_103 : decode cX6_ownersOf 103 = .ok (.iaload, 1) := by decide +kernel
theorem dX6_ownersOf_104 : decode cX6_ownersOf 104 = .ok (.ior, 1) := by decide +kernel
theorem dX6_ownersOf_105 : decode cX6_ownersOf 105 = .ok (.istore 6, 2) := by decide +kernel
theorem dX6_ownersOf_107 : decode cX6_ownersOf 107 = .ok (.iload 6, 2) := by decide +kernel
theorem dX6_ownersOf_109 : decode cX6_ownersOf 109 = .ok (.ifCond .ne 12, 3) := by decide +kernel
theorem dX6_ownersOf_112 : decode cX6_ownersOf 112 = .ok (.iconst 1, 1) := by decide +kernel
theorem dX6_ownersOf_113 : decode cX6_ownersOf 113 = .ok (.aload_n 0, 1) := by decide +kernel
theorem dX6_ownersOf_114 : decode cX6_ownersOf 114 = .ok (.getfield 28, 3) := by decide +kernel
theorem dX6_ownersOf_117 : decode cX6_ownersOf 117 = .ok (.ishl, 1) := by decide +kernel
theorem dX6_ownersOf_118 : decode cX6_ownersOf 118 = .ok (.goto 5, 3) := by decide +kernel
theorem dX6_ownersOf_121 : decode cX6_ownersOf 121 = .ok (.iload 6, 2) := by decide +kernel
theorem dX6_ownersOf_123 : decode cX6_ownersOf 123 = .ok (.ireturn, 1) := by decide +kernel
theorem dX7_init_0 : decode cX7_init 0 = .ok (.aload_n 0, 1) := by decide +kernel
theorem dX7_init_1 : decode cX7_init 1 = .ok (.invokespecial 1, 3) := by decide +kernel
theorem dX7_init_4 : decode cX7_init 4 = .ok (.aload_n 0, 1) := by decide +kernel
theorem dX7_init_5 : decode cX7_init 5 = .ok (.iload_n 1, 1) := by decide +kernel
theorem dX7_init_6 : decode cX7_init 6 = .ok (.putfield 7, 3) := by decide +kernel
theorem dX7_init_9 : decode cX7_init 9 = .ok (.aload_n 0, 1) := by decide +kernel
theorem dX7_init_10 : decode cX7_init 10 = .ok (.iload_n 2, 1) := by decide +kernel
theorem dX7_init_11 : decode cX7_init 11 = .ok (.putfield 13, 3) := by decide +kernel
theorem dX7_init_14 : decode cX7_init 14 = .ok (.aload_n 0, 1) := by decide +kernel
theorem dX7_init_15 : decode cX7_init 15 = .ok (.iload_n 3, 1) := by decide +kernel
theorem dX7_init_16 : decode cX7_init 16 = .ok (.putfield 16, 3) := by decide +kernel
theorem dX7_init_19 : decode cX7_init 19 = .ok (.aload_n 0, 1) := by decide +kernel
theorem dX7_init_20 : decode cX7_init 20 = .ok (.iload 4, 2) := by decide +kernel
theorem dX7_init_22 : decode cX7_init 22 = .ok (.putfield 19, 3) := by decide +kernel
theorem dX7_init_25 : decode cX7_init 25 = .ok (.aload_n 0, 1) := by decide +kernel
theorem dX7_init_26 : decode cX7_init 26 = .ok (.iload 5, 2) := by decide +kernel
theorem dX7_init_28 : decode cX7_init 28 = .ok (.putfield 22, 3) := by decide +kernel
theorem dX7_init_31 : decode cX7_init 31 = .ok (.return_, 1) := by decide +kernel
theorem dX7_touches_0 : decode cX7_touches 0 = .ok (.aload_n 0, 1) := by decide +kernel
theorem dX7_touches_1 : decode cX7_touches 1 = .ok (.getfield 16, 3) := by decide +kernel
theorem dX7_touches_4 : decode cX7_touches 4 = .ok (.aload_n 1, 1) := by decide +kernel
theorem dX7_touches_5 : decode cX7_touches 5 = .ok (.getfield 16, 3) := by decide +kernel
theorem dX7_touches_8 : decode cX7_touches 8 = .ok (.if_icmp .ne 39, 3) := by decide +kernel
theorem dX7_touches_11 : decode cX7_touches 11 = .ok (.aload_n 0, 1) := by decide +kernel
theorem dX7_touches_12 : decode cX7_touches 12 = .ok (.getfield 19, 3) := by decide +kernel
theorem dX7_touches_15 : decode cX7_touches 15 = .ok (.aload_n 1, 1) := by decide +kernel
theorem dX7_touches_16 : decode cX7_touches 16 = .ok (.getfield 19, 3) := by decide +kernel
theorem dX7_touches_19 : decode cX7_touches 19 = .ok (.aload_n 1, 1) := by decide +kernel
theorem dX7_touches_20 : decode cX7_touches 20 = .ok (.getfield 22, 3) := by decide +kernel
theorem dX7_touches_23 : decode cX7_touches 23 = .ok (.iadd, 1) := by decide +kernel
theorem dX7_touches_24 : decode cX7_touches 24 = .ok (.if_icmp .gt 23, 3) := by decide +kernel
theorem dX7_touches_27 : decode cX7_touches 27 = .ok (.aload_n 1, 1) := by decide +kernel
theorem dX7_touches_28 : decode cX7_touches 28 = .ok (.getfield 19, 3) := by decide +kernel
theorem dX7_touches_31 : decode cX7_touches 31 = .ok (.aload_n 0, 1) := by decide +kernel
theorem dX7_touches_32 : decode cX7_touches 32 = .ok (.getfield 19, 3) := by decide +kernel
theorem dX7_touches_35 : decode cX7_touches 35 = .ok (.aload_n 0, 1) := by decide +kernel
theorem dX7_touches_36 : decode cX7_touches 36 = .ok (.getfield 22, 3) := by decide +kernel
theorem dX7_touches_39 : decode cX7_touches 39 = .ok (.iadd, 1) := by decide +kernel
theorem dX7_touches_40 : decode cX7_touches 40 = .ok (.if_icmp .gt 7, 3) := by decide +kernel
theorem dX7_touches_43 : decode cX7_touches 43 = .ok (.iconst 1, 1) := by decide +kernel
theorem dX7_touches_44 : decode cX7_touches 44 = .ok (.goto 4, 3) := by decide +kernel
theorem dX7_touches_47 : decode cX7_touches 47 = .ok (.iconst 0, 1) := by decide +kernel
theorem dX7_touches_48 : decode cX7_touches 48 = .ok (.ireturn, 1) := by decide +kernel
theorem dX8_init_0 : decode cX8_init 0 = .ok (.aload_n 0, 1) := by decide +kernel
theorem dX8_init_1 : decode cX8_init 1 = .ok (.invokespecial 3, 3) := by decide +kernel
theorem dX8_init_4 : decode cX8_init 4 = .ok (.aload_n 0, 1) := by decide +kernel
theorem dX8_init_5 : decode cX8_init 5 = .ok (.bipush 20, 2) := by decide +kernel
theorem dX8_init_7 : decode cX8_init 7 = .ok (.newarray .int, 2) := by decide +kernel
theorem dX8_init_9 : decode cX8_init 9 = .ok (.putfield 9, 3) := by decide +kernel
theorem dX8_init_12 : decode cX8_init 12 = .ok (.aload_n 0, 1) := by decide +kernel
theorem dX8_init_13 : decode cX8_init 13 = .ok (.bipush 20, 2) := by decide +kernel
theorem dX8_init_15 : decode cX8_init 15 = .ok (.newarray .int, 2) := by decide +kernel
theorem dX8_init_17 : decode cX8_init 17 = .ok (.putfield 15, 3) := by decide +kernel
theorem dX8_init_20 : decode cX8_init 20 = .ok (.aload_n 0, 1) := by decide +kernel
theorem dX8_init_21 : decode cX8_init 21 = .ok (.bipush 20, 2) := by decide +kernel
theorem dX8_init_23 : decode cX8_init 23 = .ok (.newarray .int, 2) := by decide +kernel
theorem dX8_init_25 : decode cX8_init 25 = .ok (.putfield 18, 3) := by decide +kernel
theorem dX8_init_28 : decode cX8_init 28 = .ok (.aload_n 0, 1) := by decide +kernel
theorem dX8_init_29 : decode cX8_init 29 = .ok (.bipush 20, 2) := by decide +kernel
theorem dX8_init_31 : decode cX8_init 31 = .ok (.newarray .boolean, 2) := by decide +kernel
theorem dX8_init_33 : decode cX8_init 33 = .ok (.putfield 21, 3) := by decide +kernel
theorem dX8_init_36 : decode cX8_init 36 = .ok (.aload_n 0, 1) := by decide +kernel
theorem dX8_init_37 : decode cX8_init 37 = .ok (.bipush 16, 2) := by decide +kernel
theorem dX8_init_39 : decode cX8_init 39 = .ok (.newarray .int, 2) := by decide +kernel
theorem dX8_init_41 : decode cX8_init 41 = .ok (.putfield 25, 3) := by decide +kernel
theorem dX8_init_44 : decode cX8_init 44 = .ok (.aload_n 0, 1) := by decide +kernel
theorem dX8_init_45 : decode cX8_init 45 = .ok (.getfield 9, 3) := by decide +kernel
theorem dX8_init_48 : decode cX8_init 48 = .ok (.iconst 0, 1) := by decide +kernel
theorem dX8_init_49 : decode cX8_init 49 = .ok (.bipush 15, 2) := by decide +kernel
theorem dX8_init_51 : decode cX8_init 51 = .ok (.iastore, 1) := by decide +kernel
theorem dX8_init_52 : decode cX8_init 52 = .ok (.aload_n 0, 1) := by decide +kernel
theorem dX8_init_53 : decode cX8_init 53 = .ok (.getfield 15, 3) := by decide +kernel
theorem dX8_init_56 : decode cX8_init 56 = .ok (.iconst 0, 1) := by decide +kernel
theorem dX8_init_57 : decode cX8_init 57 = .ok (.bipush 7, 2) := by decide +kernel
theorem dX8_init_59 : decode cX8_init 59 = .ok (.iastore, 1) := by decide +kernel
theorem dX8_init_60 : decode cX8_init 60 = .ok (.aload_n 0, 1) := by decide +kernel
theorem dX8_init_61 : decode cX8_init 61 = .ok (.getfield 18, 3) := by decide +kernel
theorem dX8_init_64 : decode cX8_init 64 = .ok (.iconst 0, 1) := by decide +kernel
theorem dX8_init_65 : decode cX8_init 65 = .ok (.bipush 48, 2) := by decide +kernel
theorem dX8_init_67 : decode cX8_init 67 = .ok (.iastore, 1) := by decide +kernel
theorem dX8_init_68 : decode cX8_init 68 = .ok (.aload_n 0, 1) := by decide +kernel
theorem dX8_init_69 : decode cX8_init 69 = .ok (.iconst 1, 1) := by decide +kernel
theorem dX8_init_70 : decode cX8_init 70 = .ok (.putfield 28, 3) := by decide +kernel
theorem dX8_init_73 : decode cX8_init 73 = .ok (.return_, 1) := by decide +kernel
theorem dX8_tryAdd_0 : decode cX8_tryAdd 0 = .ok (.aload_n 0, 1) := by decide +kernel
theorem dX8_tryAdd_1 : decode cX8_tryAdd 1 = .ok (.getfield 28, 3) := by decide +kernel
theorem dX8_tryAdd_4 : decode cX8_tryAdd 4 = .ok (.bipush 20, 2) := by decide +kernel
theorem dX8_tryAdd_6 : decode cX8_tryAdd 6 = .ok (.if_icmp .lt 5, 3) := by decide +kernel
theorem dX8_tryAdd_9 : decode cX8_tryAdd 9 = .ok (.iconst (-1), 1) := by decide +kernel
theorem dX8_tryAdd_10 : decode cX8_tryAdd 10 = .ok (.ireturn, 1) := by decide +kernel
theorem dX8_tryAdd_11 : decode cX8_tryAdd 11 = .ok (.aload_n 0, 1) := by decide +kernel
theorem dX8_tryAdd_12 : decode cX8_tryAdd 12 = .ok (.getfield 28, 3) := by decide +kernel
theorem dX8_tryAdd_15 : decode cX8_tryAdd 15 = .ok (.istore 4, 2) := by decide +kernel
theorem dX8_tryAdd_17 : decode cX8_tryAdd 17 = .ok (.aload_n 0, 1) := by decide +kernel
theorem dX8_tryAdd_18 : decode cX8_tryAdd 18 = .ok (.getfield 9, 3) := by decide +kernel
theorem dX8_tryAdd_21 : decode cX8_tryAdd 21 = .ok (.iload 4, 2) := by decide +kernel
theorem dX8_tryAdd_23 : decode cX8_tryAdd 23 = .ok (.iload_n 1, 1) := by decide +kernel
theorem dX8_tryAdd_24 : decode cX8_tryAdd 24 = .ok (.iastore, 1) := by decide +kernel
theorem dX8_tryAdd_25 : decode cX8_tryAdd 25 = .ok (.aload_n 0, 1) := by decide +kernel
theorem dX8_tryAdd_26 : decode cX8_tryAdd 26 = .ok (.getfield 15, 3) := by decide +kernel
theorem dX8_tryAdd_29 : decode cX8_tryAdd 29 = .ok (.iload 4, 2) := by decide +kernel
theorem dX8_tryAdd_31 : decode cX8_tryAdd 31 = .ok (.iload_n 2, 1) := by decide +kernel
theorem dX8_tryAdd_32 : decode cX8_tryAdd 32 = .ok (.iastore, 1) := by decide +kernel
theorem dX8_tryAdd_33 : decode cX8_tryAdd 33 = .ok (.aload_n 0, 1) := by decide +kernel
theorem dX8_tryAdd_34 : decode cX8_tryAdd 34 = .ok (.getfield 18, 3) := by decide +kernel
theorem dX8_tryAdd_37 : decode cX8_tryAdd 37 = .ok (.iload 4, 2) := by decide +kernel
theorem dX8_tryAdd_39 : decode cX8_tryAdd 39 = .ok (.iload_n 3, 1) := by decide +kernel
theorem dX8_tryAdd_40 : decode cX8_tryAdd 40 = .ok (.iastore, 1) := by decide +kernel
theorem dX8_tryAdd_41 : decode cX8_tryAdd 41 = .ok (.aload_n 0, 1) := by decide +kernel
theorem dX8_tryAdd_42 : decode cX8_tryAdd 42 = .ok (.getfield 21, 3) := by decide +kernel
theorem dX8_tryAdd_45 : decode cX8_tryAdd 45 = .ok (.iload 4, 2) := by decide +kernel
theorem dX8_tryAdd_47 : decode cX8_tryAdd 47 = .ok (.iconst 0, 1) := by decide +kernel
theorem dX8_tryAdd_48 : decode cX8_tryAdd 48 = .ok (.bastore, 1) := by decide +kernel
theorem dX8_tryAdd_49 : decode cX8_tryAdd 49 = .ok (.aload_n 0, 1) := by decide +kernel
theorem dX8_tryAdd_50 : decode cX8_tryAdd 50 = .ok (.dup, 1) := by decide +kernel
theorem dX8_tryAdd_51 : decode cX8_tryAdd 51 = .ok (.getfield 28, 3) := by decide +kernel
theorem dX8_tryAdd_54 : decode cX8_tryAdd 54 = .ok (.iconst 1, 1) := by decide +kernel
theorem dX8_tryAdd_55 : decode cX8_tryAdd 55 = .ok (.iadd, 1) := by decide +kernel
theorem dX8_tryAdd_56 : decode cX8_tryAdd 56 = .ok (.putfield 28, 3) := by decide +kernel
theorem dX8_tryAdd_59 : decode cX8_tryAdd 59 = .ok (.aload_n 0, 1) := by decide +kernel
theorem dX8_tryAdd_60 : decode cX8_tryAdd 60 = .ok (.invokevirtual 32, 3) := by decide +kernel
theorem dX8_tryAdd_63 : decode cX8_tryAdd 63 = .ok (.ifCond .ne 20, 3) := by decide +kernel
theorem dX8_tryAdd_66 : decode cX8_tryAdd 66 = .ok (.aload_n 0, 1) := by decide +kernel
theorem dX8_tryAdd_67 : decode cX8_tryAdd 67 = .ok (.dup, 1) := by decide +kernel
theorem dX8_tryAdd_68 : decode cX8_tryAdd 68 = .ok (.getfield 28, 3) := by decide +kernel
theorem dX8_tryAdd_71 : decode cX8_tryAdd 71 = .ok (.iconst 1, 1) := by decide +kernel
theorem dX8_tryAdd_72 : decode cX8_tryAdd 72 = .ok (.isub, 1) := by decide +kernel
theorem dX8_tryAdd_73 : decode cX8_tryAdd 73 = .ok (.putfield 28, 3) := by decide +kernel
theorem dX8_tryAdd_76 : decode cX8_tryAdd 76 = .ok (.aload_n 0, 1) := by decide +kernel
theorem dX8_tryAdd_77 : decode cX8_tryAdd 77 = .ok (.invokevirtual 32, 3) := by decide +kernel
theorem dX8_tryAdd_80 : decode cX8_tryAdd 80 = .ok (.pop, 1) := by decide +kernel
theorem dX8_tryAdd_81 : decode cX8_tryAdd 81 = .ok (.iconst (-1), 1) := by decide +kernel
theorem dX8_tryAdd_82 : decode cX8_tryAdd 82 = .ok (.ireturn, 1) := by decide +kernel
theorem dX8_tryAdd_83 : decode cX8_tryAdd 83 = .ok (.iload 4, 2) := by decide +kernel
theorem dX8_tryAdd_85 : decode cX8_tryAdd 85 = .ok (.ireturn, 1) := by decide +kernel
theorem dX8_tryDrop_0 : decode cX8_tryDrop 0 = .ok (.iload_n 1, 1) := by decide +kernel
theorem dX8_tryDrop_1 : decode cX8_tryDrop 1 = .ok (.ifCond .lt 20, 3) := by decide +kernel
theorem dX8_tryDrop_4 : decode cX8_tryDrop 4 = .ok (.iload_n 1, 1) := by decide +kernel
theorem dX8_tryDrop_5 : decode cX8_tryDrop 5 = .ok (.aload_n 0, 1) := by decide +kernel
theorem dX8_tryDrop_6 : decode cX8_tryDrop 6 = .ok (.getfield 28, 3) := by decide +kernel
theorem dX8_tryDrop_9 : decode cX8_tryDrop 9 = .ok (.if_icmp .ge 12, 3) := by decide +kernel
theorem dX8_tryDrop_12 : decode cX8_tryDrop 12 = .ok (.aload_n 0, 1) := by decide +kernel
theorem dX8_tryDrop_13 : decode cX8_tryDrop 13 = .ok (.getfield 21, 3) := by decide +kernel
theorem dX8_tryDrop_16 : decode cX8_tryDrop 16 = .ok (.iload_n 1, 1) := by decide +kernel
theorem dX8_tryDrop_17 : decode cX8_tryDrop 17 = .ok (.baload, 1) := by decide +kernel
theorem dX8_tryDrop_18 : decode cX8_tryDrop 18 = .ok (.ifCond .eq 5, 3) := by decide +kernel
theorem dX8_tryDrop_21 : decode cX8_tryDrop 21 = .ok (.iconst (-1), 1) := by decide +kernel
theorem dX8_tryDrop_22 : decode cX8_tryDrop 22 = .ok (.ireturn, 1) := by decide +kernel
theorem dX8_tryDrop_23 : decode cX8_tryDrop 23 = .ok (.aload_n 0, 1) := by decide +kernel
theorem dX8_tryDrop_24 : decode cX8_tryDrop 24 = .ok (.getfield 21, 3) := by decide +kernel
theorem dX8_tryDrop_27 : decode cX8_tryDrop 27 = .ok (.iload_n 1, 1) := by decide +kernel
theorem dX8_tryDrop_28 : decode cX8_tryDrop 28 = .ok (.iconst 1, 1) := by decide +kernel
theorem dX8_tryDrop_29 : decode cX8_tryDrop 29 = .ok (.bastore, 1) := by decide +kernel
theorem dX8_tryDrop_30 : decode cX8_tryDrop 30 = .ok (.aload_n 0, 1) := by decide +kernel
theorem dX8_tryDrop_31 : decode cX8_tryDrop 31 = .ok (.invokevirtual 32, 3) := by decide +kernel
theorem dX8_tryDrop_34 : decode cX8_tryDrop 34 = .ok (.pop, 1) := by decide +kernel
theorem dX8_tryDrop_35 : decode cX8_tryDrop 35 = .ok (.aload_n 0, 1) := by decide +kernel
theorem dX8_tryDrop_36 : decode cX8_tryDrop 36 = .ok (.getfield 9, 3) := by decide +kernel
theorem dX8_tryDrop_39 : decode cX8_tryDrop 39 = .ok (.iload_n 1, 1) := by decide +kernel
theorem dX8_tryDrop_40 : decode cX8_tryDrop 40 = .ok (.iaload, 1) := by decide +kernel
theorem dX8_tryDrop_41 : decode cX8_tryDrop 41 = .ok (.ireturn, 1) := by decide +kernel
theorem dX8_findLevels_0 : decode cX8_findLevels 0 = .ok (.aload_n 0, 1) := by decide +kernel
theorem dX8_findLevels_1 : decode cX8_findLevels 1 = .ok (.getfield 25, 3) := by decide +kernel
theorem dX8_findLevels_4 : decode cX8_findLevels 4 = .ok (.iconst 0, 1) := by decide +kernel
theorem dX8_findLevels_5 : decode cX8_findLevels 5 = .ok (.invokestatic 36, 3) := by decide +kernel
theorem dX8_findLevels_8 : decode cX8_findLevels 8 = .ok (.iconst 1, 1) := by decide +kernel
theorem dX8_findLevels_9 : decode cX8_findLevels 9 = .ok (.istore_n 1, 1) := by decide +kernel
theorem dX8_findLevels_10 : decode cX8_findLevels 10 = .ok (.iconst 0, 1) := by decide +kernel
theorem dX8_findLevels_11 : decode cX8_findLevels 11 = .ok (.istore_n 2, 1) := by decide +kernel
theorem dX8_findLevels_12 : decode cX8_findLevels 12 = .ok (.iload_n 2, 1) := by decide +kernel
theorem dX8_findLevels_13 : decode cX8_findLevels 13 = .ok (.bipush 16, 2) := by decide +kernel
theorem dX8_findLevels_15 : decode cX8_findLevels 15 = .ok (.if_icmp .gt 82, 3) := by decide +kernel
theorem dX8_findLevels_18 : decode cX8_findLevels 18 = .ok (.iload_n 1, 1) := by decide +kernel
theorem dX8_findLevels_19 : decode cX8_findLevels 19 = .ok (.ifCond .eq 78, 3) := by decide +kernel
theorem dX8_findLevels_22 : decode cX8_findLevels 22 = .ok (.iconst 0, 1) := by decide +kernel
theorem dX8_findLevels_23 : decode cX8_findLevels 23 = .ok (.istore_n 1, 1) := by decide +kernel
theorem dX8_findLevels_24 : decode cX8_findLevels 24 = .ok (.iconst 0, 1) := by decide +kernel
theorem dX8_findLevels_25 : decode cX8_findLevels 25 = .ok (.istore_n 3, 1) := by decide +kernel
theorem dX8_findLevels_26 : decode cX8_findLevels 26 = .ok (.iload_n 3, 1) := by decide +kernel
theorem dX8_findLevels_27 : decode cX8_findLevels 27 = .ok (.aload_n 0, 1) := by decide +kernel
theorem dX8_findLevels_28 : decode cX8_findLevels 28 = .ok (.getfield 28, 3) := by decide +kernel
theorem dX8_findLevels_31 : decode cX8_findLevels 31 = .ok (.if_icmp .ge 60, 3) := by decide +kernel
theorem dX8_findLevels_34 : decode cX8_findLevels 34 = .ok (.aload_n 0, 1) := by decide +kernel
theorem dX8_findLevels_35 : decode cX8_findLevels 35 = .ok (.getfield 21, 3) := by decide +kernel
theorem dX8_findLevels_38 : decode cX8_findLevels 38 = .ok (.iload_n 3, 1) := by decide +kernel
theorem dX8_findLevels_39 : decode cX8_findLevels 39 = .ok (.baload, 1) := by decide +kernel
theorem dX8_findLevels_40 : decode cX8_findLevels 40 = .ok (.ifCond .eq 7, 3) := by decide +kernel
theorem dX8_findLevels_43 : decode cX8_findLevels 43 = .ok (.iconst 0, 1) := by decide +kernel
theorem dX8_findLevels_44 : decode cX8_findLevels 44 = .ok (.goto 8, 3) := by decide +kernel
theorem dX8_findLevels_47 : decode cX8_findLevels 47 = .ok (.aload_n 0, 1) := by decide +kernel
theorem dX8_findLevels_48 : decode cX8_findLevels 48 = .ok (.iload_n 3, 1) := by decide +kernel
theorem dX8_findLevels_49 : decode cX8_findLevels 49 = .ok (.invokevirtual 42, 3) := by decide +kernel
theorem dX8_findLevels_52 : decode cX8_findLevels 52 = .ok (.istore 4, 2) := by decide +kernel
theorem dX8_findLevels_54 : decode cX8_findLevels 54 = .ok (.aload_n 0, 1) := by decide +kernel
theorem dX8_findLevels_55 : decode cX8_findLevels 55 = .ok (.getfield 25, 3) := by decide +kernel
theorem dX8_findLevels_58 : decode cX8_findLevels 58 = .ok (.aload_n 0, 1) := by decide +kernel
theorem dX8_findLevels_59 : decode cX8_findLevels 59 = .ok (.getfield 9, 3) := by decide +kernel
theorem dX8_findLevels_62 : decode cX8_findLevels 62 = .ok (.iload_n 3, 1) := by decide +kernel
theorem dX8_findLevels_63 : decode cX8_findLevels 63 = .ok (.iaload, 1) := by decide +kernel
theorem dX8_findLevels_64 : decode cX8_findLevels 64 = .ok (.iaload, 1) := by decide +kernel
theorem dX8_findLevels_65 : decode cX8_findLevels 65 = .ok (.iload 4, 2) := by decide +kernel
theorem dX8_findLevels_67 : decode cX8_findLevels 67 = .ok (.if_icmp .ge 18, 3) := by decide +kernel
theorem dX8_findLevels_70 : decode cX8_findLevels 70 = .ok (.aload_n 0, 1) := by decide +kernel
theorem dX8_findLevels_71 : decode cX8_findLevels 71 = .ok (.getfield 25, 3) := by decide +kernel
theorem dX8_findLevels_74 : decode cX8_findLevels 74 = .ok (.aload_n 0, 1) := by decide +kernel
theorem dX8_findLevels_75 : decode cX8_findLevels 75 = .ok (.getfield 9, 3) := by decide +kernel
theorem dX8_findLevels_78 : decode cX8_findLevels 78 = .ok (.iload_n 3, 1) := by decide +kernel
theorem dX8_findLevels_79 : decode cX8_findLevels 79 = .ok (.iaload, 1) := by decide +kernel
theorem dX8_findLevels_80 : decode cX8_findLevels 80 = .ok (.iload 4, 2) := by decide +kernel
theorem dX8_findLevels_82 : decode cX8_findLevels 82 = .ok (.iastore, 1) := by decide +kernel
theorem dX8_findLevels_83 : decode cX8_findLevels 83 = .ok (.iconst 1, 1) := by decide +kernel
theorem dX8_findLevels_84 : decode cX8_findLevels 84 = .ok (.istore_n 1, 1) := by decide +kernel
theorem dX8_findLevels_85 : decode cX8_findLevels 85 = .ok (.iinc 3 1, 3) := by decide +kernel
theorem dX8_findLevels_88 : decode cX8_findLevels 88 = .ok (.goto (-62), 3) := by decide +kernel
theorem dX8_findLevels_91 : decode cX8_findLevels 91 = .ok (.iinc 2 1, 3) := by decide +kernel
theorem dX8_findLevels_94 : decode cX8_findLevels 94 = .ok (.goto (-82), 3) := by decide +kernel
theorem dX8_findLevels_97 : decode cX8_findLevels 97 = .ok (.aload_n 0, 1) := by decide +kernel
theorem dX8_findLevels_98 : decode cX8_findLevels 98 = .ok (.iconst 0, 1) := by decide +kernel
theorem dX8_findLevels_99 : decode cX8_findLevels 99 = .ok (.putfield 46, 3) := by decide +kernel
theorem dX8_findLevels_102 : decode cX8_findLevels 102 = .ok (.bipush 8, 2) := by decide +kernel
theorem dX8_findLevels_104 : decode cX8_findLevels 104 = .ok (.istore_n 2, 1) := by decide +kernel
theorem dX8_findLevels_105 : decode cX8_findLevels 105 = .ok (.iload_n 2, 1) := by decide +kernel
theorem dX8_findLevels_106 : decode cX8_findLevels 106 = .ok (.bipush 16, 2) := by decide +kernel
theorem dX8_findLevels_108 : decode cX8_findLevels 108 = .ok (.if_icmp .ge 26, 3) := by decide +kernel
theorem dX8_findLevels_111 : decode cX8_findLevels 111 = .ok (.aload_n 0, 1) := by decide +kernel
theorem dX8_findLevels_112 : decode cX8_findLevels 112 = .ok (.aload_n 0, 1) := by decide +kernel
theorem dX8_findLevels_113 : decode cX8_findLevels 113 = .ok (.getfield 46, 3) := by decide +kernel
theorem dX8_findLevels_116 : decode cX8_findLevels 116 = .ok (.aload_n 0, 1) := by decide +kernel
theorem dX8_findLevels_117 : decode cX8_findLevels 117 = .ok (.getfield 25, 3) := by decide +kernel
theorem dX8_findLevels_120 : decode cX8_findLevels 120 = .ok (.iload_n 2, 1) := by decide +kernel
theorem dX8_findLevels_121 : decode cX8_findLevels 121 = .ok (.iaload, 1) := by decide +kernel
theorem dX8_findLevels_122 : decode cX8_findLevels 122 = .ok (.invokestatic 49, 3) := by decide +kernel
theorem dX8_findLevels_125 : decode cX8_findLevels 125 = .ok (.putfield 46, 3) := by decide +kernel
theorem dX8_findLevels_128 : decode cX8_findLevels 128 = .ok (.iinc 2 1, 3) := by decide +kernel
theorem dX8_findLevels_131 : decode cX8_findLevels 131 = .ok (.goto (-26), 3) := by decide +kernel
theorem dX8_findLevels_134 : decode cX8_findLevels 134 = .ok (.iload_n 1, 1) := by decide +kernel
theorem dX8_findLevels_135 : decode cX8_findLevels 135 = .ok (.ifCond .ne 7, 3) := by decide +kernel
theorem dX8_findLevels_138 : decode cX8_findLevels 138 = .ok (.iconst 1, 1) := by decide +kernel
theorem dX8_findLevels_139 : decode cX8_findLevels 139 = .ok (.goto 4, 3) := by decide +kernel
theorem dX8_findLevels_142 : decode cX8_findLevels 142 = .ok (.iconst 0, 1) := by decide +kernel
theorem dX8_findLevels_143 : decode cX8_findLevels 143 = .ok (.ireturn, 1) := by decide +kernel
theorem dX8_levelNeeded_0 : decode cX8_levelNeeded 0 = .ok (.iconst 0, 1) := by decide +kernel
theorem dX8_levelNeeded_1 : decode cX8_levelNeeded 1 = .ok (.istore_n 2, 1) := by decide +kernel
theorem dX8_levelNeeded_2 : decode cX8_levelNeeded 2 = .ok (.bipush 8, 2) := by decide +kernel
theorem dX8_levelNeeded_4 : decode cX8_levelNeeded 4 = .ok (.istore_n 3, 1) := by decide +kernel
theorem dX8_levelNeeded_5 : decode cX8_levelNeeded 5 = .ok (.iload_n 3, 1) := by decide +kernel
theorem dX8_levelNeeded_6 : decode cX8_levelNeeded 6 = .ok (.bipush 16, 2) := by decide +kernel
theorem dX8_levelNeeded_8 : decode cX8_levelNeeded 8 = .ok (.if_icmp .ge 59, 3) := by decide +kernel
theorem dX8_levelNeeded_11 : decode cX8_levelNeeded 11 = .ok (.aload_n 0, 1) := by decide +kernel
theorem dX8_levelNeeded_12 : decode cX8_levelNeeded 12 = .ok (.getfield 15, 3) := by decide +kernel
theorem dX8_levelNeeded_15 : decode cX8_levelNeeded 15 = .ok (.iload_n 1, 1) := by decide +kernel
theorem dX8_levelNeeded_16 : decode cX8_levelNeeded 16 = .ok (.iaload, 1) := by decide +kernel
theorem dX8_levelNeeded_17 : decode cX8_levelNeeded 17 = .ok (.iload_n 3, 1) := by decide +kernel
theorem dX8_levelNeeded_18 : decode cX8_levelNeeded 18 = .ok (.invokestatic 55, 3) := by decide +kernel
theorem dX8_levelNeeded_21 : decode cX8_levelNeeded 21 = .ok (.ifCond .eq 14, 3) := by decide +kernel
theorem dX8_levelNeeded_24 : decode cX8_levelNeeded 24 = .ok (.iload_n 2, 1) := by decide +kernel
theorem dX8_levelNeeded_25 : decode cX8_levelNeeded 25 = .ok (.aload_n 0, 1) := by decide +kernel
theorem dX8_levelNeeded_26 : decode cX8_levelNeeded 26 = .ok (.getfield 25, 3) := by decide +kernel
theorem dX8_levelNeeded_29 : decode cX8_levelNeeded 29 = .ok (.iload_n 3, 1) := by decide +kernel
theorem dX8_levelNeeded_30 : decode cX8_levelNeeded 30 = .ok (.iaload, 1) := by decide +kernel
theorem dX8_levelNeeded_31 : decode cX8_levelNeeded 31 = .ok (.invokestatic 49, 3) := by decide +kernel
theorem dX8_levelNeeded_34 : decode cX8_levelNeeded 34 = .ok (.istore_n 2, 1) := by decide +kernel
theorem dX8_levelNeeded_35 : decode cX8_levelNeeded 35 = .ok (.aload_n 0, 1) := by decide +kernel
theorem dX8_levelNeeded_36 : decode cX8_levelNeeded 36 = .ok (.getfield 18, 3) := by decide +kernel
theorem dX8_levelNeeded_39 : decode cX8_levelNeeded 39 = .ok (.iload_n 1, 1) := by decide +kernel
theorem dX8_levelNeeded_40 : decode cX8_levelNeeded 40 = .ok (.iaload, 1) := by decide +kernel
theorem dX8_levelNeeded_41 : decode cX8_levelNeeded 41 = .ok (.iload_n 3, 1) := by decide +kernel
theorem dX8_levelNeeded_42 : decode cX8_levelNeeded 42 = .ok (.invokestatic 55, 3) := by decide +kernel
theorem dX8_levelNeeded_45 : decode cX8_levelNeeded 45 = .ok (.ifCond .eq 16, 3) := by decide +kernel
theorem dX8_levelNeeded_48 : decode cX8_levelNeeded 48 = .ok (.iload_n 2, 1) := by decide +kernel
theorem dX8_levelNeeded_49 : decode cX8_levelNeeded 49 = .ok (.aload_n 0, 1) := by decide +kernel
theorem dX8_levelNeeded_50 : decode cX8_levelNeeded 50 = .ok (.getfield 25, 3) := by decide +kernel
theorem dX8_levelNeeded_53 : decode cX8_levelNeeded 53 = .ok (.iload_n 3, 1) := by decide +kernel
theorem dX8_levelNeeded_54 : decode cX8_levelNeeded 54 = .ok (.iaload, 1) := by decide +kernel
theorem dX8_levelNeeded_55 : decode cX8_levelNeeded 55 = .ok (.iconst 1, 1) := by decide +kernel
theorem dX8_levelNeeded_56 : decode cX8_levelNeeded 56 = .ok (.iadd, 1) := by decide +kernel
theorem dX8_levelNeeded_57 : decode cX8_levelNeeded 57 = .ok (.invokestatic 49, 3) := by decide +kernel
theorem dX8_levelNeeded_60 : decode cX8_levelNeeded 60 = .ok (.istore_n 2, 1) := by decide +kernel
theorem dX8_levelNeeded_61 : decode cX8_levelNeeded 61 = .ok (.iinc 3 1, 3) := by decide +kernel
theorem dX8_levelNeeded_64 : decode cX8_levelNeeded 64 = .ok (.goto (-59), 3) := by decide +kernel
theorem dX8_levelNeeded_67 : decode cX8_levelNeeded 67 = .ok (.iload_n 2, 1) := by decide +kernel
theorem dX8_levelNeeded_68 : decode cX8_levelNeeded 68 = .ok (.ireturn, 1) := by decide +kernel
theorem dX8_follow_0 : decode cX8_follow 0 = .ok (.iload_n 1, 1) := by decide +kernel
theorem dX8_follow_1 : decode cX8_follow 1 = .ok (.istore_n 2, 1) := by decide +kernel
theorem dX8_follow_2 : decode cX8_follow 2 = .ok (.iconst 0, 1) := by decide +kernel
theorem dX8_follow_3 : decode cX8_follow 3 = .ok (.istore_n 3, 1) := by decide +kernel
theorem dX8_follow_4 : decode cX8_follow 4 = .ok (.iload_n 3, 1) := by decide +kernel
theorem dX8_follow_5 : decode cX8_follow 5 = .ok (.aload_n 0, 1) := by decide +kernel
theorem dX8_follow_6 : decode cX8_follow 6 = .ok (.getfield 46, 3) := by decide +kernel
theorem dX8_follow_9 : decode cX8_follow 9 = .ok (.if_icmp .gt 62, 3) := by decide +kernel
theorem dX8_follow_12 : decode cX8_follow 12 = .ok (.iload_n 3, 1) := by decide +kernel
theorem dX8_follow_13 : decode cX8_follow 13 = .ok (.bipush 16, 2) := by decide +kernel
theorem dX8_follow_15 : decode cX8_follow 15 = .ok (.if_icmp .ge 56, 3) := by decide +kernel
theorem dX8_follow_18 : decode cX8_follow 18 = .ok (.iconst 1, 1) := by decide +kernel
theorem dX8_follow_19 : decode cX8_follow 19 = .ok (.istore 4, 2) := by decide +kernel
theorem dX8_follow_21 : decode cX8_follow 21 = .ok (.iconst 0, 1) := by decide +kernel
theorem dX8_follow_22 : decode cX8_follow 22 = .ok (.istore 5, 2) := by decide +kernel
theorem dX8_follow_24 : decode cX8_follow 24 = .ok (.iload 5, 2) := by decide +kernel
theorem dX8_follow_26 : decode cX8_follow 26 = .ok (.bipush 16, 2) := by decide +kernel
theorem dX8_follow_28 : decode cX8_follow 28 = .ok (.if_icmp .ge 37, 3) := by decide +kernel
theorem dX8_follow_31 : decode cX8_follow 31 = .ok (.iload 4, 2) := by decide +kernel
theorem dX8_follow_33 : decode cX8_follow 33 = .ok (.ifCond .eq 32, 3) := by decide +kernel
theorem dX8_follow_36 : decode cX8_follow 36 = .ok (.iload_n 2, 1) := by decide +kernel
theorem dX8_follow_37 : decode cX8_follow 37 = .ok (.istore 6, 2) := by decide +kernel
theorem dX8_follow_39 : decode cX8_follow 39 = .ok (.aload_n 0, 1) := by decide +kernel
theorem dX8_follow_40 : decode cX8_follow 40 = .ok (.iload_n 2, 1) := by decide +kernel
theorem dX8_follow_41 : decode cX8_follow 41 = .ok (.iload_n 3, 1) := by decide +kernel
theorem dX8_follow_42 : decode cX8_follow 42 = .ok (.invokevirtual 59, 3) := by decide +kernel
theorem dX8_follow_45 : decode cX8_follow 45 = .ok (.istore_n 2, 1) := by decide +kernel
theorem dX8_follow_46 : decode cX8_follow 46 = .ok (.iload_n 2, 1) := by decide +kernel
theorem dX8_follow_47 : decode cX8_follow 47 = .ok (.iload 6, 2) := by decide +kernel
theorem dX8_follow_49 : decode cX8_follow 49 = .ok (.if_icmp .eq 7, 3) := by decide +kernel
theorem dX8_follow_52 : decode cX8_follow 52 = .ok (.iconst 1, 1) := by decide +kernel
theorem dX8_follow_53 : decode cX8_follow 53 = .ok (.goto 4, 3) := by decide +kernel
theorem dX8_follow_56 : decode cX8_follow 56 = .ok (.iconst 0, 1) := by decide +kernel
theorem dX8_follow_57 : decode cX8_follow 57 = .ok (.istore 4, 2) := by decide +kernel
theorem dX8_follow_59 : decode cX8_follow 59 = .ok (.iinc 5 1, 3) := by decide +kernel
theorem dX8_follow_62 : decode cX8_follow 62 = .ok (.goto (-38), 3) := by decide +kernel
theorem dX8_follow_65 : decode cX8_follow 65 = .ok (.iinc 3 1, 3) := by decide +kernel
theorem dX8_follow_68 : decode cX8_follow 68 = .ok (.goto (-64), 3) := by decide +kernel
theorem dX8_follow_71 : decode cX8_follow 71 = .ok (.iload_n 2, 1) := by decide +kernel
theorem dX8_follow_72 : decode cX8_follow 72 = .ok (.ireturn, 1) := by decide +kernel
theorem dX8_followOnce_0 : decode cX8_followOnce 0 = .ok (.iload_n 1, 1) := by decide +kernel
theorem dX8_followOnce_1 : decode cX8_followOnce 1 = .ok (.istore_n 3, 1) := by decide +kernel
theorem dX8_followOnce_2 : decode cX8_followOnce 2 = .ok (.iconst 0, 1) := by decide +kernel
theorem dX8_followOnce_3 : decode cX8_followOnce 3 = .ok (.istore 4, 2) := by decide +kernel
theorem dX8_followOnce_5 : decode cX8_followOnce 5 = .ok (.iload 4, 2) := by decide +kernel
theorem dX8_followOnce_7 : decode cX8_followOnce 7 = .ok (.aload_n 0, 1) := by decide +kernel
theorem dX8_followOnce_8 : decode cX8_followOnce 8 = .ok (.getfield 28, 3) := by decide +kernel
theorem dX8_followOnce_11 : decode cX8_followOnce 11 = .ok (.if_icmp .ge 85, 3) := by decide +kernel
theorem dX8_followOnce_14 : decode cX8_followOnce 14 = .ok (.aload_n 0, 1) := by decide +kernel
theorem dX8_followOnce_15 : decode cX8_followOnce 15 = .ok (.getfield 21, 3) := by decide +kernel
theorem dX8_followOnce_18 : decode cX8_followOnce 18 = .ok (.iload 4, 2) := by decide +kernel
theorem dX8_followOnce_20 : decode cX8_followOnce 20 = .ok (.baload, 1) := by decide +kernel
theorem dX8_followOnce_21 : decode cX8_followOnce 21 = .ok (.ifCond .ne 23, 3) := by decide +kernel
theorem dX8_followOnce_24 : decode cX8_followOnce 24 = .ok (.aload_n 0, 1) := by decide +kernel
theorem dX8_followOnce_25 : decode cX8_followOnce 25 = .ok (.getfield 25, 3) := by decide +kernel
theorem dX8_followOnce_28 : decode cX8_followOnce 28 = .ok (.aload_n 0, 1) := by decide +kernel
theorem dX8_followOnce_29 : decode cX8_followOnce 29 = .ok (.getfield 9, 3) := by decide +kernel
theorem dX8_followOnce_32 : decode cX8_followOnce 32 = .ok (.iload 4, 2) := by decide +kernel
theorem dX8_followOnce_34 : decode cX8_followOnce 34 = .ok (.iaload, 1) := by decide +kernel
theorem dX8_followOnce_35 : decode cX8_followOnce 35 = .ok (.iaload, 1) := by decide +kernel
theorem dX8_followOnce_36 : decode cX8_followOnce 36 = .ok (.iload_n 2, 1) := by decide +kernel
theorem dX8_followOnce_37 : decode cX8_followOnce 37 = .ok (.if_icmp .ne 7, 3) := by decide +kernel
theorem dX8_followOnce_40 : decode cX8_followOnce 40 = .ok (.iconst 1, 1) := by decide +kernel
theorem dX8_followOnce_41 : decode cX8_followOnce 41 = .ok (.goto 4, 3) := by decide +kernel
theorem dX8_followOnce_44 : decode cX8_followOnce 44 = .ok (.iconst 0, 1) := by decide +kernel
theorem dX8_followOnce_45 : decode cX8_followOnce 45 = .ok (.istore 5, 2) := by decide +kernel
theorem dX8_followOnce_47 : decode cX8_followOnce 47 = .ok (.iload 5, 2) := by decide +kernel
theorem dX8_followOnce_49 : decode cX8_followOnce 49 = .ok (.ifCond .eq 41, 3) := by decide +kernel
theorem dX8_followOnce_52 : decode cX8_followOnce 52 = .ok (.aload_n 0, 1) := by decide +kernel
theorem dX8_followOnce_53 : decode cX8_followOnce 53 = .ok (.getfield 15, 3) := by decide +kernel
theorem dX8_followOnce_56 : decode cX8_followOnce 56 = .ok (.iload 4, 2) := by decide +kernel
theorem dX8_followOnce_58 : decode cX8_followOnce 58 = .ok (.iaload, 1) := by decide +kernel
theorem dX8_followOnce_59 : decode cX8_followOnce 59 = .ok (.iload_n 3, 1) := by decide +kernel
theorem dX8_followOnce_60 : decode cX8_followOnce 60 = .ok (.iconst (-1), 1) := by decide +kernel
theorem dX8_followOnce_61 : decode cX8_followOnce 61 = .ok (.ixor, 1) := by decide +kernel
theorem dX8_followOnce_62 : decode cX8_followOnce 62 = .ok (.iand, 1) := by decide +kernel
theorem dX8_followOnce_63 : decode cX8_followOnce 63 = .ok (.ifCond .ne 27, 3) := by decide +kernel
theorem dX8_followOnce_66 : decode cX8_followOnce 66 = .ok (.aload_n 0, 1) := by decide +kernel
theorem dX8_followOnce_67 : decode cX8_followOnce 67 = .ok (.getfield 18, 3) := by decide +kernel
theorem dX8_followOnce_70 : decode cX8_followOnce 70 = .ok (.iload 4, 2) := by decide +kernel
theorem dX8_followOnce_72 : decode cX8_followOnce 72 = .ok (.iaload, 1) := by decide +kernel
theorem dX8_followOnce_73 : decode cX8_followOnce 73 = .ok (.iload_n 3, 1) := by decide +kernel
theorem dX8_followOnce_74 : decode cX8_followOnce 74 = .ok (.iand, 1) := by decide +kernel
theorem dX8_followOnce_75 : decode cX8_followOnce 75 = .ok (.ifCond .ne 15, 3) := by decide +kernel
theorem dX8_followOnce_78 : decode cX8_followOnce 78 = .ok (.iload_n 3, 1) := by decide +kernel
theorem dX8_followOnce_79 : decode cX8_followOnce 79 = .ok (.iconst 1, 1) := by decide +kernel
theorem dX8_followOnce_80 : decode cX8_followOnce 80 = .ok (.aload_n 0, 1) := by decide +kernel
theorem dX8_followOnce_81 : decode cX8_followOnce 81 = .ok (.getfield 9, 3) := by decide +kernel
theorem dX8_followOnce_84 : decode cX8_followOnce 84 = .ok (.iload 4, 2) := by decide +kernel
theorem dX8_followOnce_86 : decode cX8_followOnce 86 = .ok (.iaload, 1) := by decide +kernel
theorem dX8_followOnce_87 : decode cX8_followOnce 87 = .ok (.ishl, 1) := by decide +kernel
theorem dX8_followOnce_88 : decode cX8_followOnce 88 = .ok (.ior, 1) := by decide +kernel
theorem dX8_followOnce_89 : decode cX8_followOnce 89 = .ok (.istore_n 3, 1) := by decide +kernel
theorem dX8_followOnce_90 : decode cX8_followOnce 90 = .ok (.iinc 4 1, 3) := by decide +kernel
theorem dX8_followOnce_93 : decode cX8_followOnce 93 = .ok (.goto (-88), 3) := by decide +kernel
theorem dX8_followOnce_96 : decode cX8_followOnce 96 = .ok (.iload_n 3, 1) := by decide +kernel
theorem dX8_followOnce_97 : decode cX8_followOnce 97 = .ok (.ireturn, 1) := by decide +kernel
theorem dX8_lackingFacts_0 : decode cX8_lackingFacts 0 = .ok (.iconst (-1), 1) := by decide +kernel
theorem dX8_lackingFacts_1 : decode cX8_lackingFacts 1 = .ok (.istore_n 2, 1) := by decide +kernel
theorem dX8_lackingFacts_2 : decode cX8_lackingFacts 2 = .ok (.iconst 0, 1) := by decide +kernel
theorem dX8_lackingFacts_3 : decode cX8_lackingFacts 3 = .ok (.istore_n 3, 1) := by decide +kernel
theorem dX8_lackingFacts_4 : decode cX8_lackingFacts 4 = .ok (.iload_n 3, 1) := by decide +kernel
theorem dX8_lackingFacts_5 : decode cX8_lackingFacts 5 = .ok (.sipush 256, 3) := by decide +kernel
theorem dX8_lackingFacts_8 : decode cX8_lackingFacts 8 = .ok (.if_icmp .ge 54, 3) := by decide +kernel
theorem dX8_lackingFacts_11 : decode cX8_lackingFacts 11 = .ok (.iload_n 2, 1) := by decide +kernel
theorem dX8_lackingFacts_12 : decode cX8_lackingFacts 12 = .ok (.iconst (-1), 1) := by decide +kernel
theorem dX8_lackingFacts_13 : decode cX8_lackingFacts 13 = .ok (.if_icmp .eq 14, 3) := by decide +kernel
theorem dX8_lackingFacts_16 : decode cX8_lackingFacts 16 = .ok (.iload_n 3, 1) := by decide +kernel
theorem dX8_lackingFacts_17 : decode cX8_lackingFacts 17 = .ok (.invokestatic 62, 3) := by decide +kernel
theorem dX8_lackingFacts_20 : decode cX8_lackingFacts 20 = .ok (.iload_n 2, 1) := by decide +kernel
theorem dX8_lackingFacts_21 : decode cX8_lackingFacts 21 = .ok (.invokestatic 62, 3) := by decide +kernel
theorem dX8_lackingFacts_24 : decode cX8_lackingFacts 24 = .ok (.if_icmp .ge 7, 3) := by decide +kernel
theorem dX8_lackingFacts_27 : decode cX8_lackingFacts 27 = .ok (.iconst 1, 1) := by decide +kernel
theorem dX8_lackingFacts_28 : decode cX8_lackingFacts 28 = .ok (.goto 4, 3) := by decide +kernel
theorem dX8_lackingFacts_31 : decode cX8_lackingFacts 31 = .ok (.iconst 0, 1) := by decide +kernel
theorem dX8_lackingFacts_32 : decode cX8_lackingFacts 32 = .ok (.istore 4, 2) := by decide +kernel
theorem dX8_lackingFacts_34 : decode cX8_lackingFacts 34 = .ok (.iload 4, 2) := by decide +kernel
theorem dX8_lackingFacts_36 : decode cX8_lackingFacts 36 = .ok (.ifCond .eq 20, 3) := by decide +kernel
theorem dX8_lackingFacts_39 : decode cX8_lackingFacts 39 = .ok (.aload_n 0, 1) := by decide +kernel
theorem dX8_lackingFacts_40 : decode cX8_lackingFacts 40 = .ok (.iload_n 1, 1) := by decide +kernel
theorem dX8_lackingFacts_41 : decode cX8_lackingFacts 41 = .ok (.iload_n 3, 1) := by decide +kernel
theorem dX8_lackingFacts_42 : decode cX8_lackingFacts 42 = .ok (.ixor, 1) := by decide +kernel
theorem dX8_lackingFacts_43 : decode cX8_lackingFacts 43 = .ok (.invokevirtual 67, 3) := by decide +kernel
theorem dX8_lackingFacts_46 : decode cX8_lackingFacts 46 = .ok (.bipush 15, 2) := by decide +kernel
theorem dX8_lackingFacts_48 : decode cX8_lackingFacts 48 = .ok (.invokestatic 55, 3) := by decide +kernel
theorem dX8_lackingFacts_51 : decode cX8_lackingFacts 51 = .ok (.ifCond .eq 5, 3) := by decide +kernel
theorem dX8_lackingFacts_54 : decode cX8_lackingFacts 54 = .ok (.iload_n 3, 1) := by decide +kernel
theorem dX8_lackingFacts_55 : decode cX8_lackingFacts 55 = .ok (.istore_n 2, 1) := by decide +kernel
theorem dX8_lackingFacts_56 : decode cX8_lackingFacts 56 = .ok (.iinc 3 1, 3) := by decide +kernel
theorem dX8_lackingFacts_59 : decode cX8_lackingFacts 59 = .ok (.goto (-55), 3) := by decide +kernel
theorem dX8_lackingFacts_62 : decode cX8_lackingFacts 62 = .ok (.iload_n 2, 1) := by decide +kernel
theorem dX8_lackingFacts_63 : decode cX8_lackingFacts 63 = .ok (.ireturn, 1) := by decide +kernel
theorem dX9_init_0 : decode cX9_init 0 = .ok (.aload_n 0, 1) := by decide +kernel
theorem dX9_init_1 : decode cX9_init 1 = .ok (.invokespecial 3, 3) := by decide +kernel
theorem dX9_init_4 : decode cX9_init 4 = .ok (.aload_n 0, 1) := by decide +kernel
theorem dX9_init_5 : decode cX9_init 5 = .ok (.sipush 3280, 3) := by decide +kernel
theorem dX9_init_8 : decode cX9_init 8 = .ok (.newarray .int, 2) := by decide +kernel
theorem dX9_init_10 : decode cX9_init 10 = .ok (.putfield 11, 3) := by decide +kernel
theorem dX9_init_13 : decode cX9_init 13 = .ok (.aload_n 0, 1) := by decide +kernel
theorem dX9_init_14 : decode cX9_init 14 = .ok (.sipush 328, 3) := by decide +kernel
theorem dX9_init_17 : decode cX9_init 17 = .ok (.newarray .int, 2) := by decide +kernel
theorem dX9_init_19 : decode cX9_init 19 = .ok (.putfield 15, 3) := by decide +kernel
theorem dX9_init_22 : decode cX9_init 22 = .ok (.aload_n 0, 1) := by decide +kernel
theorem dX9_init_23 : decode cX9_init 23 = .ok (.bipush 82, 2) := by decide +kernel
theorem dX9_init_25 : decode cX9_init 25 = .ok (.newarray .int, 2) := by decide +kernel
theorem dX9_init_27 : decode cX9_init 27 = .ok (.putfield 18, 3) := by decide +kernel
theorem dX9_init_30 : decode cX9_init 30 = .ok (.aload_n 0, 1) := by decide +kernel
theorem dX9_init_31 : decode cX9_init 31 = .ok (.bipush 82, 2) := by decide +kernel
theorem dX9_init_33 : decode cX9_init 33 = .ok (.newarray .int, 2) := by decide +kernel
theorem dX9_init_35 : decode cX9_init 35 = .ok (.putfield 21, 3) := by decide +kernel
theorem dX9_init_38 : decode cX9_init 38 = .ok (.aload_n 0, 1) := by decide +kernel
theorem dX9_init_39 : decode cX9_init 39 = .ok (.bipush 82, 2) := by decide +kernel
theorem dX9_init_41 : decode cX9_init 41 = .ok (.newarray .int, 2) := by decide +kernel
theorem dX9_init_43 : decode cX9_init 43 = .ok (.putfield 24, 3) := by decide +kernel
theorem dX9_init_46 : decode cX9_init 46 = .ok (.aload_n 0, 1) := by decide +kernel
theorem dX9_init_47 : decode cX9_init 47 = .ok (.bipush 82, 2) := by decide +kernel
theorem dX9_init_49 : decode cX9_init 49 = .ok (.newarray .int, 2) := by decide +kernel
theorem dX9_init_51 : decode cX9_init 51 = .ok (.putfield 27, 3) := by decide +kernel
theorem dX9_init_54 : decode cX9_init 54 = .ok (.aload_n 0, 1) := by decide +kernel
theorem dX9_init_55 : decode cX9_init 55 = .ok (.bipush 82, 2) := by decide +kernel
theorem dX9_init_57 : decode cX9_init 57 = .ok (.newarray .int, 2) := by decide +kernel
theorem dX9_init_59 : decode cX9_init 59 = .ok (.putfield 30, 3) := by decide +kernel
theorem dX9_init_62 : decode cX9_init 62 = .ok (.aload_n 0, 1) := by decide +kernel
theorem dX9_init_63 : decode cX9_init 63 = .ok (.bipush 82, 2) := by decide +kernel
theorem dX9_init_65 : decode cX9_init 65 = .ok (.newarray .int, 2) := by decide +kernel
theorem dX9_init_67 : decode cX9_init 67 = .ok (.putfield 33, 3) := by decide +kernel
theorem dX9_init_70 : decode cX9_init 70 = .ok (.aload_n 0, 1) := by decide +kernel
theorem dX9_init_71 : decode cX9_init 71 = .ok (.iconst 2, 1) := by decide +kernel
theorem dX9_init_72 : decode cX9_init 72 = .ok (.newarray .int, 2) := by decide +kernel
theorem dX9_init_74 : decode cX9_init 74 = .ok (.putfield 36, 3) := by decide +kernel
theorem dX9_init_77 : decode cX9_init 77 = .ok (.aload_n 0, 1) := by decide +kernel
theorem dX9_init_78 : decode cX9_init 78 = .ok (.bipush 20, 2) := by decide +kernel
theorem dX9_init_80 : decode cX9_init 80 = .ok (.newarray .int, 2) := by decide +kernel
theorem dX9_init_82 : decode cX9_init 82 = .ok (.putfield 39, 3) := by decide +kernel
theorem dX9_init_85 : decode cX9_init 85 = .ok (.aload_n 0, 1) := by decide +kernel
theorem dX9_init_86 : decode cX9_init 86 = .ok (.getfield 24, 3) := by decide +kernel
theorem dX9_init_89 : decode cX9_init 89 = .ok (.iconst (-1), 1) := by decide +kernel
theorem dX9_init_90 : decode cX9_init 90 = .ok (.invokestatic 42, 3) := by decide +kernel
theorem dX9_init_93 : decode cX9_init 93 = .ok (.aload_n 0, 1) := by decide +kernel
theorem dX9_init_94 : decode cX9_init 94 = .ok (.getfield 27, 3) := by decide +kernel
theorem dX9_init_97 : decode cX9_init 97 = .ok (.iconst (-1), 1) := by decide +kernel
theorem dX9_init_98 : decode cX9_init 98 = .ok (.invokestatic 42, 3) := by decide +kernel
theorem dX9_init_101 : decode cX9_init 101 = .ok (.aload_n 0, 1) := by decide +kernel
theorem dX9_init_102 : decode cX9_init 102 = .ok (.getfield 39, 3) := by decide +kernel
theorem dX9_init_105 : decode cX9_init 105 = .ok (.iconst (-1), 1) := by decide +kernel
theorem dX9_init_106 : decode cX9_init 106 = .ok (.invokestatic 42, 3) := by decide +kernel
theorem dX9_init_109 : decode cX9_init 109 = .ok (.iconst 0, 1) := by decide +kernel
theorem dX9_init_110 : decode cX9_init 110 = .ok (.istore_n 1, 1) := by decide +kernel
theorem dX9_init_111 : decode cX9_init 111 = .ok (.iload_n 1, 1) := by decide +kernel
theorem dX9_init_112 : decode cX9_init 112 = .ok (.iconst 2, 1) := by decide +kernel
theorem dX9_init_113 : decode cX9_init 113 = .ok (.if_icmp .ge 30, 3) := by decide +kernel
theorem dX9_init_116 : decode cX9_init 116 = .ok (.aload_n 0, 1) := by decide +kernel
theorem dX9_init_117 : decode cX9_init 117 = .ok (.getfield 18, 3) := by decide +kernel
theorem dX9_init_120 : decode cX9_init 120 = .ok (.iload_n 1, 1) := by decide +kernel
theorem dX9_init_121 : decode cX9_init 121 = .ok (.iload_n 1, 1) := by decide +kernel
theorem dX9_init_122 : decode cX9_init 122 = .ok (.iastore, 1) := by decide +kernel
theorem dX9_init_123 : decode cX9_init 123 = .ok (.aload_n 0, 1) := by decide +kernel
theorem dX9_init_124 : decode cX9_init 124 = .ok (.getfield 21, 3) := by decide +kernel
theorem dX9_init_127 : decode cX9_init 127 = .ok (.iload_n 1, 1) := by decide +kernel
theorem dX9_init_128 : decode cX9_init 128 = .ok (.iconst (-1), 1) := by decide +kernel
theorem dX9_init_129 : decode cX9_init 129 = .ok (.iastore, 1) := by decide +kernel
theorem dX9_init_130 : decode cX9_init 130 = .ok (.aload_n 0, 1) := by decide +kernel
theorem dX9_init_131 : decode cX9_init 131 = .ok (.getfield 36, 3) := by decide +kernel
theorem dX9_init_134 : decode cX9_init 134 = .ok (.iload_n 1, 1) := by decide +kernel
theorem dX9_init_135 : decode cX9_init 135 = .ok (.iload_n 1, 1) := by decide +kernel
theorem dX9_init_136 : decode cX9_init 136 = .ok (.iastore, 1) := by decide +kernel
theorem dX9_init_137 : decode cX9_init 137 = .ok (.iinc 1 1, 3) := by decide +kernel
theorem dX9_init_140 : decode cX9_init 140 = .ok (.goto (-29), 3) := by decide +kernel
theorem dX9_init_143 : decode cX9_init 143 = .ok (.aload_n 0, 1) := by decide +kernel
theorem dX9_init_144 : decode cX9_init 144 = .ok (.iconst 2, 1) := by decide +kernel
theorem dX9_init_145 : decode cX9_init 145 = .ok (.putfield 48, 3) := by decide +kernel
theorem dX9_init_148 : decode cX9_init 148 = .ok (.return_, 1) := by decide +kernel
theorem dX9_read_0 : decode cX9_read 0 = .ok (.iload_n 1, 1) := by decide +kernel
theorem dX9_read_1 : decode cX9_read 1 = .ok (.ifCond .lt 15, 3) := by decide +kernel
theorem dX9_read_4 : decode cX9_read 4 = .ok (.iload_n 1, 1) := by decide +kernel
theorem dX9_read_5 : decode cX9_read 5 = .ok (.aload_n 0, 1) := by decide +kernel
theorem dX9_read_6 : decode cX9_read 6 = .ok (.arraylength, 1) := by decide +kernel
theorem dX9_read_7 : decode cX9_read 7 = .ok (.if_icmp .ge 9, 3) := by decide +kernel
theorem dX9_read_10 : decode cX9_read 10 = .ok (.aload_n 0, 1) := by decide +kernel
theorem dX9_read_11 : decode cX9_read 11 = .ok (.iload_n 1, 1) := by decide +kernel
theorem dX9_read_12 : decode cX9_read 12 = .ok (.iaload, 1) := by decide +kernel
theorem dX9_read_13 : decode cX9_read 13 = .ok (.goto 4, 3) := by decide +kernel
theorem dX9_read_16 : decode cX9_read 16 = .ok (.iconst (-1), 1) := by decide +kernel
theorem dX9_read_17 : decode cX9_read 17 = .ok (.ireturn, 1) := by decide +kernel
theorem dX9_write_0 : decode cX9_write 0 = .ok (.iload_n 1, 1) := by decide +kernel
theorem dX9_write_1 : decode cX9_write 1 = .ok (.ifCond .lt 13, 3) := by decide +kernel
theorem dX9_write_4 : decode cX9_write 4 = .ok (.iload_n 1, 1) := by decide +kernel
theorem dX9_write_5 : decode cX9_write 5 = .ok (.aload_n 0, 1) := by decide +kernel
theorem dX9_write_6 : decode cX9_write 6 = .ok (.arraylength, 1) := by decide +kernel
theorem dX9_write_7 : decode cX9_write 7 = .ok (.if_icmp .ge 7, 3) := by decide +kernel
theorem dX9_write_10 : decode cX9_write 10 = .ok (.aload_n 0, 1) := by decide +kernel
theorem dX9_write_11 : decode cX9_write 11 = .ok (.iload_n 1, 1) := by decide +kernel
theorem dX9_write_12 : decode cX9_write 12 = .ok (.iload_n 2, 1) := by decide +kernel
theorem dX9_write_13 : decode cX9_write 13 = .ok (.iastore, 1) := by decide +kernel
theorem dX9_write_14 : decode cX9_write 14 = .ok (.return_, 1) := by decide +kernel
theorem dX9_sizeOf_0 : decode cX9_sizeOf 0 = .ok (.iload_n 1, 1) := by decide +kernel
theorem dX9_sizeOf_1 : decode cX9_sizeOf 1 = .ok (.iconst 4, 1) := by decide +kernel
theorem dX9_sizeOf_2 : decode cX9_sizeOf 2 = .ok (.imul, 1) := by decide +kernel
theorem dX9_sizeOf_3 : decode cX9_sizeOf 3 = .ok (.iload_n 2, 1) := by decide +kernel
theorem dX9_sizeOf_4 : decode cX9_sizeOf 4 = .ok (.iadd, 1) := by decide +kernel
theorem dX9_sizeOf_5 : decode cX9_sizeOf 5 = .ok (.istore_n 3, 1) := by decide +kernel
theorem dX9_sizeOf_6 : decode cX9_sizeOf 6 = .ok (.iload_n 3, 1) := by decide +kernel
theorem dX9_sizeOf_7 : decode cX9_sizeOf 7 = .ok (.ifCond .lt 21, 3) := by decide +kernel
theorem dX9_sizeOf_10 : decode cX9_sizeOf 10 = .ok (.iload_n 3, 1) := by decide +kernel
theorem dX9_sizeOf_11 : decode cX9_sizeOf 11 = .ok (.aload_n 0, 1) := by decide +kernel
theorem dX9_sizeOf_12 : decode cX9_sizeOf 12 = .ok (.getfield 15, 3) := by decide +kernel
theorem dX9_sizeOf_15 : decode cX9_sizeOf 15 = .ok (.arraylength, 1) := by decide +kernel
theorem dX9_sizeOf_16 : decode cX9_sizeOf 16 = .ok (.if_icmp .ge 12, 3) := by decide +kernel
theorem dX9_sizeOf_19 : decode cX9_sizeOf 19 = .ok (.aload_n 0, 1) := by decide +kernel
theorem dX9_sizeOf_20 : decode cX9_sizeOf 20 = .ok (.getfield 15, 3) := by decide +kernel
theorem dX9_sizeOf_23 : decode cX9_sizeOf 23 = .ok (.iload_n 3, 1) := by decide +kernel
theorem dX9_sizeOf_24 : decode cX9_sizeOf 24 = .ok (.iaload, 1) := by decide +kernel
theorem dX9_sizeOf_25 : decode cX9_sizeOf 25 = .ok (.goto 4, 3) := by decide +kernel
theorem dX9_sizeOf_28 : decode cX9_sizeOf 28 = .ok (.iconst (-1), 1) := by decide +kernel
theorem dX9_sizeOf_29 : decode cX9_sizeOf 29 = .ok (.ireturn, 1) := by decide +kernel
theorem dX9_lineAt_0 : decode cX9_lineAt 0 = .ok (.iload_n 1, 1) := by decide +kernel
theorem dX9_lineAt_1 : decode cX9_lineAt 1 = .ok (.iconst 4, 1) := by decide +kernel
theorem dX9_lineAt_2 : decode cX9_lineAt 2 = .ok (.imul, 1) := by decide +kernel
theorem dX9_lineAt_3 : decode cX9_lineAt 3 = .ok (.iload_n 2, 1) := by decide +kernel
theorem dX9_lineAt_4 : decode cX9_lineAt 4 = .ok (.iadd, 1) := by decide +kernel
theorem dX9_lineAt_5 : decode cX9_lineAt 5 = .ok (.istore 4, 2) := by decide +kernel
theorem dX9_lineAt_7 : decode cX9_lineAt 7 = .ok (.iload 4, 2) := by decide +kernel
theorem dX9_lineAt_9 : decode cX9_lineAt 9 = .ok (.ifCond .lt 27, 3) := by decide +kernel
theorem dX9_lineAt_12 : decode cX9_lineAt 12 = .ok (.iload 4, 2) := by decide +kernel
theorem dX9_lineAt_14 : decode cX9_lineAt 14 = .ok (.aload_n 0, 1) := by decide +kernel
theorem dX9_lineAt_15 : decode cX9_lineAt 15 = .ok (.getfield 15, 3) := by decide +kernel
theorem dX9_lineAt_18 : decode cX9_lineAt 18 = .ok (.arraylength, 1) := by decide +kernel
theorem dX9_lineAt_19 : decode cX9_lineAt 19 = .ok (.if_icmp .ge 17, 3) := by decide +kernel
theorem dX9_lineAt_22 : decode cX9_lineAt 22 = .ok (.iload_n 3, 1) := by decide +kernel
theorem dX9_lineAt_23 : decode cX9_lineAt 23 = .ok (.ifCond .lt 13, 3) := by decide +kernel
theorem dX9_lineAt_26 : decode cX9_lineAt 26 = .ok (.iload_n 3, 1) := by decide +kernel
theorem dX9_lineAt_27 : decode cX9_lineAt 27 = .ok (.bipush 10, 2) := by decide +kernel
theorem dX9_lineAt_29 : decode cX9_lineAt 29 = .ok (.if_icmp .ge 7, 3) := by decide +kernel
theorem dX9_lineAt_32 : decode cX9_lineAt 32 = .ok (.iconst 1, 1) := by decide +kernel
theorem dX9_lineAt_33 : decode cX9_lineAt 33 = .ok (.goto 4, 3) := by decide +kernel
theorem dX9_lineAt_36 : decode cX9_lineAt 36 = .ok (.iconst 0, 1) := by decide +kernel
theorem dX9_lineAt_37 : decode cX9_lineAt 37 = .ok (.istore 5, 2) := by decide +kernel
theorem dX9_lineAt_39 : decode cX9_lineAt 39 = .ok (.iload 5, 2) := by decide +kernel
theorem dX9_lineAt_41 : decode cX9_lineAt 41 = .ok (.ifCond .eq 29, 3) := by decide +kernel
theorem dX9_lineAt_44 : decode cX9_lineAt 44 = .ok (.iload_n 3, 1) := by decide +kernel
theorem dX9_lineAt_45 : decode cX9_lineAt 45 = .ok (.aload_n 0, 1) := by decide +kernel
theorem dX9_lineAt_46 : decode cX9_lineAt 46 = .ok (.getfield 15, 3) := by decide +kernel
theorem dX9_lineAt_49 : decode cX9_lineAt 49 = .ok (.iload 4, 2) := by decide +kernel
theorem dX9_lineAt_51 : decode cX9_lineAt 51 = .ok (.iaload, 1) := by decide +kernel
theorem dX9_lineAt_52 : decode cX9_lineAt 52 = .ok (.if_icmp .ge 18, 3) := by decide +kernel
theorem dX9_lineAt_55 : decode cX9_lineAt 55 = .ok (.aload_n 0, 1) := by decide +kernel
theorem dX9_lineAt_56 : decode cX9_lineAt 56 = .ok (.getfield 11, 3) := by decide +kernel
theorem dX9_lineAt_59 : decode cX9_lineAt 59 = .ok (.iload 4, 2) := by decide +kernel
theorem dX9_lineAt_61 : decode cX9_lineAt 61 = .ok (.bipush 10, 2) := by decide +kernel
theorem dX9_lineAt_63 : decode cX9_lineAt 63 = .ok (.imul, 1) := by decide +kernel
theorem dX9_lineAt_64 : decode cX9_lineAt 64 = .ok (.iload_n 3, 1) := by decide +kernel
theorem dX9_lineAt_65 : decode cX9_lineAt 65 = .ok (.iadd, 1) := by decide +kernel
theorem dX9_lineAt_66 : decode cX9_lineAt 66 = .ok (.iaload, 1) := by decide +kernel
theorem dX9_lineAt_67 : decode cX9_lineAt 67 = .ok (.goto 4, 3) := by decide +kernel
theorem dX9_lineAt_70 : decode cX9_lineAt 70 = .ok (.iconst (-1), 1) := by decide +kernel
theorem dX9_lineAt_71 : decode cX9_lineAt 71 = .ok (.ireturn, 1) := by decide +kernel
theorem dX9_baseOf_0 : decode cX9_baseOf 0 = .ok (.aload_n 0, 1) := by decide +kernel
theorem dX9_baseOf_1 : decode cX9_baseOf 1 = .ok (.getfield 21, 3) := by decide +kernel
theorem dX9_baseOf_4 : decode cX9_baseOf 4 = .ok (.iload_n 1, 1) := by decide +kernel
theorem dX9_baseOf_5 : decode cX9_baseOf 5 = .ok (.invokestatic 52, 3) := by decide +kernel
theorem dX9_baseOf_8 : decode cX9_baseOf 8 = .ok (.ireturn, 1) := by decide +kernel
theorem dX9_repositoryOf_0 : decode cX9_repositoryOf 0 = .ok (.aload_n 0, 1) := by decide +kernel
theorem dX9_repositoryOf_1 : decode cX9_repositoryOf 1 = .ok (.getfield 18, 3) := by decide +kernel
theorem dX9_repositoryOf_4 : decode cX9_repositoryOf 4 = .ok (.iload_n 1, 1) := by decide +kernel
theorem dX9_repositoryOf_5 : decode cX9_repositoryOf 5 = .ok (.invokestatic 52, 3) := by decide +kernel
theorem dX9_repositoryOf_8 : decode cX9_repositoryOf 8 = .ok (.ireturn, 1) := by decide +kernel
theorem dX9_nameOf_0 : decode cX9_nameOf 0 = .ok (.aload_n 0, 1) := by decide +kernel
theorem dX9_nameOf_1 : decode cX9_nameOf 1 = .ok (.getfield 24, 3) := by decide +kernel
theorem dX9_nameOf_4 : decode cX9_nameOf 4 = .ok (.iload_n 1, 1) := by decide +kernel
theorem dX9_nameOf_5 : decode cX9_nameOf 5 = .ok (.invokestatic 52, 3) := by decide +kernel
theorem dX9_nameOf_8 : decode cX9_nameOf 8 = .ok (.ireturn, 1) := by decide +kernel
theorem dX9_changeOf_0 : decode cX9_changeOf 0 = .ok (.aload_n 0, 1) := by decide +kernel
theorem dX9_changeOf_1 : decode cX9_changeOf 1 = .ok (.getfield 27, 3) := by decide +kernel
theorem dX9_changeOf_4 : decode cX9_changeOf 4 = .ok (.iload_n 1, 1) := by decide +kernel
theorem dX9_changeOf_5 : decode cX9_changeOf 5 = .ok (.invokestatic 52, 3) := by decide +kernel
theorem dX9_changeOf_8 : decode cX9_changeOf 8 = .ok (.ireturn, 1) := by decide +kernel
theorem dX9_uploaderOf_0 : decode cX9_uploaderOf 0 = .ok (.aload_n 0, 1) := by decide +kernel
theorem dX9_uploaderOf_1 : decode cX9_uploaderOf 1 = .ok (.getfield 30, 3) := by decide +kernel
theorem dX9_uploaderOf_4 : decode cX9_uploaderOf 4 = .ok (.iload_n 1, 1) := by decide +kernel
theorem dX9_uploaderOf_5 : decode cX9_uploaderOf 5 = .ok (.invokestatic 52, 3) := by decide +kernel
theorem dX9_uploaderOf_8 : decode cX9_uploaderOf 8 = .ok (.ireturn, 1) := by decide +kernel
theorem dX9_kindAt_0 : decode cX9_kindAt 0 = .ok (.aload_n 0, 1) := by decide +kernel
theorem dX9_kindAt_1 : decode cX9_kindAt 1 = .ok (.getfield 33, 3) := by decide +kernel
theorem dX9_kindAt_4 : decode cX9_kindAt 4 = .ok (.iload_n 1, 1) := by decide +kernel
theorem dX9_kindAt_5 : decode cX9_kindAt 5 = .ok (.invokestatic 52, 3) := by decide +kernel
theorem dX9_kindAt_8 : decode cX9_kindAt 8 = .ok (.ireturn, 1) := by decide +kernel
theorem dX9_tipOf_0 : decode cX9_tipOf 0 = .ok (.aload_n 0, 1) := by decide +kernel
theorem dX9_tipOf_1 : decode cX9_tipOf 1 = .ok (.getfield 36, 3) := by decide +kernel
theorem dX9_tipOf_4 : decode cX9_tipOf 4 = .ok (.iload_n 1, 1) := by decide +kernel
theorem dX9_tipOf_5 : decode cX9_tipOf 5 = .ok (.invokestatic 52, 3) := by decide +kernel
theorem dX9_tipOf_8 : decode cX9_tipOf 8 = .ok (.ireturn, 1) := by decide +kernel
theorem dX9_currentOf_0 : decode cX9_currentOf 0 = .ok (.aload_n 0, 1) := by decide +kernel
theorem dX9_currentOf_1 : decode cX9_currentOf 1 = .ok (.getfield 39, 3) := by decide +kernel
theorem dX9_currentOf_4 : decode cX9_currentOf 4 = .ok (.iload_n 1, 1) := by decide +kernel
theorem dX9_currentOf_5 : decode cX9_currentOf 5 = .ok (.invokestatic 52, 3) := by decide +kernel
theorem dX9_currentOf_8 : decode cX9_currentOf 8 = .ok (.ireturn, 1) := by decide +kernel
theorem dX9_parentNumber_0 : decode cX9_parentNumber 0 = .ok (.aload_n 0, 1) := by decide +kernel
theorem dX9_parentNumber_1 : decode cX9_parentNumber 1 = .ok (.getfield 27, 3) := by decide +kernel
theorem dX9_parentNumber_4 : decode cX9_parentNumber 4 = .ok (.aload_n 0, 1) := by decide +kernel
theorem dX9_parentNumber_5 : decode cX9_parentNumber 5 = .ok (.getfield 21, 3) := by decide +kernel
theorem dX9_parentNumber_8 : decode cX9_parentNumber 8 = .ok (.aload_n 0, 1) := by decide +kernel
theorem dX9_parentNumber_9 : decode cX9_parentNumber 9 = .ok (.getfield 39, 3) := by decide +kernel
theorem dX9_parentNumber_12 : decode cX9_parentNumber 12 = .ok (.iload_n 1, 1) := by decide +kernel
theorem dX9_parentNumber_13 : decode cX9_parentNumber 13 = .ok (.invokestatic 52, 3) := by decide +kernel
theorem dX9_parentNumber_16 : decode cX9_parentNumber 16 = .ok (.invokestatic 52, 3) := by decide +kernel
theorem dX9_parentNumber_19 : decode cX9_parentNumber 19 = .ok (.invokestatic 52, 3) := by decide +kernel
theorem dX9_parentNumber_22 : decode cX9_parentNumber 22 = .ok (.ireturn, 1) := by decide +kernel
theorem dX9_isOutdated_0 : decode cX9_isOutdated 0 = .ok (.aload_n 0, 1) := by decide +kernel
theorem dX9_isOutdated_1 : decode cX9_isOutdated 1 = .ok (.iload_n 1, 1) := by decide +kernel
theorem dX9_isOutdated_2 : decode cX9_isOutdated 2 = .ok (.invokevirtual 56, 3) := by decide +kernel
theorem dX9_isOutdated_5 : decode cX9_isOutdated 5 = .ok (.istore_n 2, 1) := by decide +kernel
theorem dX9_isOutdated_6 : decode cX9_isOutdated 6 = .ok (.iload_n 2, 1) := by decide +kernel
theorem dX9_isOutdated_7 : decode cX9_isOutdated 7 = .ok (.iconst (-1), 1) := by decide +kernel
theorem dX9_isOutdated_8 : decode cX9_isOutdated 8 = .ok (.if_icmp .eq 24, 3) := by decide +kernel
theorem dX9_isOutdated_11 : decode cX9_isOutdated 11 = .ok (.aload_n 0, 1) := by decide +kernel
theorem dX9_isOutdated_12 : decode cX9_isOutdated 12 = .ok (.iload_n 2, 1) := by decide +kernel
theorem dX9_isOutdated_13 : decode cX9_isOutdated 13 = .ok (.invokevirtual 60, 3) := by decide +kernel
theorem dX9_isOutdated_16 : decode cX9_isOutdated 16 = .ok (.aload_n 0, 1) := by decide +kernel
theorem dX9_isOutdated_17 : decode cX9_isOutdated 17 = .ok (.aload_n 0, 1) := by decide +kernel
theorem dX9_isOutdated_18 : decode cX9_isOutdated 18 = .ok (.iload_n 1, 1) := by decide +kernel
theorem dX9_isOutdated_19 : decode cX9_isOutdated 19 = .ok (.invokevirtual 60, 3) := by decide +kernel
theorem dX9_isOutdated_22 : decode cX9_isOutdated 22 = .ok (.invokevirtual 63, 3) := by decide +kernel
theorem dX9_isOutdated_25 : decode cX9_isOutdated 25 = .ok (.if_icmp .eq 7, 3) := by decide +kernel
theorem dX9_isOutdated_28 : decode cX9_isOutdated 28 = .ok (.iconst 1, 1) := by decide +kernel
theorem dX9_isOutdated_29 : decode cX9_isOutdated 29 = .ok (.goto 4, 3) := by decide +kernel
theorem dX9_isOutdated_32 : decode cX9_isOutdated 32 = .ok (.iconst 0, 1) := by decide +kernel
theorem dX9_isOutdated_33 : decode cX9_isOutdated 33 = .ok (.ireturn, 1) := by decide +kernel
theorem dX9_isFull_0 : decode cX9_isFull 0 = .ok (.aload_n 0, 1) := by decide +kernel
theorem dX9_isFull_1 : decode cX9_isFull 1 = .ok (.getfield 48, 3) := by decide +kernel
theorem dX9_isFull_4 : decode cX9_isFull 4 = .ok (.bipush 80, 2) := by decide +kernel
theorem dX9_isFull_6 : decode cX9_isFull 6 = .ok (.if_icmp .lt 7, 3) := by decide +kernel
theorem dX9_isFull_9 : decode cX9_isFull 9 = .ok (.iconst 1, 1) := by decide +kernel
theorem dX9_isFull_10 : decode cX9_isFull 10 = .ok (.goto 4, 3) := by decide +kernel
theorem dX9_isFull_13 : decode cX9_isFull 13 = .ok (.iconst 0, 1) := by decide +kernel
theorem dX9_isFull_14 : decode cX9_isFull 14 = .ok (.ireturn, 1) := by decide +kernel
theorem dX9_startOf_0 : decode cX9_startOf 0 = .ok (.iload_n 0, 1) := by decide +kernel
theorem dX9_startOf_1 : decode cX9_startOf 1 = .ok (.iconst 4, 1) := by decide +kernel
theorem dX9_startOf_2 : decode cX9_startOf 2 = .ok (.imul, 1) := by decide +kernel
theorem dX9_startOf_3 : decode cX9_startOf 3 = .ok (.iload_n 1, 1) := by decide +kernel
theorem dX9_startOf_4 : decode cX9_startOf 4 = .ok (.iadd, 1) := by decide +kernel
theorem dX9_startOf_5 : decode cX9_startOf 5 = .ok (.bipush 10, 2) := by decide +kernel
theorem dX9_startOf_7 : decode cX9_startOf 7 = .ok (.imul, 1) := by decide +kernel
theorem dX9_startOf_8 : decode cX9_startOf 8 = .ok (.ireturn, 1) := by decide +kernel
theorem dX9_copyFiles_0 : decode cX9_copyFiles 0 = .ok (.iconst 0, 1) := by decide +kernel
theorem dX9_copyFiles_1 : decode cX9_copyFiles 1 = .ok (.istore_n 3, 1) := by decide +kernel
theorem dX9_copyFiles_2 : decode cX9_copyFiles 2 = .ok (.iload_n 3, 1) := by decide +kernel
theorem dX9_copyFiles_3 : decode cX9_copyFiles 3 = .ok (.iconst 4, 1) := by decide +kernel
theorem dX9_copyFiles_4 : decode cX9_copyFiles 4 = .ok (.if_icmp .ge 70, 3) := by decide +kernel
theorem dX9_copyFiles_7 : decode cX9_copyFiles 7 = .ok (.aload_n 0, 1) := by decide +kernel
theorem dX9_copyFiles_8 : decode cX9_copyFiles 8 = .ok (.iload_n 1, 1) := by decide +kernel
theorem dX9_copyFiles_9 : decode cX9_copyFiles 9 = .ok (.iload_n 3, 1) := by decide +kernel
theorem dX9_copyFiles_10 : decode cX9_copyFiles 10 = .ok (.invokevirtual 66, 3) := by decide +kernel
theorem dX9_copyFiles_13 : decode cX9_copyFiles 13 = .ok (.istore 4, 2) := by decide +kernel
theorem dX9_copyFiles_15 : decode cX9_copyFiles 15 = .ok (.aload_n 0, 1) := by decide +kernel
theorem dX9_copyFiles_16 : decode cX9_copyFiles 16 = .ok (.getfield 15, 3) := by decide +kernel
theorem dX9_copyFiles_19 : decode cX9_copyFiles 19 = .ok (.iload_n 2, 1) := by decide +kernel
theorem dX9_copyFiles_20 : decode cX9_copyFiles 20 = .ok (.iconst 4, 1) := by decide +kernel
theorem dX9_copyFiles_21 : decode cX9_copyFiles 21 = .ok (.imul, 1) := by decide +kernel
theorem dX9_copyFiles_22 : decode cX9_copyFiles 22 = .ok (.iload_n 3, 1) := by decide +kernel
theorem dX9_copyFiles_23 : decode cX9_copyFiles 23 = .ok (.iadd, 1) := by decide +kernel
theorem dX9_copyFiles_24 : decode cX9_copyFiles 24 = .ok (.iload 4, 2) := by decide +kernel
theorem dX9_copyFiles_26 : decode cX9_copyFiles 26 = .ok (.invokestatic 70, 3) := by decide +kernel
theorem dX9_copyFiles_29 : decode cX9_copyFiles 29 = .ok (.iconst 0, 1) := by decide +kernel
theorem dX9_copyFiles_30 : decode cX9_copyFiles 30 = .ok (.istore 5, 2) := by decide +kernel
theorem dX9_copyFiles_32 : decode cX9_copyFiles 32 = .ok (.iload 5, 2) := by decide +kernel
theorem dX9_copyFiles_34 : decode cX9_copyFiles 34 = .ok (.iload 4, 2) := by decide +kernel
theorem dX9_copyFiles_36 : decode cX9_copyFiles 36 = .ok (.if_icmp .ge 32, 3) := by decide +kernel
theorem dX9_copyFiles_39 : decode cX9_copyFiles 39 = .ok (.aload_n 0, 1) := by decide +kernel
theorem dX9_copyFiles_40 : decode cX9_copyFiles 40 = .ok (.getfield 11, 3) := by decide +kernel
theorem dX9_copyFiles_43 : decode cX9_copyFiles 43 = .ok (.iload_n 2, 1) := by decide +kernel
theorem dX9_copyFiles_44 : decode cX9_copyFiles 44 = .ok (.iload_n 3, 1) := by decide +kernel
theorem dX9_copyFiles_45 : decode cX9_copyFiles 45 = .ok (.invokestatic 74, 3) := by decide +kernel
theorem dX9_copyFiles_48 : decode cX9_copyFiles 48 = .ok (.iload 5, 2) := by decide +kernel
theorem dX9_copyFiles_50 : decode cX9_copyFiles 50 = .ok (.iadd, 1) := by decide +kernel
theorem dX9_copyFiles_51 : decode cX9_copyFiles 51 = .ok (.aload_n 0, 1) := by decide +kernel
theorem dX9_copyFiles_52 : decode cX9_copyFiles 52 = .ok (.iload_n 1, 1) := by decide +kernel
theorem dX9_copyFiles_53 : decode cX9_copyFiles 53 = .ok (.iload_n 3, 1) := by decide +kernel
theorem dX9_copyFiles_54 : decode cX9_copyFiles 54 = .ok (.iload 5, 2) := by decide +kernel
theorem dX9_copyFiles_56 : decode cX9_copyFiles 56 = .ok (.invokevirtual 77, 3) := by decide +kernel
theorem dX9_copyFiles_59 : decode cX9_copyFiles 59 = .ok (.invokestatic 70, 3) := by decide +kernel
theorem dX9_copyFiles_62 : decode cX9_copyFiles 62 = .ok (.iinc 5 1, 3) := by decide +kernel
theorem dX9_copyFiles_65 : decode cX9_copyFiles 65 = .ok (.goto (-33), 3) := by decide +kernel
theorem dX9_copyFiles_68 : decode cX9_copyFiles 68 = .ok (.iinc 3 1, 3) := by decide +kernel
theorem dX9_copyFiles_71 : decode cX9_copyFiles 71 = .ok (.goto (-69), 3) := by decide +kernel
theorem dX9_copyFiles_74 : decode cX9_copyFiles 74 = .ok (.return_, 1) := by decide +kernel
theorem dX9_isSameFile_0 : decode cX9_isSameFile 0 = .ok (.aload_n 0, 1) := by decide +kernel
theorem dX9_isSameFile_1 : decode cX9_isSameFile 1 = .ok (.iload_n 1, 1) := by decide +kernel
theorem dX9_isSameFile_2 : decode cX9_isSameFile 2 = .ok (.iload_n 3, 1) := by decide +kernel
theorem dX9_isSameFile_3 : decode cX9_isSameFile 3 = .ok (.invokevirtual 66, 3) := by decide +kernel
theorem dX9_isSameFile_6 : decode cX9_isSameFile 6 = .ok (.istore 4, 2) := by decide +kernel
theorem dX9_isSameFile_8 : decode cX9_isSameFile 8 = .ok (.iload 4, 2) := by decide +kernel
theorem dX9_isSameFile_10 : decode cX9_isSameFile 10 = .ok (.aload_n 0, 1) := by decide +kernel
theorem dX9_isSameFile_11 : decode cX9_isSameFile 11 = .ok (.iload_n 2, 1) := by decide +kernel
theorem dX9_isSameFile_12 : decode cX9_isSameFile 12 = .ok (.iload_n 3, 1) := by decide +kernel
theorem dX9_isSameFile_13 : decode cX9_isSameFile 13 = .ok (.invokevirtual 66, 3) := by decide +kernel
theorem dX9_isSameFile_16 : decode cX9_isSameFile 16 = .ok (.if_icmp .ne 7, 3) := by decide +kernel
theorem dX9_isSameFile_19 : decode cX9_isSameFile 19 = .ok (.iconst 1, 1) := by decide +kernel
theorem dX9_isSameFile_20 : decode cX9_isSameFile 20 = .ok (.goto 4, 3) := by decide +kernel
theorem dX9_isSameFile_23 : decode cX9_isSameFile 23 = .ok (.iconst 0, 1) := by decide +kernel
theorem dX9_isSameFile_24 : decode cX9_isSameFile 24 = .ok (.istore 5, 2) := by decide +kernel
theorem dX9_isSameFile_26 : decode cX9_isSameFile 26 = .ok (.iconst 0, 1) := by decide +kernel
theorem dX9_isSameFile_27 : decode cX9_isSameFile 27 = .ok (.istore 6, 2) := by decide +kernel
theorem dX9_isSameFile_29 : decode cX9_isSameFile 29 = .ok (.iload 6, 2) := by decide +kernel
theorem dX9_isSameFile_31 : decode cX9_isSameFile 31 = .ok (.iload 4, 2) := by decide +kernel
theorem dX9_isSameFile_33 : decode cX9_isSameFile 33 = .ok (.if_icmp .ge 40, 3) := by decide +kernel
theorem dX9_isSameFile_36 : decode cX9_isSameFile 36 = .ok (.iload 5, 2) := by decide +kernel
theorem dX9_isSameFile_38 : decode cX9_isSameFile 38 = .ok (.ifCond .eq 35, 3) := by decide +kernel
theorem dX9_isSameFile_41 : decode cX9_isSameFile 41 = .ok (.aload_n 0, 1) := by decide +kernel
theorem dX9_isSameFile_42 : decode cX9_isSameFile 42 = .ok (.iload_n 1, 1) := by decide +kernel
theorem dX9_isSameFile_43 : decode cX9_isSameFile 43 = .ok (.iload_n 3, 1) := by decide +kernel
theorem dX9_isSameFile_44 : decode cX9_isSameFile 44 = .ok (.iload 6, 2) := by decide +kernel
theorem dX9_isSameFile_46 : decode cX9_isSameFile 46 = .ok (.invokevirtual 77, 3) := by decide +kernel
theorem dX9_isSameFile_49 : decode cX9_isSameFile 49 = .ok (.aload_n 0, 1) := by decide +kernel
theorem dX9_isSameFile_50 : decode cX9_isSameFile 50 = .ok (.iload_n 2, 1) := by decide +kernel
theorem dX9_isSameFile_51 : decode cX9_isSameFile 51 = .ok (.iload_n 3, 1) := by decide +kernel
theorem dX9_isSameFile_52 : decode cX9_isSameFile 52 = .ok (.iload 6, 2) := by decide +kernel
theorem dX9_isSameFile_54 : decode cX9_isSameFile 54 = .ok (.invokevirtual 77, 3) := by decide +kernel
theorem dX9_isSameFile_57 : decode cX9_isSameFile 57 = .ok (.if_icmp .ne 7, 3) := by decide +kernel
theorem dX9_isSameFile_60 : decode cX9_isSameFile 60 = .ok (.iconst 1, 1) := by decide +kernel
theorem dX9_isSameFile_61 : decode cX9_isSameFile 61 = .ok (.goto 4, 3) := by decide +kernel
theorem dX9_isSameFile_64 : decode cX9_isSameFile 64 = .ok (.iconst 0, 1) := by decide +kernel
theorem dX9_isSameFile_65 : decode cX9_isSameFile 65 = .ok (.istore 5, 2) := by decide +kernel
theorem dX9_isSameFile_67 : decode cX9_isSameFile 67 = .ok (.iinc 6 1, 3) := by decide +kernel
theorem dX9_isSameFile_70 : decode cX9_isSameFile 70 = .ok (.goto (-41), 3) := by decide +kernel
theorem dX9_isSameFile_73 : decode cX9_isSameFile 73 = .ok (.iload 5, 2) := by decide +kernel
theorem dX9_isSameFile_75 : decode cX9_isSameFile 75 = .ok (.ireturn, 1) := by decide +kernel
theorem dX9_setDeskBase_0 : decode cX9_setDeskBase 0 = .ok (.aload_n 0, 1) := by decide +kernel
theorem dX9_setDeskBase_1 : decode cX9_setDeskBase 1 = .ok (.getfield 21, 3) := by decide +kernel
theorem dX9_setDeskBase_4 : decode cX9_setDeskBase 4 = .ok (.bipush 80, 2) := by decide +kernel
theorem dX9_setDeskBase_6 : decode cX9_setDeskBase 6 = .ok (.iload_n 1, 1) := by decide +kernel
theorem dX9_setDeskBase_7 : decode cX9_setDeskBase 7 = .ok (.iastore, 1) := by decide +kernel
theorem dX9_setDeskBase_8 : decode cX9_setDeskBase 8 = .ok (.aload_n 0, 1) := by decide +kernel
theorem dX9_setDeskBase_9 : decode cX9_setDeskBase 9 = .ok (.getfield 18, 3) := by decide +kernel
theorem dX9_setDeskBase_12 : decode cX9_setDeskBase 12 = .ok (.bipush 80, 2) := by decide +kernel
theorem dX9_setDeskBase_14 : decode cX9_setDeskBase 14 = .ok (.aload_n 0, 1) := by decide +kernel
theorem dX9_setDeskBase_15 : decode cX9_setDeskBase 15 = .ok (.iload_n 1, 1) := by decide +kernel
theorem dX9_setDeskBase_16 : decode cX9_setDeskBase 16 = .ok (.invokevirtual 81, 3) := by decide +kernel
theorem dX9_setDeskBase_19 : decode cX9_setDeskBase 19 = .ok (.iastore, 1) := by decide +kernel
theorem dX9_setDeskBase_20 : decode cX9_setDeskBase 20 = .ok (.aload_n 0, 1) := by decide +kernel
theorem dX9_setDeskBase_21 : decode cX9_setDeskBase 21 = .ok (.getfield 18, 3) := by decide +kernel
theorem dX9_setDeskBase_24 : decode cX9_setDeskBase 24 = .ok (.bipush 80, 2) := by decide +kernel
theorem dX9_setDeskBase_26 : decode cX9_setDeskBase 26 = .ok (.iaload, 1) := by decide +kernel
theorem dX9_setDeskBase_27 : decode cX9_setDeskBase 27 = .ok (.ireturn, 1) := by decide +kernel
theorem dX9_insertOnDesk_0 : decode cX9_insertOnDesk 0 = .ok (.bipush 80, 2) := by decide +kernel
theorem dX9_insertOnDesk_2 : decode cX9_insertOnDesk 2 = .ok (.iload_n 1, 1) := by decide +kernel
theorem dX9_insertOnDesk_3 : decode cX9_insertOnDesk 3 = .ok (.invokestatic 74, 3) := by decide +kernel
theorem dX9_insertOnDesk_6 : decode cX9_insertOnDesk 6 = .ok (.istore 4, 2) := by decide +kernel
theorem dX9_insertOnDesk_8 : decode cX9_insertOnDesk 8 = .ok (.aload_n 0, 1) := by decide +kernel
theorem dX9_insertOnDesk_9 : decode cX9_insertOnDesk 9 = .ok (.bipush 80, 2) := by decide +kernel
theorem dX9_insertOnDesk_11 : decode cX9_insertOnDesk 11 = .ok (.iload_n 1, 1) := by decide +kernel
theorem dX9_insertOnDesk_12 : decode cX9_insertOnDesk 12 = .ok (.invokevirtual 66, 3) := by decide +kernel
theorem dX9_insertOnDesk_15 : decode cX9_insertOnDesk 15 = .ok (.istore 5, 2) := by decide +kernel
theorem dX9_insertOnDesk_17 : decode cX9_insertOnDesk 17 = .ok (.iload 5, 2) := by decide +kernel
theorem dX9_insertOnDesk_19 : decode cX9_insertOnDesk 19 = .ok (.istore 6, 2) := by decide +kernel
theorem dX9_insertOnDesk_21 : decode cX9_insertOnDesk 21 = .ok (.iload 6, 2) := by decide +kernel
theorem dX9_insertOnDesk_23 : decode cX9_insertOnDesk 23 = .ok (.iload_n 2, 1) := by decide +kernel
theorem dX9_insertOnDesk_24 : decode cX9_insertOnDesk 24 = .ok (.if_icmp .le 32, 3) := by decide +kernel
theorem dX9_insertOnDesk_27 : decode cX9_insertOnDesk 27 = .ok (.aload_n 0, 1) := by decide +kernel
theorem dX9_insertOnDesk_28 : decode cX9_insertOnDesk 28 = .ok (.getfield 11, 3) := by decide +kernel
theorem dX9_insertOnDesk_31 : decode cX9_insertOnDesk 31 = .ok (.iload 4, 2) := by decide +kernel
theorem dX9_insertOnDesk_33 : decode cX9_insertOnDesk 33 = .ok (.iload 6, 2) := by decide +kernel
theorem dX9_insertOnDesk_35 : decode cX9_insertOnDesk 35 = .ok (.iadd, 1) := by decide +kernel
theorem dX9_insertOnDesk_36 : decode cX9_insertOnDesk 36 = .ok (.aload_n 0, 1) := by decide +kernel
theorem dX9_insertOnDesk_37 : decode cX9_insertOnDesk 37 = .ok (.bipush 80, 2) := by decide +kernel
theorem dX9_insertOnDesk_39 : decode cX9_insertOnDesk 39 = .ok (.iload_n 1, 1) := by decide +kernel
theorem dX9_insertOnDesk_40 : decode cX9_insertOnDesk 40 = .ok (.iload 6, 2) := by decide +kernel
theorem dX9_insertOnDesk_42 : decode cX9_insertOnDesk 42 = .ok (.iconst 1, 1) := by decide +kernel
theorem dX9_insertOnDesk_43 : decode cX9_insertOnDesk 43 = .ok (.isub, 1) := by decide +kernel
theorem dX9_insertOnDesk_44 : decode cX9_insertOnDesk 44 = .ok (.invokevirtual 77, 3) := by decide +kernel
theorem dX9_insertOnDesk_47 : decode cX9_insertOnDesk 47 = .ok (.invokestatic 70, 3) := by decide +kernel
theorem dX9_insertOnDesk_50 : decode cX9_insertOnDesk 50 = .ok (.iinc 6 (-1), 3) := by decide +kernel
theorem dX9_insertOnDesk_53 : decode cX9_insertOnDesk 53 = .ok (.goto (-32), 3) := by decide +kernel
theorem dX9_insertOnDesk_56 : decode cX9_insertOnDesk 56 = .ok (.aload_n 0, 1) := by decide +kernel
theorem dX9_insertOnDesk_57 : decode cX9_insertOnDesk 57 = .ok (.getfield 11, 3) := by decide +kernel
theorem dX9_insertOnDesk_60 : decode cX9_insertOnDesk 60 = .ok (.iload 4, 2) := by decide +kernel
theorem dX9_insertOnDesk_62 : decode cX9_insertOnDesk 62 = .ok (.iload_n 2, 1) := by decide +kernel
theorem dX9_insertOnDesk_63 : decode cX9_insertOnDesk 63 = .ok (.iadd, 1) := by decide +kernel
theorem dX9_insertOnDesk_64 : decode cX9_insertOnDesk 64 = .ok (.iload_n 3, 1) := by decide +kernel
theorem dX9_insertOnDesk_65 : decode cX9_insertOnDesk 65 = .ok (.invokestatic 70, 3) := by decide +kernel
theorem dX9_insertOnDesk_68 : decode cX9_insertOnDesk 68 = .ok (.aload_n 0, 1) := by decide +kernel
theorem dX9_insertOnDesk_69 : decode cX9_insertOnDesk 69 = .ok (.getfield 15, 3) := by decide +kernel
theorem dX9_insertOnDesk_72 : decode cX9_insertOnDesk 72 = .ok (.sipush 320, 3) := by decide +kernel
theorem dX9_insertOnDesk_75 : decode cX9_insertOnDesk 75 = .ok (.iload_n 1, 1) := by decide +kernel
theorem dX9_insertOnDesk_76 : decode cX9_insertOnDesk 76 = .ok (.iadd, 1) := by decide +kernel
theorem dX9_insertOnDesk_77 : decode cX9_insertOnDesk 77 = .ok (.iload 5, 2) := by decide +kernel
theorem dX9_insertOnDesk_79 : decode cX9_insertOnDesk 79 = .ok (.iconst 1, 1) := by decide +kernel
theorem dX9_insertOnDesk_80 : decode cX9_insertOnDesk 80 = .ok (.iadd, 1) := by decide +kernel
theorem dX9_insertOnDesk_81 : decode cX9_insertOnDesk 81 = .ok (.invokestatic 70, 3) := by decide +kernel
theorem dX9_insertOnDesk_84 : decode cX9_insertOnDesk 84 = .ok (.return_, 1) := by decide +kernel
theorem dX9_removeFromDesk_0 : decode cX9_removeFromDesk 0 = .ok (.bipush 80, 2) := by decide +kernel
theorem dX9_removeFromDesk_2 : decode cX9_removeFromDesk 2 = .ok (.iload_n 1, 1) := by decide +kernel
theorem dX9_removeFromDesk_3 : decode cX9_removeFromDesk 3 = .ok (.invokestatic 74, 3) := by decide +kernel
theorem dX9_removeFromDesk_6 : decode cX9_removeFromDesk 6 = .ok (.istore_n 3, 1) := by decide +kernel
theorem dX9_removeFromDesk_7 : decode cX9_removeFromDesk 7 = .ok (.aload_n 0, 1) := by decide +kernel
theorem dX9_removeFromDesk_8 : decode cX9_removeFromDesk 8 = .ok (.bipush 80, 2) := by decide +kernel
theorem dX9_removeFromDesk_10 : decode cX9_removeFromDesk 10 = .ok (.iload_n 1, 1) := by decide +kernel
theorem dX9_removeFromDesk_11 : decode cX9_removeFromDesk 11 = .ok (.invokevirtual 66, 3) := by decide +kernel
theorem dX9_removeFromDesk_14 : decode cX9_removeFromDesk 14 = .ok (.istore 4, 2) := by decide +kernel
theorem dX9_removeFromDesk_16 : decode cX9_removeFromDesk 16 = .ok (.iload_n 2, 1) := by decide +kernel
theorem dX9_removeFromDesk_17 : decode cX9_removeFromDesk 17 = .ok (.iconst 1, 1) := by decide +kernel
theorem dX9_removeFromDesk_18 : decode cX9_removeFromDesk 18 = .ok (.iadd, 1) := by decide +kernel
theorem dX9_removeFromDesk_19 : decode cX9_removeFromDesk 19 = .ok (.istore 5, 2) := by decide +kernel
theorem dX9_removeFromDesk_21 : decode cX9_removeFromDesk 21 = .ok (.iload 5, 2) := by decide +kernel
theorem dX9_removeFromDesk_23 : decode cX9_removeFromDesk 23 = .ok (.iload 4, 2) := by decide +kernel
theorem dX9_removeFromDesk_25 : decode cX9_removeFromDesk 25 = .ok (.if_icmp .ge 31, 3) := by decide +kernel
theorem dX9_removeFromDesk_28 : decode cX9_removeFromDesk 28 = .ok (.aload_n 0, 1) := by decide +kernel
theorem dX9_removeFromDesk_29 : decode cX9_removeFromDesk 29 = .ok (.getfield 11, 3) := by decide +kernel
theorem dX9_removeFromDesk_32 : decode cX9_removeFromDesk 32 = .ok (.iload_n 3, 1) := by decide +kernel
theorem dX9_removeFromDesk_33 : decode cX9_removeFromDesk 33 = .ok (.iload 5, 2) := by decide +kernel
theorem dX9_removeFromDesk_35 : decode cX9_removeFromDesk 35 = .ok (.iadd, 1) := by decide +kernel
theorem dX9_removeFromDesk_36 : decode cX9_removeFromDesk 36 = .ok (.iconst 1, 1) := by decide +kernel
theorem dX9_removeFromDesk_37 : decode cX9_removeFromDesk 37 = .ok (.isub, 1) := by decide +kernel
theorem dX9_removeFromDesk_38 : decode cX9_removeFromDesk 38 = .ok (.aload_n 0, 1) := by decide +kernel
theorem dX9_removeFromDesk_39 : decode cX9_removeFromDesk 39 = .ok (.bipush 80, 2) := by decide +kernel
theorem dX9_removeFromDesk_41 : decode cX9_removeFromDesk 41 = .ok (.iload_n 1, 1) := by decide +kernel
theorem dX9_removeFromDesk_42 : decode cX9_removeFromDesk 42 = .ok (.iload 5, 2) := by decide +kernel
theorem dX9_removeFromDesk_44 : decode cX9_removeFromDesk 44 = .ok (.invokevirtual 77, 3) := by decide +kernel
theorem dX9_removeFromDesk_47 : decode cX9_removeFromDesk 47 = .ok (.invokestatic 70, 3) := by decide +kernel
theorem dX9_removeFromDesk_50 : decode cX9_removeFromDesk 50 = .ok (.iinc 5 1, 3) := by decide +kernel
theorem dX9_removeFromDesk_53 : decode cX9_removeFromDesk 53 = .ok (.goto (-32), 3) := by decide +kernel
theorem dX9_removeFromDesk_56 : decode cX9_removeFromDesk 56 = .ok (.aload_n 0, 1) := by decide +kernel
theorem dX9_removeFromDesk_57 : decode cX9_removeFromDesk 57 = .ok (.getfield 15, 3) := by decide +kernel
theorem dX9_removeFromDesk_60 : decode cX9_removeFromDesk 60 = .ok (.sipush 320, 3) := by decide +kernel
theorem dX9_removeFromDesk_63 : decode cX9_removeFromDesk 63 = .ok (.iload_n 1, 1) := by decide +kernel
theorem dX9_removeFromDesk_64 : decode cX9_removeFromDesk 64 = .ok (.iadd, 1) := by decide +kernel
theorem dX9_removeFromDesk_65 : decode cX9_removeFromDesk 65 = .ok (.iload 4, 2) := by decide +kernel
theorem dX9_removeFromDesk_67 : decode cX9_removeFromDesk 67 = .ok (.iconst 1, 1) := by decide +kernel
theorem dX9_removeFromDesk_68 : decode cX9_removeFromDesk 68 = .ok (.isub, 1) := by decide +kernel
theorem dX9_removeFromDesk_69 : decode cX9_removeFromDesk 69 = .ok (.invokestatic 70, 3) := by decide +kernel
theorem dX9_removeFromDesk_72 : decode cX9_removeFromDesk 72 = .ok (.return_, 1) := by decide +kernel
theorem dX9_startFile_0 : decode cX9_startFile 0 = .ok (.aload_n 0, 1) := by decide +kernel
theorem dX9_startFile_1 : decode cX9_startFile 1 = .ok (.getfield 15, 3) := by decide +kernel
theorem dX9_startFile_4 : decode cX9_startFile 4 = .ok (.sipush 324, 3) := by decide +kernel
theorem dX9_startFile_7 : decode cX9_startFile 7 = .ok (.iload_n 1, 1) := by decide +kernel
theorem dX9_startFile_8 : decode cX9_startFile 8 = .ok (.iadd, 1) := by decide +kernel
theorem dX9_startFile_9 : decode cX9_startFile 9 = .ok (.iconst 0, 1) := by decide +kernel
theorem dX9_startFile_10 : decode cX9_startFile 10 = .ok (.invokestatic 70, 3) := by decide +kernel
theorem dX9_startFile_13 : decode cX9_startFile 13 = .ok (.return_, 1) := by decide +kernel
theorem dX9_addLine_0 : decode cX9_addLine 0 = .ok (.aload_n 0, 1) := by decide +kernel
theorem dX9_addLine_1 : decode cX9_addLine 1 = .ok (.bipush 81, 2) := by decide +kernel
theorem dX9_addLine_3 : decode cX9_addLine 3 = .ok (.iload_n 1, 1) := by decide +kernel
theorem dX9_addLine_4 : decode cX9_addLine 4 = .ok (.invokevirtual 66, 3) := by decide +kernel
theorem dX9_addLine_7 : decode cX9_addLine 7 = .ok (.istore_n 3, 1) := by decide +kernel
theorem dX9_addLine_8 : decode cX9_addLine 8 = .ok (.iload_n 3, 1) := by decide +kernel
theorem dX9_addLine_9 : decode cX9_addLine 9 = .ok (.bipush 10, 2) := by decide +kernel
theorem dX9_addLine_11 : decode cX9_addLine 11 = .ok (.if_icmp .lt 5, 3) := by decide +kernel
theorem dX9_addLine_14 : decode cX9_addLine 14 = .ok (.iconst 0, 1) := by decide +kernel
theorem dX9_addLine_15 : decode cX9_addLine 15 = .ok (.ireturn, 1) := by decide +kernel
theorem dX9_addLine_16 : decode cX9_addLine 16 = .ok (.aload_n 0, 1) := by decide +kernel
theorem dX9_addLine_17 : decode cX9_addLine 17 = .ok (.getfield 11, 3) := by decide +kernel
theorem dX9_addLine_20 : decode cX9_addLine 20 = .ok (.bipush 81, 2) := by decide +kernel
theorem dX9_addLine_22 : decode cX9_addLine 22 = .ok (.iload_n 1, 1) := by decide +kernel
theorem dX9_addLine_23 : decode cX9_addLine 23 = .ok (.invokestatic 74, 3) := by decide +kernel
theorem dX9_addLine_26 : decode cX9_addLine 26 = .ok (.iload_n 3, 1) := by decide +kernel
theorem dX9_addLine_27 : decode cX9_addLine 27 = .ok (.iadd, 1) := by decide +kernel
theorem dX9_addLine_28 : decode cX9_addLine 28 = .ok (.iload_n 2, 1) := by decide +kernel
theorem dX9_addLine_29 : decode cX9_addLine 29 = .ok (.invokestatic 70, 3) := by decide +kernel
theorem dX9_addLine_32 : decode cX9_addLine 32 = .ok (.aload_n 0, 1) := by decide +kernel
theorem dX9_addLine_33 : decode cX9_addLine 33 = .ok (.getfield 15, 3) := by decide +kernel
theorem dX9_addLine_36 : decode cX9_addLine 36 = .ok (.sipush 324, 3) := by decide +kernel
theorem dX9_addLine_39 : decode cX9_addLine 39 = .ok (.iload_n 1, 1) := by decide +kernel
theorem dX9_addLine_40 : decode cX9_addLine 40 = .ok (.iadd, 1) := by decide +kernel
theorem dX9_addLine_41 : decode cX9_addLine 41 = .ok (.iload_n 3, 1) := by decide +kernel
theorem dX9_addLine_42 : decode cX9_addLine 42 = .ok (.iconst 1, 1) := by decide +kernel
theorem dX9_addLine_43 : decode cX9_addLine 43 = .ok (.iadd, 1) := by decide +kernel
theorem dX9_addLine_44 : decode cX9_addLine 44 = .ok (.invokestatic 70, 3) := by decide +kernel
theorem dX9_addLine_47 : decode cX9_addLine 47 = .ok (.iconst 1, 1) := by decide +kernel
theorem dX9_addLine_48 : decode cX9_addLine 48 = .ok (.ireturn, 1) := by decide +kernel
theorem dX9_addCommit_0 : decode cX9_addCommit 0 = .ok (.aload_n 0, 1) := by decide +kernel
theorem dX9_addCommit_1 : decode cX9_addCommit 1 = .ok (.invokevirtual 84, 3) := by decide +kernel
theorem dX9_addCommit_4 : decode cX9_addCommit 4 = .ok (.ifCond .eq 5, 3) := by decide +kernel
theorem dX9_addCommit_7 : decode cX9_addCommit 7 = .ok (.iconst (-1), 1) := by decide +kernel
theorem dX9_addCommit_8 : decode cX9_addCommit 8 = .ok (.ireturn, 1) := by decide +kernel
theorem dX9_addCommit_9 : decode cX9_addCommit 9 = .ok (.aload_n 0, 1) := by decide +kernel
theorem dX9_addCommit_10 : decode cX9_addCommit 10 = .ok (.getfield 48, 3) := by decide +kernel
theorem dX9_addCommit_13 : decode cX9_addCommit 13 = .ok (.istore 4, 2) := by decide +kernel
theorem dX9_addCommit_15 : decode cX9_addCommit 15 = .ok (.aload_n 0, 1) := by decide +kernel
theorem dX9_addCommit_16 : decode cX9_addCommit 16 = .ok (.iload_n 1, 1) := by decide +kernel
theorem dX9_addCommit_17 : decode cX9_addCommit 17 = .ok (.iload 4, 2) := by decide +kernel
theorem dX9_addCommit_19 : decode cX9_addCommit 19 = .ok (.invokevirtual 88, 3) := by decide +kernel
theorem dX9_addCommit_22 : decode cX9_addCommit 22 = .ok (.aload_n 0, 1) := by decide +kernel
theorem dX9_addCommit_23 : decode cX9_addCommit 23 = .ok (.getfield 18, 3) := by decide +kernel
theorem dX9_addCommit_26 : decode cX9_addCommit 26 = .ok (.iload 4, 2) := by decide +kernel
theorem dX9_addCommit_28 : decode cX9_addCommit 28 = .ok (.iload_n 2, 1) := by decide +kernel
theorem dX9_addCommit_29 : decode cX9_addCommit 29 = .ok (.iastore, 1) := by decide +kernel
theorem dX9_addCommit_30 : decode cX9_addCommit 30 = .ok (.aload_n 0, 1) := by decide +kernel
theorem dX9_addCommit_31 : decode cX9_addCommit 31 = .ok (.getfield 21, 3) := by decide +kernel
theorem dX9_addCommit_34 : decode cX9_addCommit 34 = .ok (.iload 4, 2) := by decide +kernel
theorem dX9_addCommit_36 : decode cX9_addCommit 36 = .ok (.iload_n 3, 1) := by decide +kernel
theorem dX9_addCommit_37 : decode cX9_addCommit 37 = .ok (.iastore, 1) := by decide +kernel
theorem dX9_addCommit_38 : decode cX9_addCommit 38 = .ok (.aload_n 0, 1) := by decide +kernel
theorem dX9_addCommit_39 : decode cX9_addCommit 39 = .ok (.getfield 24, 3) := by decide +kernel
theorem dX9_addCommit_42 : decode cX9_addCommit 42 = .ok (.iload 4, 2) := by decide +kernel
theorem dX9_addCommit_44 : decode cX9_addCommit 44 = .ok (.iconst (-1), 1) := by decide +kernel
theorem dX9_addCommit_45 : decode cX9_addCommit 45 = .ok (.iastore, 1) := by decide +kernel
theorem dX9_addCommit_46 : decode cX9_addCommit 46 = .ok (.aload_n 0, 1) := by decide +kernel
theorem dX9_addCommit_47 : decode cX9_addCommit 47 = .ok (.getfield 27, 3) := by decide +kernel
theorem dX9_addCommit_50 : decode cX9_addCommit 50 = .ok (.iload 4, 2) := by decide +kernel
theorem dX9_addCommit_52 : decode cX9_addCommit 52 = .ok (.iconst (-1), 1) := by decide +kernel
theorem dX9_addCommit_53 : decode cX9_addCommit 53 = .ok (.iastore, 1) := by decide +kernel
theorem dX9_addCommit_54 : decode cX9_addCommit 54 = .ok (.aload_n 0, 1) := by decide +kernel
theorem dX9_addCommit_55 : decode cX9_addCommit 55 = .ok (.dup, 1) := by decide +kernel
theorem dX9_addCommit_56 : decode cX9_addCommit 56 = .ok (.getfield 48, 3) := by decide +kernel
theorem dX9_addCommit_59 : decode cX9_addCommit 59 = .ok (.iconst 1, 1) := by decide +kernel
theorem dX9_addCommit_60 : decode cX9_addCommit 60 = .ok (.iadd, 1) := by decide +kernel
theorem dX9_addCommit_61 : decode cX9_addCommit 61 = .ok (.putfield 48, 3) := by decide +kernel
theorem dX9_addCommit_64 : decode cX9_addCommit 64 = .ok (.iload 4, 2) := by decide +kernel
theorem dX9_addCommit_66 : decode cX9_addCommit 66 = .ok (.ireturn, 1) := by decide +kernel
theorem dX9_makeSet_0 : decode cX9_makeSet 0 = .ok (.aload_n 0, 1) := by decide +kernel
theorem dX9_makeSet_1 : decode cX9_makeSet 1 = .ok (.getfield 27, 3) := by decide +kernel
theorem dX9_makeSet_4 : decode cX9_makeSet 4 = .ok (.iload_n 1, 1) := by decide +kernel
theorem dX9_makeSet_5 : decode cX9_makeSet 5 = .ok (.iload_n 2, 1) := by decide +kernel
theorem dX9_makeSet_6 : decode cX9_makeSet 6 = .ok (.invokestatic 70, 3) := by decide +kernel
theorem dX9_makeSet_9 : decode cX9_makeSet 9 = .ok (.aload_n 0, 1) := by decide +kernel
theorem dX9_makeSet_10 : decode cX9_makeSet 10 = .ok (.getfield 30, 3) := by decide +kernel
theorem dX9_makeSet_13 : decode cX9_makeSet 13 = .ok (.iload_n 1, 1) := by decide +kernel
theorem dX9_makeSet_14 : decode cX9_makeSet 14 = .ok (.iload_n 3, 1) := by decide +kernel
theorem dX9_makeSet_15 : decode cX9_makeSet 15 = .ok (.invokestatic 70, 3) := by decide +kernel
theorem dX9_makeSet_18 : decode cX9_makeSet 18 = .ok (.aload_n 0, 1) := by decide +kernel
theorem dX9_makeSet_19 : decode cX9_makeSet 19 = .ok (.getfield 33, 3) := by decide +kernel
theorem dX9_makeSet_22 : decode cX9_makeSet 22 = .ok (.iload_n 1, 1) := by decide +kernel
theorem dX9_makeSet_23 : decode cX9_makeSet 23 = .ok (.iload 4, 2) := by decide +kernel
theorem dX9_makeSet_25 : decode cX9_makeSet 25 = .ok (.invokestatic 70, 3) := by decide +kernel
theorem dX9_makeSet_28 : decode cX9_makeSet 28 = .ok (.aload_n 0, 1) := by decide +kernel
theorem dX9_makeSet_29 : decode cX9_makeSet 29 = .ok (.getfield 39, 3) := by decide +kernel
theorem dX9_makeSet_32 : decode cX9_makeSet 32 = .ok (.iload_n 2, 1) := by decide +kernel
theorem dX9_makeSet_33 : decode cX9_makeSet 33 = .ok (.iload_n 1, 1) := by decide +kernel
theorem dX9_makeSet_34 : decode cX9_makeSet 34 = .ok (.invokestatic 70, 3) := by decide +kernel
theorem dX9_makeSet_37 : decode cX9_makeSet 37 = .ok (.return_, 1) := by decide +kernel
theorem dX9_lookFor_0 : decode cX9_lookFor 0 = .ok (.iconst 0, 1) := by decide +kernel
theorem dX9_lookFor_1 : decode cX9_lookFor 1 = .ok (.istore 4, 2) := by decide +kernel
theorem dX9_lookFor_3 : decode cX9_lookFor 3 = .ok (.aload_n 0, 1) := by decide +kernel
theorem dX9_lookFor_4 : decode cX9_lookFor 4 = .ok (.iload_n 3, 1) := by decide +kernel
theorem dX9_lookFor_5 : decode cX9_lookFor 5 = .ok (.aload_n 1, 1) := by decide +kernel
theorem dX9_lookFor_6 : decode cX9_lookFor 6 = .ok (.getfield 92, 3) := by decide +kernel
theorem dX9_lookFor_9 : decode cX9_lookFor 9 = .ok (.invokevirtual 66, 3) := by decide +kernel
theorem dX9_lookFor_12 : decode cX9_lookFor 12 = .ok (.aload_n 1, 1) := by decide +kernel
theorem dX9_lookFor_13 : decode cX9_lookFor 13 = .ok (.getfield 97, 3) := by decide +kernel
theorem dX9_lookFor_16 : decode cX9_lookFor 16 = .ok (.isub, 1) := by decide +kernel
theorem dX9_lookFor_17 : decode cX9_lookFor 17 = .ok (.istore 5, 2) := by decide +kernel
theorem dX9_lookFor_19 : decode cX9_lookFor 19 = .ok (.iconst 0, 1) := by decide +kernel
theorem dX9_lookFor_20 : decode cX9_lookFor 20 = .ok (.istore 6, 2) := by decide +kernel
theorem dX9_lookFor_22 : decode cX9_lookFor 22 = .ok (.iload 6, 2) := by decide +kernel
theorem dX9_lookFor_24 : decode cX9_lookFor 24 = .ok (.iload 5, 2) := by decide +kernel
theorem dX9_lookFor_26 : decode cX9_lookFor 26 = .ok (.if_icmp .gt 41, 3) := by decide +kernel
theorem dX9_lookFor_29 : decode cX9_lookFor 29 = .ok (.aload_n 0, 1) := by decide +kernel
theorem dX9_lookFor_30 : decode cX9_lookFor 30 = .ok (.aload_n 1, 1) := by decide +kernel
theorem dX9_lookFor_31 : decode cX9_lookFor 31 = .ok (.iload_n 2, 1) := by decide +kernel
theorem dX9_lookFor_32 : decode cX9_lookFor 32 = .ok (.iload_n 3, 1) := by decide +kernel
theorem dX9_lookFor_33 : decode cX9_lookFor 33 = .ok (.iload 6, 2) := by decide +kernel
theorem dX9_lookFor_35 : decode cX9_lookFor 35 = .ok (.invokevirtual 100, 3) := by decide +kernel
theorem dX9_lookFor_38 : decode cX9_lookFor 38 = .ok (.ifCond .eq 23, 3) := by decide +kernel
theorem dX9_lookFor_41 : decode cX9_lookFor 41 = .ok (.iload 4, 2) := by decide +kernel
theorem dX9_lookFor_43 : decode cX9_lookFor 43 = .ok (.ifCond .eq 5, 3) := by decide +kernel
theorem dX9_lookFor_46 : decode cX9_lookFor 46 = .ok (.iconst 0, 1) := by decide +kernel
theorem dX9_lookFor_47 : decode cX9_lookFor 47 = .ok (.ireturn, 1) := by decide +kernel
theorem dX9_lookFor_48 : decode cX9_lookFor 48 = .ok (.iconst 1, 1) := by decide +kernel
theorem dX9_lookFor_49 : decode cX9_lookFor 49 = .ok (.aload_n 1, 1) := by decide +kernel
theorem dX9_lookFor_50 : decode cX9_lookFor 50 = .ok (.getfield 97, 3) := by decide +kernel
theorem dX9_lookFor_53 : decode cX9_lookFor 53 = .ok (.ishl, 1) := by decide +kernel
theorem dX9_lookFor_54 : decode cX9_lookFor 54 = .ok (.iconst 1, 1) := by decide +kernel
theorem dX9_lookFor_55 : decode cX9_lookFor 55 = .ok (.isub, 1) := by decide +kernel
theorem dX9_lookFor_56 : decode cX9_lookFor 56 = .ok (.iload 6, 2) := by decide +kernel
theorem dX9_lookFor_58 : decode cX9_lookFor 58 = .ok (.ishl, 1) := by decide +kernel
theorem dX9_lookFor_59 : decode cX9_lookFor 59 = .ok (.istore 4, 2) := by decide +kernel
theorem dX9_lookFor_61 : decode cX9_lookFor 61 = .ok (.iinc 6 1, 3) := by decide +kernel
theorem dX9_lookFor_64 : decode cX9_lookFor 64 = .ok (.goto (-42), 3) := by decide +kernel
theorem dX9_lookFor_67 : decode cX9_lookFor 67 = .ok (.iload 4, 2) := by decide +kernel
theorem dX9_lookFor_69 : decode cX9_lookFor 69 = .ok (.ireturn, 1) := by decide +kernel
theorem dX9_isAgainAt_0 : decode cX9_isAgainAt 0 = .ok (.iconst 0, 1) := by decide +kernel
theorem dX9_isAgainAt_1 : decode cX9_isAgainAt 1 = .ok (.istore 5, 2) := by decide +kernel
theorem dX9_isAgainAt_3 : decode cX9_isAgainAt 3 = .ok (.iload 5, 2) := by decide +kernel
theorem dX9_isAgainAt_5 : decode cX9_isAgainAt 5 = .ok (.aload_n 1, 1) := by decide +kernel
theorem dX9_isAgainAt_6 : decode cX9_isAgainAt 6 = .ok (.getfield 97, 3) := by decide +kernel
theorem dX9_isAgainAt_9 : decode cX9_isAgainAt 9 = .ok (.if_icmp .ge 44, 3) := by decide +kernel
theorem dX9_isAgainAt_12 : decode cX9_isAgainAt 12 = .ok (.aload_n 0, 1) := by decide +kernel
theorem dX9_isAgainAt_13 : decode cX9_isAgainAt 13 = .ok (.iload_n 2, 1) := by decide +kernel
theorem dX9_isAgainAt_14 : decode cX9_isAgainAt 14 = .ok (.aload_n 1, 1) := by decide +kernel
theorem dX9_isAgainAt_15 : decode cX9_isAgainAt 15 = .ok (.getfield 92, 3) := by decide +kernel
theorem dX9_isAgainAt_18 : decode cX9_isAgainAt 18 = .ok (.aload_n 1, 1) := by decide +kernel
theorem dX9_isAgainAt_19 : decode cX9_isAgainAt 19 = .ok (.getfield 104, 3) := by decide +kernel
theorem dX9_isAgainAt_22 : decode cX9_isAgainAt 22 = .ok (.iload 5, 2) := by decide +kernel
theorem dX9_isAgainAt_24 : decode cX9_isAgainAt 24 = .ok (.iadd, 1) := by decide +kernel
theorem dX9_isAgainAt_25 : decode cX9_isAgainAt 25 = .ok (.invokevirtual 77, 3) := by decide +kernel
theorem dX9_isAgainAt_28 : decode cX9_isAgainAt 28 = .ok (.aload_n 0, 1) := by decide +kernel
theorem dX9_isAgainAt_29 : decode cX9_isAgainAt 29 = .ok (.iload_n 3, 1) := by decide +kernel
theorem dX9_isAgainAt_30 : decode cX9_isAgainAt 30 = .ok (.aload_n 1, 1) := by decide +kernel
theorem dX9_isAgainAt_31 : decode cX9_isAgainAt 31 = .ok (.getfield 92, 3) := by decide +kernel
theorem dX9_isAgainAt_34 : decode cX9_isAgainAt 34 = .ok (.iload 4, 2) := by decide +kernel
theorem dX9_isAgainAt_36 : decode cX9_isAgainAt 36 = .ok (.iload 5, 2) := by decide +kernel
theorem dX9_isAgainAt_38 : decode cX9_isAgainAt 38 = .ok (.iadd, 1) := by decide +kernel
theorem dX9_isAgainAt_39 : decode cX9_isAgainAt 39 = .ok (.invokevirtual 77, 3) := by decide +kernel
theorem dX9_isAgainAt_42 : decode cX9_isAgainAt 42 = .ok (.if_icmp .eq 5, 3) := by decide +kernel
theorem dX9_isAgainAt_45 : decode cX9_isAgainAt 45 = .ok (.iconst 0, 1) := by decide +kernel
theorem dX9_isAgainAt_46 : decode cX9_isAgainAt 46 = .ok (.ireturn, 1) := by decide +kernel
theorem dX9_isAgainAt_47 : decode cX9_isAgainAt 47 = .ok (.iinc 5 1, 3) := by decide +kernel
theorem dX9_isAgainAt_50 : decode cX9_isAgainAt 50 = .ok (.goto (-47), 3) := by decide +kernel
theorem dX9_isAgainAt_53 : decode cX9_isAgainAt 53 = .ok (.iconst 1, 1) := by decide +kernel
theorem dX9_isAgainAt_54 : decode cX9_isAgainAt 54 = .ok (.ireturn, 1) := by decide +kernel
theorem dX10_init_0 : decode cX10_init 0 = .ok (.aload_n 0, 1) := by decide +kernel
theorem dX10_init_1 : decode cX10_init 1 = .ok (.invokespecial 3, 3) := by decide +kernel
theorem dX10_init_4 : decode cX10_init 4 = .ok (.aload_n 0, 1) := by decide +kernel
theorem dX10_init_5 : decode cX10_init 5 = .ok (.sipush 960, 3) := by decide +kernel
theorem dX10_init_8 : decode cX10_init 8 = .ok (.newarray .int, 2) := by decide +kernel
theorem dX10_init_10 : decode cX10_init 10 = .ok (.putfield 9, 3) := by decide +kernel
theorem dX10_init_13 : decode cX10_init 13 = .ok (.aload_n 0, 1) := by decide +kernel
theorem dX10_init_14 : decode cX10_init 14 = .ok (.bipush 6, 2) := by decide +kernel
theorem dX10_init_16 : decode cX10_init 16 = .ok (.newarray .int, 2) := by decide +kernel
theorem dX10_init_18 : decode cX10_init 18 = .ok (.dup, 1) := by decide +kernel
theorem dX10_init_19 : decode cX10_init 19 = .ok (.iconst 0, 1) := by decide +kernel
theorem dX10_init_20 : decode cX10_init 20 = .ok (.iconst 1, 1) := by decide +kernel
theorem dX10_init_21 : decode cX10_init 21 = .ok (.iastore, 1) := by decide +kernel
theorem dX10_init_22 : decode cX10_init 22 = .ok (.dup, 1) := by decide +kernel
theorem dX10_init_23 : decode cX10_init 23 = .ok (.iconst 1, 1) := by decide +kernel
theorem dX10_init_24 : decode cX10_init 24 = .ok (.bipush 17, 2) := by decide +kernel
theorem dX10_init_26 : decode cX10_init 26 = .ok (.iastore, 1) := by decide +kernel
theorem dX10_init_27 : decode cX10_init 27 = .ok (.dup, 1) := by decide +kernel
theorem dX10_init_28 : decode cX10_init 28 = .ok (.iconst 2, 1) := by decide +kernel
theorem dX10_init_29 : decode cX10_init 29 = .ok (.bipush 31, 2) := by decide +kernel
theorem dX10_init_31 : decode cX10_init 31 = .ok (.iastore, 1) := by decide +kernel
theorem dX10_init_32 : decode cX10_init 32 = .ok (.dup, 1) := by decide +kernel
theorem dX10_init_33 : decode cX10_init 33 = .ok (.iconst 3, 1) := by decide +kernel
theorem dX10_init_34 : decode cX10_init 34 = .ok (.iconst 2, 1) := by decide +kernel
theorem dX10_init_35 : decode cX10_init 35 = .ok (.iastore, 1) := by decide +kernel
theorem dX10_init_36 : decode cX10_init 36 = .ok (.dup, 1) := by decide +kernel
theorem dX10_init_37 : decode cX10_init 37 = .ok (.iconst 4, 1) := by decide +kernel
theorem dX10_init_38 : decode cX10_init 38 = .ok (.bipush 10, 2) := by decide +kernel
theorem dX10_init_40 : decode cX10_init 40 = .ok (.iastore, 1) := by decide +kernel
theorem dX10_init_41 : decode cX10_init 41 = .ok (.dup, 1) := by decide +kernel
theorem dX10_init_42 : decode cX10_init 42 = .ok (.iconst 5, 1) := by decide +kernel
theorem dX10_init_43 : decode cX10_init 43 = .ok (.bipush 14, 2) := by decide +kernel
theorem dX10_init_45 : decode cX10_init 45 = .ok (.iastore, 1) := by decide +kernel
theorem dX10_init_46 : decode cX10_init 46 = .ok (.putfield 15, 3) := by decide +kernel
theorem dX10_init_49 : decode cX10_init 49 = .ok (.aload_n 0, 1) := by decide +kernel
theorem dX10_init_50 : decode cX10_init 50 = .ok (.aload_n 1, 1) := by decide +kernel
theorem dX10_init_51 : decode cX10_init 51 = .ok (.putfield 18, 3) := by decide +kernel
theorem dX10_init_54 : decode cX10_init 54 = .ok (.aload_n 0, 1) := by decide +kernel
theorem dX10_init_55 : decode cX10_init 55 = .ok (.getfield 9, 3) := by decide +kernel
theorem dX10_init_58 : decode cX10_init 58 = .ok (.bipush (-9), 2) := by decide +kernel
theorem dX10_init_60 : decode cX10_init 60 = .ok (.invokestatic 22, 3) := by decide +kernel
theorem dX10_init_63 : decode cX10_init 63 = .ok (.return_, 1) := by decide +kernel
theorem dX10_indexOf_0 : decode cX10_indexOf 0 = .ok (.iload_n 0, 1) := by decide +kernel
theorem dX10_indexOf_1 : decode cX10_indexOf 1 = .ok (.iconst 2, 1) := by decide +kernel
theorem dX10_indexOf_2 : decode cX10_indexOf 2 = .ok (.imul, 1) := by decide +kernel
theorem dX10_indexOf_3 : decode cX10_indexOf 3 = .ok (.iload_n 1, 1) := by decide +kernel
theorem dX10_indexOf_4 : decode cX10_indexOf 4 = .ok (.iadd, 1) := by decide +kernel
theorem dX10_indexOf_5 : decode cX10_indexOf 5 = .ok (.bipush 6, 2) := by decide +kernel
theorem dX10_indexOf_7 : decode cX10_indexOf 7 = .ok (.imul, 1) := by decide +kernel
theorem dX10_indexOf_8 : decode cX10_indexOf 8 = .ok (.iload_n 2, 1) := by decide +kernel
theorem dX10_indexOf_9 : decode cX10_indexOf 9 = .ok (.iadd, 1) := by decide +kernel
theorem dX10_indexOf_10 : decode cX10_indexOf 10 = .ok (.ireturn, 1) := by decide +kernel
theorem dX10_castVote_0 : decode cX10_castVote 0 = .ok (.aload_n 0, 1) := by decide +kernel
theorem dX10_castVote_1 : decode cX10_castVote 1 = .ok (.getfield 9, 3) := by decide +kernel
theorem dX10_castVote_4 : decode cX10_castVote 4 = .ok (.iload_n 1, 1) := by decide +kernel
theorem dX10_castVote_5 : decode cX10_castVote 5 = .ok (.iload_n 2, 1) := by decide +kernel
theorem dX10_castVote_6 : decode cX10_castVote 6 = .ok (.iload_n 3, 1) := by decide +kernel
theorem dX10_castVote_7 : decode cX10_castVote 7 = .ok (.invokestatic 28, 3) := by decide +kernel
theorem dX10_castVote_10 : decode cX10_castVote 10 = .ok (.iload 4, 2) := by decide +kernel
theorem dX10_castVote_12 : decode cX10_castVote 12 = .ok (.invokestatic 32, 3) := by decide +kernel
theorem dX10_castVote_15 : decode cX10_castVote 15 = .ok (.return_, 1) := by decide +kernel
theorem dX10_replaceCopied_0 : decode cX10_replaceCopied 0 = .ok (.aload_n 0, 1) := by decide +kernel
theorem dX10_replaceCopied_1 : decode cX10_replaceCopied 1 = .ok (.getfield 15, 3) := by decide +kernel
theorem dX10_replaceCopied_4 : decode cX10_replaceCopied 4 = .ok (.iload_n 1, 1) := by decide +kernel
theorem dX10_replaceCopied_5 : decode cX10_replaceCopied 5 = .ok (.invokestatic 38, 3) := by decide +kernel
theorem dX10_replaceCopied_8 : decode cX10_replaceCopied 8 = .ok (.istore_n 3, 1) := by decide +kernel
theorem dX10_replaceCopied_9 : decode cX10_replaceCopied 9 = .ok (.aload_n 0, 1) := by decide +kernel
theorem dX10_replaceCopied_10 : decode cX10_replaceCopied 10 = .ok (.getfield 15, 3) := by decide +kernel
theorem dX10_replaceCopied_13 : decode cX10_replaceCopied 13 = .ok (.iload_n 1, 1) := by decide +kernel
theorem dX10_replaceCopied_14 : decode cX10_replaceCopied 14 = .ok (.iload_n 2, 1) := by decide +kernel
theorem dX10_replaceCopied_15 : decode cX10_replaceCopied 15 = .ok (.invokestatic 32, 3) := by decide +kernel
theorem dX10_replaceCopied_18 : decode cX10_replaceCopied 18 = .ok (.iload_n 3, 1) := by decide +kernel
theorem dX10_replaceCopied_19 : decode cX10_replaceCopied 19 = .ok (.ireturn, 1) := by decide +kernel
theorem dX10_worthOn_0 : decode cX10_worthOn 0 = .ok (.iconst 0, 1) := by decide +kernel
theorem dX10_worthOn_1 : decode cX10_worthOn 1 = .ok (.istore 5, 2) := by decide +kernel
theorem dX10_worthOn_3 : decode cX10_worthOn 3 = .ok (.iconst 0, 1) := by decide +kernel
theorem dX10_worthOn_4 : decode cX10_worthOn 4 = .ok (.istore 6, 2) := by decide +kernel
theorem dX10_worthOn_6 : decode cX10_worthOn 6 = .ok (.iload 6, 2) := by decide +kernel
theorem dX10_worthOn_8 : decode cX10_worthOn 8 = .ok (.iload_n 2, 1) := by decide +kernel
theorem dX10_worthOn_9 : decode cX10_worthOn 9 = .ok (.if_icmp .gt 88, 3) := by decide +kernel
theorem dX10_worthOn_12 : decode cX10_worthOn 12 = .ok (.iload 6, 2) := by decide +kernel
theorem dX10_worthOn_14 : decode cX10_worthOn 14 = .ok (.bipush 80, 2) := by decide +kernel
theorem dX10_worthOn_16 : decode cX10_worthOn 16 = .ok (.if_icmp .ge 81, 3) := by decide +kernel
theorem dX10_worthOn_19 : decode cX10_worthOn 19 = .ok (.aload_n 1, 1) := by decide +kernel
theorem dX10_worthOn_20 : decode cX10_worthOn 20 = .ok (.iload 6, 2) := by decide +kernel
theorem dX10_worthOn_22 : decode cX10_worthOn 22 = .ok (.invokevirtual 42, 3) := by decide +kernel
theorem dX10_worthOn_25 : decode cX10_worthOn 25 = .ok (.istore 7, 2) := by decide +kernel
theorem dX10_worthOn_27 : decode cX10_worthOn 27 = .ok (.aload_n 0, 1) := by decide +kernel
theorem dX10_worthOn_28 : decode cX10_worthOn 28 = .ok (.getfield 9, 3) := by decide +kernel
theorem dX10_worthOn_31 : decode cX10_worthOn 31 = .ok (.iload 7, 2) := by decide +kernel
theorem dX10_worthOn_33 : decode cX10_worthOn 33 = .ok (.iload_n 3, 1) := by decide +kernel
theorem dX10_worthOn_34 : decode cX10_worthOn 34 = .ok (.iload 4, 2) := by decide +kernel
theorem dX10_worthOn_36 : decode cX10_worthOn 36 = .ok (.invokestatic 28, 3) := by decide +kernel
theorem dX10_worthOn_39 : decode cX10_worthOn 39 = .ok (.invokestatic 38, 3) := by decide +kernel
theorem dX10_worthOn_42 : decode cX10_worthOn 42 = .ok (.istore 8, 2) := by decide +kernel
theorem dX10_worthOn_44 : decode cX10_worthOn 44 = .ok (.iload 8, 2) := by decide +kernel
theorem dX10_worthOn_46 : decode cX10_worthOn 46 = .ok (.bipush (-9), 2) := by decide +kernel
theorem dX10_worthOn_48 : decode cX10_worthOn 48 = .ok (.if_icmp .eq 10, 3) := by decide +kernel
theorem dX10_worthOn_51 : decode cX10_worthOn 51 = .ok (.iload 8, 2) := by decide +kernel
theorem dX10_worthOn_53 : decode cX10_worthOn 53 = .ok (.istore 5, 2) := by decide +kernel
theorem dX10_worthOn_55 : decode cX10_worthOn 55 = .ok (.goto 36, 3) := by decide +kernel
theorem dX10_worthOn_58 : decode cX10_worthOn 58 = .ok (.aload_n 0, 1) := by decide +kernel
theorem dX10_worthOn_59 : decode cX10_worthOn 59 = .ok (.getfield 15, 3) := by decide +kernel
theorem dX10_worthOn_62 : decode cX10_worthOn 62 = .ok (.iload_n 3, 1) := by decide +kernel
theorem dX10_worthOn_63 : decode cX10_worthOn 63 = .ok (.iconst 3, 1) := by decide +kernel
theorem dX10_worthOn_64 : decode cX10_worthOn 64 = .ok (.imul, 1) := by decide +kernel
theorem dX10_worthOn_65 : decode cX10_worthOn 65 = .ok (.aload_n 0, 1) := by decide +kernel
theorem dX10_worthOn_66 : decode cX10_worthOn 66 = .ok (.getfield 18, 3) := by decide +kernel
theorem dX10_worthOn_69 : decode cX10_worthOn 69 = .ok (.iload 7, 2) := by decide +kernel
theorem dX10_worthOn_71 : decode cX10_worthOn 71 = .ok (.invokevirtual 48, 3) := by decide +kernel
theorem dX10_worthOn_74 : decode cX10_worthOn 74 = .ok (.iadd, 1) := by decide +kernel
theorem dX10_worthOn_75 : decode cX10_worthOn 75 = .ok (.invokestatic 38, 3) := by decide +kernel
theorem dX10_worthOn_78 : decode cX10_worthOn 78 = .ok (.iload 5, 2) := by decide +kernel
theorem dX10_worthOn_80 : decode cX10_worthOn 80 = .ok (.iconst 2, 1) := by decide +kernel
theorem dX10_worthOn_81 : decode cX10_worthOn 81 = .ok (.iadd, 1) := by decide +kernel
theorem dX10_worthOn_82 : decode cX10_worthOn 82 = .ok (.invokestatic 51, 3) := by decide +kernel
theorem dX10_worthOn_85 : decode cX10_worthOn 85 = .ok (.ifCond .ne 6, 3) := by decide +kernel
theorem dX10_worthOn_88 : decode cX10_worthOn 88 = .ok (.iconst 0, 1) := by decide +kernel
theorem dX10_worthOn_89 : decode cX10_worthOn 89 = .ok (.istore 5, 2) := by decide +kernel
theorem dX10_worthOn_91 : decode cX10_worthOn 91 = .ok (.iinc 6 1, 3) := by decide +kernel
theorem dX10_worthOn_94 : decode cX10_worthOn 94 = .ok (.goto (-88), 3) := by decide +kernel
theorem dX10_worthOn_97 : decode cX10_worthOn 97 = .ok (.iload 5, 2) := by decide +kernel
theorem dX10_worthOn_99 : decode cX10_worthOn 99 = .ok (.ireturn, 1) := by decide +kernel
theorem dX10_peopleWith_0 : decode cX10_peopleWith 0 = .ok (.iconst 0, 1) := by decide +kernel
theorem dX10_peopleWith_1 : decode cX10_peopleWith 1 = .ok (.istore 4, 2) := by decide +kernel
theorem dX10_peopleWith_3 : decode cX10_peopleWith 3 = .ok (.iconst 0, 1) := by decide +kernel
theorem dX10_peopleWith_4 : decode cX10_peopleWith 4 = .ok (.istore 5, 2) := by decide +kernel
theorem dX10_peopleWith_6 : decode cX10_peopleWith 6 = .ok (.iload 5, 2) := by decide +kernel
theorem dX10_peopleWith_8 : decode cX10_peopleWith 8 = .ok (.bipush 6, 2) := by decide +kernel
theorem dX10_peopleWith_10 : decode cX10_peopleWith 10 = .ok (.if_icmp .ge 36, 3) := by decide +kernel
theorem dX10_peopleWith_13 : decode cX10_peopleWith 13 = .ok (.aload_n 0, 1) := by decide +kernel
theorem dX10_peopleWith_14 : decode cX10_peopleWith 14 = .ok (.aload_n 1, 1) := by decide +kernel
theorem dX10_peopleWith_15 : decode cX10_peopleWith 15 = .ok (.aload_n 1, 1) := by decide +kernel
theorem dX10_peopleWith_16 : decode cX10_peopleWith 16 = .ok (.getfield 55, 3) := by decide +kernel
theorem dX10_peopleWith_19 : decode cX10_peopleWith 19 = .ok (.iconst 1, 1) := by decide +kernel
theorem dX10_peopleWith_20 : decode cX10_peopleWith 20 = .ok (.isub, 1) := by decide +kernel
theorem dX10_peopleWith_21 : decode cX10_peopleWith 21 = .ok (.iload_n 2, 1) := by decide +kernel
theorem dX10_peopleWith_22 : decode cX10_peopleWith 22 = .ok (.iload 5, 2) := by decide +kernel
theorem dX10_peopleWith_24 : decode cX10_peopleWith 24 = .ok (.invokevirtual 59, 3) := by decide +kernel
theorem dX10_peopleWith_27 : decode cX10_peopleWith 27 = .ok (.iload_n 3, 1) := by decide +kernel
theorem dX10_peopleWith_28 : decode cX10_peopleWith 28 = .ok (.if_icmp .ne 12, 3) := by decide +kernel
theorem dX10_peopleWith_31 : decode cX10_peopleWith 31 = .ok (.iload 4, 2) := by decide +kernel
theorem dX10_peopleWith_33 : decode cX10_peopleWith 33 = .ok (.iconst 1, 1) := by decide +kernel
theorem dX10_peopleWith_34 : decode cX10_peopleWith 34 = .ok (.iload 5, 2) := by decide +kernel
theorem dX10_peopleWith_36 : decode cX10_peopleWith 36 = .ok (.ishl, 1) := by decide +kernel
theorem dX10_peopleWith_37 : decode cX10_peopleWith 37 = .ok (.ior, 1) := by decide +kernel
theorem dX10_peopleWith_38 : decode cX10_peopleWith 38 = .ok (.istore 4, 2) := by decide +kernel
theorem dX10_peopleWith_40 : decode cX10_peopleWith 40 = .ok (.iinc 5 1, 3) := by decide +kernel
theorem dX10_peopleWith_43 : decode cX10_peopleWith 43 = .ok (.goto (-37), 3) := by decide +kernel
theorem dX10_peopleWith_46 : decode cX10_peopleWith 46 = .ok (.iload 4, 2) := by decide +kernel
theorem dX10_peopleWith_48 : decode cX10_peopleWith 48 = .ok (.ireturn, 1) := by decide +kernel
theorem dJ6_bitCount_0f7a4_0 : decode cJ6_bitCount_0f7a4 0 = .ok (.iload_n 0, 1) := by decide +kernel
theorem dJ6_bitCount_0f7a4_1 : decode cJ6_bitCount_0f7a4 1 = .ok (.iload_n 0, 1) := by decide +kernel
theorem dJ6_bitCount_0f7a4_2 : decode cJ6_bitCount_0f7a4 2 = .ok (.iconst 1, 1) := by decide +kernel
theorem dJ6_bitCount_0f7a4_3 : decode cJ6_bitCount_0f7a4 3 = .ok (.iushr, 1) := by decide +kernel
theorem dJ6_bitCount_0f7a4_4 : decode cJ6_bitCount_0f7a4 4 = .ok (.ldc_w 265, 3) := by decide +kernel
theorem dJ6_bitCount_0f7a4_7 : decode cJ6_bitCount_0f7a4 7 = .ok (.iand, 1) := by decide +kernel
theorem dJ6_bitCount_0f7a4_8 : decode cJ6_bitCount_0f7a4 8 = .ok (.isub, 1) := by decide +kernel
theorem dJ6_bitCount_0f7a4_9 : decode cJ6_bitCount_0f7a4 9 = .ok (.istore_n 0, 1) := by decide +kernel
theorem dJ6_bitCount_0f7a4_10 : decode cJ6_bitCount_0f7a4 10 = .ok (.iload_n 0, 1) := by decide +kernel
theorem dJ6_bitCount_0f7a4_11 : decode cJ6_bitCount_0f7a4 11 = .ok (.ldc_w 266, 3) := by decide +kernel
theorem dJ6_bitCount_0f7a4_14 : decode cJ6_bitCount_0f7a4 14 = .ok (.iand, 1) := by decide +kernel
theorem dJ6_bitCount_0f7a4_15 : decode cJ6_bitCount_0f7a4 15 = .ok (.iload_n 0, 1) := by decide +kernel
theorem dJ6_bitCount_0f7a4_16 : decode cJ6_bitCount_0f7a4 16 = .ok (.iconst 2, 1) := by decide +kernel
theorem dJ6_bitCount_0f7a4_17 : decode cJ6_bitCount_0f7a4 17 = .ok (.iushr, 1) := by decide +kernel
theorem dJ6_bitCount_0f7a4_18 : decode cJ6_bitCount_0f7a4 18 = .ok (.ldc_w 266, 3) := by decide +kernel
theorem dJ6_bitCount_0f7a4_21 : decode cJ6_bitCount_0f7a4 21 = .ok (.iand, 1) := by decide +kernel
theorem dJ6_bitCount_0f7a4_22 : decode cJ6_bitCount_0f7a4 22 = .ok (.iadd, 1) := by decide +kernel
theorem dJ6_bitCount_0f7a4_23 : decode cJ6_bitCount_0f7a4 23 = .ok (.istore_n 0, 1) := by decide +kernel
theorem dJ6_bitCount_0f7a4_24 : decode cJ6_bitCount_0f7a4 24 = .ok (.iload_n 0, 1) := by decide +kernel
theorem dJ6_bitCount_0f7a4_25 : decode cJ6_bitCount_0f7a4 25 = .ok (.iload_n 0, 1) := by decide +kernel
theorem dJ6_bitCount_0f7a4_26 : decode cJ6_bitCount_0f7a4 26 = .ok (.iconst 4, 1) := by decide +kernel
theorem dJ6_bitCount_0f7a4_27 : decode cJ6_bitCount_0f7a4 27 = .ok (.iushr, 1) := by decide +kernel
theorem dJ6_bitCount_0f7a4_28 : decode cJ6_bitCount_0f7a4 28 = .ok (.iadd, 1) := by decide +kernel
theorem dJ6_bitCount_0f7a4_29 : decode cJ6_bitCount_0f7a4 29 = .ok (.ldc_w 267, 3) := by decide +kernel
theorem dJ6_bitCount_0f7a4_32 : decode cJ6_bitCount_0f7a4 32 = .ok (.iand, 1) := by decide +kernel
theorem dJ6_bitCount_0f7a4_33 : decode cJ6_bitCount_0f7a4 33 = .ok (.istore_n 0, 1) := by decide +kernel
theorem dJ6_bitCount_0f7a4_34 : decode cJ6_bitCount_0f7a4 34 = .ok (.iload_n 0, 1) := by decide +kernel
theorem dJ6_bitCount_0f7a4_35 : decode cJ6_bitCount_0f7a4 35 = .ok (.iload_n 0, 1) := by decide +kernel
theorem dJ6_bitCount_0f7a4_36 : decode cJ6_bitCount_0f7a4 36 = .ok (.bipush 8, 2) := by decide +kernel
theorem dJ6_bitCount_0f7a4_38 : decode cJ6_bitCount_0f7a4 38 = .ok (.iushr, 1) := by decide +kernel
theorem dJ6_bitCount_0f7a4_39 : decode cJ6_bitCount_0f7a4 39 = .ok (.iadd, 1) := by decide +kernel
theorem dJ6_bitCount_0f7a4_40 : decode cJ6_bitCount_0f7a4 40 = .ok (.istore_n 0, 1) := by decide +kernel
theorem dJ6_bitCount_0f7a4_41 : decode cJ6_bitCount_0f7a4 41 = .ok (.iload_n 0, 1) := by decide +kernel
theorem dJ6_bitCount_0f7a4_42 : decode cJ6_bitCount_0f7a4 42 = .ok (.iload_n 0, 1) := by decide +kernel
theorem dJ6_bitCount_0f7a4_43 : decode cJ6_bitCount_0f7a4 43 = .ok (.bipush 16, 2) := by decide +kernel
theorem dJ6_bitCount_0f7a4_45 : decode cJ6_bitCount_0f7a4 45 = .ok (.iushr, 1) := by decide +kernel
theorem dJ6_bitCount_0f7a4_46 : decode cJ6_bitCount_0f7a4 46 = .ok (.iadd, 1) := by decide +kernel
theorem dJ6_bitCount_0f7a4_47 : decode cJ6_bitCount_0f7a4 47 = .ok (.istore_n 0, 1) := by decide +kernel
theorem dJ6_bitCount_0f7a4_48 : decode cJ6_bitCount_0f7a4 48 = .ok (.iload_n 0, 1) := by decide +kernel
theorem dJ6_bitCount_0f7a4_49 : decode cJ6_bitCount_0f7a4 49 = .ok (.bipush 63, 2) := by decide +kernel
theorem dJ6_bitCount_0f7a4_51 : decode cJ6_bitCount_0f7a4 51 = .ok (.iand, 1) := by decide +kernel
theorem dJ6_bitCount_0f7a4_52 : decode cJ6_bitCount_0f7a4 52 = .ok (.ireturn, 1) := by decide +kernel
theorem dJ9_max_7cf53_0 : decode cJ9_max_7cf53 0 = .ok (.iload_n 0, 1) := by decide +kernel
theorem dJ9_max_7cf53_1 : decode cJ9_max_7cf53 1 = .ok (.iload_n 1, 1) := by decide +kernel
theorem dJ9_max_7cf53_2 : decode cJ9_max_7cf53 2 = .ok (.if_icmp .lt 7, 3) := by decide +kernel
theorem dJ9_max_7cf53_5 : decode cJ9_max_7cf53 5 = .ok (.iload_n 0, 1) := by decide +kernel
theorem dJ9_max_7cf53_6 : decode cJ9_max_7cf53 6 = .ok (.goto 4, 3) := by decide +kernel
theorem dJ9_max_7cf53_9 : decode cJ9_max_7cf53 9 = .ok (.iload_n 1, 1) := by decide +kernel
theorem dJ9_max_7cf53_10 : decode cJ9_max_7cf53 10 = .ok (.ireturn, 1) := by decide +kernel
theorem dJ9_min_7cf53_0 : decode cJ9_min_7cf53 0 = .ok (.iload_n 0, 1) := by decide +kernel
theorem dJ9_min_7cf53_1 : decode cJ9_min_7cf53 1 = .ok (.iload_n 1, 1) := by decide +kernel
theorem dJ9_min_7cf53_2 : decode cJ9_min_7cf53 2 = .ok (.if_icmp .gt 7, 3) := by decide +kernel
theorem dJ9_min_7cf53_5 : decode cJ9_min_7cf53 5 = .ok (.iload_n 0, 1) := by decide +kernel
theorem dJ9_min_7cf53_6 : decode cJ9_min_7cf53 6 = .ok (.goto 4, 3) := by decide +kernel
theorem dJ9_min_7cf53_9 : decode cJ9_min_7cf53 9 = .ok (.iload_n 1, 1) := by decide +kernel
theorem dJ9_min_7cf53_10 : decode cJ9_min_7cf53 10 = .ok (.ireturn, 1) := by decide +kernel
theorem dJxa1e45_init_da8c8_0 : decode cJxa1e45_init_da8c8 0 = .ok (.aload_n 0, 1) := by decide +kernel
theorem dJxa1e45_init_da8c8_1 : decode cJxa1e45_init_da8c8 1 = .ok (.invokespecial 1, 3) := by decide +kernel
theorem dJxa1e45_init_da8c8_4 : decode cJxa1e45_init_da8c8 4 = .ok (.return_, 1) := by decide +kernel
theorem dJxc12de_init_da8c8_0 : decode cJxc12de_init_da8c8 0 = .ok (.aload_n 0, 1) := by decide +kernel
theorem dJxc12de_init_da8c8_1 : decode cJxc12de_init_da8c8 1 = .ok (.invokespecial 1, 3) := by decide +kernel
theorem dJxc12de_init_da8c8_4 : decode cJxc12de_init_da8c8 4 = .ok (.aload_n 0, 1) := by decide +kernel
theorem dJxc12de_init_da8c8_5 : decode cJxc12de_init_da8c8 5 = .ok (.iconst 0, 1) := by decide +kernel
theorem dJxc12de_init_da8c8_6 : decode cJxc12de_init_da8c8 6 = .ok (.putfield 7, 3) := by decide +kernel
theorem dJxc12de_init_da8c8_9 : decode cJxc12de_init_da8c8 9 = .ok (.return_, 1) := by decide +kernel
theorem dJx4a65c_init_da8c8_0 : decode cJx4a65c_init_da8c8 0 = .ok (.aload_n 0, 1) := by decide +kernel
theorem dJx4a65c_init_da8c8_1 : decode cJx4a65c_init_da8c8 1 = .ok (.invokespecial 1, 3) := by decide +kernel
theorem dJx4a65c_init_da8c8_4 : decode cJx4a65c_init_da8c8 4 = .ok (.aload_n 0, 1) := by decide +kernel
theorem dJx4a65c_init_da8c8_5 : decode cJx4a65c_init_da8c8 5 = .ok (.getstatic 39, 3) := by decide +kernel
theorem dJx4a65c_init_da8c8_8 : decode cJx4a65c_init_da8c8 8 = .ok (.putfield 9, 3) := by decide +kernel
theorem dJx4a65c_init_da8c8_11 : decode cJx4a65c_init_da8c8 11 = .ok (.return_, 1) := by decide +kernel
theorem dJx4a65c_grow_92f84_0 : decode cJx4a65c_grow_92f84 0 = .ok (.aload_n 0, 1) := by decide +kernel
theorem dJx4a65c_grow_92f84_1 : decode cJx4a65c_grow_92f84 1 = .ok (.getfield 9, 3) := by decide +kernel
theorem dJx4a65c_grow_92f84_4 : decode cJx4a65c_grow_92f84 4 = .ok (.arraylength, 1) := by decide +kernel
theorem dJx4a65c_grow_92f84_5 : decode cJx4a65c_grow_92f84 5 = .ok (.istore_n 2, 1) := by decide +kernel
theorem dJx4a65c_grow_92f84_6 : decode cJx4a65c_grow_92f84 6 = .ok (.iload_n 2, 1) := by decide +kernel
theorem dJx4a65c_grow_92f84_7 : decode cJx4a65c_grow_92f84 7 = .ok (.ifCond .gt 13, 3) := by decide +kernel
theorem dJx4a65c_grow_92f84_10 : decode cJx4a65c_grow_92f84 10 = .ok (.aload_n 0, 1) := by decide +kernel
theorem dJx4a65c_grow_92f84_11 : decode cJx4a65c_grow_92f84 11 = .ok (.getfield 9, 3) := by decide +kernel
theorem dJx4a65c_grow_92f84_14 : decode cJx4a65c_grow_92f84 14 = .ok (.getstatic 39, 3) := by decide +kernel
theorem dJx4a65c_grow_92f84_17 : decode cJx4a65c_grow_92f84 17 = .ok (.if_acmp .eq 28, 3) := by decide +kernel
theorem dJx4a65c_grow_92f84_20 : decode cJx4a65c_grow_92f84 20 = .ok (.iload_n 2, 1) := by decide +kernel
theorem dJx4a65c_grow_92f84_21 : decode cJx4a65c_grow_92f84 21 = .ok (.iload_n 1, 1) := by decide +kernel
theorem dJx4a65c_grow_92f84_22 : decode cJx4a65c_grow_92f84 22 = .ok (.iload_n 2, 1) := by decide +kernel
theorem dJx4a65c_grow_92f84_23 : decode cJx4a65c_grow_92f84 23 = .ok (.isub, 1) := by decide +kernel
theorem dJx4a65c_grow_92f84_24 : decode cJx4a65c_grow_92f84 24 = .ok (.iload_n 2, 1) := by decide +kernel
theorem dJx4a65c_grow_92f84_25 : decode cJx4a65c_grow_92f84 25 = .ok (.iconst 1, 1) := by decide +kernel
theorem dJx4a65c_grow_92f84_26 : decode cJx4a65c_grow_92f84 26 = .ok (.ishr, 1) := by decide +kernel
theorem dJx4a65c_grow_92f84_27 : decode cJx4a65c_grow_92f84 27 = .ok (.invokestatic 73, 3) := by decide +kernel
theorem dJx4a65c_grow_92f84_30 : decode cJx4a65c_grow_92f84 30 = .ok (.istore_n 3, 1) := by decide +kernel
theorem dJx4a65c_grow_92f84_31 : decode cJx4a65c_grow_92f84 31 = .ok (.aload_n 0, 1) := by decide +kernel
theorem dJx4a65c_grow_92f84_32 : decode cJx4a65c_grow_92f84 32 = .ok (.aload_n 0, 1) := by decide +kernel
theorem dJx4a65c_grow_92f84_33 : decode cJx4a65c_grow_92f84 33 = .ok (.getfield 9, 3) := by decide +kernel
theorem dJx4a65c_grow_92f84_36 : decode cJx4a65c_grow_92f84 36 = .ok (.iload_n 3, 1) := by decide +kernel
theorem dJx4a65c_grow_92f84_37 : decode cJx4a65c_grow_92f84 37 = .ok (.invokestatic 66, 3) := by decide +kernel
theorem dJx4a65c_grow_92f84_40 : decode cJx4a65c_grow_92f84 40 = .ok (.dup_x1, 1) := by decide +kernel
theorem dJx4a65c_grow_92f84_41 : decode cJx4a65c_grow_92f84 41 = .ok (.putfield 9, 3) := by decide +kernel
theorem dJx4a65c_grow_92f84_44 : decode cJx4a65c_grow_92f84 44 = .ok (.areturn, 1) := by decide +kernel
theorem dJx4a65c_grow_92f84_45 : decode cJx4a65c_grow_92f84 45 = .ok (.aload_n 0, 1) := by decide +kernel
theorem dJx4a65c_grow_92f84_46 : decode cJx4a65c_grow_92f84 46 = .ok (.bipush 10, 2) := by decide +kernel
theorem dJx4a65c_grow_92f84_48 : decode cJx4a65c_grow_92f84 48 = .ok (.iload_n 1, 1) := by decide +kernel
theorem dJx4a65c_grow_92f84_49 : decode cJx4a65c_grow_92f84 49 = .ok (.invokestatic 79, 3) := by decide +kernel
theorem dJx4a65c_grow_92f84_52 : decode cJx4a65c_grow_92f84 52 = .ok (.anewarray 7, 3) := by decide +kernel
theorem dJx4a65c_grow_92f84_55 : decode cJx4a65c_grow_92f84 55 = .ok (.dup_x1, 1) := by decide +kernel
theorem dJx4a65c_grow_92f84_56 : decode cJx4a65c_grow_92f84 56 = .ok (.putfield 9, 3) := by decide +kernel
theorem dJx4a65c_grow_92f84_59 : decode cJx4a65c_grow_92f84 59 = .ok (.areturn, 1) := by decide +kernel
theorem dJx4a65c_grow_d5877_0 : decode cJx4a65c_grow_d5877 0 = .ok (.aload_n 0, 1) := by decide +kernel
theorem dJx4a65c_grow_d5877_1 : decode cJx4a65c_grow_d5877 1 = .ok (.aload_n 0, 1) := by decide +kernel
theorem dJx4a65c_grow_d5877_2 : decode cJx4a65c_grow_d5877 2 = .ok (.getfield 48, 3) := by decide +kernel
theorem dJx4a65c_grow_d5877_5 : decode cJx4a65c_grow_d5877 5 = .ok (.iconst 1, 1) := by decide +kernel
theorem dJx4a65c_grow_d5877_6 : decode cJx4a65c_grow_d5877 6 = .ok (.iadd, 1) := by decide +kernel
theorem dJx4a65c_grow_d5877_7 : decode cJx4a65c_grow_d5877 7 = .ok (.invokevirtual 69, 3) := by decide +kernel
theorem dJx4a65c_grow_d5877_10 : decode cJx4a65c_grow_d5877 10 = .ok (.areturn, 1) := by decide +kernel
theorem dJx4a65c_size_8abf5_0 : decode cJx4a65c_size_8abf5 0 = .ok (.aload_n 0, 1) := by decide +kernel
theorem dJx4a65c_size_8abf5_1 : decode cJx4a65c_size_8abf5 1 = .ok (.getfield 48, 3) := by decide +kernel
theorem dJx4a65c_size_8abf5_4 : decode cJx4a65c_size_8abf5 4 = .ok (.ireturn, 1) := by decide +kernel
theorem dJx4a65c_elementData_915e3_0 : decode cJx4a65c_elementData_915e3 0 = .ok (.aload_n 0, 1) := by decide +kernel
theorem dJx4a65c_elementData_915e3_1 : decode cJx4a65c_elementData_915e3 1 = .ok (.getfield 9, 3) := by decide +kernel
theorem dJx4a65c_elementData_915e3_4 : decode cJx4a65c_elementData_915e3 4 = .ok (.iload_n 1, 1) := by decide +kernel
theorem dJx4a65c_elementData_915e3_5 : decode cJx4a65c_elementData_915e3 5 = .ok (.aaload, 1) := by decide +kernel
theorem dJx4a65c_elementData_915e3_6 : decode cJx4a65c_elementData_915e3 6 = .ok (.areturn, 1) := by decide +kernel
theorem dJx4a65c_get_915e3_0 : decode cJx4a65c_get_915e3 0 = .ok (.iload_n 1, 1) := by decide +kernel
theorem dJx4a65c_get_915e3_1 : decode cJx4a65c_get_915e3 1 = .ok (.aload_n 0, 1) := by decide +kernel
theorem dJx4a65c_get_915e3_2 : decode cJx4a65c_get_915e3 2 = .ok (.getfield 48, 3) := by decide +kernel
theorem dJx4a65c_get_915e3_5 : decode cJx4a65c_get_915e3 5 = .ok (.invokestatic 118, 3) := by decide +kernel
theorem dJx4a65c_get_915e3_8 : decode cJx4a65c_get_915e3 8 = .ok (.pop, 1) := by decide +kernel
theorem dJx4a65c_get_915e3_9 : decode cJx4a65c_get_915e3 9 = .ok (.aload_n 0, 1) := by decide +kernel
theorem dJx4a65c_get_915e3_10 : decode cJx4a65c_get_915e3 10 = .ok (.iload_n 1, 1) := by decide +kernel
theorem dJx4a65c_get_915e3_11 : decode cJx4a65c_get_915e3 11 = .ok (.invokevirtual 123, 3) := by decide +kernel
theorem dJx4a65c_get_915e3_14 : decode cJx4a65c_get_915e3 14 = .ok (.areturn, 1) := by decide +kernel
theorem dJx4a65c_add_72be8_0 : decode cJx4a65c_add_72be8 0 = .ok (.iload_n 3, 1) := by decide +kernel
theorem dJx4a65c_add_72be8_1 : decode cJx4a65c_add_72be8 1 = .ok (.aload_n 2, 1) := by decide +kernel
theorem dJx4a65c_add_72be8_2 : decode cJx4a65c_add_72be8 2 = .ok (.arraylength, 1) := by decide +kernel
theorem dJx4a65c_add_72be8_3 : decode cJx4a65c_add_72be8 3 = .ok (.if_icmp .ne 8, 3) := by decide +kernel
theorem dJx4a65c_add_72be8_6 : decode cJx4a65c_add_72be8 6 = .ok (.aload_n 0, 1) := by decide +kernel
theorem dJx4a65c_add_72be8_7 : decode cJx4a65c_add_72be8 7 = .ok (.invokevirtual 129, 3) := by decide +kernel
theorem dJx4a65c_add_72be8_10 : decode cJx4a65c_add_72be8 10 = .ok (.astore_n 2, 1) := by decide +kernel
theorem dJx4a65c_add_72be8_11 : decode cJx4a65c_add_72be8 11 = .ok (.aload_n 2, 1) := by decide +kernel
theorem dJx4a65c_add_72be8_12 : decode cJx4a65c_add_72be8 12 = .ok (.iload_n 3, 1) := by decide +kernel
theorem dJx4a65c_add_72be8_13 : decode cJx4a65c_add_72be8 13 = .ok (.aload_n 1, 1) := by decide +kernel
theorem dJx4a65c_add_72be8_14 : decode cJx4a65c_add_72be8 14 = .ok (.aastore, 1) := by decide +kernel
theorem dJx4a65c_add_72be8_15 : decode cJx4a65c_add_72be8 15 = .ok (.aload_n 0, 1) := by decide +kernel
theorem dJx4a65c_add_72be8_16 : decode cJx4a65c_add_72be8 16 = .ok (.iload_n 3, 1) := by decide +kernel
theorem dJx4a65c_add_72be8_17 : decode cJx4a65c_add_72be8 17 = .ok (.iconst 1, 1) := by decide +kernel
theorem dJx4a65c_add_72be8_18 : decode cJx4a65c_add_72be8 18 = .ok (.iadd, 1) := by decide +kernel
theorem dJx4a65c_add_72be8_19 : decode cJx4a65c_add_72be8 19 = .ok (.putfield 48, 3) := by decide +kernel
theorem dJx4a65c_add_72be8_22 : decode cJx4a65c_add_72be8 22 = .ok (.return_, 1) := by decide +kernel
theorem dJx4a65c_add_9ea2d_0 : decode cJx4a65c_add_9ea2d 0 = .ok (.aload_n 0, 1) := by decide +kernel
theorem dJx4a65c_add_9ea2d_1 : decode cJx4a65c_add_9ea2d 1 = .ok (.dup, 1) := by decide +kernel
theorem dJx4a65c_add_9ea2d_2 : decode cJx4a65c_add_9ea2d 2 = .ok (.getfield 63, 3) := by decide +kernel
theorem dJx4a65c_add_9ea2d_5 : decode cJx4a65c_add_9ea2d 5 = .ok (.iconst 1, 1) := by decide +kernel
theorem dJx4a65c_add_9ea2d_6 : decode cJx4a65c_add_9ea2d 6 = .ok (.iadd, 1) := by decide +kernel
theorem dJx4a65c_add_9ea2d_7 : decode cJx4a65c_add_9ea2d 7 = .ok (.putfield 63, 3) := by decide +kernel
theorem dJx4a65c_add_9ea2d_10 : decode cJx4a65c_add_9ea2d 10 = .ok (.aload_n 0, 1) := by decide +kernel
theorem dJx4a65c_add_9ea2d_11 : decode cJx4a65c_add_9ea2d 11 = .ok (.aload_n 1, 1) := by decide +kernel
theorem dJx4a65c_add_9ea2d_12 : decode cJx4a65c_add_9ea2d 12 = .ok (.aload_n 0, 1) := by decide +kernel
theorem dJx4a65c_add_9ea2d_13 : decode cJx4a65c_add_9ea2d 13 = .ok (.getfield 9, 3) := by decide +kernel
theorem dJx4a65c_add_9ea2d_16 : decode cJx4a65c_add_9ea2d 16 = .ok (.aload_n 0, 1) := by decide +kernel
theorem dJx4a65c_add_9ea2d_17 : decode cJx4a65c_add_9ea2d 17 = .ok (.getfield 48, 3) := by decide +kernel
theorem dJx4a65c_add_9ea2d_20 : decode cJx4a65c_add_9ea2d 20 = .ok (.invokevirtual 131, 3) := by decide +kernel
theorem dJx4a65c_add_9ea2d_23 : decode cJx4a65c_add_9ea2d 23 = .ok (.iconst 1, 1) := by decide +kernel
theorem dJx4a65c_add_9ea2d_24 : decode cJx4a65c_add_9ea2d 24 = .ok (.ireturn, 1) := by decide +kernel
theorem dJ7_fill_53178_0 : decode cJ7_fill_53178 0 = .ok (.iconst 0, 1) := by decide +kernel
theorem dJ7_fill_53178_1 : decode cJ7_fill_53178 1 = .ok (.istore_n 2, 1) := by decide +kernel
theorem dJ7_fill_53178_2 : decode cJ7_fill_53178 2 = .ok (.aload_n 0, 1) := by decide +kernel
theorem dJ7_fill_53178_3 : decode cJ7_fill_53178 3 = .ok (.arraylength, 1) := by decide +kernel
theorem dJ7_fill_53178_4 : decode cJ7_fill_53178 4 = .ok (.istore_n 3, 1) := by decide +kernel
theorem dJ7_fill_53178_5 : decode cJ7_fill_53178 5 = .ok (.iload_n 2, 1) := by decide +kernel
theorem dJ7_fill_53178_6 : decode cJ7_fill_53178 6 = .ok (.iload_n 3, 1) := by decide +kernel
theorem dJ7_fill_53178_7 : decode cJ7_fill_53178 7 = .ok (.if_icmp .ge 13, 3) := by decide +kernel
theorem dJ7_fill_53178_10 : decode cJ7_fill_53178 10 = .ok (.aload_n 0, 1) := by decide +kernel
theorem dJ7_fill_53178_11 : decode cJ7_fill_53178 11 = .ok (.iload_n 2, 1) := by decide +kernel
theorem dJ7_fill_53178_12 : decode cJ7_fill_53178 12 = .ok (.iload_n 1, 1) := by decide +kernel
theorem dJ7_fill_53178_13 : decode cJ7_fill_53178 13 = .ok (.iastore, 1) := by decide +kernel
theorem dJ7_fill_53178_14 : decode cJ7_fill_53178 14 = .ok (.iinc 2 1, 3) := by decide +kernel
theorem dJ7_fill_53178_17 : decode cJ7_fill_53178 17 = .ok (.goto (-12), 3) := by decide +kernel
theorem dJ7_fill_53178_20 : decode cJ7_fill_53178 20 = .ok (.return_, 1) := by decide +kernel
theorem dJ7_copyOf_1904c_0 : decode cJ7_copyOf_1904c 0 = .ok (.aload_n 0, 1) := by decide +kernel
theorem dJ7_copyOf_1904c_1 : decode cJ7_copyOf_1904c 1 = .ok (.iload_n 1, 1) := by decide +kernel
theorem dJ7_copyOf_1904c_2 : decode cJ7_copyOf_1904c 2 = .ok (.aload_n 0, 1) := by decide +kernel
theorem dJ7_copyOf_1904c_3 : decode cJ7_copyOf_1904c 3 = .ok (.invokevirtual 86, 3) := by decide +kernel
theorem dJ7_copyOf_1904c_6 : decode cJ7_copyOf_1904c 6 = .ok (.invokestatic 300, 3) := by decide +kernel
theorem dJ7_copyOf_1904c_9 : decode cJ7_copyOf_1904c 9 = .ok (.areturn, 1) := by decide +kernel
theorem dJ7_copyOf_6403c_0 : decode cJ7_copyOf_6403c 0 = .ok (.aload_n 2, 1) := by decide +kernel
theorem dJ7_copyOf_6403c_1 : decode cJ7_copyOf_6403c 1 = .ok (.ldc 110, 2) := by decide +kernel
theorem dJ7_copyOf_6403c_3 : decode cJ7_copyOf_6403c 3 = .ok (.if_acmp .ne 10, 3) := by decide +kernel
theorem dJ7_copyOf_6403c_6 : decode cJ7_copyOf_6403c 6 = .ok (.iload_n 1, 1) := by decide +kernel
theorem dJ7_copyOf_6403c_7 : decode cJ7_copyOf_6403c 7 = .ok (.anewarray 2, 3) := by decide +kernel
theorem dJ7_copyOf_6403c_10 : decode cJ7_copyOf_6403c 10 = .ok (.goto 14, 3) := by decide +kernel
theorem dJ7_copyOf_6403c_13 : decode cJ7_copyOf_6403c 13 = .ok (.aload_n 2, 1) := by decide +kernel
theorem dJ7_copyOf_6403c_14 : decode cJ7_copyOf_6403c 14 = .ok (.invokevirtual 90, 3) := by decide +kernel
theorem dJ7_copyOf_6403c_17 : decode cJ7_copyOf_6403c 17 = .ok (.iload_n 1, 1) := by decide +kernel
theorem dJ7_copyOf_6403c_18 : decode cJ7_copyOf_6403c 18 = .ok (.invokestatic 95, 3) := by decide +kernel
theorem dJ7_copyOf_6403c_21 : decode cJ7_copyOf_6403c 21 = .ok (.checkcast 110, 3) := by decide +kernel
theorem dJ7_copyOf_6403c_24 : decode cJ7_copyOf_6403c 24 = .ok (.astore_n 3, 1) := by decide +kernel
theorem dJ7_copyOf_6403c_25 : decode cJ7_copyOf_6403c 25 = .ok (.aload_n 0, 1) := by decide +kernel
theorem dJ7_copyOf_6403c_26 : decode cJ7_copyOf_6403c 26 = .ok (.iconst 0, 1) := by decide +kernel
theorem dJ7_copyOf_6403c_27 : decode cJ7_copyOf_6403c 27 = .ok (.aload_n 3, 1) := by decide +kernel
theorem dJ7_copyOf_6403c_28 : decode cJ7_copyOf_6403c 28 = .ok (.iconst 0, 1) := by decide +kernel
theorem dJ7_copyOf_6403c_29 : decode cJ7_copyOf_6403c 29 = .ok (.aload_n 0, 1) := by decide +kernel
theorem dJ7_copyOf_6403c_30 : decode cJ7_copyOf_6403c 30 = .ok (.arraylength, 1) := by decide +kernel
theorem dJ7_copyOf_6403c_31 : decode cJ7_copyOf_6403c 31 = .ok (.iload_n 1, 1) := by decide +kernel
theorem dJ7_copyOf_6403c_32 : decode cJ7_copyOf_6403c 32 = .ok (.invokestatic 304, 3) := by decide +kernel
theorem dJ7_copyOf_6403c_35 : decode cJ7_copyOf_6403c 35 = .ok (.invokestatic 150, 3) := by decide +kernel
theorem dJ7_copyOf_6403c_38 : decode cJ7_copyOf_6403c 38 = .ok (.aload_n 3, 1) := by decide +kernel
theorem dJ7_copyOf_6403c_39 : decode cJ7_copyOf_6403c 39 = .ok (.areturn, 1) := by decide +kernel
theorem dJ15_checkIndex_7cf53_0 : decode cJ15_checkIndex_7cf53 0 = .ok (.iload_n 0, 1) := by decide +kernel
theorem dJ15_checkIndex_7cf53_1 : decode cJ15_checkIndex_7cf53 1 = .ok (.iload_n 1, 1) := by decide +kernel
theorem dJ15_checkIndex_7cf53_2 : decode cJ15_checkIndex_7cf53 2 = .ok (.aconst_null, 1) := by decide +kernel
theorem dJ15_checkIndex_7cf53_3 : decode cJ15_checkIndex_7cf53 3 = .ok (.invokestatic 105, 3) := by decide +kernel
theorem dJ15_checkIndex_7cf53_6 : decode cJ15_checkIndex_7cf53 6 = .ok (.ireturn, 1) := by decide +kernel
theorem dJ8_newLength_cabcc_0 : decode cJ8_newLength_cabcc 0 = .ok (.iload_n 0, 1) := by decide +kernel
theorem dJ8_newLength_cabcc_1 : decode cJ8_newLength_cabcc 1 = .ok (.iload_n 1, 1) := by decide +kernel
theorem dJ8_newLength_cabcc_2 : decode cJ8_newLength_cabcc 2 = .ok (.iload_n 2, 1) := by decide +kernel
theorem dJ8_newLength_cabcc_3 : decode cJ8_newLength_cabcc 3 = .ok (.invokestatic 194, 3) := by decide +kernel
theorem dJ8_newLength_cabcc_6 : decode cJ8_newLength_cabcc 6 = .ok (.iadd, 1) := by decide +kernel
theorem dJ8_newLength_cabcc_7 : decode cJ8_newLength_cabcc 7 = .ok (.istore_n 3, 1) := by decide +kernel
theorem dJ8_newLength_cabcc_8 : decode cJ8_newLength_cabcc 8 = .ok (.iconst 0, 1) := by decide +kernel
theorem dJ8_newLength_cabcc_9 : decode cJ8_newLength_cabcc 9 = .ok (.iload_n 3, 1) := by decide +kernel
theorem dJ8_newLength_cabcc_10 : decode cJ8_newLength_cabcc 10 = .ok (.if_icmp .ge 11, 3) := by decide +kernel
theorem dJ8_newLength_cabcc_13 : decode cJ8_newLength_cabcc 13 = .ok (.iload_n 3, 1) := by decide +kernel
theorem dJ8_newLength_cabcc_14 : decode cJ8_newLength_cabcc 14 = .ok (.ldc 200, 2) := by decide +kernel
theorem dJ8_newLength_cabcc_16 : decode cJ8_newLength_cabcc 16 = .ok (.if_icmp .gt 5, 3) := by decide +kernel
theorem dJ8_newLength_cabcc_19 : decode cJ8_newLength_cabcc 19 = .ok (.iload_n 3, 1) := by decide +kernel
theorem dJ8_newLength_cabcc_20 : decode cJ8_newLength_cabcc 20 = .ok (.ireturn, 1) := by decide +kernel
theorem dJ8_newLength_cabcc_21 : decode cJ8_newLength_cabcc 21 = .ok (.iload_n 0, 1) := by decide +kernel
theorem dJ8_newLength_cabcc_22 : decode cJ8_newLength_cabcc 22 = .ok (.iload_n 1, 1) := by decide +kernel
theorem dJ8_newLength_cabcc_23 : decode cJ8_newLength_cabcc 23 = .ok (.invokestatic 201, 3) := by decide +kernel
theorem dJ8_newLength_cabcc_26 : decode cJ8_newLength_cabcc 26 = .ok (.ireturn, 1) := by decide +kernel
theorem dJ8_hugeLength_7cf53_0 : decode cJ8_hugeLength_7cf53 0 = .ok (.iload_n 0, 1) := by decide +kernel
theorem dJ8_hugeLength_7cf53_1 : decode cJ8_hugeLength_7cf53 1 = .ok (.iload_n 1, 1) := by decide +kernel
theorem dJ8_hugeLength_7cf53_2 : decode cJ8_hugeLength_7cf53 2 = .ok (.iadd, 1) := by decide +kernel
theorem dJ8_hugeLength_7cf53_3 : decode cJ8_hugeLength_7cf53 3 = .ok (.istore_n 2, 1) := by decide +kernel
theorem dJ8_hugeLength_7cf53_4 : decode cJ8_hugeLength_7cf53 4 = .ok (.iload_n 2, 1) := by decide +kernel
theorem dJ8_hugeLength_7cf53_5 : decode cJ8_hugeLength_7cf53 5 = .ok (.ifCond .ge 44, 3) := by decide +kernel
theorem dJ8_hugeLength_7cf53_8 : decode cJ8_hugeLength_7cf53 8 = .ok (.new 204, 3) := by decide +kernel
theorem dJ8_hugeLength_7cf53_11 : decode cJ8_hugeLength_7cf53 11 = .ok (.dup, 1) := by decide +kernel
theorem dJ8_hugeLength_7cf53_12 : decode cJ8_hugeLength_7cf53 12 = .ok (.new 89, 3) := by decide +kernel
theorem dJ8_hugeLength_7cf53_15 : decode cJ8_hugeLength_7cf53 15 = .ok (.dup, 1) := by decide +kernel
theorem dJ8_hugeLength_7cf53_16 : decode cJ8_hugeLength_7cf53 16 = .ok (.invokespecial 91, 3) := by decide +kernel
theorem dJ8_hugeLength_7cf53_19 : decode cJ8_hugeLength_7cf53 19 = .ok (.ldc 206, 2) := by decide +kernel
theorem dJ8_hugeLength_7cf53_21 : decode cJ8_hugeLength_7cf53 21 = .ok (.invokevirtual 94, 3) := by decide +kernel
theorem dJ8_hugeLength_7cf53_24 : decode cJ8_hugeLength_7cf53 24 = .ok (.iload_n 0, 1) := by decide +kernel
theorem dJ8_hugeLength_7cf53_25 : decode cJ8_hugeLength_7cf53 25 = .ok (.invokevirtual 98, 3) := by decide +kernel
theorem dJ8_hugeLength_7cf53_28 : decode cJ8_hugeLength_7cf53 28 = .ok (.ldc 208, 2) := by decide +kernel
theorem dJ8_hugeLength_7cf53_30 : decode cJ8_hugeLength_7cf53 30 = .ok (.invokevirtual 94, 3) := by decide +kernel
theorem dJ8_hugeLength_7cf53_33 : decode cJ8_hugeLength_7cf53 33 = .ok (.iload_n 1, 1) := by decide +kernel
theorem dJ8_hugeLength_7cf53_34 : decode cJ8_hugeLength_7cf53 34 = .ok (.invokevirtual 98, 3) := by decide +kernel
theorem dJ8_hugeLength_7cf53_37 : decode cJ8_hugeLength_7cf53 37 = .ok (.ldc 210, 2) := by decide +kernel
theorem dJ8_hugeLength_7cf53_39 : decode cJ8_hugeLength_7cf53 39 = .ok (.invokevirtual 94, 3) := by decide +kernel
theorem dJ8_hugeLength_7cf53_42 : decode cJ8_hugeLength_7cf53 42 = .ok (.invokevirtual 101, 3) := by decide +kernel
theorem dJ8_hugeLength_7cf53_45 : decode cJ8_hugeLength_7cf53 45 = .ok (.invokespecial 212, 3) := by decide +kernel
theorem dJ8_hugeLength_7cf53_48 : decode cJ8_hugeLength_7cf53 48 = .ok (.athrow, 1) := by decide +kernel
theorem dJ8_hugeLength_7cf53_49 : decode cJ8_hugeLength_7cf53 49 = .ok (.iload_n 2, 1) := by decide +kernel
theorem dJ8_hugeLength_7cf53_50 : decode cJ8_hugeLength_7cf53 50 = .ok (.ldc 200, 2) := by decide +kernel
theorem dJ8_hugeLength_7cf53_52 : decode cJ8_hugeLength_7cf53 52 = .ok (.if_icmp .gt 6, 3) := by decide +kernel
theorem dJ8_hugeLength_7cf53_55 : decode cJ8_hugeLength_7cf53 55 = .ok (.ldc 200, 2) := by decide +kernel
theorem dJ8_hugeLength_7cf53_57 : decode cJ8_hugeLength_7cf53 57 = .ok (.ireturn, 1) := by decide +kernel
theorem dJ8_hugeLength_7cf53_58 : decode cJ8_hugeLength_7cf53 58 = .ok (.iload_n 2, 1) := by decide +kernel
theorem dJ8_hugeLength_7cf53_59 : decode cJ8_hugeLength_7cf53 59 = .ok (.ireturn, 1) := by decide +kernel
theorem dJ3_checkIndex_8e157_0 : decode cJ3_checkIndex_8e157 0 = .ok (.iload_n 0, 1) := by decide +kernel
theorem dJ3_checkIndex_8e157_1 : decode cJ3_checkIndex_8e157 1 = .ok (.ifCond .lt 8, 3) := by decide +kernel
theorem dJ3_checkIndex_8e157_4 : decode cJ3_checkIndex_8e157 4 = .ok (.iload_n 0, 1) := by decide +kernel
theorem dJ3_checkIndex_8e157_5 : decode cJ3_checkIndex_8e157 5 = .ok (.iload_n 1, 1) := by decide +kernel
theorem dJ3_checkIndex_8e157_6 : decode cJ3_checkIndex_8e157 6 = .ok (.if_icmp .lt 10, 3) := by decide +kernel
theorem dJ3_checkIndex_8e157_9 : decode cJ3_checkIndex_8e157 9 = .ok (.aload_n 2, 1) := by decide +kernel
theorem dJ3_checkIndex_8e157_10 : decode cJ3_checkIndex_8e157 10 = .ok (.iload_n 0, 1) := by decide +kernel
theorem dJ3_checkIndex_8e157_11 : decode cJ3_checkIndex_8e157 11 = .ok (.iload_n 1, 1) := by decide +kernel
theorem dJ3_checkIndex_8e157_12 : decode cJ3_checkIndex_8e157 12 = .ok (.invokestatic 95, 3) := by decide +kernel
theorem dJ3_checkIndex_8e157_15 : decode cJ3_checkIndex_8e157 15 = .ok (.athrow, 1) := by decide +kernel
theorem dJ3_checkIndex_8e157_16 : decode cJ3_checkIndex_8e157 16 = .ok (.iload_n 0, 1) := by decide +kernel
theorem dJ3_checkIndex_8e157_17 : decode cJ3_checkIndex_8e157 17 = .ok (.ireturn, 1) := by decide +kernel
