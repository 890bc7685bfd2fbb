theorem dL_take_0 : decode cL_take 0 = .ok (.aload_n 2, 1) := by decide +kernel
theorem dL_take_1 : decode cL_take 1 = .ok (.iconst 0, 1) := by decide +kernel
theorem dL_take_2 : decode cL_take 2 = .ok (.aload_n 0, 1) := by decide +kernel
theorem dL_take_3 : decode cL_take 3 = .ok (.iload_n 1, 1) := by decide +kernel
theorem dL_take_4 : decode cL_take 4 = .ok (.invokevirtual 7, 3) := by decide +kernel
theorem dL_take_7 : decode cL_take 7 = .ok (.i2l, 1) := by decide +kernel
theorem dL_take_8 : decode cL_take 8 = .ok (.lastore, 1) := by decide +kernel
theorem dL_take_9 : decode cL_take 9 = .ok (.goto 6, 3) := by decide +kernel
theorem dL_take_12 : decode cL_take 12 = .ok (.astore_n 3, 1) := by decide +kernel
theorem dL_take_13 : decode cL_take 13 = .ok (.iconst 1, 1) := by decide +kernel
theorem dL_take_14 : decode cL_take 14 = .ok (.ireturn, 1) := by decide +kernel
theorem dL_take_15 : decode cL_take 15 = .ok (.iconst 0, 1) := by decide +kernel
theorem dL_take_16 : decode cL_take 16 = .ok (.ireturn, 1) := by decide +kernel
theorem dL_takeSet_0 : decode cL_takeSet 0 = .ok (.aload_n 3, 1) := by decide +kernel
theorem dL_takeSet_1 : decode cL_takeSet 1 = .ok (.iconst 0, 1) := by decide +kernel
theorem dL_takeSet_2 : decode cL_takeSet 2 = .ok (.aload_n 0, 1) := by decide +kernel
theorem dL_takeSet_3 : decode cL_takeSet 3 = .ok (.iload_n 1, 1) := by decide +kernel
theorem dL_takeSet_4 : decode cL_takeSet 4 = .ok (.iload_n 2, 1) := by decide +kernel
theorem dL_takeSet_5 : decode cL_takeSet 5 = .ok (.invokevirtual 15, 3) := by decide +kernel
theorem dL_takeSet_8 : decode cL_takeSet 8 = .ok (.i2l, 1) := by decide +kernel
theorem dL_takeSet_9 : decode cL_takeSet 9 = .ok (.lastore, 1) := by decide +kernel
theorem dL_takeSet_10 : decode cL_takeSet 10 = .ok (.goto 7, 3) := by decide +kernel
theorem dL_takeSet_13 : decode cL_takeSet 13 = .ok (.astore 4, 2) := by decide +kernel
theorem dL_takeSet_15 : decode cL_takeSet 15 = .ok (.iconst 1, 1) := by decide +kernel
theorem dL_takeSet_16 : decode cL_takeSet 16 = .ok (.ireturn, 1) := by decide +kernel
theorem dL_takeSet_17 : decode cL_takeSet 17 = .ok (.iconst 0, 1) := by decide +kernel
theorem dL_takeSet_18 : decode cL_takeSet 18 = .ok (.ireturn, 1) := by decide +kernel
theorem dL_put_0 : decode cL_put 0 = .ok (.aload 4, 2) := by decide +kernel
theorem dL_put_2 : decode cL_put 2 = .ok (.iconst 0, 1) := by decide +kernel
theorem dL_put_3 : decode cL_put 3 = .ok (.aload_n 0, 1) := by decide +kernel
theorem dL_put_4 : decode cL_put 4 = .ok (.iload_n 1, 1) := by decide +kernel
theorem dL_put_5 : decode cL_put 5 = .ok (.iload_n 2, 1) := by decide +kernel
theorem dL_put_6 : decode cL_put 6 = .ok (.iload_n 3, 1) := by decide +kernel
theorem dL_put_7 : decode cL_put 7 = .ok (.invokevirtual 19, 3) := by decide +kernel
theorem dL_put_10 : decode cL_put 10 = .ok (.i2l, 1) := by decide +kernel
theorem dL_put_11 : decode cL_put 11 = .ok (.lastore, 1) := by decide +kernel
theorem dL_put_12 : decode cL_put 12 = .ok (.goto 15, 3) := by decide +kernel
theorem dL_put_15 : decode cL_put 15 = .ok (.astore 5, 2) := by decide +kernel
theorem dL_put_17 : decode cL_put 17 = .ok (.iconst 1, 1) := by decide +kernel
theorem dL_put_18 : decode cL_put 18 = .ok (.ireturn, 1) := by decide +kernel
theorem dL_put_19 : decode cL_put 19 = .ok (.astore 5, 2) := by decide +kernel
theorem dL_put_21 : decode cL_put 21 = .ok (.iconst 2, 1) := by decide +kernel
theorem dL_put_22 : decode cL_put 22 = .ok (.ireturn, 1) := by decide +kernel
theorem dL_put_23 : decode cL_put 23 = .ok (.astore 5, 2) := by decide +kernel
theorem dL_put_25 : decode cL_put 25 = .ok (.iconst 3, 1) := by decide +kernel
theorem dL_put_26 : decode cL_put 26 = .ok (.ireturn, 1) := by decide +kernel
theorem dL_put_27 : decode cL_put 27 = .ok (.iconst 0, 1) := by decide +kernel
theorem dL_put_28 : decode cL_put 28 = .ok (.ireturn, 1) := by decide +kernel
theorem dL_cut_0 : decode cL_cut 0 = .ok (.aload_n 3, 1) := by decide +kernel
theorem dL_cut_1 : decode cL_cut 1 = .ok (.iconst 0, 1) := by decide +kernel
theorem dL_cut_2 : decode cL_cut 2 = .ok (.aload_n 0, 1) := by decide +kernel
theorem dL_cut_3 : decode cL_cut 3 = .ok (.iload_n 1, 1) := by decide +kernel
theorem dL_cut_4 : decode cL_cut 4 = .ok (.iload_n 2, 1) := by decide +kernel
theorem dL_cut_5 : decode cL_cut 5 = .ok (.invokevirtual 27, 3) := by decide +kernel
theorem dL_cut_8 : decode cL_cut 8 = .ok (.i2l, 1) := by decide +kernel
theorem dL_cut_9 : decode cL_cut 9 = .ok (.lastore, 1) := by decide +kernel
theorem dL_cut_10 : decode cL_cut 10 = .ok (.goto 7, 3) := by decide +kernel
theorem dL_cut_13 : decode cL_cut 13 = .ok (.astore 4, 2) := by decide +kernel
theorem dL_cut_15 : decode cL_cut 15 = .ok (.iconst 1, 1) := by decide +kernel
theorem dL_cut_16 : decode cL_cut 16 = .ok (.ireturn, 1) := by decide +kernel
theorem dL_cut_17 : decode cL_cut 17 = .ok (.iconst 0, 1) := by decide +kernel
theorem dL_cut_18 : decode cL_cut 18 = .ok (.ireturn, 1) := by decide +kernel
theorem dL_line_0 : decode cL_line 0 = .ok (.aload 4, 2) := by decide +kernel
theorem dL_line_2 : decode cL_line 2 = .ok (.iconst 0, 1) := by decide +kernel
theorem dL_line_3 : decode cL_line 3 = .ok (.aload_n 0, 1) := by decide +kernel
theorem dL_line_4 : decode cL_line 4 = .ok (.iload_n 1, 1) := by decide +kernel
theorem dL_line_5 : decode cL_line 5 = .ok (.iload_n 2, 1) := by decide +kernel
theorem dL_line_6 : decode cL_line 6 = .ok (.iload_n 3, 1) := by decide +kernel
theorem dL_line_7 : decode cL_line 7 = .ok (.invokevirtual 30, 3) := by decide +kernel
theorem dL_line_10 : decode cL_line 10 = .ok (.i2l, 1) := by decide +kernel
theorem dL_line_11 : decode cL_line 11 = .ok (.lastore, 1) := by decide +kernel
theorem dL_line_12 : decode cL_line 12 = .ok (.goto 7, 3) := by decide +kernel
theorem dL_line_15 : decode cL_line 15 = .ok (.astore 5, 2) := by decide +kernel
theorem dL_line_17 : decode cL_line 17 = .ok (.iconst 1, 1) := by decide +kernel
theorem dL_line_18 : decode cL_line 18 = .ok (.ireturn, 1) := by decide +kernel
theorem dL_line_19 : decode cL_line 19 = .ok (.iconst 0, 1) := by decide +kernel
theorem dL_line_20 : decode cL_line 20 = .ok (.ireturn, 1) := by decide +kernel
theorem dL_before_0 : decode cL_before 0 = .ok (.aload_n 2, 1) := by decide +kernel
theorem dL_before_1 : decode cL_before 1 = .ok (.iconst 0, 1) := by decide +kernel
theorem dL_before_2 : decode cL_before 2 = .ok (.aload_n 0, 1) := by decide +kernel
theorem dL_before_3 : decode cL_before 3 = .ok (.iload_n 1, 1) := by decide +kernel
theorem dL_before_4 : decode cL_before 4 = .ok (.invokevirtual 33, 3) := by decide +kernel
theorem dL_before_7 : decode cL_before 7 = .ok (.i2l, 1) := by decide +kernel
theorem dL_before_8 : decode cL_before 8 = .ok (.lastore, 1) := by decide +kernel
theorem dL_before_9 : decode cL_before 9 = .ok (.goto 6, 3) := by decide +kernel
theorem dL_before_12 : decode cL_before 12 = .ok (.astore_n 3, 1) := by decide +kernel
theorem dL_before_13 : decode cL_before 13 = .ok (.iconst 1, 1) := by decide +kernel
theorem dL_before_14 : decode cL_before 14 = .ok (.ireturn, 1) := by decide +kernel
theorem dL_before_15 : decode cL_before 15 = .ok (.iconst 0, 1) := by decide +kernel
theorem dL_before_16 : decode cL_before 16 = .ok (.ireturn, 1) := by decide +kernel
theorem dL_tip_0 : decode cL_tip 0 = .ok (.aload_n 2, 1) := by decide +kernel
theorem dL_tip_1 : decode cL_tip 1 = .ok (.iconst 0, 1) := by decide +kernel
theorem dL_tip_2 : decode cL_tip 2 = .ok (.aload_n 0, 1) := by decide +kernel
theorem dL_tip_3 : decode cL_tip 3 = .ok (.iload_n 1, 1) := by decide +kernel
theorem dL_tip_4 : decode cL_tip 4 = .ok (.invokevirtual 36, 3) := by decide +kernel
theorem dL_tip_7 : decode cL_tip 7 = .ok (.i2l, 1) := by decide +kernel
theorem dL_tip_8 : decode cL_tip 8 = .ok (.lastore, 1) := by decide +kernel
theorem dL_tip_9 : decode cL_tip 9 = .ok (.goto 6, 3) := by decide +kernel
theorem dL_tip_12 : decode cL_tip 12 = .ok (.astore_n 3, 1) := by decide +kernel
theorem dL_tip_13 : decode cL_tip 13 = .ok (.iconst 1, 1) := by decide +kernel
theorem dL_tip_14 : decode cL_tip 14 = .ok (.ireturn, 1) := by decide +kernel
theorem dL_tip_15 : decode cL_tip 15 = .ok (.iconst 0, 1) := by decide +kernel
theorem dL_tip_16 : decode cL_tip 16 = .ok (.ireturn, 1) := by decide +kernel
theorem dL_namedAfter_0 : decode cL_namedAfter 0 = .ok (.aload_n 2, 1) := by decide +kernel
theorem dL_namedAfter_1 : decode cL_namedAfter 1 = .ok (.iconst 0, 1) := by decide +kernel
theorem dL_namedAfter_2 : decode cL_namedAfter 2 = .ok (.aload_n 0, 1) := by decide +kernel
theorem dL_namedAfter_3 : decode cL_namedAfter 3 = .ok (.iload_n 1, 1) := by decide +kernel
theorem dL_namedAfter_4 : decode cL_namedAfter 4 = .ok (.invokevirtual 39, 3) := by decide +kernel
theorem dL_namedAfter_7 : decode cL_namedAfter 7 = .ok (.i2l, 1) := by decide +kernel
theorem dL_namedAfter_8 : decode cL_namedAfter 8 = .ok (.lastore, 1) := by decide +kernel
theorem dL_namedAfter_9 : decode cL_namedAfter 9 = .ok (.goto 6, 3) := by decide +kernel
theorem dL_namedAfter_12 : decode cL_namedAfter 12 = .ok (.astore_n 3, 1) := by decide +kernel
theorem dL_namedAfter_13 : decode cL_namedAfter 13 = .ok (.iconst 1, 1) := by decide +kernel
theorem dL_namedAfter_14 : decode cL_namedAfter 14 = .ok (.ireturn, 1) := by decide +kernel
theorem dL_namedAfter_15 : decode cL_namedAfter 15 = .ok (.iconst 0, 1) := by decide +kernel
theorem dL_namedAfter_16 : decode cL_namedAfter 16 = .ok (.ireturn, 1) := by decide +kernel
theorem dL_open_0 : decode cL_open 0 = .ok (.aload_n 2, 1) := by decide +kernel
theorem dL_open_1 : decode cL_open 1 = .ok (.iconst 0, 1) := by decide +kernel
theorem dL_open_2 : decode cL_open 2 = .ok (.aload_n 0, 1) := by decide +kernel
theorem dL_open_3 : decode cL_open 3 = .ok (.iload_n 1, 1) := by decide +kernel
theorem dL_open_4 : decode cL_open 4 = .ok (.invokevirtual 42, 3) := by decide +kernel
theorem dL_open_7 : decode cL_open 7 = .ok (.i2l, 1) := by decide +kernel
theorem dL_open_8 : decode cL_open 8 = .ok (.lastore, 1) := by decide +kernel
theorem dL_open_9 : decode cL_open 9 = .ok (.goto 9, 3) := by decide +kernel
theorem dL_open_12 : decode cL_open 12 = .ok (.astore_n 3, 1) := by decide +kernel
theorem dL_open_13 : decode cL_open 13 = .ok (.iconst 1, 1) := by decide +kernel
theorem dL_open_14 : decode cL_open 14 = .ok (.ireturn, 1) := by decide +kernel
theorem dL_open_15 : decode cL_open 15 = .ok (.astore_n 3, 1) := by decide +kernel
theorem dL_open_16 : decode cL_open 16 = .ok (.iconst 2, 1) := by decide +kernel
theorem dL_open_17 : decode cL_open 17 = .ok (.ireturn, 1) := by decide +kernel
theorem dL_open_18 : decode cL_open 18 = .ok (.iconst 0, 1) := by decide +kernel
theorem dL_open_19 : decode cL_open 19 = .ok (.ireturn, 1) := by decide +kernel
theorem dL_upload_0 : decode cL_upload 0 = .ok (.aload_n 3, 1) := by decide +kernel
theorem dL_upload_1 : decode cL_upload 1 = .ok (.iconst 0, 1) := by decide +kernel
theorem dL_upload_2 : decode cL_upload 2 = .ok (.aload_n 0, 1) := by decide +kernel
theorem dL_upload_3 : decode cL_upload 3 = .ok (.iload_n 1, 1) := by decide +kernel
theorem dL_upload_4 : decode cL_upload 4 = .ok (.iload_n 2, 1) := by decide +kernel
theorem dL_upload_5 : decode cL_upload 5 = .ok (.invokevirtual 45, 3) := by decide +kernel
theorem dL_upload_8 : decode cL_upload 8 = .ok (.i2l, 1) := by decide +kernel
theorem dL_upload_9 : decode cL_upload 9 = .ok (.lastore, 1) := by decide +kernel
theorem dL_upload_10 : decode cL_upload 10 = .ok (.goto 11, 3) := by decide +kernel
theorem dL_upload_13 : decode cL_upload 13 = .ok (.astore 4, 2) := by decide +kernel
theorem dL_upload_15 : decode cL_upload 15 = .ok (.iconst 1, 1) := by decide +kernel
theorem dL_upload_16 : decode cL_upload 16 = .ok (.ireturn, 1) := by decide +kernel
theorem dL_upload_17 : decode cL_upload 17 = .ok (.astore 4, 2) := by decide +kernel
theorem dL_upload_19 : decode cL_upload 19 = .ok (.iconst 2, 1) := by decide +kernel
theorem dL_upload_20 : decode cL_upload 20 = .ok (.ireturn, 1) := by decide +kernel
theorem dL_upload_21 : decode cL_upload 21 = .ok (.iconst 0, 1) := by decide +kernel
theorem dL_upload_22 : decode cL_upload 22 = .ok (.ireturn, 1) := by decide +kernel
theorem dL_rebase_0 : decode cL_rebase 0 = .ok (.aload_n 3, 1) := by decide +kernel
theorem dL_rebase_1 : decode cL_rebase 1 = .ok (.iconst 0, 1) := by decide +kernel
theorem dL_rebase_2 : decode cL_rebase 2 = .ok (.aload_n 0, 1) := by decide +kernel
theorem dL_rebase_3 : decode cL_rebase 3 = .ok (.iload_n 1, 1) := by decide +kernel
theorem dL_rebase_4 : decode cL_rebase 4 = .ok (.iload_n 2, 1) := by decide +kernel
theorem dL_rebase_5 : decode cL_rebase 5 = .ok (.invokevirtual 48, 3) := by decide +kernel
theorem dL_rebase_8 : decode cL_rebase 8 = .ok (.i2l, 1) := by decide +kernel
theorem dL_rebase_9 : decode cL_rebase 9 = .ok (.lastore, 1) := by decide +kernel
theorem dL_rebase_10 : decode cL_rebase 10 = .ok (.goto 11, 3) := by decide +kernel
theorem dL_rebase_13 : decode cL_rebase 13 = .ok (.astore 4, 2) := by decide +kernel
theorem dL_rebase_15 : decode cL_rebase 15 = .ok (.iconst 1, 1) := by decide +kernel
theorem dL_rebase_16 : decode cL_rebase 16 = .ok (.ireturn, 1) := by decide +kernel
theorem dL_rebase_17 : decode cL_rebase 17 = .ok (.astore 4, 2) := by decide +kernel
theorem dL_rebase_19 : decode cL_rebase 19 = .ok (.iconst 2, 1) := by decide +kernel
theorem dL_rebase_20 : decode cL_rebase 20 = .ok (.ireturn, 1) := by decide +kernel
theorem dL_rebase_21 : decode cL_rebase 21 = .ok (.iconst 0, 1) := by decide +kernel
theorem dL_rebase_22 : decode cL_rebase 22 = .ok (.ireturn, 1) := by decide +kernel
theorem dL_abandon_0 : decode cL_abandon 0 = .ok (.aload_n 3, 1) := by decide +kernel
theorem dL_abandon_1 : decode cL_abandon 1 = .ok (.iconst 0, 1) := by decide +kernel
theorem dL_abandon_2 : decode cL_abandon 2 = .ok (.aload_n 0, 1) := by decide +kernel
theorem dL_abandon_3 : decode cL_abandon 3 = .ok (.iload_n 1, 1) := by decide +kernel
theorem dL_abandon_4 : decode cL_abandon 4 = .ok (.iload_n 2, 1) := by decide +kernel
theorem dL_abandon_5 : decode cL_abandon 5 = .ok (.invokevirtual 51, 3) := by decide +kernel
theorem dL_abandon_8 : decode cL_abandon 8 = .ok (.i2l, 1) := by decide +kernel
theorem dL_abandon_9 : decode cL_abandon 9 = .ok (.lastore, 1) := by decide +kernel
theorem dL_abandon_10 : decode cL_abandon 10 = .ok (.goto 11, 3) := by decide +kernel
theorem dL_abandon_13 : decode cL_abandon 13 = .ok (.astore 4, 2) := by decide +kernel
theorem dL_abandon_15 : decode cL_abandon 15 = .ok (.iconst 1, 1) := by decide +kernel
theorem dL_abandon_16 : decode cL_abandon 16 = .ok (.ireturn, 1) := by decide +kernel
theorem dL_abandon_17 : decode cL_abandon 17 = .ok (.astore 4, 2) := by decide +kernel
theorem dL_abandon_19 : decode cL_abandon 19 = .ok (.iconst 2, 1) := by decide +kernel
theorem dL_abandon_20 : decode cL_abandon 20 = .ok (.ireturn, 1) := by decide +kernel
theorem dL_abandon_21 : decode cL_abandon 21 = .ok (.iconst 0, 1) := by decide +kernel
theorem dL_abandon_22 : decode cL_abandon 22 = .ok (.ireturn, 1) := by decide +kernel
theorem dL_restore_0 : decode cL_restore 0 = .ok (.aload_n 2, 1) := by decide +kernel
theorem dL_restore_1 : decode cL_restore 1 = .ok (.iconst 0, 1) := by decide +kernel
theorem dL_restore_2 : decode cL_restore 2 = .ok (.aload_n 0, 1) := by decide +kernel
theorem dL_restore_3 : decode cL_restore 3 = .ok (.iload_n 1, 1) := by decide +kernel
theorem dL_restore_4 : decode cL_restore 4 = .ok (.invokevirtual 54, 3) := by decide +kernel
theorem dL_restore_7 : decode cL_restore 7 = .ok (.i2l, 1) := by decide +kernel
theorem dL_restore_8 : decode cL_restore 8 = .ok (.lastore, 1) := by decide +kernel
theorem dL_restore_9 : decode cL_restore 9 = .ok (.goto 9, 3) := by decide +kernel
theorem dL_restore_12 : decode cL_restore 12 = .ok (.astore_n 3, 1) := by decide +kernel
theorem dL_restore_13 : decode cL_restore 13 = .ok (.iconst 1, 1) := by decide +kernel
theorem dL_restore_14 : decode cL_restore 14 = .ok (.ireturn, 1) := by decide +kernel
theorem dL_restore_15 : decode cL_restore 15 = .ok (.astore_n 3, 1) := by decide +kernel
theorem dL_restore_16 : decode cL_restore 16 = .ok (.iconst 2, 1) := by decide +kernel
theorem dL_restore_17 : decode cL_restore 17 = .ok (.ireturn, 1) := by decide +kernel
theorem dL_restore_18 : decode cL_restore 18 = .ok (.iconst 0, 1) := by decide +kernel
theorem dL_restore_19 : decode cL_restore 19 = .ok (.ireturn, 1) := by decide +kernel
theorem dL_setFlags_0 : decode cL_setFlags 0 = .ok (.aload 4, 2) := by decide +kernel
theorem dL_setFlags_2 : decode cL_setFlags 2 = .ok (.iconst 0, 1) := by decide +kernel
theorem dL_setFlags_3 : decode cL_setFlags 3 = .ok (.aload_n 0, 1) := by decide +kernel
theorem dL_setFlags_4 : decode cL_setFlags 4 = .ok (.iload_n 1, 1) := by decide +kernel
theorem dL_setFlags_5 : decode cL_setFlags 5 = .ok (.iload_n 2, 1) := by decide +kernel
theorem dL_setFlags_6 : decode cL_setFlags 6 = .ok (.iload_n 3, 1) := by decide +kernel
theorem dL_setFlags_7 : decode cL_setFlags 7 = .ok (.invokevirtual 57, 3) := by decide +kernel
theorem dL_setFlags_10 : decode cL_setFlags 10 = .ok (.i2l, 1) := by decide +kernel
theorem dL_setFlags_11 : decode cL_setFlags 11 = .ok (.lastore, 1) := by decide +kernel
theorem dL_setFlags_12 : decode cL_setFlags 12 = .ok (.goto 11, 3) := by decide +kernel
theorem dL_setFlags_15 : decode cL_setFlags 15 = .ok (.astore 5, 2) := by decide +kernel
theorem dL_setFlags_17 : decode cL_setFlags 17 = .ok (.iconst 1, 1) := by decide +kernel
theorem dL_setFlags_18 : decode cL_setFlags 18 = .ok (.ireturn, 1) := by decide +kernel
theorem dL_setFlags_19 : decode cL_setFlags 19 = .ok (.astore 5, 2) := by decide +kernel
theorem dL_setFlags_21 : decode cL_setFlags 21 = .ok (.iconst 2, 1) := by decide +kernel
theorem dL_setFlags_22 : decode cL_setFlags 22 = .ok (.ireturn, 1) := by decide +kernel
theorem dL_setFlags_23 : decode cL_setFlags 23 = .ok (.iconst 0, 1) := by decide +kernel
theorem dL_setFlags_24 : decode cL_setFlags 24 = .ok (.ireturn, 1) := by decide +kernel
theorem dL_setTopic_0 : decode cL_setTopic 0 = .ok (.aload_n 3, 1) := by decide +kernel
theorem dL_setTopic_1 : decode cL_setTopic 1 = .ok (.iconst 0, 1) := by decide +kernel
theorem dL_setTopic_2 : decode cL_setTopic 2 = .ok (.aload_n 0, 1) := by decide +kernel
theorem dL_setTopic_3 : decode cL_setTopic 3 = .ok (.iload_n 1, 1) := by decide +kernel
theorem dL_setTopic_4 : decode cL_setTopic 4 = .ok (.iload_n 2, 1) := by decide +kernel
theorem dL_setTopic_5 : decode cL_setTopic 5 = .ok (.invokevirtual 61, 3) := by decide +kernel
theorem dL_setTopic_8 : decode cL_setTopic 8 = .ok (.i2l, 1) := by decide +kernel
theorem dL_setTopic_9 : decode cL_setTopic 9 = .ok (.lastore, 1) := by decide +kernel
theorem dL_setTopic_10 : decode cL_setTopic 10 = .ok (.goto 11, 3) := by decide +kernel
theorem dL_setTopic_13 : decode cL_setTopic 13 = .ok (.astore 4, 2) := by decide +kernel
theorem dL_setTopic_15 : decode cL_setTopic 15 = .ok (.iconst 1, 1) := by decide +kernel
theorem dL_setTopic_16 : decode cL_setTopic 16 = .ok (.ireturn, 1) := by decide +kernel
theorem dL_setTopic_17 : decode cL_setTopic 17 = .ok (.astore 4, 2) := by decide +kernel
theorem dL_setTopic_19 : decode cL_setTopic 19 = .ok (.iconst 2, 1) := by decide +kernel
theorem dL_setTopic_20 : decode cL_setTopic 20 = .ok (.ireturn, 1) := by decide +kernel
theorem dL_setTopic_21 : decode cL_setTopic 21 = .ok (.iconst 0, 1) := by decide +kernel
theorem dL_setTopic_22 : decode cL_setTopic 22 = .ok (.ireturn, 1) := by decide +kernel
theorem dL_stateOf_0 : decode cL_stateOf 0 = .ok (.aload_n 2, 1) := by decide +kernel
theorem dL_stateOf_1 : decode cL_stateOf 1 = .ok (.iconst 0, 1) := by decide +kernel
theorem dL_stateOf_2 : decode cL_stateOf 2 = .ok (.aload_n 0, 1) := by decide +kernel
theorem dL_stateOf_3 : decode cL_stateOf 3 = .ok (.iload_n 1, 1) := by decide +kernel
theorem dL_stateOf_4 : decode cL_stateOf 4 = .ok (.invokevirtual 64, 3) := by decide +kernel
theorem dL_stateOf_7 : decode cL_stateOf 7 = .ok (.i2l, 1) := by decide +kernel
theorem dL_stateOf_8 : decode cL_stateOf 8 = .ok (.lastore, 1) := by decide +kernel
theorem dL_stateOf_9 : decode cL_stateOf 9 = .ok (.goto 6, 3) := by decide +kernel
theorem dL_stateOf_12 : decode cL_stateOf 12 = .ok (.astore_n 3, 1) := by decide +kernel
theorem dL_stateOf_13 : decode cL_stateOf 13 = .ok (.iconst 1, 1) := by decide +kernel
theorem dL_stateOf_14 : decode cL_stateOf 14 = .ok (.ireturn, 1) := by decide +kernel
theorem dL_stateOf_15 : decode cL_stateOf 15 = .ok (.iconst 0, 1) := by decide +kernel
theorem dL_stateOf_16 : decode cL_stateOf 16 = .ok (.ireturn, 1) := by decide +kernel
theorem dL_sets_0 : decode cL_sets 0 = .ok (.aload_n 2, 1) := by decide +kernel
theorem dL_sets_1 : decode cL_sets 1 = .ok (.iconst 0, 1) := by decide +kernel
theorem dL_sets_2 : decode cL_sets 2 = .ok (.aload_n 0, 1) := by decide +kernel
theorem dL_sets_3 : decode cL_sets 3 = .ok (.iload_n 1, 1) := by decide +kernel
theorem dL_sets_4 : decode cL_sets 4 = .ok (.invokevirtual 67, 3) := by decide +kernel
theorem dL_sets_7 : decode cL_sets 7 = .ok (.i2l, 1) := by decide +kernel
theorem dL_sets_8 : decode cL_sets 8 = .ok (.lastore, 1) := by decide +kernel
theorem dL_sets_9 : decode cL_sets 9 = .ok (.goto 6, 3) := by decide +kernel
theorem dL_sets_12 : decode cL_sets 12 = .ok (.astore_n 3, 1) := by decide +kernel
theorem dL_sets_13 : decode cL_sets 13 = .ok (.iconst 1, 1) := by decide +kernel
theorem dL_sets_14 : decode cL_sets 14 = .ok (.ireturn, 1) := by decide +kernel
theorem dL_sets_15 : decode cL_sets 15 = .ok (.iconst 0, 1) := by decide +kernel
theorem dL_sets_16 : decode cL_sets 16 = .ok (.ireturn, 1) := by decide +kernel
theorem dL_commitOf_0 : decode cL_commitOf 0 = .ok (.aload_n 3, 1) := by decide +kernel
theorem dL_commitOf_1 : decode cL_commitOf 1 = .ok (.iconst 0, 1) := by decide +kernel
theorem dL_commitOf_2 : decode cL_commitOf 2 = .ok (.aload_n 0, 1) := by decide +kernel
theorem dL_commitOf_3 : decode cL_commitOf 3 = .ok (.iload_n 1, 1) := by decide +kernel
theorem dL_commitOf_4 : decode cL_commitOf 4 = .ok (.iload_n 2, 1) := by decide +kernel
theorem dL_commitOf_5 : decode cL_commitOf 5 = .ok (.invokevirtual 70, 3) := by decide +kernel
theorem dL_commitOf_8 : decode cL_commitOf 8 = .ok (.i2l, 1) := by decide +kernel
theorem dL_commitOf_9 : decode cL_commitOf 9 = .ok (.lastore, 1) := by decide +kernel
theorem dL_commitOf_10 : decode cL_commitOf 10 = .ok (.goto 7, 3) := by decide +kernel
theorem dL_commitOf_13 : decode cL_commitOf 13 = .ok (.astore 4, 2) := by decide +kernel
theorem dL_commitOf_15 : decode cL_commitOf 15 = .ok (.iconst 1, 1) := by decide +kernel
theorem dL_commitOf_16 : decode cL_commitOf 16 = .ok (.ireturn, 1) := by decide +kernel
theorem dL_commitOf_17 : decode cL_commitOf 17 = .ok (.iconst 0, 1) := by decide +kernel
theorem dL_commitOf_18 : decode cL_commitOf 18 = .ok (.ireturn, 1) := by decide +kernel
theorem dL_kindOf_0 : decode cL_kindOf 0 = .ok (.aload_n 3, 1) := by decide +kernel
theorem dL_kindOf_1 : decode cL_kindOf 1 = .ok (.iconst 0, 1) := by decide +kernel
theorem dL_kindOf_2 : decode cL_kindOf 2 = .ok (.aload_n 0, 1) := by decide +kernel
theorem dL_kindOf_3 : decode cL_kindOf 3 = .ok (.iload_n 1, 1) := by decide +kernel
theorem dL_kindOf_4 : decode cL_kindOf 4 = .ok (.iload_n 2, 1) := by decide +kernel
theorem dL_kindOf_5 : decode cL_kindOf 5 = .ok (.invokevirtual 73, 3) := by decide +kernel
theorem dL_kindOf_8 : decode cL_kindOf 8 = .ok (.i2l, 1) := by decide +kernel
theorem dL_kindOf_9 : decode cL_kindOf 9 = .ok (.lastore, 1) := by decide +kernel
theorem dL_kindOf_10 : decode cL_kindOf 10 = .ok (.goto 7, 3) := by decide +kernel
theorem dL_kindOf_13 : decode cL_kindOf 13 = .ok (.astore 4, 2) := by decide +kernel
theorem dL_kindOf_15 : decode cL_kindOf 15 = .ok (.iconst 1, 1) := by decide +kernel
theorem dL_kindOf_16 : decode cL_kindOf 16 = .ok (.ireturn, 1) := by decide +kernel
theorem dL_kindOf_17 : decode cL_kindOf 17 = .ok (.iconst 0, 1) := by decide +kernel
theorem dL_kindOf_18 : decode cL_kindOf 18 = .ok (.ireturn, 1) := by decide +kernel
theorem dL_parentOf_0 : decode cL_parentOf 0 = .ok (.aload_n 2, 1) := by decide +kernel
theorem dL_parentOf_1 : decode cL_parentOf 1 = .ok (.iconst 0, 1) := by decide +kernel
theorem dL_parentOf_2 : decode cL_parentOf 2 = .ok (.aload_n 0, 1) := by decide +kernel
theorem dL_parentOf_3 : decode cL_parentOf 3 = .ok (.iload_n 1, 1) := by decide +kernel
theorem dL_parentOf_4 : decode cL_parentOf 4 = .ok (.invokevirtual 76, 3) := by decide +kernel
theorem dL_parentOf_7 : decode cL_parentOf 7 = .ok (.i2l, 1) := by decide +kernel
theorem dL_parentOf_8 : decode cL_parentOf 8 = .ok (.lastore, 1) := by decide +kernel
theorem dL_parentOf_9 : decode cL_parentOf 9 = .ok (.goto 6, 3) := by decide +kernel
theorem dL_parentOf_12 : decode cL_parentOf 12 = .ok (.astore_n 3, 1) := by decide +kernel
theorem dL_parentOf_13 : decode cL_parentOf 13 = .ok (.iconst 1, 1) := by decide +kernel
theorem dL_parentOf_14 : decode cL_parentOf 14 = .ok (.ireturn, 1) := by decide +kernel
theorem dL_parentOf_15 : decode cL_parentOf 15 = .ok (.iconst 0, 1) := by decide +kernel
theorem dL_parentOf_16 : decode cL_parentOf 16 = .ok (.ireturn, 1) := by decide +kernel
theorem dL_hunks_0 : decode cL_hunks 0 = .ok (.aload 6, 2) := by decide +kernel
theorem dL_hunks_2 : decode cL_hunks 2 = .ok (.iconst 0, 1) := by decide +kernel
theorem dL_hunks_3 : decode cL_hunks 3 = .ok (.aload_n 0, 1) := by decide +kernel
theorem dL_hunks_4 : decode cL_hunks 4 = .ok (.iload_n 1, 1) := by decide +kernel
theorem dL_hunks_5 : decode cL_hunks 5 = .ok (.iload_n 2, 1) := by decide +kernel
theorem dL_hunks_6 : decode cL_hunks 6 = .ok (.iload_n 3, 1) := by decide +kernel
theorem dL_hunks_7 : decode cL_hunks 7 = .ok (.iload 4, 2) := by decide +kernel
theorem dL_hunks_9 : decode cL_hunks 9 = .ok (.iload 5, 2) := by decide +kernel
theorem dL_hunks_11 : decode cL_hunks 11 = .ok (.invokevirtual 79, 3) := by decide +kernel
theorem dL_hunks_14 : decode cL_hunks 14 = .ok (.i2l, 1) := by decide +kernel
theorem dL_hunks_15 : decode cL_hunks 15 = .ok (.lastore, 1) := by decide +kernel
theorem dL_hunks_16 : decode cL_hunks 16 = .ok (.goto 7, 3) := by decide +kernel
theorem dL_hunks_19 : decode cL_hunks 19 = .ok (.astore 7, 2) := by decide +kernel
theorem dL_hunks_21 : decode cL_hunks 21 = .ok (.iconst 1, 1) := by decide +kernel
theorem dL_hunks_22 : decode cL_hunks 22 = .ok (.ireturn, 1) := by decide +kernel
theorem dL_hunks_23 : decode cL_hunks 23 = .ok (.iconst 0, 1) := by decide +kernel
theorem dL_hunks_24 : decode cL_hunks 24 = .ok (.ireturn, 1) := by decide +kernel
theorem dL_hunkAt_0 : decode cL_hunkAt 0 = .ok (.aload 7, 2) := by decide +kernel
theorem dL_hunkAt_2 : decode cL_hunkAt 2 = .ok (.iconst 0, 1) := by decide +kernel
theorem dL_hunkAt_3 : decode cL_hunkAt 3 = .ok (.aload_n 0, 1) := by decide +kernel
theorem dL_hunkAt_4 : decode cL_hunkAt 4 = .ok (.iload_n 1, 1) := by decide +kernel
theorem dL_hunkAt_5 : decode cL_hunkAt 5 = .ok (.iload_n 2, 1) := by decide +kernel
theorem dL_hunkAt_6 : decode cL_hunkAt 6 = .ok (.iload_n 3, 1) := by decide +kernel
theorem dL_hunkAt_7 : decode cL_hunkAt 7 = .ok (.iload 4, 2) := by decide +kernel
theorem dL_hunkAt_9 : decode cL_hunkAt 9 = .ok (.iload 5, 2) := by decide +kernel
theorem dL_hunkAt_11 : decode cL_hunkAt 11 = .ok (.iload 6, 2) := by decide +kernel
theorem dL_hunkAt_13 : decode cL_hunkAt 13 = .ok (.invokevirtual 83, 3) := by decide +kernel
theorem dL_hunkAt_16 : decode cL_hunkAt 16 = .ok (.i2l, 1) := by decide +kernel
theorem dL_hunkAt_17 : decode cL_hunkAt 17 = .ok (.lastore, 1) := by decide +kernel
theorem dL_hunkAt_18 : decode cL_hunkAt 18 = .ok (.goto 7, 3) := by decide +kernel
theorem dL_hunkAt_21 : decode cL_hunkAt 21 = .ok (.astore 8, 2) := by decide +kernel
theorem dL_hunkAt_23 : decode cL_hunkAt 23 = .ok (.iconst 1, 1) := by decide +kernel
theorem dL_hunkAt_24 : decode cL_hunkAt 24 = .ok (.ireturn, 1) := by decide +kernel
theorem dL_hunkAt_25 : decode cL_hunkAt 25 = .ok (.iconst 0, 1) := by decide +kernel
theorem dL_hunkAt_26 : decode cL_hunkAt 26 = .ok (.ireturn, 1) := by decide +kernel
theorem dL_comment_0 : decode cL_comment 0 = .ok (.aload 8, 2) := by decide +kernel
theorem dL_comment_2 : decode cL_comment 2 = .ok (.iconst 0, 1) := by decide +kernel
theorem dL_comment_3 : decode cL_comment 3 = .ok (.aload_n 0, 1) := by decide +kernel
theorem dL_comment_4 : decode cL_comment 4 = .ok (.iload_n 1, 1) := by decide +kernel
theorem dL_comment_5 : decode cL_comment 5 = .ok (.iload_n 2, 1) := by decide +kernel
theorem dL_comment_6 : decode cL_comment 6 = .ok (.iload_n 3, 1) := by decide +kernel
theorem dL_comment_7 : decode cL_comment 7 = .ok (.iload 4, 2) := by decide +kernel
theorem dL_comment_9 : decode cL_comment 9 = .ok (.iload 5, 2) := by decide +kernel
theorem dL_comment_11 : decode cL_comment 11 = .ok (.iload 6, 2) := by decide +kernel
theorem dL_comment_13 : decode cL_comment 13 = .ok (.iload 7, 2) := by decide +kernel
theorem dL_comment_15 : decode cL_comment 15 = .ok (.invokevirtual 87, 3) := by decide +kernel
theorem dL_comment_18 : decode cL_comment 18 = .ok (.i2l, 1) := by decide +kernel
theorem dL_comment_19 : decode cL_comment 19 = .ok (.lastore, 1) := by decide +kernel
theorem dL_comment_20 : decode cL_comment 20 = .ok (.goto 15, 3) := by decide +kernel
theorem dL_comment_23 : decode cL_comment 23 = .ok (.astore 9, 2) := by decide +kernel
theorem dL_comment_25 : decode cL_comment 25 = .ok (.iconst 1, 1) := by decide +kernel
theorem dL_comment_26 : decode cL_comment 26 = .ok (.ireturn, 1) := by decide +kernel
theorem dL_comment_27 : decode cL_comment 27 = .ok (.astore 9, 2) := by decide +kernel
theorem dL_comment_29 : decode cL_comment 29 = .ok (.iconst 2, 1) := by decide +kernel
theorem dL_comment_30 : decode cL_comment 30 = .ok (.ireturn, 1) := by decide +kernel
theorem dL_comment_31 : decode cL_comment 31 = .ok (.astore 9, 2) := by decide +kernel
theorem dL_comment_33 : decode cL_comment 33 = .ok (.iconst 3, 1) := by decide +kernel
theorem dL_comment_34 : decode cL_comment 34 = .ok (.ireturn, 1) := by decide +kernel
theorem dL_comment_35 : decode cL_comment 35 = .ok (.iconst 0, 1) := by decide +kernel
theorem dL_comment_36 : decode cL_comment 36 = .ok (.ireturn, 1) := by decide +kernel
theorem dL_answer_0 : decode cL_answer 0 = .ok (.aload 4, 2) := by decide +kernel
theorem dL_answer_2 : decode cL_answer 2 = .ok (.iconst 0, 1) := by decide +kernel
theorem dL_answer_3 : decode cL_answer 3 = .ok (.aload_n 0, 1) := by decide +kernel
theorem dL_answer_4 : decode cL_answer 4 = .ok (.iload_n 1, 1) := by decide +kernel
theorem dL_answer_5 : decode cL_answer 5 = .ok (.iload_n 2, 1) := by decide +kernel
theorem dL_answer_6 : decode cL_answer 6 = .ok (.iload_n 3, 1) := by decide +kernel
theorem dL_answer_7 : decode cL_answer 7 = .ok (.invokevirtual 91, 3) := by decide +kernel
theorem dL_answer_10 : decode cL_answer 10 = .ok (.i2l, 1) := by decide +kernel
theorem dL_answer_11 : decode cL_answer 11 = .ok (.lastore, 1) := by decide +kernel
theorem dL_answer_12 : decode cL_answer 12 = .ok (.goto 11, 3) := by decide +kernel
theorem dL_answer_15 : decode cL_answer 15 = .ok (.astore 5, 2) := by decide +kernel
theorem dL_answer_17 : decode cL_answer 17 = .ok (.iconst 1, 1) := by decide +kernel
theorem dL_answer_18 : decode cL_answer 18 = .ok (.ireturn, 1) := by decide +kernel
theorem dL_answer_19 : decode cL_answer 19 = .ok (.astore 5, 2) := by decide +kernel
theorem dL_answer_21 : decode cL_answer 21 = .ok (.iconst 2, 1) := by decide +kernel
theorem dL_answer_22 : decode cL_answer 22 = .ok (.ireturn, 1) := by decide +kernel
theorem dL_answer_23 : decode cL_answer 23 = .ok (.iconst 0, 1) := by decide +kernel
theorem dL_answer_24 : decode cL_answer 24 = .ok (.ireturn, 1) := by decide +kernel
theorem dL_publish_0 : decode cL_publish 0 = .ok (.aload_n 3, 1) := by decide +kernel
theorem dL_publish_1 : decode cL_publish 1 = .ok (.iconst 0, 1) := by decide +kernel
theorem dL_publish_2 : decode cL_publish 2 = .ok (.aload_n 0, 1) := by decide +kernel
theorem dL_publish_3 : decode cL_publish 3 = .ok (.iload_n 1, 1) := by decide +kernel
theorem dL_publish_4 : decode cL_publish 4 = .ok (.iload_n 2, 1) := by decide +kernel
theorem dL_publish_5 : decode cL_publish 5 = .ok (.invokevirtual 95, 3) := by decide +kernel
theorem dL_publish_8 : decode cL_publish 8 = .ok (.i2l, 1) := by decide +kernel
theorem dL_publish_9 : decode cL_publish 9 = .ok (.lastore, 1) := by decide +kernel
theorem dL_publish_10 : decode cL_publish 10 = .ok (.goto 11, 3) := by decide +kernel
theorem dL_publish_13 : decode cL_publish 13 = .ok (.astore 4, 2) := by decide +kernel
theorem dL_publish_15 : decode cL_publish 15 = .ok (.iconst 1, 1) := by decide +kernel
theorem dL_publish_16 : decode cL_publish 16 = .ok (.ireturn, 1) := by decide +kernel
theorem dL_publish_17 : decode cL_publish 17 = .ok (.astore 4, 2) := by decide +kernel
theorem dL_publish_19 : decode cL_publish 19 = .ok (.iconst 2, 1) := by decide +kernel
theorem dL_publish_20 : decode cL_publish 20 = .ok (.ireturn, 1) := by decide +kernel
theorem dL_publish_21 : decode cL_publish 21 = .ok (.iconst 0, 1) := by decide +kernel
theorem dL_publish_22 : decode cL_publish 22 = .ok (.ireturn, 1) := by decide +kernel
theorem dL_shown_0 : decode cL_shown 0 = .ok (.aload_n 3, 1) := by decide +kernel
theorem dL_shown_1 : decode cL_shown 1 = .ok (.iconst 0, 1) := by decide +kernel
theorem dL_shown_2 : decode cL_shown 2 = .ok (.aload_n 0, 1) := by decide +kernel
theorem dL_shown_3 : decode cL_shown 3 = .ok (.iload_n 1, 1) := by decide +kernel
theorem dL_shown_4 : decode cL_shown 4 = .ok (.iload_n 2, 1) := by decide +kernel
theorem dL_shown_5 : decode cL_shown 5 = .ok (.invokevirtual 98, 3) := by decide +kernel
theorem dL_shown_8 : decode cL_shown 8 = .ok (.i2l, 1) := by decide +kernel
theorem dL_shown_9 : decode cL_shown 9 = .ok (.lastore, 1) := by decide +kernel
theorem dL_shown_10 : decode cL_shown 10 = .ok (.goto 7, 3) := by decide +kernel
theorem dL_shown_13 : decode cL_shown 13 = .ok (.astore 4, 2) := by decide +kernel
theorem dL_shown_15 : decode cL_shown 15 = .ok (.iconst 1, 1) := by decide +kernel
theorem dL_shown_16 : decode cL_shown 16 = .ok (.ireturn, 1) := by decide +kernel
theorem dL_shown_17 : decode cL_shown 17 = .ok (.iconst 0, 1) := by decide +kernel
theorem dL_shown_18 : decode cL_shown 18 = .ok (.ireturn, 1) := by decide +kernel
theorem dL_unresolved_0 : decode cL_unresolved 0 = .ok (.aload_n 2, 1) := by decide +kernel
theorem dL_unresolved_1 : decode cL_unresolved 1 = .ok (.iconst 0, 1) := by decide +kernel
theorem dL_unresolved_2 : decode cL_unresolved 2 = .ok (.aload_n 0, 1) := by decide +kernel
theorem dL_unresolved_3 : decode cL_unresolved 3 = .ok (.iload_n 1, 1) := by decide +kernel
theorem dL_unresolved_4 : decode cL_unresolved 4 = .ok (.invokevirtual 101, 3) := by decide +kernel
theorem dL_unresolved_7 : decode cL_unresolved 7 = .ok (.i2l, 1) := by decide +kernel
theorem dL_unresolved_8 : decode cL_unresolved 8 = .ok (.lastore, 1) := by decide +kernel
theorem dL_unresolved_9 : decode cL_unresolved 9 = .ok (.goto 6, 3) := by decide +kernel
theorem dL_unresolved_12 : decode cL_unresolved 12 = .ok (.astore_n 3, 1) := by decide +kernel
theorem dL_unresolved_13 : decode cL_unresolved 13 = .ok (.iconst 1, 1) := by decide +kernel
theorem dL_unresolved_14 : decode cL_unresolved 14 = .ok (.ireturn, 1) := by decide +kernel
theorem dL_unresolved_15 : decode cL_unresolved 15 = .ok (.iconst 0, 1) := by decide +kernel
theorem dL_unresolved_16 : decode cL_unresolved 16 = .ok (.ireturn, 1) := by decide +kernel
theorem dL_find_0 : decode cL_find 0 = .ok (.aload 7, 2) := by decide +kernel
theorem dL_find_2 : decode cL_find 2 = .ok (.iconst 0, 1) := by decide +kernel
theorem dL_find_3 : decode cL_find 3 = .ok (.aload_n 0, 1) := by decide +kernel
theorem dL_find_4 : decode cL_find 4 = .ok (.iload_n 1, 1) := by decide +kernel
theorem dL_find_5 : decode cL_find 5 = .ok (.iload_n 2, 1) := by decide +kernel
theorem dL_find_6 : decode cL_find 6 = .ok (.iload_n 3, 1) := by decide +kernel
theorem dL_find_7 : decode cL_find 7 = .ok (.iload 4, 2) := by decide +kernel
theorem dL_find_9 : decode cL_find 9 = .ok (.iload 5, 2) := by decide +kernel
theorem dL_find_11 : decode cL_find 11 = .ok (.iload 6, 2) := by decide +kernel
theorem dL_find_13 : decode cL_find 13 = .ok (.invokevirtual 104, 3) := by decide +kernel
theorem dL_find_16 : decode cL_find 16 = .ok (.i2l, 1) := by decide +kernel
theorem dL_find_17 : decode cL_find 17 = .ok (.lastore, 1) := by decide +kernel
theorem dL_find_18 : decode cL_find 18 = .ok (.goto 15, 3) := by decide +kernel
theorem dL_find_21 : decode cL_find 21 = .ok (.astore 8, 2) := by decide +kernel
theorem dL_find_23 : decode cL_find 23 = .ok (.iconst 1, 1) := by decide +kernel
theorem dL_find_24 : decode cL_find 24 = .ok (.ireturn, 1) := by decide +kernel
theorem dL_find_25 : decode cL_find 25 = .ok (.astore 8, 2) := by decide +kernel
theorem dL_find_27 : decode cL_find 27 = .ok (.iconst 2, 1) := by decide +kernel
theorem dL_find_28 : decode cL_find 28 = .ok (.ireturn, 1) := by decide +kernel
theorem dL_find_29 : decode cL_find 29 = .ok (.astore 8, 2) := by decide +kernel
theorem dL_find_31 : decode cL_find 31 = .ok (.iconst 3, 1) := by decide +kernel
theorem dL_find_32 : decode cL_find 32 = .ok (.ireturn, 1) := by decide +kernel
theorem dL_find_33 : decode cL_find 33 = .ok (.iconst 0, 1) := by decide +kernel
theorem dL_find_34 : decode cL_find 34 = .ok (.ireturn, 1) := by decide +kernel
theorem dL_takeFixes_0 : decode cL_takeFixes 0 = .ok (.aload_n 3, 1) := by decide +kernel
theorem dL_takeFixes_1 : decode cL_takeFixes 1 = .ok (.iconst 0, 1) := by decide +kernel
theorem dL_takeFixes_2 : decode cL_takeFixes 2 = .ok (.aload_n 0, 1) := by decide +kernel
theorem dL_takeFixes_3 : decode cL_takeFixes 3 = .ok (.iload_n 1, 1) := by decide +kernel
theorem dL_takeFixes_4 : decode cL_takeFixes 4 = .ok (.iload_n 2, 1) := by decide +kernel
theorem dL_takeFixes_5 : decode cL_takeFixes 5 = .ok (.invokevirtual 108, 3) := by decide +kernel
theorem dL_takeFixes_8 : decode cL_takeFixes 8 = .ok (.i2l, 1) := by decide +kernel
theorem dL_takeFixes_9 : decode cL_takeFixes 9 = .ok (.lastore, 1) := by decide +kernel
theorem dL_takeFixes_10 : decode cL_takeFixes 10 = .ok (.goto 15, 3) := by decide +kernel
theorem dL_takeFixes_13 : decode cL_takeFixes 13 = .ok (.astore 4, 2) := by decide +kernel
theorem dL_takeFixes_15 : decode cL_takeFixes 15 = .ok (.iconst 1, 1) := by decide +kernel
theorem dL_takeFixes_16 : decode cL_takeFixes 16 = .ok (.ireturn, 1) := by decide +kernel
theorem dL_takeFixes_17 : decode cL_takeFixes 17 = .ok (.astore 4, 2) := by decide +kernel
theorem dL_takeFixes_19 : decode cL_takeFixes 19 = .ok (.iconst 2, 1) := by decide +kernel
theorem dL_takeFixes_20 : decode cL_takeFixes 20 = .ok (.ireturn, 1) := by decide +kernel
theorem dL_takeFixes_21 : decode cL_takeFixes 21 = .ok (.astore 4, 2) := by decide +kernel
theorem dL_takeFixes_23 : decode cL_takeFixes 23 = .ok (.iconst 3, 1) := by decide +kernel
theorem dL_takeFixes_24 : decode cL_takeFixes 24 = .ok (.ireturn, 1) := by decide +kernel
theorem dL_takeFixes_25 : decode cL_takeFixes 25 = .ok (.iconst 0, 1) := by decide +kernel
theorem dL_takeFixes_26 : decode cL_takeFixes 26 = .ok (.ireturn, 1) := by decide +kernel
theorem dL_setOwners_0 : decode cL_setOwners 0 = .ok (.aload 5, 2) := by decide +kernel
theorem dL_setOwners_2 : decode cL_setOwners 2 = .ok (.iconst 0, 1) := by decide +kernel
theorem dL_setOwners_3 : decode cL_setOwners 3 = .ok (.aload_n 0, 1) := by decide +kernel
theorem dL_setOwners_4 : decode cL_setOwners 4 = .ok (.iload_n 1, 1) := by decide +kernel
theorem dL_setOwners_5 : decode cL_setOwners 5 = .ok (.iload_n 2, 1) := by decide +kernel
theorem dL_setOwners_6 : decode cL_setOwners 6 = .ok (.iload_n 3, 1) := by decide +kernel
theorem dL_setOwners_7 : decode cL_setOwners 7 = .ok (.iload 4, 2) := by decide +kernel
theorem dL_setOwners_9 : decode cL_setOwners 9 = .ok (.invokevirtual 111, 3) := by decide +kernel
theorem dL_setOwners_12 : decode cL_setOwners 12 = .ok (.i2l, 1) := by decide +kernel
theorem dL_setOwners_13 : decode cL_setOwners 13 = .ok (.lastore, 1) := by decide +kernel
theorem dL_setOwners_14 : decode cL_setOwners 14 = .ok (.goto 11, 3) := by decide +kernel
theorem dL_setOwners_17 : decode cL_setOwners 17 = .ok (.astore 6, 2) := by decide +kernel
theorem dL_setOwners_19 : decode cL_setOwners 19 = .ok (.iconst 1, 1) := by decide +kernel
theorem dL_setOwners_20 : decode cL_setOwners 20 = .ok (.ireturn, 1) := by decide +kernel
theorem dL_setOwners_21 : decode cL_setOwners 21 = .ok (.astore 6, 2) := by decide +kernel
theorem dL_setOwners_23 : decode cL_setOwners 23 = .ok (.iconst 2, 1) := by decide +kernel
theorem dL_setOwners_24 : decode cL_setOwners 24 = .ok (.ireturn, 1) := by decide +kernel
theorem dL_setOwners_25 : decode cL_setOwners 25 = .ok (.iconst 0, 1) := by decide +kernel
theorem dL_setOwners_26 : decode cL_setOwners 26 = .ok (.ireturn, 1) := by decide +kernel
theorem dL_setInclude_0 : decode cL_setInclude 0 = .ok (.aload 4, 2) := by decide +kernel
theorem dL_setInclude_2 : decode cL_setInclude 2 = .ok (.iconst 0, 1) := by decide +kernel
theorem dL_setInclude_3 : decode cL_setInclude 3 = .ok (.aload_n 0, 1) := by decide +kernel
theorem dL_setInclude_4 : decode cL_setInclude 4 = .ok (.iload_n 1, 1) := by decide +kernel
theorem dL_setInclude_5 : decode cL_setInclude 5 = .ok (.iload_n 2, 1) := by decide +kernel
theorem dL_setInclude_6 : decode cL_setInclude 6 = .ok (.iload_n 3, 1) := by decide +kernel
theorem dL_setInclude_7 : decode cL_setInclude 7 = .ok (.invokevirtual 115, 3) := by decide +kernel
theorem dL_setInclude_10 : decode cL_setInclude 10 = .ok (.ifCond .eq 7, 3) := by decide +kernel
theorem dL_setInclude_13 : decode cL_setInclude 13 = .ok (.lconst 1, 1) := by decide +kernel
theorem dL_setInclude_14 : decode cL_setInclude 14 = .ok (.goto 4, 3) := by decide +kernel
theorem dL_setInclude_17 : decode cL_setInclude 17 = .ok (.lconst 0, 1) := by decide +kernel
theorem dL_setInclude_18 : decode cL_setInclude 18 = .ok (.lastore, 1) := by decide +kernel
theorem dL_setInclude_19 : decode cL_setInclude 19 = .ok (.goto 7, 3) := by decide +kernel
theorem dL_setInclude_22 : decode cL_setInclude 22 = .ok (.astore 5, 2) := by decide +kernel
theorem dL_setInclude_24 : decode cL_setInclude 24 = .ok (.iconst 1, 1) := by decide +kernel
theorem dL_setInclude_25 : decode cL_setInclude 25 = .ok (.ireturn, 1) := by decide +kernel
theorem dL_setInclude_26 : decode cL_setInclude 26 = .ok (.iconst 0, 1) := by decide +kernel
theorem dL_setInclude_27 : decode cL_setInclude 27 = .ok (.ireturn, 1) := by decide +kernel
theorem dL_setLastResort_0 : decode cL_setLastResort 0 = .ok (.aload_n 2, 1) := by decide +kernel
theorem dL_setLastResort_1 : decode cL_setLastResort 1 = .ok (.iconst 0, 1) := by decide +kernel
theorem dL_setLastResort_2 : decode cL_setLastResort 2 = .ok (.aload_n 0, 1) := by decide +kernel
theorem dL_setLastResort_3 : decode cL_setLastResort 3 = .ok (.iload_n 1, 1) := by decide +kernel
theorem dL_setLastResort_4 : decode cL_setLastResort 4 = .ok (.invokevirtual 119, 3) := by decide +kernel
theorem dL_setLastResort_7 : decode cL_setLastResort 7 = .ok (.i2l, 1) := by decide +kernel
theorem dL_setLastResort_8 : decode cL_setLastResort 8 = .ok (.lastore, 1) := by decide +kernel
theorem dL_setLastResort_9 : decode cL_setLastResort 9 = .ok (.goto 6, 3) := by decide +kernel
theorem dL_setLastResort_12 : decode cL_setLastResort 12 = .ok (.astore_n 3, 1) := by decide +kernel
theorem dL_setLastResort_13 : decode cL_setLastResort 13 = .ok (.iconst 1, 1) := by decide +kernel
theorem dL_setLastResort_14 : decode cL_setLastResort 14 = .ok (.ireturn, 1) := by decide +kernel
theorem dL_setLastResort_15 : decode cL_setLastResort 15 = .ok (.iconst 0, 1) := by decide +kernel
theorem dL_setLastResort_16 : decode cL_setLastResort 16 = .ok (.ireturn, 1) := by decide +kernel
theorem dL_owners_0 : decode cL_owners 0 = .ok (.aload_n 3, 1) := by decide +kernel
theorem dL_owners_1 : decode cL_owners 1 = .ok (.iconst 0, 1) := by decide +kernel
theorem dL_owners_2 : decode cL_owners 2 = .ok (.aload_n 0, 1) := by decide +kernel
theorem dL_owners_3 : decode cL_owners 3 = .ok (.iload_n 1, 1) := by decide +kernel
theorem dL_owners_4 : decode cL_owners 4 = .ok (.iload_n 2, 1) := by decide +kernel
theorem dL_owners_5 : decode cL_owners 5 = .ok (.invokevirtual 122, 3) := by decide +kernel
theorem dL_owners_8 : decode cL_owners 8 = .ok (.i2l, 1) := by decide +kernel
theorem dL_owners_9 : decode cL_owners 9 = .ok (.lastore, 1) := by decide +kernel
theorem dL_owners_10 : decode cL_owners 10 = .ok (.goto 7, 3) := by decide +kernel
theorem dL_owners_13 : decode cL_owners 13 = .ok (.astore 4, 2) := by decide +kernel
theorem dL_owners_15 : decode cL_owners 15 = .ok (.iconst 1, 1) := by decide +kernel
theorem dL_owners_16 : decode cL_owners 16 = .ok (.ireturn, 1) := by decide +kernel
theorem dL_owners_17 : decode cL_owners 17 = .ok (.iconst 0, 1) := by decide +kernel
theorem dL_owners_18 : decode cL_owners 18 = .ok (.ireturn, 1) := by decide +kernel
theorem dL_fewest_0 : decode cL_fewest 0 = .ok (.aload_n 2, 1) := by decide +kernel
theorem dL_fewest_1 : decode cL_fewest 1 = .ok (.iconst 0, 1) := by decide +kernel
theorem dL_fewest_2 : decode cL_fewest 2 = .ok (.aload_n 0, 1) := by decide +kernel
theorem dL_fewest_3 : decode cL_fewest 3 = .ok (.iload_n 1, 1) := by decide +kernel
theorem dL_fewest_4 : decode cL_fewest 4 = .ok (.invokevirtual 125, 3) := by decide +kernel
theorem dL_fewest_7 : decode cL_fewest 7 = .ok (.i2l, 1) := by decide +kernel
theorem dL_fewest_8 : decode cL_fewest 8 = .ok (.lastore, 1) := by decide +kernel
theorem dL_fewest_9 : decode cL_fewest 9 = .ok (.goto 6, 3) := by decide +kernel
theorem dL_fewest_12 : decode cL_fewest 12 = .ok (.astore_n 3, 1) := by decide +kernel
theorem dL_fewest_13 : decode cL_fewest 13 = .ok (.iconst 1, 1) := by decide +kernel
theorem dL_fewest_14 : decode cL_fewest 14 = .ok (.ireturn, 1) := by decide +kernel
theorem dL_fewest_15 : decode cL_fewest 15 = .ok (.iconst 0, 1) := by decide +kernel
theorem dL_fewest_16 : decode cL_fewest 16 = .ok (.ireturn, 1) := by decide +kernel
theorem dL_vote_0 : decode cL_vote 0 = .ok (.aload 6, 2) := by decide +kernel
theorem dL_vote_2 : decode cL_vote 2 = .ok (.iconst 0, 1) := by decide +kernel
theorem dL_vote_3 : decode cL_vote 3 = .ok (.aload_n 0, 1) := by decide +kernel
theorem dL_vote_4 : decode cL_vote 4 = .ok (.iload_n 1, 1) := by decide +kernel
theorem dL_vote_5 : decode cL_vote 5 = .ok (.iload_n 2, 1) := by decide +kernel
theorem dL_vote_6 : decode cL_vote 6 = .ok (.iload_n 3, 1) := by decide +kernel
theorem dL_vote_7 : decode cL_vote 7 = .ok (.iload 4, 2) := by decide +kernel
theorem dL_vote_9 : decode cL_vote 9 = .ok (.iload 5, 2) := by decide +kernel
theorem dL_vote_11 : decode cL_vote 11 = .ok (.invokevirtual 128, 3) := by decide +kernel
theorem dL_vote_14 : decode cL_vote 14 = .ok (.i2l, 1) := by decide +kernel
theorem dL_vote_15 : decode cL_vote 15 = .ok (.lastore, 1) := by decide +kernel
theorem dL_vote_16 : decode cL_vote 16 = .ok (.goto 15, 3) := by decide +kernel
theorem dL_vote_19 : decode cL_vote 19 = .ok (.astore 7, 2) := by decide +kernel
theorem dL_vote_21 : decode cL_vote 21 = .ok (.iconst 1, 1) := by decide +kernel
theorem dL_vote_22 : decode cL_vote 22 = .ok (.ireturn, 1) := by decide +kernel
theorem dL_vote_23 : decode cL_vote 23 = .ok (.astore 7, 2) := by decide +kernel
theorem dL_vote_25 : decode cL_vote 25 = .ok (.iconst 2, 1) := by decide +kernel
theorem dL_vote_26 : decode cL_vote 26 = .ok (.ireturn, 1) := by decide +kernel
theorem dL_vote_27 : decode cL_vote 27 = .ok (.astore 7, 2) := by decide +kernel
theorem dL_vote_29 : decode cL_vote 29 = .ok (.iconst 3, 1) := by decide +kernel
theorem dL_vote_30 : decode cL_vote 30 = .ok (.ireturn, 1) := by decide +kernel
theorem dL_vote_31 : decode cL_vote 31 = .ok (.iconst 0, 1) := by decide +kernel
theorem dL_vote_32 : decode cL_vote 32 = .ok (.ireturn, 1) := by decide +kernel
theorem dL_worth_0 : decode cL_worth 0 = .ok (.aload 5, 2) := by decide +kernel
theorem dL_worth_2 : decode cL_worth 2 = .ok (.iconst 0, 1) := by decide +kernel
theorem dL_worth_3 : decode cL_worth 3 = .ok (.aload_n 0, 1) := by decide +kernel
theorem dL_worth_4 : decode cL_worth 4 = .ok (.iload_n 1, 1) := by decide +kernel
theorem dL_worth_5 : decode cL_worth 5 = .ok (.iload_n 2, 1) := by decide +kernel
theorem dL_worth_6 : decode cL_worth 6 = .ok (.iload_n 3, 1) := by decide +kernel
theorem dL_worth_7 : decode cL_worth 7 = .ok (.iload 4, 2) := by decide +kernel
theorem dL_worth_9 : decode cL_worth 9 = .ok (.invokevirtual 132, 3) := by decide +kernel
theorem dL_worth_12 : decode cL_worth 12 = .ok (.i2l, 1) := by decide +kernel
theorem dL_worth_13 : decode cL_worth 13 = .ok (.lastore, 1) := by decide +kernel
theorem dL_worth_14 : decode cL_worth 14 = .ok (.goto 11, 3) := by decide +kernel
theorem dL_worth_17 : decode cL_worth 17 = .ok (.astore 6, 2) := by decide +kernel
theorem dL_worth_19 : decode cL_worth 19 = .ok (.iconst 1, 1) := by decide +kernel
theorem dL_worth_20 : decode cL_worth 20 = .ok (.ireturn, 1) := by decide +kernel
theorem dL_worth_21 : decode cL_worth 21 = .ok (.astore 6, 2) := by decide +kernel
theorem dL_worth_23 : decode cL_worth 23 = .ok (.iconst 2, 1) := by decide +kernel
theorem dL_worth_24 : decode cL_worth 24 = .ok (.ireturn, 1) := by decide +kernel
theorem dL_worth_25 : decode cL_worth 25 = .ok (.iconst 0, 1) := by decide +kernel
theorem dL_worth_26 : decode cL_worth 26 = .ok (.ireturn, 1) := by decide +kernel
theorem dL_setCopied_0 : decode cL_setCopied 0 = .ok (.aload 4, 2) := by decide +kernel
theorem dL_setCopied_2 : decode cL_setCopied 2 = .ok (.iconst 0, 1) := by decide +kernel
theorem dL_setCopied_3 : decode cL_setCopied 3 = .ok (.aload_n 0, 1) := by decide +kernel
theorem dL_setCopied_4 : decode cL_setCopied 4 = .ok (.iload_n 1, 1) := by decide +kernel
theorem dL_setCopied_5 : decode cL_setCopied 5 = .ok (.iload_n 2, 1) := by decide +kernel
theorem dL_setCopied_6 : decode cL_setCopied 6 = .ok (.iload_n 3, 1) := by decide +kernel
theorem dL_setCopied_7 : decode cL_setCopied 7 = .ok (.invokevirtual 136, 3) := by decide +kernel
theorem dL_setCopied_10 : decode cL_setCopied 10 = .ok (.i2l, 1) := by decide +kernel
theorem dL_setCopied_11 : decode cL_setCopied 11 = .ok (.lastore, 1) := by decide +kernel
theorem dL_setCopied_12 : decode cL_setCopied 12 = .ok (.goto 7, 3) := by decide +kernel
theorem dL_setCopied_15 : decode cL_setCopied 15 = .ok (.astore 5, 2) := by decide +kernel
theorem dL_setCopied_17 : decode cL_setCopied 17 = .ok (.iconst 1, 1) := by decide +kernel
theorem dL_setCopied_18 : decode cL_setCopied 18 = .ok (.ireturn, 1) := by decide +kernel
theorem dL_setCopied_19 : decode cL_setCopied 19 = .ok (.iconst 0, 1) := by decide +kernel
theorem dL_setCopied_20 : decode cL_setCopied 20 = .ok (.ireturn, 1) := by decide +kernel
theorem dL_addRule_0 : decode cL_addRule 0 = .ok (.aload 4, 2) := by decide +kernel
theorem dL_addRule_2 : decode cL_addRule 2 = .ok (.iconst 0, 1) := by decide +kernel
theorem dL_addRule_3 : decode cL_addRule 3 = .ok (.aload_n 0, 1) := by decide +kernel
theorem dL_addRule_4 : decode cL_addRule 4 = .ok (.iload_n 1, 1) := by decide +kernel
theorem dL_addRule_5 : decode cL_addRule 5 = .ok (.iload_n 2, 1) := by decide +kernel
theorem dL_addRule_6 : decode cL_addRule 6 = .ok (.iload_n 3, 1) := by decide +kernel
theorem dL_addRule_7 : decode cL_addRule 7 = .ok (.invokevirtual 139, 3) := by decide +kernel
theorem dL_addRule_10 : decode cL_addRule 10 = .ok (.i2l, 1) := by decide +kernel
theorem dL_addRule_11 : decode cL_addRule 11 = .ok (.lastore, 1) := by decide +kernel
theorem dL_addRule_12 : decode cL_addRule 12 = .ok (.goto 11, 3) := by decide +kernel
theorem dL_addRule_15 : decode cL_addRule 15 = .ok (.astore 5, 2) := by decide +kernel
theorem dL_addRule_17 : decode cL_addRule 17 = .ok (.iconst 1, 1) := by decide +kernel
theorem dL_addRule_18 : decode cL_addRule 18 = .ok (.ireturn, 1) := by decide +kernel
theorem dL_addRule_19 : decode cL_addRule 19 = .ok (.astore 5, 2) := by decide +kernel
theorem dL_addRule_21 : decode cL_addRule 21 = .ok (.iconst 2, 1) := by decide +kernel
theorem dL_addRule_22 : decode cL_addRule 22 = .ok (.ireturn, 1) := by decide +kernel
theorem dL_addRule_23 : decode cL_addRule 23 = .ok (.iconst 0, 1) := by decide +kernel
theorem dL_addRule_24 : decode cL_addRule 24 = .ok (.ireturn, 1) := by decide +kernel
theorem dL_dropRule_0 : decode cL_dropRule 0 = .ok (.aload_n 2, 1) := by decide +kernel
theorem dL_dropRule_1 : decode cL_dropRule 1 = .ok (.iconst 0, 1) := by decide +kernel
theorem dL_dropRule_2 : decode cL_dropRule 2 = .ok (.aload_n 0, 1) := by decide +kernel
theorem dL_dropRule_3 : decode cL_dropRule 3 = .ok (.iload_n 1, 1) := by decide +kernel
theorem dL_dropRule_4 : decode cL_dropRule 4 = .ok (.invokevirtual 142, 3) := by decide +kernel
theorem dL_dropRule_7 : decode cL_dropRule 7 = .ok (.i2l, 1) := by decide +kernel
theorem dL_dropRule_8 : decode cL_dropRule 8 = .ok (.lastore, 1) := by decide +kernel
theorem dL_dropRule_9 : decode cL_dropRule 9 = .ok (.goto 6, 3) := by decide +kernel
theorem dL_dropRule_12 : decode cL_dropRule 12 = .ok (.astore_n 3, 1) := by decide +kernel
theorem dL_dropRule_13 : decode cL_dropRule 13 = .ok (.iconst 1, 1) := by decide +kernel
theorem dL_dropRule_14 : decode cL_dropRule 14 = .ok (.ireturn, 1) := by decide +kernel
theorem dL_dropRule_15 : decode cL_dropRule 15 = .ok (.iconst 0, 1) := by decide +kernel
theorem dL_dropRule_16 : decode cL_dropRule 16 = .ok (.ireturn, 1) := by decide +kernel
theorem dL_statements_0 : decode cL_statements 0 = .ok (.aload_n 2, 1) := by decide +kernel
theorem dL_statements_1 : decode cL_statements 1 = .ok (.iconst 0, 1) := by decide +kernel
theorem dL_statements_2 : decode cL_statements 2 = .ok (.aload_n 0, 1) := by decide +kernel
theorem dL_statements_3 : decode cL_statements 3 = .ok (.iload_n 1, 1) := by decide +kernel
theorem dL_statements_4 : decode cL_statements 4 = .ok (.invokevirtual 145, 3) := by decide +kernel
theorem dL_statements_7 : decode cL_statements 7 = .ok (.i2l, 1) := by decide +kernel
theorem dL_statements_8 : decode cL_statements 8 = .ok (.lastore, 1) := by decide +kernel
theorem dL_statements_9 : decode cL_statements 9 = .ok (.goto 6, 3) := by decide +kernel
theorem dL_statements_12 : decode cL_statements 12 = .ok (.astore_n 3, 1) := by decide +kernel
theorem dL_statements_13 : decode cL_statements 13 = .ok (.iconst 1, 1) := by decide +kernel
theorem dL_statements_14 : decode cL_statements 14 = .ok (.ireturn, 1) := by decide +kernel
theorem dL_statements_15 : decode cL_statements 15 = .ok (.iconst 0, 1) := by decide +kernel
theorem dL_statements_16 : decode cL_statements 16 = .ok (.ireturn, 1) := by decide +kernel
theorem dL_lacks_0 : decode cL_lacks 0 = .ok (.aload_n 2, 1) := by decide +kernel
theorem dL_lacks_1 : decode cL_lacks 1 = .ok (.iconst 0, 1) := by decide +kernel
theorem dL_lacks_2 : decode cL_lacks 2 = .ok (.aload_n 0, 1) := by decide +kernel
theorem dL_lacks_3 : decode cL_lacks 3 = .ok (.iload_n 1, 1) := by decide +kernel
theorem dL_lacks_4 : decode cL_lacks 4 = .ok (.invokevirtual 148, 3) := by decide +kernel
theorem dL_lacks_7 : decode cL_lacks 7 = .ok (.i2l, 1) := by decide +kernel
theorem dL_lacks_8 : decode cL_lacks 8 = .ok (.lastore, 1) := by decide +kernel
theorem dL_lacks_9 : decode cL_lacks 9 = .ok (.goto 6, 3) := by decide +kernel
theorem dL_lacks_12 : decode cL_lacks 12 = .ok (.astore_n 3, 1) := by decide +kernel
theorem dL_lacks_13 : decode cL_lacks 13 = .ok (.iconst 1, 1) := by decide +kernel
theorem dL_lacks_14 : decode cL_lacks 14 = .ok (.ireturn, 1) := by decide +kernel
theorem dL_lacks_15 : decode cL_lacks 15 = .ok (.iconst 0, 1) := by decide +kernel
theorem dL_lacks_16 : decode cL_lacks 16 = .ok (.ireturn, 1) := by decide +kernel
theorem dL_setWay_0 : decode cL_setWay 0 = .ok (.aload_n 3, 1) := by decide +kernel
theorem dL_setWay_1 : decode cL_setWay 1 = .ok (.iconst 0, 1) := by decide +kernel
theorem dL_setWay_2 : decode cL_setWay 2 = .ok (.aload_n 0, 1) := by decide +kernel
theorem dL_setWay_3 : decode cL_setWay 3 = .ok (.iload_n 1, 1) := by decide +kernel
theorem dL_setWay_4 : decode cL_setWay 4 = .ok (.iload_n 2, 1) := by decide +kernel
theorem dL_setWay_5 : decode cL_setWay 5 = .ok (.invokevirtual 151, 3) := by decide +kernel
theorem dL_setWay_8 : decode cL_setWay 8 = .ok (.i2l, 1) := by decide +kernel
theorem dL_setWay_9 : decode cL_setWay 9 = .ok (.lastore, 1) := by decide +kernel
theorem dL_setWay_10 : decode cL_setWay 10 = .ok (.goto 11, 3) := by decide +kernel
theorem dL_setWay_13 : decode cL_setWay 13 = .ok (.astore 4, 2) := by decide +kernel
theorem dL_setWay_15 : decode cL_setWay 15 = .ok (.iconst 1, 1) := by decide +kernel
theorem dL_setWay_16 : decode cL_setWay 16 = .ok (.ireturn, 1) := by decide +kernel
theorem dL_setWay_17 : decode cL_setWay 17 = .ok (.astore 4, 2) := by decide +kernel
theorem dL_setWay_19 : decode cL_setWay 19 = .ok (.iconst 2, 1) := by decide +kernel
theorem dL_setWay_20 : decode cL_setWay 20 = .ok (.ireturn, 1) := by decide +kernel
theorem dL_setWay_21 : decode cL_setWay 21 = .ok (.iconst 0, 1) := by decide +kernel
theorem dL_setWay_22 : decode cL_setWay 22 = .ok (.ireturn, 1) := by decide +kernel
theorem dL_group_0 : decode cL_group 0 = .ok (.aload_n 2, 1) := by decide +kernel
theorem dL_group_1 : decode cL_group 1 = .ok (.iconst 0, 1) := by decide +kernel
theorem dL_group_2 : decode cL_group 2 = .ok (.aload_n 0, 1) := by decide +kernel
theorem dL_group_3 : decode cL_group 3 = .ok (.iload_n 1, 1) := by decide +kernel
theorem dL_group_4 : decode cL_group 4 = .ok (.invokevirtual 154, 3) := by decide +kernel
theorem dL_group_7 : decode cL_group 7 = .ok (.i2l, 1) := by decide +kernel
theorem dL_group_8 : decode cL_group 8 = .ok (.lastore, 1) := by decide +kernel
theorem dL_group_9 : decode cL_group 9 = .ok (.goto 9, 3) := by decide +kernel
theorem dL_group_12 : decode cL_group 12 = .ok (.astore_n 3, 1) := by decide +kernel
theorem dL_group_13 : decode cL_group 13 = .ok (.iconst 1, 1) := by decide +kernel
theorem dL_group_14 : decode cL_group 14 = .ok (.ireturn, 1) := by decide +kernel
theorem dL_group_15 : decode cL_group 15 = .ok (.astore_n 3, 1) := by decide +kernel
theorem dL_group_16 : decode cL_group 16 = .ok (.iconst 2, 1) := by decide +kernel
theorem dL_group_17 : decode cL_group 17 = .ok (.ireturn, 1) := by decide +kernel
theorem dL_group_18 : decode cL_group 18 = .ok (.iconst 0, 1) := by decide +kernel
theorem dL_group_19 : decode cL_group 19 = .ok (.ireturn, 1) := by decide +kernel
theorem dL_land_0 : decode cL_land 0 = .ok (.aload_n 3, 1) := by decide +kernel
theorem dL_land_1 : decode cL_land 1 = .ok (.iconst 0, 1) := by decide +kernel
theorem dL_land_2 : decode cL_land 2 = .ok (.aload_n 0, 1) := by decide +kernel
theorem dL_land_3 : decode cL_land 3 = .ok (.iload_n 1, 1) := by decide +kernel
theorem dL_land_4 : decode cL_land 4 = .ok (.iload_n 2, 1) := by decide +kernel
theorem dL_land_5 : decode cL_land 5 = .ok (.invokevirtual 157, 3) := by decide +kernel
theorem dL_land_8 : decode cL_land 8 = .ok (.i2l, 1) := by decide +kernel
theorem dL_land_9 : decode cL_land 9 = .ok (.lastore, 1) := by decide +kernel
theorem dL_land_10 : decode cL_land 10 = .ok (.goto 11, 3) := by decide +kernel
theorem dL_land_13 : decode cL_land 13 = .ok (.astore 4, 2) := by decide +kernel
theorem dL_land_15 : decode cL_land 15 = .ok (.iconst 1, 1) := by decide +kernel
theorem dL_land_16 : decode cL_land 16 = .ok (.ireturn, 1) := by decide +kernel
theorem dL_land_17 : decode cL_land 17 = .ok (.astore 4, 2) := by decide +kernel
theorem dL_land_19 : decode cL_land 19 = .ok (.iconst 2, 1) := by decide +kernel
theorem dL_land_20 : decode cL_land 20 = .ok (.ireturn, 1) := by decide +kernel
theorem dL_land_21 : decode cL_land 21 = .ok (.iconst 0, 1) := by decide +kernel
theorem dL_land_22 : decode cL_land 22 = .ok (.ireturn, 1) := by decide +kernel
theorem dL_addReviewer_0 : decode cL_addReviewer 0 = .ok (.aload_n 3, 1) := by decide +kernel
theorem dL_addReviewer_1 : decode cL_addReviewer 1 = .ok (.iconst 0, 1) := by decide +kernel
theorem dL_addReviewer_2 : decode cL_addReviewer 2 = .ok (.aload_n 0, 1) := by decide +kernel
theorem dL_addReviewer_3 : decode cL_addReviewer 3 = .ok (.iload_n 1, 1) := by decide +kernel
theorem dL_addReviewer_4 : decode cL_addReviewer 4 = .ok (.iload_n 2, 1) := by decide +kernel
theorem dL_addReviewer_5 : decode cL_addReviewer 5 = .ok (.invokevirtual 160, 3) := by decide +kernel
theorem dL_addReviewer_8 : decode cL_addReviewer 8 = .ok (.ifCond .eq 7, 3) := by decide +kernel
theorem dL_addReviewer_11 : decode cL_addReviewer 11 = .ok (.lconst 1, 1) := by decide +kernel
theorem dL_addReviewer_12 : decode cL_addReviewer 12 = .ok (.goto 4, 3) := by decide +kernel
theorem dL_addReviewer_15 : decode cL_addReviewer 15 = .ok (.lconst 0, 1) := by decide +kernel
theorem dL_addReviewer_16 : decode cL_addReviewer 16 = .ok (.lastore, 1) := by decide +kernel
theorem dL_addReviewer_17 : decode cL_addReviewer 17 = .ok (.goto 11, 3) := by decide +kernel
theorem dL_addReviewer_20 : decode cL_addReviewer 20 = .ok (.astore 4, 2) := by decide +kernel
theorem dL_addReviewer_22 : decode cL_addReviewer 22 = .ok (.iconst 1, 1) := by decide +kernel
theorem dL_addReviewer_23 : decode cL_addReviewer 23 = .ok (.ireturn, 1) := by decide +kernel
theorem dL_addReviewer_24 : decode cL_addReviewer 24 = .ok (.astore 4, 2) := by decide +kernel
theorem dL_addReviewer_26 : decode cL_addReviewer 26 = .ok (.iconst 2, 1) := by decide +kernel
theorem dL_addReviewer_27 : decode cL_addReviewer 27 = .ok (.ireturn, 1) := by decide +kernel
theorem dL_addReviewer_28 : decode cL_addReviewer 28 = .ok (.iconst 0, 1) := by decide +kernel
theorem dL_addReviewer_29 : decode cL_addReviewer 29 = .ok (.ireturn, 1) := by decide +kernel
theorem dL_reviewers_0 : decode cL_reviewers 0 = .ok (.aload_n 2, 1) := by decide +kernel
theorem dL_reviewers_1 : decode cL_reviewers 1 = .ok (.iconst 0, 1) := by decide +kernel
theorem dL_reviewers_2 : decode cL_reviewers 2 = .ok (.aload_n 0, 1) := by decide +kernel
theorem dL_reviewers_3 : decode cL_reviewers 3 = .ok (.iload_n 1, 1) := by decide +kernel
theorem dL_reviewers_4 : decode cL_reviewers 4 = .ok (.invokevirtual 164, 3) := by decide +kernel
theorem dL_reviewers_7 : decode cL_reviewers 7 = .ok (.i2l, 1) := by decide +kernel
theorem dL_reviewers_8 : decode cL_reviewers 8 = .ok (.lastore, 1) := by decide +kernel
theorem dL_reviewers_9 : decode cL_reviewers 9 = .ok (.goto 6, 3) := by decide +kernel
theorem dL_reviewers_12 : decode cL_reviewers 12 = .ok (.astore_n 3, 1) := by decide +kernel
theorem dL_reviewers_13 : decode cL_reviewers 13 = .ok (.iconst 1, 1) := by decide +kernel
theorem dL_reviewers_14 : decode cL_reviewers 14 = .ok (.ireturn, 1) := by decide +kernel
theorem dL_reviewers_15 : decode cL_reviewers 15 = .ok (.iconst 0, 1) := by decide +kernel
theorem dL_reviewers_16 : decode cL_reviewers 16 = .ok (.ireturn, 1) := by decide +kernel
theorem dL_whoseTurn_0 : decode cL_whoseTurn 0 = .ok (.aload_n 2, 1) := by decide +kernel
theorem dL_whoseTurn_1 : decode cL_whoseTurn 1 = .ok (.iconst 0, 1) := by decide +kernel
theorem dL_whoseTurn_2 : decode cL_whoseTurn 2 = .ok (.aload_n 0, 1) := by decide +kernel
theorem dL_whoseTurn_3 : decode cL_whoseTurn 3 = .ok (.iload_n 1, 1) := by decide +kernel
theorem dL_whoseTurn_4 : decode cL_whoseTurn 4 = .ok (.invokevirtual 167, 3) := by decide +kernel
theorem dL_whoseTurn_7 : decode cL_whoseTurn 7 = .ok (.i2l, 1) := by decide +kernel
theorem dL_whoseTurn_8 : decode cL_whoseTurn 8 = .ok (.lastore, 1) := by decide +kernel
theorem dL_whoseTurn_9 : decode cL_whoseTurn 9 = .ok (.goto 6, 3) := by decide +kernel
theorem dL_whoseTurn_12 : decode cL_whoseTurn 12 = .ok (.astore_n 3, 1) := by decide +kernel
theorem dL_whoseTurn_13 : decode cL_whoseTurn 13 = .ok (.iconst 1, 1) := by decide +kernel
theorem dL_whoseTurn_14 : decode cL_whoseTurn 14 = .ok (.ireturn, 1) := by decide +kernel
theorem dL_whoseTurn_15 : decode cL_whoseTurn 15 = .ok (.iconst 0, 1) := by decide +kernel
theorem dL_whoseTurn_16 : decode cL_whoseTurn 16 = .ok (.ireturn, 1) := by decide +kernel
theorem dL_watch_0 : decode cL_watch 0 = .ok (.aload 4, 2) := by decide +kernel
theorem dL_watch_2 : decode cL_watch 2 = .ok (.iconst 0, 1) := by decide +kernel
theorem dL_watch_3 : decode cL_watch 3 = .ok (.aload_n 0, 1) := by decide +kernel
theorem dL_watch_4 : decode cL_watch 4 = .ok (.iload_n 1, 1) := by decide +kernel
theorem dL_watch_5 : decode cL_watch 5 = .ok (.iload_n 2, 1) := by decide +kernel
theorem dL_watch_6 : decode cL_watch 6 = .ok (.iload_n 3, 1) := by decide +kernel
theorem dL_watch_7 : decode cL_watch 7 = .ok (.invokevirtual 170, 3) := by decide +kernel
theorem dL_watch_10 : decode cL_watch 10 = .ok (.ifCond .eq 7, 3) := by decide +kernel
theorem dL_watch_13 : decode cL_watch 13 = .ok (.lconst 1, 1) := by decide +kernel
theorem dL_watch_14 : decode cL_watch 14 = .ok (.goto 4, 3) := by decide +kernel
theorem dL_watch_17 : decode cL_watch 17 = .ok (.lconst 0, 1) := by decide +kernel
theorem dL_watch_18 : decode cL_watch 18 = .ok (.lastore, 1) := by decide +kernel
theorem dL_watch_19 : decode cL_watch 19 = .ok (.goto 7, 3) := by decide +kernel
theorem dL_watch_22 : decode cL_watch 22 = .ok (.astore 5, 2) := by decide +kernel
theorem dL_watch_24 : decode cL_watch 24 = .ok (.iconst 1, 1) := by decide +kernel
theorem dL_watch_25 : decode cL_watch 25 = .ok (.ireturn, 1) := by decide +kernel
theorem dL_watch_26 : decode cL_watch 26 = .ok (.iconst 0, 1) := by decide +kernel
theorem dL_watch_27 : decode cL_watch 27 = .ok (.ireturn, 1) := by decide +kernel
theorem dL_mails_0 : decode cL_mails 0 = .ok (.aload_n 2, 1) := by decide +kernel
theorem dL_mails_1 : decode cL_mails 1 = .ok (.iconst 0, 1) := by decide +kernel
theorem dL_mails_2 : decode cL_mails 2 = .ok (.aload_n 0, 1) := by decide +kernel
theorem dL_mails_3 : decode cL_mails 3 = .ok (.iload_n 1, 1) := by decide +kernel
theorem dL_mails_4 : decode cL_mails 4 = .ok (.invokevirtual 173, 3) := by decide +kernel
theorem dL_mails_7 : decode cL_mails 7 = .ok (.i2l, 1) := by decide +kernel
theorem dL_mails_8 : decode cL_mails 8 = .ok (.lastore, 1) := by decide +kernel
theorem dL_mails_9 : decode cL_mails 9 = .ok (.goto 6, 3) := by decide +kernel
theorem dL_mails_12 : decode cL_mails 12 = .ok (.astore_n 3, 1) := by decide +kernel
theorem dL_mails_13 : decode cL_mails 13 = .ok (.iconst 1, 1) := by decide +kernel
theorem dL_mails_14 : decode cL_mails 14 = .ok (.ireturn, 1) := by decide +kernel
theorem dL_mails_15 : decode cL_mails 15 = .ok (.iconst 0, 1) := by decide +kernel
theorem dL_mails_16 : decode cL_mails 16 = .ok (.ireturn, 1) := by decide +kernel
theorem dL_advance_0 : decode cL_advance 0 = .ok (.aload_n 2, 1) := by decide +kernel
theorem dL_advance_1 : decode cL_advance 1 = .ok (.iconst 0, 1) := by decide +kernel
theorem dL_advance_2 : decode cL_advance 2 = .ok (.aload_n 0, 1) := by decide +kernel
theorem dL_advance_3 : decode cL_advance 3 = .ok (.iload_n 1, 1) := by decide +kernel
theorem dL_advance_4 : decode cL_advance 4 = .ok (.invokevirtual 176, 3) := by decide +kernel
theorem dL_advance_7 : decode cL_advance 7 = .ok (.i2l, 1) := by decide +kernel
theorem dL_advance_8 : decode cL_advance 8 = .ok (.lastore, 1) := by decide +kernel
theorem dL_advance_9 : decode cL_advance 9 = .ok (.goto 9, 3) := by decide +kernel
theorem dL_advance_12 : decode cL_advance 12 = .ok (.astore_n 3, 1) := by decide +kernel
theorem dL_advance_13 : decode cL_advance 13 = .ok (.iconst 1, 1) := by decide +kernel
theorem dL_advance_14 : decode cL_advance 14 = .ok (.ireturn, 1) := by decide +kernel
theorem dL_advance_15 : decode cL_advance 15 = .ok (.astore_n 3, 1) := by decide +kernel
theorem dL_advance_16 : decode cL_advance 16 = .ok (.iconst 2, 1) := by decide +kernel
theorem dL_advance_17 : decode cL_advance 17 = .ok (.ireturn, 1) := by decide +kernel
theorem dL_advance_18 : decode cL_advance 18 = .ok (.iconst 0, 1) := by decide +kernel
theorem dL_advance_19 : decode cL_advance 19 = .ok (.ireturn, 1) := by decide +kernel
