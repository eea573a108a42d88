theorem dL_write_0 : decode cL_write 0 = .ok (.aload 4, 2) := by decide +kernel
theorem dL_write_2 : decode cL_write 2 = .ok (.iconst 0, 1) := by decide +kernel
theorem dL_write_3 : decode cL_write 3 = .ok (.aload_n 0, 1) := by decide +kernel
theorem dL_write_4 : decode cL_write 4 = .ok (.iload_n 1, 1) := by decide +kernel
theorem dL_write_5 : decode cL_write 5 = .ok (.iload_n 2, 1) := by decide +kernel
theorem dL_write_6 : decode cL_write 6 = .ok (.iload_n 3, 1) := by decide +kernel
theorem dL_write_7 : decode cL_write 7 = .ok (.invokevirtual 7, 3) := by decide +kernel
theorem dL_write_10 : decode cL_write 10 = .ok (.i2l, 1) := by decide +kernel
theorem dL_write_11 : decode cL_write 11 = .ok (.lastore, 1) := by decide +kernel
theorem dL_write_12 : decode cL_write 12 = .ok (.goto 15, 3) := by decide +kernel
theorem dL_write_15 : decode cL_write 15 = .ok (.astore 5, 2) := by decide +kernel
theorem dL_write_17 : decode cL_write 17 = .ok (.iconst 1, 1) := by decide +kernel
theorem dL_write_18 : decode cL_write 18 = .ok (.ireturn, 1) := by decide +kernel
theorem dL_write_19 : decode cL_write 19 = .ok (.astore 5, 2) := by decide +kernel
theorem dL_write_21 : decode cL_write 21 = .ok (.iconst 2, 1) := by decide +kernel
theorem dL_write_22 : decode cL_write 22 = .ok (.ireturn, 1) := by decide +kernel
theorem dL_write_23 : decode cL_write 23 = .ok (.astore 5, 2) := by decide +kernel
theorem dL_write_25 : decode cL_write 25 = .ok (.iconst 3, 1) := by decide +kernel
theorem dL_write_26 : decode cL_write 26 = .ok (.ireturn, 1) := by decide +kernel
theorem dL_write_27 : decode cL_write 27 = .ok (.iconst 0, 1) := by decide +kernel
theorem dL_write_28 : decode cL_write 28 = .ok (.ireturn, 1) := by decide +kernel
theorem dL_make_0 : decode cL_make 0 = .ok (.aload_n 2, 1) := by decide +kernel
theorem dL_make_1 : decode cL_make 1 = .ok (.iconst 0, 1) := by decide +kernel
theorem dL_make_2 : decode cL_make 2 = .ok (.aload_n 0, 1) := by decide +kernel
theorem dL_make_3 : decode cL_make 3 = .ok (.iload_n 1, 1) := by decide +kernel
theorem dL_make_4 : decode cL_make 4 = .ok (.invokevirtual 19, 3) := by decide +kernel
theorem dL_make_7 : decode cL_make 7 = .ok (.i2l, 1) := by decide +kernel
theorem dL_make_8 : decode cL_make 8 = .ok (.lastore, 1) := by decide +kernel
theorem dL_make_9 : decode cL_make 9 = .ok (.goto 6, 3) := by decide +kernel
theorem dL_make_12 : decode cL_make 12 = .ok (.astore_n 3, 1) := by decide +kernel
theorem dL_make_13 : decode cL_make 13 = .ok (.iconst 1, 1) := by decide +kernel
theorem dL_make_14 : decode cL_make 14 = .ok (.ireturn, 1) := by decide +kernel
theorem dL_make_15 : decode cL_make 15 = .ok (.iconst 0, 1) := by decide +kernel
theorem dL_make_16 : decode cL_make 16 = .ok (.ireturn, 1) := by decide +kernel
theorem dL_draw_0 : decode cL_draw 0 = .ok (.aload 5, 2) := by decide +kernel
theorem dL_draw_2 : decode cL_draw 2 = .ok (.iconst 0, 1) := by decide +kernel
theorem dL_draw_3 : decode cL_draw 3 = .ok (.aload_n 0, 1) := by decide +kernel
theorem dL_draw_4 : decode cL_draw 4 = .ok (.iload_n 1, 1) := by decide +kernel
theorem dL_draw_5 : decode cL_draw 5 = .ok (.iload_n 2, 1) := by decide +kernel
theorem dL_draw_6 : decode cL_draw 6 = .ok (.iload_n 3, 1) := by decide +kernel
theorem dL_draw_7 : decode cL_draw 7 = .ok (.iload 4, 2) := by decide +kernel
theorem dL_draw_9 : decode cL_draw 9 = .ok (.invokevirtual 23, 3) := by decide +kernel
theorem dL_draw_12 : decode cL_draw 12 = .ok (.i2l, 1) := by decide +kernel
theorem dL_draw_13 : decode cL_draw 13 = .ok (.lastore, 1) := by decide +kernel
theorem dL_draw_14 : decode cL_draw 14 = .ok (.goto 11, 3) := by decide +kernel
theorem dL_draw_17 : decode cL_draw 17 = .ok (.astore 6, 2) := by decide +kernel
theorem dL_draw_19 : decode cL_draw 19 = .ok (.iconst 1, 1) := by decide +kernel
theorem dL_draw_20 : decode cL_draw 20 = .ok (.ireturn, 1) := by decide +kernel
theorem dL_draw_21 : decode cL_draw 21 = .ok (.astore 6, 2) := by decide +kernel
theorem dL_draw_23 : decode cL_draw 23 = .ok (.iconst 2, 1) := by decide +kernel
theorem dL_draw_24 : decode cL_draw 24 = .ok (.ireturn, 1) := by decide +kernel
theorem dL_draw_25 : decode cL_draw 25 = .ok (.iconst 0, 1) := by decide +kernel
theorem dL_draw_26 : decode cL_draw 26 = .ok (.ireturn, 1) := by decide +kernel
theorem dL_erase_0 : decode cL_erase 0 = .ok (.aload_n 3, 1) := by decide +kernel
theorem dL_erase_1 : decode cL_erase 1 = .ok (.iconst 0, 1) := by decide +kernel
theorem dL_erase_2 : decode cL_erase 2 = .ok (.aload_n 0, 1) := by decide +kernel
theorem dL_erase_3 : decode cL_erase 3 = .ok (.iload_n 1, 1) := by decide +kernel
theorem dL_erase_4 : decode cL_erase 4 = .ok (.iload_n 2, 1) := by decide +kernel
theorem dL_erase_5 : decode cL_erase 5 = .ok (.invokevirtual 27, 3) := by decide +kernel
theorem dL_erase_8 : decode cL_erase 8 = .ok (.i2l, 1) := by decide +kernel
theorem dL_erase_9 : decode cL_erase 9 = .ok (.lastore, 1) := by decide +kernel
theorem dL_erase_10 : decode cL_erase 10 = .ok (.goto 11, 3) := by decide +kernel
theorem dL_erase_13 : decode cL_erase 13 = .ok (.astore 4, 2) := by decide +kernel
theorem dL_erase_15 : decode cL_erase 15 = .ok (.iconst 1, 1) := by decide +kernel
theorem dL_erase_16 : decode cL_erase 16 = .ok (.ireturn, 1) := by decide +kernel
theorem dL_erase_17 : decode cL_erase 17 = .ok (.astore 4, 2) := by decide +kernel
theorem dL_erase_19 : decode cL_erase 19 = .ok (.iconst 2, 1) := by decide +kernel
theorem dL_erase_20 : decode cL_erase 20 = .ok (.ireturn, 1) := by decide +kernel
theorem dL_erase_21 : decode cL_erase 21 = .ok (.iconst 0, 1) := by decide +kernel
theorem dL_erase_22 : decode cL_erase 22 = .ok (.ireturn, 1) := by decide +kernel
theorem dL_settle_0 : decode cL_settle 0 = .ok (.aload_n 1, 1) := by decide +kernel
theorem dL_settle_1 : decode cL_settle 1 = .ok (.iconst 0, 1) := by decide +kernel
theorem dL_settle_2 : decode cL_settle 2 = .ok (.aload_n 0, 1) := by decide +kernel
theorem dL_settle_3 : decode cL_settle 3 = .ok (.invokevirtual 31, 3) := by decide +kernel
theorem dL_settle_6 : decode cL_settle 6 = .ok (.i2l, 1) := by decide +kernel
theorem dL_settle_7 : decode cL_settle 7 = .ok (.lastore, 1) := by decide +kernel
theorem dL_settle_8 : decode cL_settle 8 = .ok (.goto 6, 3) := by decide +kernel
theorem dL_settle_11 : decode cL_settle 11 = .ok (.astore_n 2, 1) := by decide +kernel
theorem dL_settle_12 : decode cL_settle 12 = .ok (.iconst 1, 1) := by decide +kernel
theorem dL_settle_13 : decode cL_settle 13 = .ok (.ireturn, 1) := by decide +kernel
theorem dL_settle_14 : decode cL_settle 14 = .ok (.iconst 0, 1) := by decide +kernel
theorem dL_settle_15 : decode cL_settle 15 = .ok (.ireturn, 1) := by decide +kernel
theorem dL_finish_0 : decode cL_finish 0 = .ok (.aload_n 1, 1) := by decide +kernel
theorem dL_finish_1 : decode cL_finish 1 = .ok (.iconst 0, 1) := by decide +kernel
theorem dL_finish_2 : decode cL_finish 2 = .ok (.aload_n 0, 1) := by decide +kernel
theorem dL_finish_3 : decode cL_finish 3 = .ok (.invokevirtual 35, 3) := by decide +kernel
theorem dL_finish_6 : decode cL_finish 6 = .ok (.i2l, 1) := by decide +kernel
theorem dL_finish_7 : decode cL_finish 7 = .ok (.lastore, 1) := by decide +kernel
theorem dL_finish_8 : decode cL_finish 8 = .ok (.goto 6, 3) := by decide +kernel
theorem dL_finish_11 : decode cL_finish 11 = .ok (.astore_n 2, 1) := by decide +kernel
theorem dL_finish_12 : decode cL_finish 12 = .ok (.iconst 1, 1) := by decide +kernel
theorem dL_finish_13 : decode cL_finish 13 = .ok (.ireturn, 1) := by decide +kernel
theorem dL_finish_14 : decode cL_finish 14 = .ok (.iconst 0, 1) := by decide +kernel
theorem dL_finish_15 : decode cL_finish 15 = .ok (.ireturn, 1) := by decide +kernel
theorem dL_append_0 : decode cL_append 0 = .ok (.aload_n 2, 1) := by decide +kernel
theorem dL_append_1 : decode cL_append 1 = .ok (.iconst 0, 1) := by decide +kernel
theorem dL_append_2 : decode cL_append 2 = .ok (.aload_n 0, 1) := by decide +kernel
theorem dL_append_3 : decode cL_append 3 = .ok (.iload_n 1, 1) := by decide +kernel
theorem dL_append_4 : decode cL_append 4 = .ok (.invokevirtual 38, 3) := by decide +kernel
theorem dL_append_7 : decode cL_append 7 = .ok (.i2l, 1) := by decide +kernel
theorem dL_append_8 : decode cL_append 8 = .ok (.lastore, 1) := by decide +kernel
theorem dL_append_9 : decode cL_append 9 = .ok (.goto 9, 3) := by decide +kernel
theorem dL_append_12 : decode cL_append 12 = .ok (.astore_n 3, 1) := by decide +kernel
theorem dL_append_13 : decode cL_append 13 = .ok (.iconst 1, 1) := by decide +kernel
theorem dL_append_14 : decode cL_append 14 = .ok (.ireturn, 1) := by decide +kernel
theorem dL_append_15 : decode cL_append 15 = .ok (.astore_n 3, 1) := by decide +kernel
theorem dL_append_16 : decode cL_append 16 = .ok (.iconst 2, 1) := by decide +kernel
theorem dL_append_17 : decode cL_append 17 = .ok (.ireturn, 1) := by decide +kernel
theorem dL_append_18 : decode cL_append 18 = .ok (.iconst 0, 1) := by decide +kernel
theorem dL_append_19 : decode cL_append 19 = .ok (.ireturn, 1) := by decide +kernel
theorem dL_writeRow_0 : decode cL_writeRow 0 = .ok (.aload_n 2, 1) := by decide +kernel
theorem dL_writeRow_1 : decode cL_writeRow 1 = .ok (.iconst 0, 1) := by decide +kernel
theorem dL_writeRow_2 : decode cL_writeRow 2 = .ok (.aload_n 0, 1) := by decide +kernel
theorem dL_writeRow_3 : decode cL_writeRow 3 = .ok (.iload_n 1, 1) := by decide +kernel
theorem dL_writeRow_4 : decode cL_writeRow 4 = .ok (.invokevirtual 41, 3) := by decide +kernel
theorem dL_writeRow_7 : decode cL_writeRow 7 = .ok (.i2l, 1) := by decide +kernel
theorem dL_writeRow_8 : decode cL_writeRow 8 = .ok (.lastore, 1) := by decide +kernel
theorem dL_writeRow_9 : decode cL_writeRow 9 = .ok (.goto 12, 3) := by decide +kernel
theorem dL_writeRow_12 : decode cL_writeRow 12 = .ok (.astore_n 3, 1) := by decide +kernel
theorem dL_writeRow_13 : decode cL_writeRow 13 = .ok (.iconst 1, 1) := by decide +kernel
theorem dL_writeRow_14 : decode cL_writeRow 14 = .ok (.ireturn, 1) := by decide +kernel
theorem dL_writeRow_15 : decode cL_writeRow 15 = .ok (.astore_n 3, 1) := by decide +kernel
theorem dL_writeRow_16 : decode cL_writeRow 16 = .ok (.iconst 2, 1) := by decide +kernel
theorem dL_writeRow_17 : decode cL_writeRow 17 = .ok (.ireturn, 1) := by decide +kernel
theorem dL_writeRow_18 : decode cL_writeRow 18 = .ok (.astore_n 3, 1) := by decide +kernel
theorem dL_writeRow_19 : decode cL_writeRow 19 = .ok (.iconst 3, 1) := by decide +kernel
theorem dL_writeRow_20 : decode cL_writeRow 20 = .ok (.ireturn, 1) := by decide +kernel
theorem dL_writeRow_21 : decode cL_writeRow 21 = .ok (.iconst 0, 1) := by decide +kernel
theorem dL_writeRow_22 : decode cL_writeRow 22 = .ok (.ireturn, 1) := by decide +kernel
theorem dL_keep_0 : decode cL_keep 0 = .ok (.aload_n 0, 1) := by decide +kernel
theorem dL_keep_1 : decode cL_keep 1 = .ok (.iload_n 1, 1) := by decide +kernel
theorem dL_keep_2 : decode cL_keep 2 = .ok (.invokevirtual 44, 3) := by decide +kernel
theorem dL_keep_5 : decode cL_keep 5 = .ok (.goto 6, 3) := by decide +kernel
theorem dL_keep_8 : decode cL_keep 8 = .ok (.astore_n 2, 1) := by decide +kernel
theorem dL_keep_9 : decode cL_keep 9 = .ok (.iconst 1, 1) := by decide +kernel
theorem dL_keep_10 : decode cL_keep 10 = .ok (.ireturn, 1) := by decide +kernel
theorem dL_keep_11 : decode cL_keep 11 = .ok (.iconst 0, 1) := by decide +kernel
theorem dL_keep_12 : decode cL_keep 12 = .ok (.ireturn, 1) := by decide +kernel
theorem dL_goBack_0 : decode cL_goBack 0 = .ok (.aload_n 0, 1) := by decide +kernel
theorem dL_goBack_1 : decode cL_goBack 1 = .ok (.iload_n 1, 1) := by decide +kernel
theorem dL_goBack_2 : decode cL_goBack 2 = .ok (.invokevirtual 48, 3) := by decide +kernel
theorem dL_goBack_5 : decode cL_goBack 5 = .ok (.goto 9, 3) := by decide +kernel
theorem dL_goBack_8 : decode cL_goBack 8 = .ok (.astore_n 2, 1) := by decide +kernel
theorem dL_goBack_9 : decode cL_goBack 9 = .ok (.iconst 1, 1) := by decide +kernel
theorem dL_goBack_10 : decode cL_goBack 10 = .ok (.ireturn, 1) := by decide +kernel
theorem dL_goBack_11 : decode cL_goBack 11 = .ok (.astore_n 2, 1) := by decide +kernel
theorem dL_goBack_12 : decode cL_goBack 12 = .ok (.iconst 2, 1) := by decide +kernel
theorem dL_goBack_13 : decode cL_goBack 13 = .ok (.ireturn, 1) := by decide +kernel
theorem dL_goBack_14 : decode cL_goBack 14 = .ok (.iconst 0, 1) := by decide +kernel
theorem dL_goBack_15 : decode cL_goBack 15 = .ok (.ireturn, 1) := by decide +kernel
theorem dL_undo_0 : decode cL_undo 0 = .ok (.aload_n 0, 1) := by decide +kernel
theorem dL_undo_1 : decode cL_undo 1 = .ok (.invokevirtual 51, 3) := by decide +kernel
theorem dL_undo_4 : decode cL_undo 4 = .ok (.goto 6, 3) := by decide +kernel
theorem dL_undo_7 : decode cL_undo 7 = .ok (.astore_n 1, 1) := by decide +kernel
theorem dL_undo_8 : decode cL_undo 8 = .ok (.iconst 1, 1) := by decide +kernel
theorem dL_undo_9 : decode cL_undo 9 = .ok (.ireturn, 1) := by decide +kernel
theorem dL_undo_10 : decode cL_undo 10 = .ok (.iconst 0, 1) := by decide +kernel
theorem dL_undo_11 : decode cL_undo 11 = .ok (.ireturn, 1) := by decide +kernel
theorem dL_numberAt_0 : decode cL_numberAt 0 = .ok (.aload_n 3, 1) := by decide +kernel
theorem dL_numberAt_1 : decode cL_numberAt 1 = .ok (.iconst 0, 1) := by decide +kernel
theorem dL_numberAt_2 : decode cL_numberAt 2 = .ok (.aload_n 0, 1) := by decide +kernel
theorem dL_numberAt_3 : decode cL_numberAt 3 = .ok (.iload_n 1, 1) := by decide +kernel
theorem dL_numberAt_4 : decode cL_numberAt 4 = .ok (.iload_n 2, 1) := by decide +kernel
theorem dL_numberAt_5 : decode cL_numberAt 5 = .ok (.invokevirtual 54, 3) := by decide +kernel
theorem dL_numberAt_8 : decode cL_numberAt 8 = .ok (.i2l, 1) := by decide +kernel
theorem dL_numberAt_9 : decode cL_numberAt 9 = .ok (.lastore, 1) := by decide +kernel
theorem dL_numberAt_10 : decode cL_numberAt 10 = .ok (.goto 7, 3) := by decide +kernel
theorem dL_numberAt_13 : decode cL_numberAt 13 = .ok (.astore 4, 2) := by decide +kernel
theorem dL_numberAt_15 : decode cL_numberAt 15 = .ok (.iconst 1, 1) := by decide +kernel
theorem dL_numberAt_16 : decode cL_numberAt 16 = .ok (.ireturn, 1) := by decide +kernel
theorem dL_numberAt_17 : decode cL_numberAt 17 = .ok (.iconst 0, 1) := by decide +kernel
theorem dL_numberAt_18 : decode cL_numberAt 18 = .ok (.ireturn, 1) := by decide +kernel
theorem dL_isInField_0 : decode cL_isInField 0 = .ok (.aload_n 3, 1) := by decide +kernel
theorem dL_isInField_1 : decode cL_isInField 1 = .ok (.iconst 0, 1) := by decide +kernel
theorem dL_isInField_2 : decode cL_isInField 2 = .ok (.aload_n 0, 1) := by decide +kernel
theorem dL_isInField_3 : decode cL_isInField 3 = .ok (.iload_n 1, 1) := by decide +kernel
theorem dL_isInField_4 : decode cL_isInField 4 = .ok (.iload_n 2, 1) := by decide +kernel
theorem dL_isInField_5 : decode cL_isInField 5 = .ok (.invokevirtual 57, 3) := by decide +kernel
theorem dL_isInField_8 : decode cL_isInField 8 = .ok (.ifCond .eq 7, 3) := by decide +kernel
theorem dL_isInField_11 : decode cL_isInField 11 = .ok (.lconst 1, 1) := by decide +kernel
theorem dL_isInField_12 : decode cL_isInField 12 = .ok (.goto 4, 3) := by decide +kernel
theorem dL_isInField_15 : decode cL_isInField 15 = .ok (.lconst 0, 1) := by decide +kernel
theorem dL_isInField_16 : decode cL_isInField 16 = .ok (.lastore, 1) := by decide +kernel
theorem dL_isInField_17 : decode cL_isInField 17 = .ok (.goto 7, 3) := by decide +kernel
theorem dL_isInField_20 : decode cL_isInField 20 = .ok (.astore 4, 2) := by decide +kernel
theorem dL_isInField_22 : decode cL_isInField 22 = .ok (.iconst 1, 1) := by decide +kernel
theorem dL_isInField_23 : decode cL_isInField 23 = .ok (.ireturn, 1) := by decide +kernel
theorem dL_isInField_24 : decode cL_isInField 24 = .ok (.iconst 0, 1) := by decide +kernel
theorem dL_isInField_25 : decode cL_isInField 25 = .ok (.ireturn, 1) := by decide +kernel
theorem dL_fieldSize_0 : decode cL_fieldSize 0 = .ok (.aload_n 3, 1) := by decide +kernel
theorem dL_fieldSize_1 : decode cL_fieldSize 1 = .ok (.iconst 0, 1) := by decide +kernel
theorem dL_fieldSize_2 : decode cL_fieldSize 2 = .ok (.aload_n 0, 1) := by decide +kernel
theorem dL_fieldSize_3 : decode cL_fieldSize 3 = .ok (.iload_n 1, 1) := by decide +kernel
theorem dL_fieldSize_4 : decode cL_fieldSize 4 = .ok (.iload_n 2, 1) := by decide +kernel
theorem dL_fieldSize_5 : decode cL_fieldSize 5 = .ok (.invokevirtual 61, 3) := by decide +kernel
theorem dL_fieldSize_8 : decode cL_fieldSize 8 = .ok (.i2l, 1) := by decide +kernel
theorem dL_fieldSize_9 : decode cL_fieldSize 9 = .ok (.lastore, 1) := by decide +kernel
theorem dL_fieldSize_10 : decode cL_fieldSize 10 = .ok (.goto 11, 3) := by decide +kernel
theorem dL_fieldSize_13 : decode cL_fieldSize 13 = .ok (.astore 4, 2) := by decide +kernel
theorem dL_fieldSize_15 : decode cL_fieldSize 15 = .ok (.iconst 1, 1) := by decide +kernel
theorem dL_fieldSize_16 : decode cL_fieldSize 16 = .ok (.ireturn, 1) := by decide +kernel
theorem dL_fieldSize_17 : decode cL_fieldSize 17 = .ok (.astore 4, 2) := by decide +kernel
theorem dL_fieldSize_19 : decode cL_fieldSize 19 = .ok (.iconst 2, 1) := by decide +kernel
theorem dL_fieldSize_20 : decode cL_fieldSize 20 = .ok (.ireturn, 1) := by decide +kernel
theorem dL_fieldSize_21 : decode cL_fieldSize 21 = .ok (.iconst 0, 1) := by decide +kernel
theorem dL_fieldSize_22 : decode cL_fieldSize 22 = .ok (.ireturn, 1) := by decide +kernel
theorem dL_cornerOf_0 : decode cL_cornerOf 0 = .ok (.aload_n 3, 1) := by decide +kernel
theorem dL_cornerOf_1 : decode cL_cornerOf 1 = .ok (.iconst 0, 1) := by decide +kernel
theorem dL_cornerOf_2 : decode cL_cornerOf 2 = .ok (.aload_n 0, 1) := by decide +kernel
theorem dL_cornerOf_3 : decode cL_cornerOf 3 = .ok (.iload_n 1, 1) := by decide +kernel
theorem dL_cornerOf_4 : decode cL_cornerOf 4 = .ok (.iload_n 2, 1) := by decide +kernel
theorem dL_cornerOf_5 : decode cL_cornerOf 5 = .ok (.invokevirtual 64, 3) := by decide +kernel
theorem dL_cornerOf_8 : decode cL_cornerOf 8 = .ok (.i2l, 1) := by decide +kernel
theorem dL_cornerOf_9 : decode cL_cornerOf 9 = .ok (.lastore, 1) := by decide +kernel
theorem dL_cornerOf_10 : decode cL_cornerOf 10 = .ok (.goto 11, 3) := by decide +kernel
theorem dL_cornerOf_13 : decode cL_cornerOf 13 = .ok (.astore 4, 2) := by decide +kernel
theorem dL_cornerOf_15 : decode cL_cornerOf 15 = .ok (.iconst 1, 1) := by decide +kernel
theorem dL_cornerOf_16 : decode cL_cornerOf 16 = .ok (.ireturn, 1) := by decide +kernel
theorem dL_cornerOf_17 : decode cL_cornerOf 17 = .ok (.astore 4, 2) := by decide +kernel
theorem dL_cornerOf_19 : decode cL_cornerOf 19 = .ok (.iconst 2, 1) := by decide +kernel
theorem dL_cornerOf_20 : decode cL_cornerOf 20 = .ok (.ireturn, 1) := by decide +kernel
theorem dL_cornerOf_21 : decode cL_cornerOf 21 = .ok (.iconst 0, 1) := by decide +kernel
theorem dL_cornerOf_22 : decode cL_cornerOf 22 = .ok (.ireturn, 1) := by decide +kernel
theorem dL_reasonAgainst_0 : decode cL_reasonAgainst 0 = .ok (.aload 5, 2) := by decide +kernel
theorem dL_reasonAgainst_2 : decode cL_reasonAgainst 2 = .ok (.iconst 0, 1) := by decide +kernel
theorem dL_reasonAgainst_3 : decode cL_reasonAgainst 3 = .ok (.aload_n 0, 1) := by decide +kernel
theorem dL_reasonAgainst_4 : decode cL_reasonAgainst 4 = .ok (.iload_n 1, 1) := by decide +kernel
theorem dL_reasonAgainst_5 : decode cL_reasonAgainst 5 = .ok (.iload_n 2, 1) := by decide +kernel
theorem dL_reasonAgainst_6 : decode cL_reasonAgainst 6 = .ok (.iload_n 3, 1) := by decide +kernel
theorem dL_reasonAgainst_7 : decode cL_reasonAgainst 7 = .ok (.iload 4, 2) := by decide +kernel
theorem dL_reasonAgainst_9 : decode cL_reasonAgainst 9 = .ok (.invokevirtual 67, 3) := by decide +kernel
theorem dL_reasonAgainst_12 : decode cL_reasonAgainst 12 = .ok (.i2l, 1) := by decide +kernel
theorem dL_reasonAgainst_13 : decode cL_reasonAgainst 13 = .ok (.lastore, 1) := by decide +kernel
theorem dL_reasonAgainst_14 : decode cL_reasonAgainst 14 = .ok (.goto 7, 3) := by decide +kernel
theorem dL_reasonAgainst_17 : decode cL_reasonAgainst 17 = .ok (.astore 6, 2) := by decide +kernel
theorem dL_reasonAgainst_19 : decode cL_reasonAgainst 19 = .ok (.iconst 1, 1) := by decide +kernel
theorem dL_reasonAgainst_20 : decode cL_reasonAgainst 20 = .ok (.ireturn, 1) := by decide +kernel
theorem dL_reasonAgainst_21 : decode cL_reasonAgainst 21 = .ok (.iconst 0, 1) := by decide +kernel
theorem dL_reasonAgainst_22 : decode cL_reasonAgainst 22 = .ok (.ireturn, 1) := by decide +kernel
theorem dL_possibleFor_0 : decode cL_possibleFor 0 = .ok (.aload_n 3, 1) := by decide +kernel
theorem dL_possibleFor_1 : decode cL_possibleFor 1 = .ok (.iconst 0, 1) := by decide +kernel
theorem dL_possibleFor_2 : decode cL_possibleFor 2 = .ok (.aload_n 0, 1) := by decide +kernel
theorem dL_possibleFor_3 : decode cL_possibleFor 3 = .ok (.iload_n 1, 1) := by decide +kernel
theorem dL_possibleFor_4 : decode cL_possibleFor 4 = .ok (.iload_n 2, 1) := by decide +kernel
theorem dL_possibleFor_5 : decode cL_possibleFor 5 = .ok (.invokevirtual 70, 3) := by decide +kernel
theorem dL_possibleFor_8 : decode cL_possibleFor 8 = .ok (.i2l, 1) := by decide +kernel
theorem dL_possibleFor_9 : decode cL_possibleFor 9 = .ok (.lastore, 1) := by decide +kernel
theorem dL_possibleFor_10 : decode cL_possibleFor 10 = .ok (.goto 7, 3) := by decide +kernel
theorem dL_possibleFor_13 : decode cL_possibleFor 13 = .ok (.astore 4, 2) := by decide +kernel
theorem dL_possibleFor_15 : decode cL_possibleFor 15 = .ok (.iconst 1, 1) := by decide +kernel
theorem dL_possibleFor_16 : decode cL_possibleFor 16 = .ok (.ireturn, 1) := by decide +kernel
theorem dL_possibleFor_17 : decode cL_possibleFor 17 = .ok (.iconst 0, 1) := by decide +kernel
theorem dL_possibleFor_18 : decode cL_possibleFor 18 = .ok (.ireturn, 1) := by decide +kernel
theorem dL_possibleAt_0 : decode cL_possibleAt 0 = .ok (.aload 4, 2) := by decide +kernel
theorem dL_possibleAt_2 : decode cL_possibleAt 2 = .ok (.iconst 0, 1) := by decide +kernel
theorem dL_possibleAt_3 : decode cL_possibleAt 3 = .ok (.aload_n 0, 1) := by decide +kernel
theorem dL_possibleAt_4 : decode cL_possibleAt 4 = .ok (.iload_n 1, 1) := by decide +kernel
theorem dL_possibleAt_5 : decode cL_possibleAt 5 = .ok (.iload_n 2, 1) := by decide +kernel
theorem dL_possibleAt_6 : decode cL_possibleAt 6 = .ok (.iload_n 3, 1) := by decide +kernel
theorem dL_possibleAt_7 : decode cL_possibleAt 7 = .ok (.invokevirtual 73, 3) := by decide +kernel
theorem dL_possibleAt_10 : decode cL_possibleAt 10 = .ok (.i2l, 1) := by decide +kernel
theorem dL_possibleAt_11 : decode cL_possibleAt 11 = .ok (.lastore, 1) := by decide +kernel
theorem dL_possibleAt_12 : decode cL_possibleAt 12 = .ok (.goto 7, 3) := by decide +kernel
theorem dL_possibleAt_15 : decode cL_possibleAt 15 = .ok (.astore 5, 2) := by decide +kernel
theorem dL_possibleAt_17 : decode cL_possibleAt 17 = .ok (.iconst 1, 1) := by decide +kernel
theorem dL_possibleAt_18 : decode cL_possibleAt 18 = .ok (.ireturn, 1) := by decide +kernel
theorem dL_possibleAt_19 : decode cL_possibleAt 19 = .ok (.iconst 0, 1) := by decide +kernel
theorem dL_possibleAt_20 : decode cL_possibleAt 20 = .ok (.ireturn, 1) := by decide +kernel
theorem dL_coveredBy_0 : decode cL_coveredBy 0 = .ok (.aload_n 3, 1) := by decide +kernel
theorem dL_coveredBy_1 : decode cL_coveredBy 1 = .ok (.iconst 0, 1) := by decide +kernel
theorem dL_coveredBy_2 : decode cL_coveredBy 2 = .ok (.aload_n 0, 1) := by decide +kernel
theorem dL_coveredBy_3 : decode cL_coveredBy 3 = .ok (.iload_n 1, 1) := by decide +kernel
theorem dL_coveredBy_4 : decode cL_coveredBy 4 = .ok (.iload_n 2, 1) := by decide +kernel
theorem dL_coveredBy_5 : decode cL_coveredBy 5 = .ok (.invokevirtual 76, 3) := by decide +kernel
theorem dL_coveredBy_8 : decode cL_coveredBy 8 = .ok (.i2l, 1) := by decide +kernel
theorem dL_coveredBy_9 : decode cL_coveredBy 9 = .ok (.lastore, 1) := by decide +kernel
theorem dL_coveredBy_10 : decode cL_coveredBy 10 = .ok (.goto 7, 3) := by decide +kernel
theorem dL_coveredBy_13 : decode cL_coveredBy 13 = .ok (.astore 4, 2) := by decide +kernel
theorem dL_coveredBy_15 : decode cL_coveredBy 15 = .ok (.iconst 1, 1) := by decide +kernel
theorem dL_coveredBy_16 : decode cL_coveredBy 16 = .ok (.ireturn, 1) := by decide +kernel
theorem dL_coveredBy_17 : decode cL_coveredBy 17 = .ok (.iconst 0, 1) := by decide +kernel
theorem dL_coveredBy_18 : decode cL_coveredBy 18 = .ok (.ireturn, 1) := by decide +kernel
theorem dL_claimedBy_0 : decode cL_claimedBy 0 = .ok (.aload_n 3, 1) := by decide +kernel
theorem dL_claimedBy_1 : decode cL_claimedBy 1 = .ok (.iconst 0, 1) := by decide +kernel
theorem dL_claimedBy_2 : decode cL_claimedBy 2 = .ok (.aload_n 0, 1) := by decide +kernel
theorem dL_claimedBy_3 : decode cL_claimedBy 3 = .ok (.iload_n 1, 1) := by decide +kernel
theorem dL_claimedBy_4 : decode cL_claimedBy 4 = .ok (.iload_n 2, 1) := by decide +kernel
theorem dL_claimedBy_5 : decode cL_claimedBy 5 = .ok (.invokevirtual 79, 3) := by decide +kernel
theorem dL_claimedBy_8 : decode cL_claimedBy 8 = .ok (.i2l, 1) := by decide +kernel
theorem dL_claimedBy_9 : decode cL_claimedBy 9 = .ok (.lastore, 1) := by decide +kernel
theorem dL_claimedBy_10 : decode cL_claimedBy 10 = .ok (.goto 7, 3) := by decide +kernel
theorem dL_claimedBy_13 : decode cL_claimedBy 13 = .ok (.astore 4, 2) := by decide +kernel
theorem dL_claimedBy_15 : decode cL_claimedBy 15 = .ok (.iconst 1, 1) := by decide +kernel
theorem dL_claimedBy_16 : decode cL_claimedBy 16 = .ok (.ireturn, 1) := by decide +kernel
theorem dL_claimedBy_17 : decode cL_claimedBy 17 = .ok (.iconst 0, 1) := by decide +kernel
theorem dL_claimedBy_18 : decode cL_claimedBy 18 = .ok (.ireturn, 1) := by decide +kernel
theorem dL_leftFor_0 : decode cL_leftFor 0 = .ok (.aload_n 3, 1) := by decide +kernel
theorem dL_leftFor_1 : decode cL_leftFor 1 = .ok (.iconst 0, 1) := by decide +kernel
theorem dL_leftFor_2 : decode cL_leftFor 2 = .ok (.aload_n 0, 1) := by decide +kernel
theorem dL_leftFor_3 : decode cL_leftFor 3 = .ok (.iload_n 1, 1) := by decide +kernel
theorem dL_leftFor_4 : decode cL_leftFor 4 = .ok (.iload_n 2, 1) := by decide +kernel
theorem dL_leftFor_5 : decode cL_leftFor 5 = .ok (.invokevirtual 82, 3) := by decide +kernel
theorem dL_leftFor_8 : decode cL_leftFor 8 = .ok (.i2l, 1) := by decide +kernel
theorem dL_leftFor_9 : decode cL_leftFor 9 = .ok (.lastore, 1) := by decide +kernel
theorem dL_leftFor_10 : decode cL_leftFor 10 = .ok (.goto 7, 3) := by decide +kernel
theorem dL_leftFor_13 : decode cL_leftFor 13 = .ok (.astore 4, 2) := by decide +kernel
theorem dL_leftFor_15 : decode cL_leftFor 15 = .ok (.iconst 1, 1) := by decide +kernel
theorem dL_leftFor_16 : decode cL_leftFor 16 = .ok (.ireturn, 1) := by decide +kernel
theorem dL_leftFor_17 : decode cL_leftFor 17 = .ok (.iconst 0, 1) := by decide +kernel
theorem dL_leftFor_18 : decode cL_leftFor 18 = .ok (.ireturn, 1) := by decide +kernel
theorem dL_certain_0 : decode cL_certain 0 = .ok (.aload_n 1, 1) := by decide +kernel
theorem dL_certain_1 : decode cL_certain 1 = .ok (.iconst 0, 1) := by decide +kernel
theorem dL_certain_2 : decode cL_certain 2 = .ok (.aload_n 0, 1) := by decide +kernel
theorem dL_certain_3 : decode cL_certain 3 = .ok (.invokevirtual 85, 3) := by decide +kernel
theorem dL_certain_6 : decode cL_certain 6 = .ok (.i2l, 1) := by decide +kernel
theorem dL_certain_7 : decode cL_certain 7 = .ok (.lastore, 1) := by decide +kernel
theorem dL_certain_8 : decode cL_certain 8 = .ok (.goto 6, 3) := by decide +kernel
theorem dL_certain_11 : decode cL_certain 11 = .ok (.astore_n 2, 1) := by decide +kernel
theorem dL_certain_12 : decode cL_certain 12 = .ok (.iconst 1, 1) := by decide +kernel
theorem dL_certain_13 : decode cL_certain 13 = .ok (.ireturn, 1) := by decide +kernel
theorem dL_certain_14 : decode cL_certain 14 = .ok (.iconst 0, 1) := by decide +kernel
theorem dL_certain_15 : decode cL_certain 15 = .ok (.ireturn, 1) := by decide +kernel
theorem dL_hint_0 : decode cL_hint 0 = .ok (.aload_n 1, 1) := by decide +kernel
theorem dL_hint_1 : decode cL_hint 1 = .ok (.iconst 0, 1) := by decide +kernel
theorem dL_hint_2 : decode cL_hint 2 = .ok (.aload_n 0, 1) := by decide +kernel
theorem dL_hint_3 : decode cL_hint 3 = .ok (.invokevirtual 88, 3) := by decide +kernel
theorem dL_hint_6 : decode cL_hint 6 = .ok (.i2l, 1) := by decide +kernel
theorem dL_hint_7 : decode cL_hint 7 = .ok (.lastore, 1) := by decide +kernel
theorem dL_hint_8 : decode cL_hint 8 = .ok (.goto 6, 3) := by decide +kernel
theorem dL_hint_11 : decode cL_hint 11 = .ok (.astore_n 2, 1) := by decide +kernel
theorem dL_hint_12 : decode cL_hint 12 = .ok (.iconst 1, 1) := by decide +kernel
theorem dL_hint_13 : decode cL_hint 13 = .ok (.ireturn, 1) := by decide +kernel
theorem dL_hint_14 : decode cL_hint 14 = .ok (.iconst 0, 1) := by decide +kernel
theorem dL_hint_15 : decode cL_hint 15 = .ok (.ireturn, 1) := by decide +kernel
theorem dL_sizeInFirst_0 : decode cL_sizeInFirst 0 = .ok (.aload_n 3, 1) := by decide +kernel
theorem dL_sizeInFirst_1 : decode cL_sizeInFirst 1 = .ok (.iconst 0, 1) := by decide +kernel
theorem dL_sizeInFirst_2 : decode cL_sizeInFirst 2 = .ok (.aload_n 0, 1) := by decide +kernel
theorem dL_sizeInFirst_3 : decode cL_sizeInFirst 3 = .ok (.iload_n 1, 1) := by decide +kernel
theorem dL_sizeInFirst_4 : decode cL_sizeInFirst 4 = .ok (.iload_n 2, 1) := by decide +kernel
theorem dL_sizeInFirst_5 : decode cL_sizeInFirst 5 = .ok (.invokevirtual 91, 3) := by decide +kernel
theorem dL_sizeInFirst_8 : decode cL_sizeInFirst 8 = .ok (.i2l, 1) := by decide +kernel
theorem dL_sizeInFirst_9 : decode cL_sizeInFirst 9 = .ok (.lastore, 1) := by decide +kernel
theorem dL_sizeInFirst_10 : decode cL_sizeInFirst 10 = .ok (.goto 11, 3) := by decide +kernel
theorem dL_sizeInFirst_13 : decode cL_sizeInFirst 13 = .ok (.astore 4, 2) := by decide +kernel
theorem dL_sizeInFirst_15 : decode cL_sizeInFirst 15 = .ok (.iconst 1, 1) := by decide +kernel
theorem dL_sizeInFirst_16 : decode cL_sizeInFirst 16 = .ok (.ireturn, 1) := by decide +kernel
theorem dL_sizeInFirst_17 : decode cL_sizeInFirst 17 = .ok (.astore 4, 2) := by decide +kernel
theorem dL_sizeInFirst_19 : decode cL_sizeInFirst 19 = .ok (.iconst 2, 1) := by decide +kernel
theorem dL_sizeInFirst_20 : decode cL_sizeInFirst 20 = .ok (.ireturn, 1) := by decide +kernel
theorem dL_sizeInFirst_21 : decode cL_sizeInFirst 21 = .ok (.iconst 0, 1) := by decide +kernel
theorem dL_sizeInFirst_22 : decode cL_sizeInFirst 22 = .ok (.ireturn, 1) := by decide +kernel
theorem dL_cornerInFirst_0 : decode cL_cornerInFirst 0 = .ok (.aload_n 3, 1) := by decide +kernel
theorem dL_cornerInFirst_1 : decode cL_cornerInFirst 1 = .ok (.iconst 0, 1) := by decide +kernel
theorem dL_cornerInFirst_2 : decode cL_cornerInFirst 2 = .ok (.aload_n 0, 1) := by decide +kernel
theorem dL_cornerInFirst_3 : decode cL_cornerInFirst 3 = .ok (.iload_n 1, 1) := by decide +kernel
theorem dL_cornerInFirst_4 : decode cL_cornerInFirst 4 = .ok (.iload_n 2, 1) := by decide +kernel
theorem dL_cornerInFirst_5 : decode cL_cornerInFirst 5 = .ok (.invokevirtual 94, 3) := by decide +kernel
theorem dL_cornerInFirst_8 : decode cL_cornerInFirst 8 = .ok (.i2l, 1) := by decide +kernel
theorem dL_cornerInFirst_9 : decode cL_cornerInFirst 9 = .ok (.lastore, 1) := by decide +kernel
theorem dL_cornerInFirst_10 : decode cL_cornerInFirst 10 = .ok (.goto 11, 3) := by decide +kernel
theorem dL_cornerInFirst_13 : decode cL_cornerInFirst 13 = .ok (.astore 4, 2) := by decide +kernel
theorem dL_cornerInFirst_15 : decode cL_cornerInFirst 15 = .ok (.iconst 1, 1) := by decide +kernel
theorem dL_cornerInFirst_16 : decode cL_cornerInFirst 16 = .ok (.ireturn, 1) := by decide +kernel
theorem dL_cornerInFirst_17 : decode cL_cornerInFirst 17 = .ok (.astore 4, 2) := by decide +kernel
theorem dL_cornerInFirst_19 : decode cL_cornerInFirst 19 = .ok (.iconst 2, 1) := by decide +kernel
theorem dL_cornerInFirst_20 : decode cL_cornerInFirst 20 = .ok (.ireturn, 1) := by decide +kernel
theorem dL_cornerInFirst_21 : decode cL_cornerInFirst 21 = .ok (.iconst 0, 1) := by decide +kernel
theorem dL_cornerInFirst_22 : decode cL_cornerInFirst 22 = .ok (.ireturn, 1) := by decide +kernel
theorem dL_strayFields_0 : decode cL_strayFields 0 = .ok (.aload_n 1, 1) := by decide +kernel
theorem dL_strayFields_1 : decode cL_strayFields 1 = .ok (.iconst 0, 1) := by decide +kernel
theorem dL_strayFields_2 : decode cL_strayFields 2 = .ok (.aload_n 0, 1) := by decide +kernel
theorem dL_strayFields_3 : decode cL_strayFields 3 = .ok (.invokevirtual 97, 3) := by decide +kernel
theorem dL_strayFields_6 : decode cL_strayFields 6 = .ok (.i2l, 1) := by decide +kernel
theorem dL_strayFields_7 : decode cL_strayFields 7 = .ok (.lastore, 1) := by decide +kernel
theorem dL_strayFields_8 : decode cL_strayFields 8 = .ok (.goto 6, 3) := by decide +kernel
theorem dL_strayFields_11 : decode cL_strayFields 11 = .ok (.astore_n 2, 1) := by decide +kernel
theorem dL_strayFields_12 : decode cL_strayFields 12 = .ok (.iconst 1, 1) := by decide +kernel
theorem dL_strayFields_13 : decode cL_strayFields 13 = .ok (.ireturn, 1) := by decide +kernel
theorem dL_strayFields_14 : decode cL_strayFields 14 = .ok (.iconst 0, 1) := by decide +kernel
theorem dL_strayFields_15 : decode cL_strayFields 15 = .ok (.ireturn, 1) := by decide +kernel
