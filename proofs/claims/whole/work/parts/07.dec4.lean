theorem dL_setTask_0 : decode cL_setTask 0 = .ok (.aload_n 3, 1) := by decide +kernel
theorem dL_setTask_1 : decode cL_setTask 1 = .ok (.iconst 0, 1) := by decide +kernel
theorem dL_setTask_2 : decode cL_setTask 2 = .ok (.aload_n 0, 1) := by decide +kernel
theorem dL_setTask_3 : decode cL_setTask 3 = .ok (.iload_n 1, 1) := by decide +kernel
theorem dL_setTask_4 : decode cL_setTask 4 = .ok (.iload_n 2, 1) := by decide +kernel
theorem dL_setTask_5 : decode cL_setTask 5 = .ok (.invokevirtual 39, 3) := by decide +kernel
theorem dL_setTask_8 : decode cL_setTask 8 = .ok (.i2l, 1) := by decide +kernel
theorem dL_setTask_9 : decode cL_setTask 9 = .ok (.lastore, 1) := by decide +kernel
theorem dL_setTask_10 : decode cL_setTask 10 = .ok (.goto 7, 3) := by decide +kernel
theorem dL_setTask_13 : decode cL_setTask 13 = .ok (.astore 4, 2) := by decide +kernel
theorem dL_setTask_15 : decode cL_setTask 15 = .ok (.iconst 1, 1) := by decide +kernel
theorem dL_setTask_16 : decode cL_setTask 16 = .ok (.ireturn, 1) := by decide +kernel
theorem dL_setTask_17 : decode cL_setTask 17 = .ok (.iconst 0, 1) := by decide +kernel
theorem dL_setTask_18 : decode cL_setTask 18 = .ok (.ireturn, 1) := by decide +kernel
theorem dL_append_0 : decode cL_append 0 = .ok (.aload 6, 2) := by decide +kernel
theorem dL_append_2 : decode cL_append 2 = .ok (.iconst 0, 1) := by decide +kernel
theorem dL_append_3 : decode cL_append 3 = .ok (.aload_n 0, 1) := by decide +kernel
theorem dL_append_4 : decode cL_append 4 = .ok (.iload_n 1, 1) := by decide +kernel
theorem dL_append_5 : decode cL_append 5 = .ok (.iload_n 2, 1) := by decide +kernel
theorem dL_append_6 : decode cL_append 6 = .ok (.iload_n 3, 1) := by decide +kernel
theorem dL_append_7 : decode cL_append 7 = .ok (.iload 4, 2) := by decide +kernel
theorem dL_append_9 : decode cL_append 9 = .ok (.iload 5, 2) := by decide +kernel
theorem dL_append_11 : decode cL_append 11 = .ok (.invokevirtual 42, 3) := by decide +kernel
theorem dL_append_14 : decode cL_append 14 = .ok (.i2l, 1) := by decide +kernel
theorem dL_append_15 : decode cL_append 15 = .ok (.lastore, 1) := by decide +kernel
theorem dL_append_16 : decode cL_append 16 = .ok (.goto 11, 3) := by decide +kernel
theorem dL_append_19 : decode cL_append 19 = .ok (.astore 7, 2) := by decide +kernel
theorem dL_append_21 : decode cL_append 21 = .ok (.iconst 1, 1) := by decide +kernel
theorem dL_append_22 : decode cL_append 22 = .ok (.ireturn, 1) := by decide +kernel
theorem dL_append_23 : decode cL_append 23 = .ok (.astore 7, 2) := by decide +kernel
theorem dL_append_25 : decode cL_append 25 = .ok (.iconst 2, 1) := by decide +kernel
theorem dL_append_26 : decode cL_append 26 = .ok (.ireturn, 1) := by decide +kernel
theorem dL_append_27 : decode cL_append 27 = .ok (.iconst 0, 1) := by decide +kernel
theorem dL_append_28 : decode cL_append 28 = .ok (.ireturn, 1) := by decide +kernel
theorem dL_setResult_0 : decode cL_setResult 0 = .ok (.aload_n 2, 1) := by decide +kernel
theorem dL_setResult_1 : decode cL_setResult 1 = .ok (.iconst 0, 1) := by decide +kernel
theorem dL_setResult_2 : decode cL_setResult 2 = .ok (.aload_n 0, 1) := by decide +kernel
theorem dL_setResult_3 : decode cL_setResult 3 = .ok (.iload_n 1, 1) := by decide +kernel
theorem dL_setResult_4 : decode cL_setResult 4 = .ok (.invokevirtual 48, 3) := by decide +kernel
theorem dL_setResult_7 : decode cL_setResult 7 = .ok (.i2l, 1) := by decide +kernel
theorem dL_setResult_8 : decode cL_setResult 8 = .ok (.lastore, 1) := by decide +kernel
theorem dL_setResult_9 : decode cL_setResult 9 = .ok (.goto 6, 3) := by decide +kernel
theorem dL_setResult_12 : decode cL_setResult 12 = .ok (.astore_n 3, 1) := by decide +kernel
theorem dL_setResult_13 : decode cL_setResult 13 = .ok (.iconst 1, 1) := by decide +kernel
theorem dL_setResult_14 : decode cL_setResult 14 = .ok (.ireturn, 1) := by decide +kernel
theorem dL_setResult_15 : decode cL_setResult 15 = .ok (.iconst 0, 1) := by decide +kernel
theorem dL_setResult_16 : decode cL_setResult 16 = .ok (.ireturn, 1) := by decide +kernel
theorem dL_drop_0 : decode cL_drop 0 = .ok (.aload_n 1, 1) := by decide +kernel
theorem dL_drop_1 : decode cL_drop 1 = .ok (.iconst 0, 1) := by decide +kernel
theorem dL_drop_2 : decode cL_drop 2 = .ok (.aload_n 0, 1) := by decide +kernel
theorem dL_drop_3 : decode cL_drop 3 = .ok (.invokevirtual 51, 3) := by decide +kernel
theorem dL_drop_6 : decode cL_drop 6 = .ok (.i2l, 1) := by decide +kernel
theorem dL_drop_7 : decode cL_drop 7 = .ok (.lastore, 1) := by decide +kernel
theorem dL_drop_8 : decode cL_drop 8 = .ok (.goto 6, 3) := by decide +kernel
theorem dL_drop_11 : decode cL_drop 11 = .ok (.astore_n 2, 1) := by decide +kernel
theorem dL_drop_12 : decode cL_drop 12 = .ok (.iconst 1, 1) := by decide +kernel
theorem dL_drop_13 : decode cL_drop 13 = .ok (.ireturn, 1) := by decide +kernel
theorem dL_drop_14 : decode cL_drop 14 = .ok (.iconst 0, 1) := by decide +kernel
theorem dL_drop_15 : decode cL_drop 15 = .ok (.ireturn, 1) := by decide +kernel
theorem dL_undo_0 : decode cL_undo 0 = .ok (.aload_n 1, 1) := by decide +kernel
theorem dL_undo_1 : decode cL_undo 1 = .ok (.iconst 0, 1) := by decide +kernel
theorem dL_undo_2 : decode cL_undo 2 = .ok (.aload_n 0, 1) := by decide +kernel
theorem dL_undo_3 : decode cL_undo 3 = .ok (.invokevirtual 55, 3) := by decide +kernel
theorem dL_undo_6 : decode cL_undo 6 = .ok (.i2l, 1) := by decide +kernel
theorem dL_undo_7 : decode cL_undo 7 = .ok (.lastore, 1) := by decide +kernel
theorem dL_undo_8 : decode cL_undo 8 = .ok (.goto 6, 3) := by decide +kernel
theorem dL_undo_11 : decode cL_undo 11 = .ok (.astore_n 2, 1) := by decide +kernel
theorem dL_undo_12 : decode cL_undo 12 = .ok (.iconst 1, 1) := by decide +kernel
theorem dL_undo_13 : decode cL_undo 13 = .ok (.ireturn, 1) := by decide +kernel
theorem dL_undo_14 : decode cL_undo 14 = .ok (.iconst 0, 1) := by decide +kernel
theorem dL_undo_15 : decode cL_undo 15 = .ok (.ireturn, 1) := by decide +kernel
theorem dL_operation_0 : decode cL_operation 0 = .ok (.aload_n 2, 1) := by decide +kernel
theorem dL_operation_1 : decode cL_operation 1 = .ok (.iconst 0, 1) := by decide +kernel
theorem dL_operation_2 : decode cL_operation 2 = .ok (.aload_n 0, 1) := by decide +kernel
theorem dL_operation_3 : decode cL_operation 3 = .ok (.iload_n 1, 1) := by decide +kernel
theorem dL_operation_4 : decode cL_operation 4 = .ok (.invokevirtual 58, 3) := by decide +kernel
theorem dL_operation_7 : decode cL_operation 7 = .ok (.i2l, 1) := by decide +kernel
theorem dL_operation_8 : decode cL_operation 8 = .ok (.lastore, 1) := by decide +kernel
theorem dL_operation_9 : decode cL_operation 9 = .ok (.goto 6, 3) := by decide +kernel
theorem dL_operation_12 : decode cL_operation 12 = .ok (.astore_n 3, 1) := by decide +kernel
theorem dL_operation_13 : decode cL_operation 13 = .ok (.iconst 1, 1) := by decide +kernel
theorem dL_operation_14 : decode cL_operation 14 = .ok (.ireturn, 1) := by decide +kernel
theorem dL_operation_15 : decode cL_operation 15 = .ok (.iconst 0, 1) := by decide +kernel
theorem dL_operation_16 : decode cL_operation 16 = .ok (.ireturn, 1) := by decide +kernel
theorem dL_operand_0 : decode cL_operand 0 = .ok (.aload_n 3, 1) := by decide +kernel
theorem dL_operand_1 : decode cL_operand 1 = .ok (.iconst 0, 1) := by decide +kernel
theorem dL_operand_2 : decode cL_operand 2 = .ok (.aload_n 0, 1) := by decide +kernel
theorem dL_operand_3 : decode cL_operand 3 = .ok (.iload_n 1, 1) := by decide +kernel
theorem dL_operand_4 : decode cL_operand 4 = .ok (.iload_n 2, 1) := by decide +kernel
theorem dL_operand_5 : decode cL_operand 5 = .ok (.invokevirtual 61, 3) := by decide +kernel
theorem dL_operand_8 : decode cL_operand 8 = .ok (.i2l, 1) := by decide +kernel
theorem dL_operand_9 : decode cL_operand 9 = .ok (.lastore, 1) := by decide +kernel
theorem dL_operand_10 : decode cL_operand 10 = .ok (.goto 7, 3) := by decide +kernel
theorem dL_operand_13 : decode cL_operand 13 = .ok (.astore 4, 2) := by decide +kernel
theorem dL_operand_15 : decode cL_operand 15 = .ok (.iconst 1, 1) := by decide +kernel
theorem dL_operand_16 : decode cL_operand 16 = .ok (.ireturn, 1) := by decide +kernel
theorem dL_operand_17 : decode cL_operand 17 = .ok (.iconst 0, 1) := by decide +kernel
theorem dL_operand_18 : decode cL_operand 18 = .ok (.ireturn, 1) := by decide +kernel
theorem dL_isConstant_0 : decode cL_isConstant 0 = .ok (.aload_n 3, 1) := by decide +kernel
theorem dL_isConstant_1 : decode cL_isConstant 1 = .ok (.iconst 0, 1) := by decide +kernel
theorem dL_isConstant_2 : decode cL_isConstant 2 = .ok (.aload_n 0, 1) := by decide +kernel
theorem dL_isConstant_3 : decode cL_isConstant 3 = .ok (.iload_n 1, 1) := by decide +kernel
theorem dL_isConstant_4 : decode cL_isConstant 4 = .ok (.iload_n 2, 1) := by decide +kernel
theorem dL_isConstant_5 : decode cL_isConstant 5 = .ok (.invokevirtual 64, 3) := by decide +kernel
theorem dL_isConstant_8 : decode cL_isConstant 8 = .ok (.ifCond .eq 7, 3) := by decide +kernel
theorem dL_isConstant_11 : decode cL_isConstant 11 = .ok (.lconst 1, 1) := by decide +kernel
theorem dL_isConstant_12 : decode cL_isConstant 12 = .ok (.goto 4, 3) := by decide +kernel
theorem dL_isConstant_15 : decode cL_isConstant 15 = .ok (.lconst 0, 1) := by decide +kernel
theorem dL_isConstant_16 : decode cL_isConstant 16 = .ok (.lastore, 1) := by decide +kernel
theorem dL_isConstant_17 : decode cL_isConstant 17 = .ok (.goto 7, 3) := by decide +kernel
theorem dL_isConstant_20 : decode cL_isConstant 20 = .ok (.astore 4, 2) := by decide +kernel
theorem dL_isConstant_22 : decode cL_isConstant 22 = .ok (.iconst 1, 1) := by decide +kernel
theorem dL_isConstant_23 : decode cL_isConstant 23 = .ok (.ireturn, 1) := by decide +kernel
theorem dL_isConstant_24 : decode cL_isConstant 24 = .ok (.iconst 0, 1) := by decide +kernel
theorem dL_isConstant_25 : decode cL_isConstant 25 = .ok (.ireturn, 1) := by decide +kernel
theorem dL_listingChar_0 : decode cL_listingChar 0 = .ok (.aload_n 2, 1) := by decide +kernel
theorem dL_listingChar_1 : decode cL_listingChar 1 = .ok (.iconst 0, 1) := by decide +kernel
theorem dL_listingChar_2 : decode cL_listingChar 2 = .ok (.aload_n 0, 1) := by decide +kernel
theorem dL_listingChar_3 : decode cL_listingChar 3 = .ok (.iload_n 1, 1) := by decide +kernel
theorem dL_listingChar_4 : decode cL_listingChar 4 = .ok (.invokevirtual 68, 3) := by decide +kernel
theorem dL_listingChar_7 : decode cL_listingChar 7 = .ok (.i2l, 1) := by decide +kernel
theorem dL_listingChar_8 : decode cL_listingChar 8 = .ok (.lastore, 1) := by decide +kernel
theorem dL_listingChar_9 : decode cL_listingChar 9 = .ok (.goto 6, 3) := by decide +kernel
theorem dL_listingChar_12 : decode cL_listingChar 12 = .ok (.astore_n 3, 1) := by decide +kernel
theorem dL_listingChar_13 : decode cL_listingChar 13 = .ok (.iconst 1, 1) := by decide +kernel
theorem dL_listingChar_14 : decode cL_listingChar 14 = .ok (.ireturn, 1) := by decide +kernel
theorem dL_listingChar_15 : decode cL_listingChar 15 = .ok (.iconst 0, 1) := by decide +kernel
theorem dL_listingChar_16 : decode cL_listingChar 16 = .ok (.ireturn, 1) := by decide +kernel
theorem dL_run_0 : decode cL_run 0 = .ok (.aload_n 2, 1) := by decide +kernel
theorem dL_run_1 : decode cL_run 1 = .ok (.iconst 0, 1) := by decide +kernel
theorem dL_run_2 : decode cL_run 2 = .ok (.aload_n 0, 1) := by decide +kernel
theorem dL_run_3 : decode cL_run 3 = .ok (.iload_n 1, 1) := by decide +kernel
theorem dL_run_4 : decode cL_run 4 = .ok (.invokevirtual 71, 3) := by decide +kernel
theorem dL_run_7 : decode cL_run 7 = .ok (.i2l, 1) := by decide +kernel
theorem dL_run_8 : decode cL_run 8 = .ok (.lastore, 1) := by decide +kernel
theorem dL_run_9 : decode cL_run 9 = .ok (.goto 6, 3) := by decide +kernel
theorem dL_run_12 : decode cL_run 12 = .ok (.astore_n 3, 1) := by decide +kernel
theorem dL_run_13 : decode cL_run 13 = .ok (.iconst 1, 1) := by decide +kernel
theorem dL_run_14 : decode cL_run 14 = .ok (.ireturn, 1) := by decide +kernel
theorem dL_run_15 : decode cL_run 15 = .ok (.iconst 0, 1) := by decide +kernel
theorem dL_run_16 : decode cL_run 16 = .ok (.ireturn, 1) := by decide +kernel
theorem dL_valueOf_0 : decode cL_valueOf 0 = .ok (.aload_n 3, 1) := by decide +kernel
theorem dL_valueOf_1 : decode cL_valueOf 1 = .ok (.iconst 0, 1) := by decide +kernel
theorem dL_valueOf_2 : decode cL_valueOf 2 = .ok (.aload_n 0, 1) := by decide +kernel
theorem dL_valueOf_3 : decode cL_valueOf 3 = .ok (.iload_n 1, 1) := by decide +kernel
theorem dL_valueOf_4 : decode cL_valueOf 4 = .ok (.iload_n 2, 1) := by decide +kernel
theorem dL_valueOf_5 : decode cL_valueOf 5 = .ok (.invokevirtual 74, 3) := by decide +kernel
theorem dL_valueOf_8 : decode cL_valueOf 8 = .ok (.i2l, 1) := by decide +kernel
theorem dL_valueOf_9 : decode cL_valueOf 9 = .ok (.lastore, 1) := by decide +kernel
theorem dL_valueOf_10 : decode cL_valueOf 10 = .ok (.goto 11, 3) := by decide +kernel
theorem dL_valueOf_13 : decode cL_valueOf 13 = .ok (.astore 4, 2) := by decide +kernel
theorem dL_valueOf_15 : decode cL_valueOf 15 = .ok (.iconst 1, 1) := by decide +kernel
theorem dL_valueOf_16 : decode cL_valueOf 16 = .ok (.ireturn, 1) := by decide +kernel
theorem dL_valueOf_17 : decode cL_valueOf 17 = .ok (.astore 4, 2) := by decide +kernel
theorem dL_valueOf_19 : decode cL_valueOf 19 = .ok (.iconst 2, 1) := by decide +kernel
theorem dL_valueOf_20 : decode cL_valueOf 20 = .ok (.ireturn, 1) := by decide +kernel
theorem dL_valueOf_21 : decode cL_valueOf 21 = .ok (.iconst 0, 1) := by decide +kernel
theorem dL_valueOf_22 : decode cL_valueOf 22 = .ok (.ireturn, 1) := by decide +kernel
theorem dL_expected_0 : decode cL_expected 0 = .ok (.aload_n 2, 1) := by decide +kernel
theorem dL_expected_1 : decode cL_expected 1 = .ok (.iconst 0, 1) := by decide +kernel
theorem dL_expected_2 : decode cL_expected 2 = .ok (.aload_n 0, 1) := by decide +kernel
theorem dL_expected_3 : decode cL_expected 3 = .ok (.iload_n 1, 1) := by decide +kernel
theorem dL_expected_4 : decode cL_expected 4 = .ok (.invokevirtual 77, 3) := by decide +kernel
theorem dL_expected_7 : decode cL_expected 7 = .ok (.i2l, 1) := by decide +kernel
theorem dL_expected_8 : decode cL_expected 8 = .ok (.lastore, 1) := by decide +kernel
theorem dL_expected_9 : decode cL_expected 9 = .ok (.goto 9, 3) := by decide +kernel
theorem dL_expected_12 : decode cL_expected 12 = .ok (.astore_n 3, 1) := by decide +kernel
theorem dL_expected_13 : decode cL_expected 13 = .ok (.iconst 1, 1) := by decide +kernel
theorem dL_expected_14 : decode cL_expected 14 = .ok (.ireturn, 1) := by decide +kernel
theorem dL_expected_15 : decode cL_expected 15 = .ok (.astore_n 3, 1) := by decide +kernel
theorem dL_expected_16 : decode cL_expected 16 = .ok (.iconst 2, 1) := by decide +kernel
theorem dL_expected_17 : decode cL_expected 17 = .ok (.ireturn, 1) := by decide +kernel
theorem dL_expected_18 : decode cL_expected 18 = .ok (.iconst 0, 1) := by decide +kernel
theorem dL_expected_19 : decode cL_expected 19 = .ok (.ireturn, 1) := by decide +kernel
theorem dL_firstWrong_0 : decode cL_firstWrong 0 = .ok (.aload_n 2, 1) := by decide +kernel
theorem dL_firstWrong_1 : decode cL_firstWrong 1 = .ok (.iconst 0, 1) := by decide +kernel
theorem dL_firstWrong_2 : decode cL_firstWrong 2 = .ok (.aload_n 0, 1) := by decide +kernel
theorem dL_firstWrong_3 : decode cL_firstWrong 3 = .ok (.iload_n 1, 1) := by decide +kernel
theorem dL_firstWrong_4 : decode cL_firstWrong 4 = .ok (.invokevirtual 80, 3) := by decide +kernel
theorem dL_firstWrong_7 : decode cL_firstWrong 7 = .ok (.i2l, 1) := by decide +kernel
theorem dL_firstWrong_8 : decode cL_firstWrong 8 = .ok (.lastore, 1) := by decide +kernel
theorem dL_firstWrong_9 : decode cL_firstWrong 9 = .ok (.goto 9, 3) := by decide +kernel
theorem dL_firstWrong_12 : decode cL_firstWrong 12 = .ok (.astore_n 3, 1) := by decide +kernel
theorem dL_firstWrong_13 : decode cL_firstWrong 13 = .ok (.iconst 1, 1) := by decide +kernel
theorem dL_firstWrong_14 : decode cL_firstWrong 14 = .ok (.ireturn, 1) := by decide +kernel
theorem dL_firstWrong_15 : decode cL_firstWrong 15 = .ok (.astore_n 3, 1) := by decide +kernel
theorem dL_firstWrong_16 : decode cL_firstWrong 16 = .ok (.iconst 2, 1) := by decide +kernel
theorem dL_firstWrong_17 : decode cL_firstWrong 17 = .ok (.ireturn, 1) := by decide +kernel
theorem dL_firstWrong_18 : decode cL_firstWrong 18 = .ok (.iconst 0, 1) := by decide +kernel
theorem dL_firstWrong_19 : decode cL_firstWrong 19 = .ok (.ireturn, 1) := by decide +kernel
theorem dL_wrong_0 : decode cL_wrong 0 = .ok (.aload_n 1, 1) := by decide +kernel
theorem dL_wrong_1 : decode cL_wrong 1 = .ok (.iconst 0, 1) := by decide +kernel
theorem dL_wrong_2 : decode cL_wrong 2 = .ok (.aload_n 0, 1) := by decide +kernel
theorem dL_wrong_3 : decode cL_wrong 3 = .ok (.invokevirtual 83, 3) := by decide +kernel
theorem dL_wrong_6 : decode cL_wrong 6 = .ok (.i2l, 1) := by decide +kernel
theorem dL_wrong_7 : decode cL_wrong 7 = .ok (.lastore, 1) := by decide +kernel
theorem dL_wrong_8 : decode cL_wrong 8 = .ok (.goto 6, 3) := by decide +kernel
theorem dL_wrong_11 : decode cL_wrong 11 = .ok (.astore_n 2, 1) := by decide +kernel
theorem dL_wrong_12 : decode cL_wrong 12 = .ok (.iconst 1, 1) := by decide +kernel
theorem dL_wrong_13 : decode cL_wrong 13 = .ok (.ireturn, 1) := by decide +kernel
theorem dL_wrong_14 : decode cL_wrong 14 = .ok (.iconst 0, 1) := by decide +kernel
theorem dL_wrong_15 : decode cL_wrong 15 = .ok (.ireturn, 1) := by decide +kernel
theorem dL_reach_0 : decode cL_reach 0 = .ok (.aload 4, 2) := by decide +kernel
theorem dL_reach_2 : decode cL_reach 2 = .ok (.iconst 0, 1) := by decide +kernel
theorem dL_reach_3 : decode cL_reach 3 = .ok (.aload_n 0, 1) := by decide +kernel
theorem dL_reach_4 : decode cL_reach 4 = .ok (.iload_n 1, 1) := by decide +kernel
theorem dL_reach_5 : decode cL_reach 5 = .ok (.iload_n 2, 1) := by decide +kernel
theorem dL_reach_6 : decode cL_reach 6 = .ok (.iload_n 3, 1) := by decide +kernel
theorem dL_reach_7 : decode cL_reach 7 = .ok (.invokevirtual 86, 3) := by decide +kernel
theorem dL_reach_10 : decode cL_reach 10 = .ok (.i2l, 1) := by decide +kernel
theorem dL_reach_11 : decode cL_reach 11 = .ok (.lastore, 1) := by decide +kernel
theorem dL_reach_12 : decode cL_reach 12 = .ok (.goto 7, 3) := by decide +kernel
theorem dL_reach_15 : decode cL_reach 15 = .ok (.astore 5, 2) := by decide +kernel
theorem dL_reach_17 : decode cL_reach 17 = .ok (.iconst 1, 1) := by decide +kernel
theorem dL_reach_18 : decode cL_reach 18 = .ok (.ireturn, 1) := by decide +kernel
theorem dL_reach_19 : decode cL_reach 19 = .ok (.iconst 0, 1) := by decide +kernel
theorem dL_reach_20 : decode cL_reach 20 = .ok (.ireturn, 1) := by decide +kernel
theorem dL_floatReciprocal_0 : decode cL_floatReciprocal 0 = .ok (.aload_n 2, 1) := by decide +kernel
theorem dL_floatReciprocal_1 : decode cL_floatReciprocal 1 = .ok (.iconst 0, 1) := by decide +kernel
theorem dL_floatReciprocal_2 : decode cL_floatReciprocal 2 = .ok (.aload_n 0, 1) := by decide +kernel
theorem dL_floatReciprocal_3 : decode cL_floatReciprocal 3 = .ok (.iload_n 1, 1) := by decide +kernel
theorem dL_floatReciprocal_4 : decode cL_floatReciprocal 4 = .ok (.invokevirtual 90, 3) := by decide +kernel
theorem dL_floatReciprocal_7 : decode cL_floatReciprocal 7 = .ok (.i2l, 1) := by decide +kernel
theorem dL_floatReciprocal_8 : decode cL_floatReciprocal 8 = .ok (.lastore, 1) := by decide +kernel
theorem dL_floatReciprocal_9 : decode cL_floatReciprocal 9 = .ok (.goto 6, 3) := by decide +kernel
theorem dL_floatReciprocal_12 : decode cL_floatReciprocal 12 = .ok (.astore_n 3, 1) := by decide +kernel
theorem dL_floatReciprocal_13 : decode cL_floatReciprocal 13 = .ok (.iconst 1, 1) := by decide +kernel
theorem dL_floatReciprocal_14 : decode cL_floatReciprocal 14 = .ok (.ireturn, 1) := by decide +kernel
theorem dL_floatReciprocal_15 : decode cL_floatReciprocal 15 = .ok (.iconst 0, 1) := by decide +kernel
theorem dL_floatReciprocal_16 : decode cL_floatReciprocal 16 = .ok (.ireturn, 1) := by decide +kernel
theorem dL_doubleReciprocal_0 : decode cL_doubleReciprocal 0 = .ok (.aload_n 2, 1) := by decide +kernel
theorem dL_doubleReciprocal_1 : decode cL_doubleReciprocal 1 = .ok (.iconst 0, 1) := by decide +kernel
theorem dL_doubleReciprocal_2 : decode cL_doubleReciprocal 2 = .ok (.aload_n 0, 1) := by decide +kernel
theorem dL_doubleReciprocal_3 : decode cL_doubleReciprocal 3 = .ok (.iload_n 1, 1) := by decide +kernel
theorem dL_doubleReciprocal_4 : decode cL_doubleReciprocal 4 = .ok (.invokevirtual 93, 3) := by decide +kernel
theorem dL_doubleReciprocal_7 : decode cL_doubleReciprocal 7 = .ok (.lastore, 1) := by decide +kernel
theorem dL_doubleReciprocal_8 : decode cL_doubleReciprocal 8 = .ok (.goto 6, 3) := by decide +kernel
theorem dL_doubleReciprocal_11 : decode cL_doubleReciprocal 11 = .ok (.astore_n 3, 1) := by decide +kernel
theorem dL_doubleReciprocal_12 : decode cL_doubleReciprocal 12 = .ok (.iconst 1, 1) := by decide +kernel
theorem dL_doubleReciprocal_13 : decode cL_doubleReciprocal 13 = .ok (.ireturn, 1) := by decide +kernel
theorem dL_doubleReciprocal_14 : decode cL_doubleReciprocal 14 = .ok (.iconst 0, 1) := by decide +kernel
theorem dL_doubleReciprocal_15 : decode cL_doubleReciprocal 15 = .ok (.ireturn, 1) := by decide +kernel
theorem dL_firstFloatError_0 : decode cL_firstFloatError 0 = .ok (.aload_n 2, 1) := by decide +kernel
theorem dL_firstFloatError_1 : decode cL_firstFloatError 1 = .ok (.iconst 0, 1) := by decide +kernel
theorem dL_firstFloatError_2 : decode cL_firstFloatError 2 = .ok (.aload_n 0, 1) := by decide +kernel
theorem dL_firstFloatError_3 : decode cL_firstFloatError 3 = .ok (.iload_n 1, 1) := by decide +kernel
theorem dL_firstFloatError_4 : decode cL_firstFloatError 4 = .ok (.invokevirtual 97, 3) := by decide +kernel
theorem dL_firstFloatError_7 : decode cL_firstFloatError 7 = .ok (.i2l, 1) := by decide +kernel
theorem dL_firstFloatError_8 : decode cL_firstFloatError 8 = .ok (.lastore, 1) := by decide +kernel
theorem dL_firstFloatError_9 : decode cL_firstFloatError 9 = .ok (.goto 6, 3) := by decide +kernel
theorem dL_firstFloatError_12 : decode cL_firstFloatError 12 = .ok (.astore_n 3, 1) := by decide +kernel
theorem dL_firstFloatError_13 : decode cL_firstFloatError 13 = .ok (.iconst 1, 1) := by decide +kernel
theorem dL_firstFloatError_14 : decode cL_firstFloatError 14 = .ok (.ireturn, 1) := by decide +kernel
theorem dL_firstFloatError_15 : decode cL_firstFloatError 15 = .ok (.iconst 0, 1) := by decide +kernel
theorem dL_firstFloatError_16 : decode cL_firstFloatError 16 = .ok (.ireturn, 1) := by decide +kernel
theorem dL_firstDoubleError_0 : decode cL_firstDoubleError 0 = .ok (.aload_n 2, 1) := by decide +kernel
theorem dL_firstDoubleError_1 : decode cL_firstDoubleError 1 = .ok (.iconst 0, 1) := by decide +kernel
theorem dL_firstDoubleError_2 : decode cL_firstDoubleError 2 = .ok (.aload_n 0, 1) := by decide +kernel
theorem dL_firstDoubleError_3 : decode cL_firstDoubleError 3 = .ok (.iload_n 1, 1) := by decide +kernel
theorem dL_firstDoubleError_4 : decode cL_firstDoubleError 4 = .ok (.invokevirtual 100, 3) := by decide +kernel
theorem dL_firstDoubleError_7 : decode cL_firstDoubleError 7 = .ok (.i2l, 1) := by decide +kernel
theorem dL_firstDoubleError_8 : decode cL_firstDoubleError 8 = .ok (.lastore, 1) := by decide +kernel
theorem dL_firstDoubleError_9 : decode cL_firstDoubleError 9 = .ok (.goto 6, 3) := by decide +kernel
theorem dL_firstDoubleError_12 : decode cL_firstDoubleError 12 = .ok (.astore_n 3, 1) := by decide +kernel
theorem dL_firstDoubleError_13 : decode cL_firstDoubleError 13 = .ok (.iconst 1, 1) := by decide +kernel
theorem dL_firstDoubleError_14 : decode cL_firstDoubleError 14 = .ok (.ireturn, 1) := by decide +kernel
theorem dL_firstDoubleError_15 : decode cL_firstDoubleError 15 = .ok (.iconst 0, 1) := by decide +kernel
theorem dL_firstDoubleError_16 : decode cL_firstDoubleError 16 = .ok (.ireturn, 1) := by decide +kernel
theorem dL_leastRaise_0 : decode cL_leastRaise 0 = .ok (.aload_n 2, 1) := by decide +kernel
theorem dL_leastRaise_1 : decode cL_leastRaise 1 = .ok (.iconst 0, 1) := by decide +kernel
theorem dL_leastRaise_2 : decode cL_leastRaise 2 = .ok (.aload_n 0, 1) := by decide +kernel
theorem dL_leastRaise_3 : decode cL_leastRaise 3 = .ok (.iload_n 1, 1) := by decide +kernel
theorem dL_leastRaise_4 : decode cL_leastRaise 4 = .ok (.invokevirtual 103, 3) := by decide +kernel
theorem dL_leastRaise_7 : decode cL_leastRaise 7 = .ok (.i2l, 1) := by decide +kernel
theorem dL_leastRaise_8 : decode cL_leastRaise 8 = .ok (.lastore, 1) := by decide +kernel
theorem dL_leastRaise_9 : decode cL_leastRaise 9 = .ok (.goto 6, 3) := by decide +kernel
theorem dL_leastRaise_12 : decode cL_leastRaise 12 = .ok (.astore_n 3, 1) := by decide +kernel
theorem dL_leastRaise_13 : decode cL_leastRaise 13 = .ok (.iconst 1, 1) := by decide +kernel
theorem dL_leastRaise_14 : decode cL_leastRaise 14 = .ok (.ireturn, 1) := by decide +kernel
theorem dL_leastRaise_15 : decode cL_leastRaise 15 = .ok (.iconst 0, 1) := by decide +kernel
theorem dL_leastRaise_16 : decode cL_leastRaise 16 = .ok (.ireturn, 1) := by decide +kernel
