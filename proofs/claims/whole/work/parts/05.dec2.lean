theorem dX8_operand_0 : decode cX8_operand 0 = .ok (.aload_n 0, 1) := by decide +kernel
theorem dX8_operand_1 : decode cX8_operand 1 = .ok (.iload_n 1, 1) := by decide +kernel
theorem dX8_operand_2 : decode cX8_operand 2 = .ok (.iload_n 2, 1) := by decide +kernel
theorem dX8_operand_3 : decode cX8_operand 3 = .ok (.invokevirtual 194, 3) := by decide +kernel
theorem dX8_operand_6 : decode cX8_operand 6 = .ok (.invokestatic 130, 3) := by decide +kernel
theorem dX8_operand_9 : decode cX8_operand 9 = .ok (.ireturn, 1) := by decide +kernel
theorem dX8_isConstant_0 : decode cX8_isConstant 0 = .ok (.aload_n 0, 1) := by decide +kernel
theorem dX8_isConstant_1 : decode cX8_isConstant 1 = .ok (.iload_n 1, 1) := by decide +kernel
theorem dX8_isConstant_2 : decode cX8_isConstant 2 = .ok (.iload_n 2, 1) := by decide +kernel
theorem dX8_isConstant_3 : decode cX8_isConstant 3 = .ok (.invokevirtual 194, 3) := by decide +kernel
theorem dX8_isConstant_6 : decode cX8_isConstant 6 = .ok (.invokestatic 197, 3) := by decide +kernel
theorem dX8_isConstant_9 : decode cX8_isConstant 9 = .ok (.ifCond .ne 7, 3) := by decide +kernel
theorem dX8_isConstant_12 : decode cX8_isConstant 12 = .ok (.iconst 1, 1) := by decide +kernel
theorem dX8_isConstant_13 : decode cX8_isConstant 13 = .ok (.goto 4, 3) := by decide +kernel
theorem dX8_isConstant_16 : decode cX8_isConstant 16 = .ok (.iconst 0, 1) := by decide +kernel
theorem dX8_isConstant_17 : decode cX8_isConstant 17 = .ok (.ireturn, 1) := by decide +kernel
theorem dX8_result_0 : decode cX8_result 0 = .ok (.aload_n 0, 1) := by decide +kernel
theorem dX8_result_1 : decode cX8_result 1 = .ok (.getfield 20, 3) := by decide +kernel
theorem dX8_result_4 : decode cX8_result 4 = .ok (.getfield 133, 3) := by decide +kernel
theorem dX8_result_7 : decode cX8_result 7 = .ok (.ireturn, 1) := by decide +kernel
theorem dX8_cost_0 : decode cX8_cost 0 = .ok (.iconst 0, 1) := by decide +kernel
theorem dX8_cost_1 : decode cX8_cost 1 = .ok (.istore_n 1, 1) := by decide +kernel
theorem dX8_cost_2 : decode cX8_cost 2 = .ok (.iconst 0, 1) := by decide +kernel
theorem dX8_cost_3 : decode cX8_cost 3 = .ok (.istore_n 2, 1) := by decide +kernel
theorem dX8_cost_4 : decode cX8_cost 4 = .ok (.iload_n 2, 1) := by decide +kernel
theorem dX8_cost_5 : decode cX8_cost 5 = .ok (.aload_n 0, 1) := by decide +kernel
theorem dX8_cost_6 : decode cX8_cost 6 = .ok (.getfield 20, 3) := by decide +kernel
theorem dX8_cost_9 : decode cX8_cost 9 = .ok (.getfield 136, 3) := by decide +kernel
theorem dX8_cost_12 : decode cX8_cost 12 = .ok (.if_icmp .ge 29, 3) := by decide +kernel
theorem dX8_cost_15 : decode cX8_cost 15 = .ok (.iload_n 1, 1) := by decide +kernel
theorem dX8_cost_16 : decode cX8_cost 16 = .ok (.aload_n 0, 1) := by decide +kernel
theorem dX8_cost_17 : decode cX8_cost 17 = .ok (.getfield 25, 3) := by decide +kernel
theorem dX8_cost_20 : decode cX8_cost 20 = .ok (.aload_n 0, 1) := by decide +kernel
theorem dX8_cost_21 : decode cX8_cost 21 = .ok (.getfield 20, 3) := by decide +kernel
theorem dX8_cost_24 : decode cX8_cost 24 = .ok (.getfield 191, 3) := by decide +kernel
theorem dX8_cost_27 : decode cX8_cost 27 = .ok (.iload_n 2, 1) := by decide +kernel
theorem dX8_cost_28 : decode cX8_cost 28 = .ok (.iaload, 1) := by decide +kernel
theorem dX8_cost_29 : decode cX8_cost 29 = .ok (.invokestatic 200, 3) := by decide +kernel
theorem dX8_cost_32 : decode cX8_cost 32 = .ok (.iaload, 1) := by decide +kernel
theorem dX8_cost_33 : decode cX8_cost 33 = .ok (.iadd, 1) := by decide +kernel
theorem dX8_cost_34 : decode cX8_cost 34 = .ok (.istore_n 1, 1) := by decide +kernel
theorem dX8_cost_35 : decode cX8_cost 35 = .ok (.iinc 2 1, 3) := by decide +kernel
theorem dX8_cost_38 : decode cX8_cost 38 = .ok (.goto (-34), 3) := by decide +kernel
theorem dX8_cost_41 : decode cX8_cost 41 = .ok (.iload_n 1, 1) := by decide +kernel
theorem dX8_cost_42 : decode cX8_cost 42 = .ok (.ireturn, 1) := by decide +kernel
theorem dX8_depth_0 : decode cX8_depth 0 = .ok (.aload_n 0, 1) := by decide +kernel
theorem dX8_depth_1 : decode cX8_depth 1 = .ok (.getfield 36, 3) := by decide +kernel
theorem dX8_depth_4 : decode cX8_depth 4 = .ok (.aload_n 0, 1) := by decide +kernel
theorem dX8_depth_5 : decode cX8_depth 5 = .ok (.getfield 20, 3) := by decide +kernel
theorem dX8_depth_8 : decode cX8_depth 8 = .ok (.invokevirtual 203, 3) := by decide +kernel
theorem dX8_depth_11 : decode cX8_depth 11 = .ok (.ireturn, 1) := by decide +kernel
theorem dX8_listingChar_0 : decode cX8_listingChar 0 = .ok (.iload_n 1, 1) := by decide +kernel
theorem dX8_listingChar_1 : decode cX8_listingChar 1 = .ok (.ifCond .ge 13, 3) := by decide +kernel
theorem dX8_listingChar_4 : decode cX8_listingChar 4 = .ok (.new 80, 3) := by decide +kernel
theorem dX8_listingChar_7 : decode cX8_listingChar 7 = .ok (.dup, 1) := by decide +kernel
theorem dX8_listingChar_8 : decode cX8_listingChar 8 = .ok (.ldc 207, 2) := by decide +kernel
theorem dX8_listingChar_10 : decode cX8_listingChar 10 = .ok (.invokespecial 84, 3) := by decide +kernel
theorem dX8_listingChar_13 : decode cX8_listingChar 13 = .ok (.athrow, 1) := by decide +kernel
theorem dX8_listingChar_14 : decode cX8_listingChar 14 = .ok (.aload_n 0, 1) := by decide +kernel
theorem dX8_listingChar_15 : decode cX8_listingChar 15 = .ok (.getfield 50, 3) := by decide +kernel
theorem dX8_listingChar_18 : decode cX8_listingChar 18 = .ok (.aload_n 0, 1) := by decide +kernel
theorem dX8_listingChar_19 : decode cX8_listingChar 19 = .ok (.getfield 20, 3) := by decide +kernel
theorem dX8_listingChar_22 : decode cX8_listingChar 22 = .ok (.iload_n 1, 1) := by decide +kernel
theorem dX8_listingChar_23 : decode cX8_listingChar 23 = .ok (.invokevirtual 209, 3) := by decide +kernel
theorem dX8_listingChar_26 : decode cX8_listingChar 26 = .ok (.ireturn, 1) := by decide +kernel
theorem dX8_run_0 : decode cX8_run 0 = .ok (.iload_n 1, 1) := by decide +kernel
theorem dX8_run_1 : decode cX8_run 1 = .ok (.iconst 0, 1) := by decide +kernel
theorem dX8_run_2 : decode cX8_run 2 = .ok (.aload_n 0, 1) := by decide +kernel
theorem dX8_run_3 : decode cX8_run 3 = .ok (.invokevirtual 87, 3) := by decide +kernel
theorem dX8_run_6 : decode cX8_run 6 = .ok (.invokestatic 91, 3) := by decide +kernel
theorem dX8_run_9 : decode cX8_run 9 = .ok (.aload_n 0, 1) := by decide +kernel
theorem dX8_run_10 : decode cX8_run 10 = .ok (.getfield 36, 3) := by decide +kernel
theorem dX8_run_13 : decode cX8_run 13 = .ok (.aload_n 0, 1) := by decide +kernel
theorem dX8_run_14 : decode cX8_run 14 = .ok (.getfield 20, 3) := by decide +kernel
theorem dX8_run_17 : decode cX8_run 17 = .ok (.iload_n 1, 1) := by decide +kernel
theorem dX8_run_18 : decode cX8_run 18 = .ok (.aload_n 0, 1) := by decide +kernel
theorem dX8_run_19 : decode cX8_run 19 = .ok (.getfield 20, 3) := by decide +kernel
theorem dX8_run_22 : decode cX8_run 22 = .ok (.getfield 133, 3) := by decide +kernel
theorem dX8_run_25 : decode cX8_run 25 = .ok (.invokevirtual 213, 3) := by decide +kernel
theorem dX8_run_28 : decode cX8_run 28 = .ok (.ireturn, 1) := by decide +kernel
theorem dX8_valueOf_0 : decode cX8_valueOf 0 = .ok (.iload_n 1, 1) := by decide +kernel
theorem dX8_valueOf_1 : decode cX8_valueOf 1 = .ok (.iconst 0, 1) := by decide +kernel
theorem dX8_valueOf_2 : decode cX8_valueOf 2 = .ok (.aload_n 0, 1) := by decide +kernel
theorem dX8_valueOf_3 : decode cX8_valueOf 3 = .ok (.invokevirtual 87, 3) := by decide +kernel
theorem dX8_valueOf_6 : decode cX8_valueOf 6 = .ok (.invokestatic 91, 3) := by decide +kernel
theorem dX8_valueOf_9 : decode cX8_valueOf 9 = .ok (.aload_n 0, 1) := by decide +kernel
theorem dX8_valueOf_10 : decode cX8_valueOf 10 = .ok (.iload_n 2, 1) := by decide +kernel
theorem dX8_valueOf_11 : decode cX8_valueOf 11 = .ok (.invokevirtual 163, 3) := by decide +kernel
theorem dX8_valueOf_14 : decode cX8_valueOf 14 = .ok (.aload_n 0, 1) := by decide +kernel
theorem dX8_valueOf_15 : decode cX8_valueOf 15 = .ok (.getfield 36, 3) := by decide +kernel
theorem dX8_valueOf_18 : decode cX8_valueOf 18 = .ok (.aload_n 0, 1) := by decide +kernel
theorem dX8_valueOf_19 : decode cX8_valueOf 19 = .ok (.getfield 20, 3) := by decide +kernel
theorem dX8_valueOf_22 : decode cX8_valueOf 22 = .ok (.iload_n 1, 1) := by decide +kernel
theorem dX8_valueOf_23 : decode cX8_valueOf 23 = .ok (.iload_n 2, 1) := by decide +kernel
theorem dX8_valueOf_24 : decode cX8_valueOf 24 = .ok (.invokevirtual 213, 3) := by decide +kernel
theorem dX8_valueOf_27 : decode cX8_valueOf 27 = .ok (.ireturn, 1) := by decide +kernel
theorem dX8_expected_0 : decode cX8_expected 0 = .ok (.iload_n 1, 1) := by decide +kernel
theorem dX8_expected_1 : decode cX8_expected 1 = .ok (.iconst 0, 1) := by decide +kernel
theorem dX8_expected_2 : decode cX8_expected 2 = .ok (.aload_n 0, 1) := by decide +kernel
theorem dX8_expected_3 : decode cX8_expected 3 = .ok (.invokevirtual 87, 3) := by decide +kernel
theorem dX8_expected_6 : decode cX8_expected 6 = .ok (.invokestatic 91, 3) := by decide +kernel
theorem dX8_expected_9 : decode cX8_expected 9 = .ok (.aload_n 0, 1) := by decide +kernel
theorem dX8_expected_10 : decode cX8_expected 10 = .ok (.invokevirtual 217, 3) := by decide +kernel
theorem dX8_expected_13 : decode cX8_expected 13 = .ok (.aload_n 0, 1) := by decide +kernel
theorem dX8_expected_14 : decode cX8_expected 14 = .ok (.iload_n 1, 1) := by decide +kernel
theorem dX8_expected_15 : decode cX8_expected 15 = .ok (.invokevirtual 220, 3) := by decide +kernel
theorem dX8_expected_18 : decode cX8_expected 18 = .ok (.ireturn, 1) := by decide +kernel
theorem dX8_firstWrong_0 : decode cX8_firstWrong 0 = .ok (.iload_n 1, 1) := by decide +kernel
theorem dX8_firstWrong_1 : decode cX8_firstWrong 1 = .ok (.iconst 0, 1) := by decide +kernel
theorem dX8_firstWrong_2 : decode cX8_firstWrong 2 = .ok (.aload_n 0, 1) := by decide +kernel
theorem dX8_firstWrong_3 : decode cX8_firstWrong 3 = .ok (.invokevirtual 87, 3) := by decide +kernel
theorem dX8_firstWrong_6 : decode cX8_firstWrong 6 = .ok (.invokestatic 91, 3) := by decide +kernel
theorem dX8_firstWrong_9 : decode cX8_firstWrong 9 = .ok (.aload_n 0, 1) := by decide +kernel
theorem dX8_firstWrong_10 : decode cX8_firstWrong 10 = .ok (.invokevirtual 217, 3) := by decide +kernel
theorem dX8_firstWrong_13 : decode cX8_firstWrong 13 = .ok (.aload_n 0, 1) := by decide +kernel
theorem dX8_firstWrong_14 : decode cX8_firstWrong 14 = .ok (.invokevirtual 87, 3) := by decide +kernel
theorem dX8_firstWrong_17 : decode cX8_firstWrong 17 = .ok (.istore_n 2, 1) := by decide +kernel
theorem dX8_firstWrong_18 : decode cX8_firstWrong 18 = .ok (.iload_n 1, 1) := by decide +kernel
theorem dX8_firstWrong_19 : decode cX8_firstWrong 19 = .ok (.istore_n 3, 1) := by decide +kernel
theorem dX8_firstWrong_20 : decode cX8_firstWrong 20 = .ok (.iload_n 3, 1) := by decide +kernel
theorem dX8_firstWrong_21 : decode cX8_firstWrong 21 = .ok (.iload_n 2, 1) := by decide +kernel
theorem dX8_firstWrong_22 : decode cX8_firstWrong 22 = .ok (.if_icmp .gt 19, 3) := by decide +kernel
theorem dX8_firstWrong_25 : decode cX8_firstWrong 25 = .ok (.aload_n 0, 1) := by decide +kernel
theorem dX8_firstWrong_26 : decode cX8_firstWrong 26 = .ok (.iload_n 3, 1) := by decide +kernel
theorem dX8_firstWrong_27 : decode cX8_firstWrong 27 = .ok (.invokevirtual 223, 3) := by decide +kernel
theorem dX8_firstWrong_30 : decode cX8_firstWrong 30 = .ok (.ifCond .ne 5, 3) := by decide +kernel
theorem dX8_firstWrong_33 : decode cX8_firstWrong 33 = .ok (.iload_n 3, 1) := by decide +kernel
theorem dX8_firstWrong_34 : decode cX8_firstWrong 34 = .ok (.ireturn, 1) := by decide +kernel
theorem dX8_firstWrong_35 : decode cX8_firstWrong 35 = .ok (.iinc 3 1, 3) := by decide +kernel
theorem dX8_firstWrong_38 : decode cX8_firstWrong 38 = .ok (.goto (-18), 3) := by decide +kernel
theorem dX8_firstWrong_41 : decode cX8_firstWrong 41 = .ok (.iconst (-1), 1) := by decide +kernel
theorem dX8_firstWrong_42 : decode cX8_firstWrong 42 = .ok (.ireturn, 1) := by decide +kernel
theorem dX8_wrong_0 : decode cX8_wrong 0 = .ok (.aload_n 0, 1) := by decide +kernel
theorem dX8_wrong_1 : decode cX8_wrong 1 = .ok (.invokevirtual 217, 3) := by decide +kernel
theorem dX8_wrong_4 : decode cX8_wrong 4 = .ok (.aload_n 0, 1) := by decide +kernel
theorem dX8_wrong_5 : decode cX8_wrong 5 = .ok (.invokevirtual 87, 3) := by decide +kernel
theorem dX8_wrong_8 : decode cX8_wrong 8 = .ok (.istore_n 1, 1) := by decide +kernel
theorem dX8_wrong_9 : decode cX8_wrong 9 = .ok (.iconst 0, 1) := by decide +kernel
theorem dX8_wrong_10 : decode cX8_wrong 10 = .ok (.istore_n 2, 1) := by decide +kernel
theorem dX8_wrong_11 : decode cX8_wrong 11 = .ok (.iconst 0, 1) := by decide +kernel
theorem dX8_wrong_12 : decode cX8_wrong 12 = .ok (.istore_n 3, 1) := by decide +kernel
theorem dX8_wrong_13 : decode cX8_wrong 13 = .ok (.iload_n 3, 1) := by decide +kernel
theorem dX8_wrong_14 : decode cX8_wrong 14 = .ok (.iload_n 1, 1) := by decide +kernel
theorem dX8_wrong_15 : decode cX8_wrong 15 = .ok (.if_icmp .gt 20, 3) := by decide +kernel
theorem dX8_wrong_18 : decode cX8_wrong 18 = .ok (.aload_n 0, 1) := by decide +kernel
theorem dX8_wrong_19 : decode cX8_wrong 19 = .ok (.iload_n 3, 1) := by decide +kernel
theorem dX8_wrong_20 : decode cX8_wrong 20 = .ok (.invokevirtual 223, 3) := by decide +kernel
theorem dX8_wrong_23 : decode cX8_wrong 23 = .ok (.ifCond .ne 6, 3) := by decide +kernel
theorem dX8_wrong_26 : decode cX8_wrong 26 = .ok (.iinc 2 1, 3) := by decide +kernel
theorem dX8_wrong_29 : decode cX8_wrong 29 = .ok (.iinc 3 1, 3) := by decide +kernel
theorem dX8_wrong_32 : decode cX8_wrong 32 = .ok (.goto (-19), 3) := by decide +kernel
theorem dX8_wrong_35 : decode cX8_wrong 35 = .ok (.iload_n 2, 1) := by decide +kernel
theorem dX8_wrong_36 : decode cX8_wrong 36 = .ok (.ireturn, 1) := by decide +kernel
theorem dX8_reach_0 : decode cX8_reach 0 = .ok (.iload_n 1, 1) := by decide +kernel
theorem dX8_reach_1 : decode cX8_reach 1 = .ok (.iconst 0, 1) := by decide +kernel
theorem dX8_reach_2 : decode cX8_reach 2 = .ok (.ldc 226, 2) := by decide +kernel
theorem dX8_reach_4 : decode cX8_reach 4 = .ok (.invokestatic 91, 3) := by decide +kernel
theorem dX8_reach_7 : decode cX8_reach 7 = .ok (.iload_n 2, 1) := by decide +kernel
theorem dX8_reach_8 : decode cX8_reach 8 = .ok (.iconst 0, 1) := by decide +kernel
theorem dX8_reach_9 : decode cX8_reach 9 = .ok (.bipush 40, 2) := by decide +kernel
theorem dX8_reach_11 : decode cX8_reach 11 = .ok (.invokestatic 91, 3) := by decide +kernel
theorem dX8_reach_14 : decode cX8_reach 14 = .ok (.iload_n 3, 1) := by decide +kernel
theorem dX8_reach_15 : decode cX8_reach 15 = .ok (.iconst 1, 1) := by decide +kernel
theorem dX8_reach_16 : decode cX8_reach 16 = .ok (.ldc 227, 2) := by decide +kernel
theorem dX8_reach_18 : decode cX8_reach 18 = .ok (.invokestatic 91, 3) := by decide +kernel
theorem dX8_reach_21 : decode cX8_reach 21 = .ok (.iload_n 1, 1) := by decide +kernel
theorem dX8_reach_22 : decode cX8_reach 22 = .ok (.i2l, 1) := by decide +kernel
theorem dX8_reach_23 : decode cX8_reach 23 = .ok (.lconst 1, 1) := by decide +kernel
theorem dX8_reach_24 : decode cX8_reach 24 = .ok (.iload_n 2, 1) := by decide +kernel
theorem dX8_reach_25 : decode cX8_reach 25 = .ok (.lshl, 1) := by decide +kernel
theorem dX8_reach_26 : decode cX8_reach 26 = .ok (.iload_n 3, 1) := by decide +kernel
theorem dX8_reach_27 : decode cX8_reach 27 = .ok (.i2l, 1) := by decide +kernel
theorem dX8_reach_28 : decode cX8_reach 28 = .ok (.invokestatic 228, 3) := by decide +kernel
theorem dX8_reach_31 : decode cX8_reach 31 = .ok (.lstore 4, 2) := by decide +kernel
theorem dX8_reach_33 : decode cX8_reach 33 = .ok (.lload 4, 2) := by decide +kernel
theorem dX8_reach_35 : decode cX8_reach 35 = .ok (.ldc2_w 232, 3) := by decide +kernel
theorem dX8_reach_38 : decode cX8_reach 38 = .ok (.lcmp, 1) := by decide +kernel
theorem dX8_reach_39 : decode cX8_reach 39 = .ok (.ifCond .gt 9, 3) := by decide +kernel
theorem dX8_reach_42 : decode cX8_reach 42 = .ok (.lload 4, 2) := by decide +kernel
theorem dX8_reach_44 : decode cX8_reach 44 = .ok (.l2i, 1) := by decide +kernel
theorem dX8_reach_45 : decode cX8_reach 45 = .ok (.goto 4, 3) := by decide +kernel
theorem dX8_reach_48 : decode cX8_reach 48 = .ok (.iconst (-1), 1) := by decide +kernel
theorem dX8_reach_49 : decode cX8_reach 49 = .ok (.ireturn, 1) := by decide +kernel
theorem dX8_floatReciprocal_0 : decode cX8_floatReciprocal 0 = .ok (.iload_n 1, 1) := by decide +kernel
theorem dX8_floatReciprocal_1 : decode cX8_floatReciprocal 1 = .ok (.iconst 1, 1) := by decide +kernel
theorem dX8_floatReciprocal_2 : decode cX8_floatReciprocal 2 = .ok (.ldc 227, 2) := by decide +kernel
theorem dX8_floatReciprocal_4 : decode cX8_floatReciprocal 4 = .ok (.invokestatic 91, 3) := by decide +kernel
theorem dX8_floatReciprocal_7 : decode cX8_floatReciprocal 7 = .ok (.fconst 1, 1) := by decide +kernel
theorem dX8_floatReciprocal_8 : decode cX8_floatReciprocal 8 = .ok (.iload_n 1, 1) := by decide +kernel
theorem dX8_floatReciprocal_9 : decode cX8_floatReciprocal 9 = .ok (.i2f, 1) := by decide +kernel
theorem dX8_floatReciprocal_10 : decode cX8_floatReciprocal 10 = .ok (.fdiv, 1) := by decide +kernel
theorem dX8_floatReciprocal_11 : decode cX8_floatReciprocal 11 = .ok (.f2d, 1) := by decide +kernel
theorem dX8_floatReciprocal_12 : decode cX8_floatReciprocal 12 = .ok (.bipush 127, 2) := by decide +kernel
theorem dX8_floatReciprocal_14 : decode cX8_floatReciprocal 14 = .ok (.bipush 23, 2) := by decide +kernel
theorem dX8_floatReciprocal_16 : decode cX8_floatReciprocal 16 = .ok (.invokestatic 234, 3) := by decide +kernel
theorem dX8_floatReciprocal_19 : decode cX8_floatReciprocal 19 = .ok (.l2i, 1) := by decide +kernel
theorem dX8_floatReciprocal_20 : decode cX8_floatReciprocal 20 = .ok (.ireturn, 1) := by decide +kernel
theorem dX8_doubleReciprocal_0 : decode cX8_doubleReciprocal 0 = .ok (.iload_n 1, 1) := by decide +kernel
theorem dX8_doubleReciprocal_1 : decode cX8_doubleReciprocal 1 = .ok (.iconst 1, 1) := by decide +kernel
theorem dX8_doubleReciprocal_2 : decode cX8_doubleReciprocal 2 = .ok (.ldc 227, 2) := by decide +kernel
theorem dX8_doubleReciprocal_4 : decode cX8_doubleReciprocal 4 = .ok (.invokestatic 91, 3) := by decide +kernel
theorem dX8_doubleReciprocal_7 : decode cX8_doubleReciprocal 7 = .ok (.dconst 1, 1) := by decide +kernel
theorem dX8_doubleReciprocal_8 : decode cX8_doubleReciprocal 8 = .ok (.iload_n 1, 1) := by decide +kernel
theorem dX8_doubleReciprocal_9 : decode cX8_doubleReciprocal 9 = .ok (.i2d, 1) := by decide +kernel
theorem dX8_doubleReciprocal_10 : decode cX8_doubleReciprocal 10 = .ok (.ddiv, 1) := by decide +kernel
theorem dX8_doubleReciprocal_11 : decode cX8_doubleReciprocal 11 = .ok (.sipush 1023, 3) := by decide +kernel
theorem dX8_doubleReciprocal_14 : decode cX8_doubleReciprocal 14 = .ok (.bipush 52, 2) := by decide +kernel
theorem dX8_doubleReciprocal_16 : decode cX8_doubleReciprocal 16 = .ok (.invokestatic 234, 3) := by decide +kernel
theorem dX8_doubleReciprocal_19 : decode cX8_doubleReciprocal 19 = .ok (.lreturn, 1) := by decide +kernel
theorem dX8_firstFloatError_0 : decode cX8_firstFloatError 0 = .ok (.iload_n 1, 1) := by decide +kernel
theorem dX8_firstFloatError_1 : decode cX8_firstFloatError 1 = .ok (.iconst 1, 1) := by decide +kernel
theorem dX8_firstFloatError_2 : decode cX8_firstFloatError 2 = .ok (.ldc 227, 2) := by decide +kernel
theorem dX8_firstFloatError_4 : decode cX8_firstFloatError 4 = .ok (.invokestatic 91, 3) := by decide +kernel
theorem dX8_firstFloatError_7 : decode cX8_firstFloatError 7 = .ok (.fconst 1, 1) := by decide +kernel
theorem dX8_firstFloatError_8 : decode cX8_firstFloatError 8 = .ok (.iload_n 1, 1) := by decide +kernel
theorem dX8_firstFloatError_9 : decode cX8_firstFloatError 9 = .ok (.i2f, 1) := by decide +kernel
theorem dX8_firstFloatError_10 : decode cX8_firstFloatError 10 = .ok (.fdiv, 1) := by decide +kernel
theorem dX8_firstFloatError_11 : decode cX8_firstFloatError 11 = .ok (.iload_n 1, 1) := by decide +kernel
theorem dX8_firstFloatError_12 : decode cX8_firstFloatError 12 = .ok (.ldc 240, 2) := by decide +kernel
theorem dX8_firstFloatError_14 : decode cX8_firstFloatError 14 = .ok (.invokestatic 241, 3) := by decide +kernel
theorem dX8_firstFloatError_17 : decode cX8_firstFloatError 17 = .ok (.ireturn, 1) := by decide +kernel
theorem dX8_firstDoubleError_0 : decode cX8_firstDoubleError 0 = .ok (.iload_n 1, 1) := by decide +kernel
theorem dX8_firstDoubleError_1 : decode cX8_firstDoubleError 1 = .ok (.iconst 1, 1) := by decide +kernel
theorem dX8_firstDoubleError_2 : decode cX8_firstDoubleError 2 = .ok (.ldc 227, 2) := by decide +kernel
theorem dX8_firstDoubleError_4 : decode cX8_firstDoubleError 4 = .ok (.invokestatic 91, 3) := by decide +kernel
theorem dX8_firstDoubleError_7 : decode cX8_firstDoubleError 7 = .ok (.dconst 1, 1) := by decide +kernel
theorem dX8_firstDoubleError_8 : decode cX8_firstDoubleError 8 = .ok (.iload_n 1, 1) := by decide +kernel
theorem dX8_firstDoubleError_9 : decode cX8_firstDoubleError 9 = .ok (.i2d, 1) := by decide +kernel
theorem dX8_firstDoubleError_10 : decode cX8_firstDoubleError 10 = .ok (.ddiv, 1) := by decide +kernel
theorem dX8_firstDoubleError_11 : decode cX8_firstDoubleError 11 = .ok (.iload_n 1, 1) := by decide +kernel
theorem dX8_firstDoubleError_12 : decode cX8_firstDoubleError 12 = .ok (.ldc 240, 2) := by decide +kernel
theorem dX8_firstDoubleError_14 : decode cX8_firstDoubleError 14 = .ok (.invokestatic 245, 3) := by decide +kernel
theorem dX8_firstDoubleError_17 : decode cX8_firstDoubleError 17 = .ok (.ireturn, 1) := by decide +kernel
theorem dX8_leastRaise_0 : decode cX8_leastRaise 0 = .ok (.iload_n 1, 1) := by decide +kernel
theorem dX8_leastRaise_1 : decode cX8_leastRaise 1 = .ok (.iconst 1, 1) := by decide +kernel
theorem dX8_leastRaise_2 : decode cX8_leastRaise 2 = .ok (.ldc 227, 2) := by decide +kernel
theorem dX8_leastRaise_4 : decode cX8_leastRaise 4 = .ok (.invokestatic 91, 3) := by decide +kernel
theorem dX8_leastRaise_7 : decode cX8_leastRaise 7 = .ok (.iconst 0, 1) := by decide +kernel
theorem dX8_leastRaise_8 : decode cX8_leastRaise 8 = .ok (.istore_n 2, 1) := by decide +kernel
theorem dX8_leastRaise_9 : decode cX8_leastRaise 9 = .ok (.iload_n 2, 1) := by decide +kernel
theorem dX8_leastRaise_10 : decode cX8_leastRaise 10 = .ok (.bipush 20, 2) := by decide +kernel
theorem dX8_leastRaise_12 : decode cX8_leastRaise 12 = .ok (.if_icmp .gt 37, 3) := by decide +kernel
theorem dX8_leastRaise_15 : decode cX8_leastRaise 15 = .ok (.fconst 1, 1) := by decide +kernel
theorem dX8_leastRaise_16 : decode cX8_leastRaise 16 = .ok (.iload_n 1, 1) := by decide +kernel
theorem dX8_leastRaise_17 : decode cX8_leastRaise 17 = .ok (.i2f, 1) := by decide +kernel
theorem dX8_leastRaise_18 : decode cX8_leastRaise 18 = .ok (.fdiv, 1) := by decide +kernel
theorem dX8_leastRaise_19 : decode cX8_leastRaise 19 = .ok (.fconst 1, 1) := by decide +kernel
theorem dX8_leastRaise_20 : decode cX8_leastRaise 20 = .ok (.iload_n 2, 1) := by decide +kernel
theorem dX8_leastRaise_21 : decode cX8_leastRaise 21 = .ok (.i2f, 1) := by decide +kernel
theorem dX8_leastRaise_22 : decode cX8_leastRaise 22 = .ok (.ldc 249, 2) := by decide +kernel
theorem dX8_leastRaise_24 : decode cX8_leastRaise 24 = .ok (.fdiv, 1) := by decide +kernel
theorem dX8_leastRaise_25 : decode cX8_leastRaise 25 = .ok (.fadd, 1) := by decide +kernel
theorem dX8_leastRaise_26 : decode cX8_leastRaise 26 = .ok (.fmul, 1) := by decide +kernel
theorem dX8_leastRaise_27 : decode cX8_leastRaise 27 = .ok (.fstore_n 3, 1) := by decide +kernel
theorem dX8_leastRaise_28 : decode cX8_leastRaise 28 = .ok (.fload_n 3, 1) := by decide +kernel
theorem dX8_leastRaise_29 : decode cX8_leastRaise 29 = .ok (.iload_n 1, 1) := by decide +kernel
theorem dX8_leastRaise_30 : decode cX8_leastRaise 30 = .ok (.aload_n 0, 1) := by decide +kernel
theorem dX8_leastRaise_31 : decode cX8_leastRaise 31 = .ok (.invokevirtual 87, 3) := by decide +kernel
theorem dX8_leastRaise_34 : decode cX8_leastRaise 34 = .ok (.invokestatic 241, 3) := by decide +kernel
theorem dX8_leastRaise_37 : decode cX8_leastRaise 37 = .ok (.iconst (-1), 1) := by decide +kernel
theorem dX8_leastRaise_38 : decode cX8_leastRaise 38 = .ok (.if_icmp .ne 5, 3) := by decide +kernel
theorem dX8_leastRaise_41 : decode cX8_leastRaise 41 = .ok (.iload_n 2, 1) := by decide +kernel
theorem dX8_leastRaise_42 : decode cX8_leastRaise 42 = .ok (.ireturn, 1) := by decide +kernel
theorem dX8_leastRaise_43 : decode cX8_leastRaise 43 = .ok (.iinc 2 1, 3) := by decide +kernel
theorem dX8_leastRaise_46 : decode cX8_leastRaise 46 = .ok (.goto (-37), 3) := by decide +kernel
theorem dX8_leastRaise_49 : decode cX8_leastRaise 49 = .ok (.iconst (-1), 1) := by decide +kernel
theorem dX8_leastRaise_50 : decode cX8_leastRaise 50 = .ok (.ireturn, 1) := by decide +kernel
theorem dX8_greatestValue_0 : decode cX8_greatestValue 0 = .ok (.iconst 1, 1) := by decide +kernel
theorem dX8_greatestValue_1 : decode cX8_greatestValue 1 = .ok (.aload_n 0, 1) := by decide +kernel
theorem dX8_greatestValue_2 : decode cX8_greatestValue 2 = .ok (.getfield 20, 3) := by decide +kernel
theorem dX8_greatestValue_5 : decode cX8_greatestValue 5 = .ok (.getfield 61, 3) := by decide +kernel
theorem dX8_greatestValue_8 : decode cX8_greatestValue 8 = .ok (.ishl, 1) := by decide +kernel
theorem dX8_greatestValue_9 : decode cX8_greatestValue 9 = .ok (.iconst 1, 1) := by decide +kernel
theorem dX8_greatestValue_10 : decode cX8_greatestValue 10 = .ok (.isub, 1) := by decide +kernel
theorem dX8_greatestValue_11 : decode cX8_greatestValue 11 = .ok (.ireturn, 1) := by decide +kernel
theorem dX8_requireFromTo_0 : decode cX8_requireFromTo 0 = .ok (.iload_n 0, 1) := by decide +kernel
theorem dX8_requireFromTo_1 : decode cX8_requireFromTo 1 = .ok (.iload_n 1, 1) := by decide +kernel
theorem dX8_requireFromTo_2 : decode cX8_requireFromTo 2 = .ok (.if_icmp .lt 8, 3) := by decide +kernel
theorem dX8_requireFromTo_5 : decode cX8_requireFromTo 5 = .ok (.iload_n 0, 1) := by decide +kernel
theorem dX8_requireFromTo_6 : decode cX8_requireFromTo 6 = .ok (.iload_n 2, 1) := by decide +kernel
theorem dX8_requireFromTo_7 : decode cX8_requireFromTo 7 = .ok (.if_icmp .le 13, 3) := by decide +kernel
theorem dX8_requireFromTo_10 : decode cX8_requireFromTo 10 = .ok (.new 54, 3) := by decide +kernel
theorem dX8_requireFromTo_13 : decode cX8_requireFromTo 13 = .ok (.dup, 1) := by decide +kernel
theorem dX8_requireFromTo_14 : decode cX8_requireFromTo 14 = .ok (.ldc 250, 2) := by decide +kernel
theorem dX8_requireFromTo_16 : decode cX8_requireFromTo 16 = .ok (.invokespecial 58, 3) := by decide +kernel
theorem dX8_requireFromTo_19 : decode cX8_requireFromTo 19 = .ok (.athrow, 1) := by decide +kernel
theorem dX8_requireFromTo_20 : decode cX8_requireFromTo 20 = .ok (.return_, 1) := by decide +kernel
theorem dX8_requireTask_0 : decode cX8_requireTask 0 = .ok (.aload_n 0, 1) := by decide +kernel
theorem dX8_requireTask_1 : decode cX8_requireTask 1 = .ok (.iload_n 1, 1) := by decide +kernel
theorem dX8_requireTask_2 : decode cX8_requireTask 2 = .ok (.iload_n 2, 1) := by decide +kernel
theorem dX8_requireTask_3 : decode cX8_requireTask 3 = .ok (.invokevirtual 252, 3) := by decide +kernel
theorem dX8_requireTask_6 : decode cX8_requireTask 6 = .ok (.ifCond .ne 14, 3) := by decide +kernel
theorem dX8_requireTask_9 : decode cX8_requireTask 9 = .ok (.new 54, 3) := by decide +kernel
theorem dX8_requireTask_12 : decode cX8_requireTask 12 = .ok (.dup, 1) := by decide +kernel
theorem dX8_requireTask_13 : decode cX8_requireTask 13 = .ok (.ldc_w 256, 3) := by decide +kernel
theorem dX8_requireTask_16 : decode cX8_requireTask 16 = .ok (.invokespecial 58, 3) := by decide +kernel
theorem dX8_requireTask_19 : decode cX8_requireTask 19 = .ok (.athrow, 1) := by decide +kernel
theorem dX8_requireTask_20 : decode cX8_requireTask 20 = .ok (.return_, 1) := by decide +kernel
theorem dX8_allowsTask_0 : decode cX8_allowsTask 0 = .ok (.aload_n 0, 1) := by decide +kernel
theorem dX8_allowsTask_1 : decode cX8_allowsTask 1 = .ok (.invokevirtual 87, 3) := by decide +kernel
theorem dX8_allowsTask_4 : decode cX8_allowsTask 4 = .ok (.istore_n 3, 1) := by decide +kernel
theorem dX8_allowsTask_5 : decode cX8_allowsTask 5 = .ok (.iload_n 3, 1) := by decide +kernel
theorem dX8_allowsTask_6 : decode cX8_allowsTask 6 = .ok (.iconst 1, 1) := by decide +kernel
theorem dX8_allowsTask_7 : decode cX8_allowsTask 7 = .ok (.ishr, 1) := by decide +kernel
theorem dX8_allowsTask_8 : decode cX8_allowsTask 8 = .ok (.istore 4, 2) := by decide +kernel
theorem dX8_allowsTask_10 : decode cX8_allowsTask 10 = .ok (.iload_n 1, 1) := by decide +kernel
theorem dX8_allowsTask_11 : decode cX8_allowsTask 11 = .ok (.tableswitch 133 0 7 #[45, 45, 61, 61, 85, 45, 102, 118], 45) := by decide +kernel
theorem dX8_allowsTask_56 : decode cX8_allowsTask 56 = .ok (.iload_n 2, 1) := by decide +kernel
theorem dX8_allowsTask_57 : decode cX8_allowsTask 57 = .ok (.iconst 1, 1) := by decide +kernel
theorem dX8_allowsTask_58 : decode cX8_allowsTask 58 = .ok (.if_icmp .lt 12, 3) := by decide +kernel
theorem dX8_allowsTask_61 : decode cX8_allowsTask 61 = .ok (.iload_n 2, 1) := by decide +kernel
theorem dX8_allowsTask_62 : decode cX8_allowsTask 62 = .ok (.iload_n 3, 1) := by decide +kernel
theorem dX8_allowsTask_63 : decode cX8_allowsTask 63 = .ok (.if_icmp .gt 7, 3) := by decide +kernel
theorem dX8_allowsTask_66 : decode cX8_allowsTask 66 = .ok (.iconst 1, 1) := by decide +kernel
theorem dX8_allowsTask_67 : decode cX8_allowsTask 67 = .ok (.goto 4, 3) := by decide +kernel
theorem dX8_allowsTask_70 : decode cX8_allowsTask 70 = .ok (.iconst 0, 1) := by decide +kernel
theorem dX8_allowsTask_71 : decode cX8_allowsTask 71 = .ok (.ireturn, 1) := by decide +kernel
theorem dX8_allowsTask_72 : decode cX8_allowsTask 72 = .ok (.iload_n 2, 1) := by decide +kernel
theorem dX8_allowsTask_73 : decode cX8_allowsTask 73 = .ok (.ifCond .eq 21, 3) := by decide +kernel
theorem dX8_allowsTask_76 : decode cX8_allowsTask 76 = .ok (.iload_n 2, 1) := by decide +kernel
theorem dX8_allowsTask_77 : decode cX8_allowsTask 77 = .ok (.iconst (-1), 1) := by decide +kernel
theorem dX8_allowsTask_78 : decode cX8_allowsTask 78 = .ok (.iload 4, 2) := by decide +kernel
theorem dX8_allowsTask_80 : decode cX8_allowsTask 80 = .ok (.isub, 1) := by decide +kernel
theorem dX8_allowsTask_81 : decode cX8_allowsTask 81 = .ok (.if_icmp .lt 13, 3) := by decide +kernel
theorem dX8_allowsTask_84 : decode cX8_allowsTask 84 = .ok (.iload_n 2, 1) := by decide +kernel
theorem dX8_allowsTask_85 : decode cX8_allowsTask 85 = .ok (.iload 4, 2) := by decide +kernel
theorem dX8_allowsTask_87 : decode cX8_allowsTask 87 = .ok (.if_icmp .gt 7, 3) := by decide +kernel
theorem dX8_allowsTask_90 : decode cX8_allowsTask 90 = .ok (.iconst 1, 1) := by decide +kernel
theorem dX8_allowsTask_91 : decode cX8_allowsTask 91 = .ok (.goto 4, 3) := by decide +kernel
theorem dX8_allowsTask_94 : decode cX8_allowsTask 94 = .ok (.iconst 0, 1) := by decide +kernel
theorem dX8_allowsTask_95 : decode cX8_allowsTask 95 = .ok (.ireturn, 1) := by decide +kernel
theorem dX8_allowsTask_96 : decode cX8_allowsTask 96 = .ok (.iload_n 2, 1) := by decide +kernel
theorem dX8_allowsTask_97 : decode cX8_allowsTask 97 = .ok (.iconst 1, 1) := by decide +kernel
theorem dX8_allowsTask_98 : decode cX8_allowsTask 98 = .ok (.if_icmp .lt 13, 3) := by decide +kernel
theorem dX8_allowsTask_101 : decode cX8_allowsTask 101 = .ok (.iload_n 2, 1) := by decide +kernel
theorem dX8_allowsTask_102 : decode cX8_allowsTask 102 = .ok (.iload 4, 2) := by decide +kernel
theorem dX8_allowsTask_104 : decode cX8_allowsTask 104 = .ok (.if_icmp .gt 7, 3) := by decide +kernel
theorem dX8_allowsTask_107 : decode cX8_allowsTask 107 = .ok (.iconst 1, 1) := by decide +kernel
theorem dX8_allowsTask_108 : decode cX8_allowsTask 108 = .ok (.goto 4, 3) := by decide +kernel
theorem dX8_allowsTask_111 : decode cX8_allowsTask 111 = .ok (.iconst 0, 1) := by decide +kernel
theorem dX8_allowsTask_112 : decode cX8_allowsTask 112 = .ok (.ireturn, 1) := by decide +kernel
theorem dX8_allowsTask_113 : decode cX8_allowsTask 113 = .ok (.iload_n 2, 1) := by decide +kernel
theorem dX8_allowsTask_114 : decode cX8_allowsTask 114 = .ok (.iconst 2, 1) := by decide +kernel
theorem dX8_allowsTask_115 : decode cX8_allowsTask 115 = .ok (.if_icmp .lt 12, 3) := by decide +kernel
theorem dX8_allowsTask_118 : decode cX8_allowsTask 118 = .ok (.iload_n 2, 1) := by decide +kernel
theorem dX8_allowsTask_119 : decode cX8_allowsTask 119 = .ok (.iload_n 3, 1) := by decide +kernel
theorem dX8_allowsTask_120 : decode cX8_allowsTask 120 = .ok (.if_icmp .gt 7, 3) := by decide +kernel
theorem dX8_allowsTask_123 : decode cX8_allowsTask 123 = .ok (.iconst 1, 1) := by decide +kernel
theorem dX8_allowsTask_124 : decode cX8_allowsTask 124 = .ok (.goto 4, 3) := by decide +kernel
theorem dX8_allowsTask_127 : decode cX8_allowsTask 127 = .ok (.iconst 0, 1) := by decide +kernel
theorem dX8_allowsTask_128 : decode cX8_allowsTask 128 = .ok (.ireturn, 1) := by decide +kernel
theorem dX8_allowsTask_129 : decode cX8_allowsTask 129 = .ok (.iload_n 2, 1) := by decide +kernel
theorem dX8_allowsTask_130 : decode cX8_allowsTask 130 = .ok (.ifCond .lt 12, 3) := by decide +kernel
theorem dX8_allowsTask_133 : decode cX8_allowsTask 133 = .ok (.iload_n 2, 1) := by decide +kernel
theorem dX8_allowsTask_134 : decode cX8_allowsTask 134 = .ok (.iload_n 3, 1) := by decide +kernel
theorem dX8_allowsTask_135 : decode cX8_allowsTask 135 = .ok (.if_icmp .gt 7, 3) := by decide +kernel
theorem dX8_allowsTask_138 : decode cX8_allowsTask 138 = .ok (.iconst 1, 1) := by decide +kernel
theorem dX8_allowsTask_139 : decode cX8_allowsTask 139 = .ok (.goto 4, 3) := by decide +kernel
theorem dX8_allowsTask_142 : decode cX8_allowsTask 142 = .ok (.iconst 0, 1) := by decide +kernel
theorem dX8_allowsTask_143 : decode cX8_allowsTask 143 = .ok (.ireturn, 1) := by decide +kernel
theorem dX8_allowsTask_144 : decode cX8_allowsTask 144 = .ok (.iconst 0, 1) := by decide +kernel
theorem dX8_allowsTask_145 : decode cX8_allowsTask 145 = .ok (.ireturn, 1) := by decide +kernel
theorem dX8_requireSomeTask_0 : decode cX8_requireSomeTask 0 = .ok (.aload_n 0, 1) := by decide +kernel
theorem dX8_requireSomeTask_1 : decode cX8_requireSomeTask 1 = .ok (.getfield 20, 3) := by decide +kernel
theorem dX8_requireSomeTask_4 : decode cX8_requireSomeTask 4 = .ok (.getfield 74, 3) := by decide +kernel
theorem dX8_requireSomeTask_7 : decode cX8_requireSomeTask 7 = .ok (.iconst (-1), 1) := by decide +kernel
theorem dX8_requireSomeTask_8 : decode cX8_requireSomeTask 8 = .ok (.if_icmp .ne 14, 3) := by decide +kernel
theorem dX8_requireSomeTask_11 : decode cX8_requireSomeTask 11 = .ok (.new 152, 3) := by decide +kernel
theorem dX8_requireSomeTask_14 : decode cX8_requireSomeTask 14 = .ok (.dup, 1) := by decide +kernel
theorem dX8_requireSomeTask_15 : decode cX8_requireSomeTask 15 = .ok (.ldc_w 258, 3) := by decide +kernel
theorem dX8_requireSomeTask_18 : decode cX8_requireSomeTask 18 = .ok (.invokespecial 156, 3) := by decide +kernel
theorem dX8_requireSomeTask_21 : decode cX8_requireSomeTask 21 = .ok (.athrow, 1) := by decide +kernel
theorem dX8_requireSomeTask_22 : decode cX8_requireSomeTask 22 = .ok (.return_, 1) := by decide +kernel
theorem dX8_requireValue_0 : decode cX8_requireValue 0 = .ok (.iload_n 1, 1) := by decide +kernel
theorem dX8_requireValue_1 : decode cX8_requireValue 1 = .ok (.ifCond .lt 14, 3) := by decide +kernel
theorem dX8_requireValue_4 : decode cX8_requireValue 4 = .ok (.iload_n 1, 1) := by decide +kernel
theorem dX8_requireValue_5 : decode cX8_requireValue 5 = .ok (.aload_n 0, 1) := by decide +kernel
theorem dX8_requireValue_6 : decode cX8_requireValue 6 = .ok (.getfield 20, 3) := by decide +kernel
theorem dX8_requireValue_9 : decode cX8_requireValue 9 = .ok (.getfield 136, 3) := by decide +kernel
theorem dX8_requireValue_12 : decode cX8_requireValue 12 = .ok (.if_icmp .le 14, 3) := by decide +kernel
theorem dX8_requireValue_15 : decode cX8_requireValue 15 = .ok (.new 80, 3) := by decide +kernel
theorem dX8_requireValue_18 : decode cX8_requireValue 18 = .ok (.dup, 1) := by decide +kernel
theorem dX8_requireValue_19 : decode cX8_requireValue 19 = .ok (.ldc_w 260, 3) := by decide +kernel
theorem dX8_requireValue_22 : decode cX8_requireValue 22 = .ok (.invokespecial 84, 3) := by decide +kernel
theorem dX8_requireValue_25 : decode cX8_requireValue 25 = .ok (.athrow, 1) := by decide +kernel
theorem dX8_requireValue_26 : decode cX8_requireValue 26 = .ok (.return_, 1) := by decide +kernel
theorem dX8_requireInstruction_0 : decode cX8_requireInstruction 0 = .ok (.iload_n 1, 1) := by decide +kernel
theorem dX8_requireInstruction_1 : decode cX8_requireInstruction 1 = .ok (.ifCond .lt 14, 3) := by decide +kernel
theorem dX8_requireInstruction_4 : decode cX8_requireInstruction 4 = .ok (.iload_n 1, 1) := by decide +kernel
theorem dX8_requireInstruction_5 : decode cX8_requireInstruction 5 = .ok (.aload_n 0, 1) := by decide +kernel
theorem dX8_requireInstruction_6 : decode cX8_requireInstruction 6 = .ok (.getfield 20, 3) := by decide +kernel
theorem dX8_requireInstruction_9 : decode cX8_requireInstruction 9 = .ok (.getfield 136, 3) := by decide +kernel
theorem dX8_requireInstruction_12 : decode cX8_requireInstruction 12 = .ok (.if_icmp .lt 14, 3) := by decide +kernel
theorem dX8_requireInstruction_15 : decode cX8_requireInstruction 15 = .ok (.new 80, 3) := by decide +kernel
theorem dX8_requireInstruction_18 : decode cX8_requireInstruction 18 = .ok (.dup, 1) := by decide +kernel
theorem dX8_requireInstruction_19 : decode cX8_requireInstruction 19 = .ok (.ldc_w 262, 3) := by decide +kernel
theorem dX8_requireInstruction_22 : decode cX8_requireInstruction 22 = .ok (.invokespecial 84, 3) := by decide +kernel
theorem dX8_requireInstruction_25 : decode cX8_requireInstruction 25 = .ok (.athrow, 1) := by decide +kernel
theorem dX8_requireInstruction_26 : decode cX8_requireInstruction 26 = .ok (.return_, 1) := by decide +kernel
theorem dX8_operandAt_0 : decode cX8_operandAt 0 = .ok (.aload_n 0, 1) := by decide +kernel
theorem dX8_operandAt_1 : decode cX8_operandAt 1 = .ok (.iload_n 1, 1) := by decide +kernel
theorem dX8_operandAt_2 : decode cX8_operandAt 2 = .ok (.invokevirtual 188, 3) := by decide +kernel
theorem dX8_operandAt_5 : decode cX8_operandAt 5 = .ok (.iload_n 2, 1) := by decide +kernel
theorem dX8_operandAt_6 : decode cX8_operandAt 6 = .ok (.ifCond .eq 19, 3) := by decide +kernel
theorem dX8_operandAt_9 : decode cX8_operandAt 9 = .ok (.iload_n 2, 1) := by decide +kernel
theorem dX8_operandAt_10 : decode cX8_operandAt 10 = .ok (.iconst 1, 1) := by decide +kernel
theorem dX8_operandAt_11 : decode cX8_operandAt 11 = .ok (.if_icmp .eq 14, 3) := by decide +kernel
theorem dX8_operandAt_14 : decode cX8_operandAt 14 = .ok (.new 80, 3) := by decide +kernel
theorem dX8_operandAt_17 : decode cX8_operandAt 17 = .ok (.dup, 1) := by decide +kernel
theorem dX8_operandAt_18 : decode cX8_operandAt 18 = .ok (.ldc_w 264, 3) := by decide +kernel
theorem dX8_operandAt_21 : decode cX8_operandAt 21 = .ok (.invokespecial 84, 3) := by decide +kernel
theorem dX8_operandAt_24 : decode cX8_operandAt 24 = .ok (.athrow, 1) := by decide +kernel
theorem dX8_operandAt_25 : decode cX8_operandAt 25 = .ok (.iload_n 2, 1) := by decide +kernel
theorem dX8_operandAt_26 : decode cX8_operandAt 26 = .ok (.ifCond .ne 15, 3) := by decide +kernel
theorem dX8_operandAt_29 : decode cX8_operandAt 29 = .ok (.aload_n 0, 1) := by decide +kernel
theorem dX8_operandAt_30 : decode cX8_operandAt 30 = .ok (.getfield 20, 3) := by decide +kernel
theorem dX8_operandAt_33 : decode cX8_operandAt 33 = .ok (.getfield 266, 3) := by decide +kernel
theorem dX8_operandAt_36 : decode cX8_operandAt 36 = .ok (.iload_n 1, 1) := by decide +kernel
theorem dX8_operandAt_37 : decode cX8_operandAt 37 = .ok (.iaload, 1) := by decide +kernel
theorem dX8_operandAt_38 : decode cX8_operandAt 38 = .ok (.goto 12, 3) := by decide +kernel
theorem dX8_operandAt_41 : decode cX8_operandAt 41 = .ok (.aload_n 0, 1) := by decide +kernel
theorem dX8_operandAt_42 : decode cX8_operandAt 42 = .ok (.getfield 20, 3) := by decide +kernel
theorem dX8_operandAt_45 : decode cX8_operandAt 45 = .ok (.getfield 269, 3) := by decide +kernel
theorem dX8_operandAt_48 : decode cX8_operandAt 48 = .ok (.iload_n 1, 1) := by decide +kernel
theorem dX8_operandAt_49 : decode cX8_operandAt 49 = .ok (.iaload, 1) := by decide +kernel
theorem dX8_operandAt_50 : decode cX8_operandAt 50 = .ok (.ireturn, 1) := by decide +kernel
theorem dX8_isRight_0 : decode cX8_isRight 0 = .ok (.aload_n 0, 1) := by decide +kernel
theorem dX8_isRight_1 : decode cX8_isRight 1 = .ok (.iload_n 1, 1) := by decide +kernel
theorem dX8_isRight_2 : decode cX8_isRight 2 = .ok (.invokevirtual 220, 3) := by decide +kernel
theorem dX8_isRight_5 : decode cX8_isRight 5 = .ok (.istore_n 2, 1) := by decide +kernel
theorem dX8_isRight_6 : decode cX8_isRight 6 = .ok (.iload_n 2, 1) := by decide +kernel
theorem dX8_isRight_7 : decode cX8_isRight 7 = .ok (.iconst (-1), 1) := by decide +kernel
theorem dX8_isRight_8 : decode cX8_isRight 8 = .ok (.if_icmp .eq 26, 3) := by decide +kernel
theorem dX8_isRight_11 : decode cX8_isRight 11 = .ok (.iload_n 2, 1) := by decide +kernel
theorem dX8_isRight_12 : decode cX8_isRight 12 = .ok (.aload_n 0, 1) := by decide +kernel
theorem dX8_isRight_13 : decode cX8_isRight 13 = .ok (.getfield 36, 3) := by decide +kernel
theorem dX8_isRight_16 : decode cX8_isRight 16 = .ok (.aload_n 0, 1) := by decide +kernel
theorem dX8_isRight_17 : decode cX8_isRight 17 = .ok (.getfield 20, 3) := by decide +kernel
theorem dX8_isRight_20 : decode cX8_isRight 20 = .ok (.iload_n 1, 1) := by decide +kernel
theorem dX8_isRight_21 : decode cX8_isRight 21 = .ok (.aload_n 0, 1) := by decide +kernel
theorem dX8_isRight_22 : decode cX8_isRight 22 = .ok (.getfield 20, 3) := by decide +kernel
theorem dX8_isRight_25 : decode cX8_isRight 25 = .ok (.getfield 133, 3) := by decide +kernel
theorem dX8_isRight_28 : decode cX8_isRight 28 = .ok (.invokevirtual 213, 3) := by decide +kernel
theorem dX8_isRight_31 : decode cX8_isRight 31 = .ok (.if_icmp .ne 7, 3) := by decide +kernel
theorem dX8_isRight_34 : decode cX8_isRight 34 = .ok (.iconst 1, 1) := by decide +kernel
theorem dX8_isRight_35 : decode cX8_isRight 35 = .ok (.goto 4, 3) := by decide +kernel
theorem dX8_isRight_38 : decode cX8_isRight 38 = .ok (.iconst 0, 1) := by decide +kernel
theorem dX8_isRight_39 : decode cX8_isRight 39 = .ok (.ireturn, 1) := by decide +kernel
theorem dX8_meaning_0 : decode cX8_meaning 0 = .ok (.aload_n 0, 1) := by decide +kernel
theorem dX8_meaning_1 : decode cX8_meaning 1 = .ok (.getfield 20, 3) := by decide +kernel
theorem dX8_meaning_4 : decode cX8_meaning 4 = .ok (.getfield 77, 3) := by decide +kernel
theorem dX8_meaning_7 : decode cX8_meaning 7 = .ok (.istore_n 2, 1) := by decide +kernel
theorem dX8_meaning_8 : decode cX8_meaning 8 = .ok (.iload_n 2, 1) := by decide +kernel
theorem dX8_meaning_9 : decode cX8_meaning 9 = .ok (.ifCond .ne 5, 3) := by decide +kernel
theorem dX8_meaning_12 : decode cX8_meaning 12 = .ok (.iconst 0, 1) := by decide +kernel
theorem dX8_meaning_13 : decode cX8_meaning 13 = .ok (.ireturn, 1) := by decide +kernel
theorem dX8_meaning_14 : decode cX8_meaning 14 = .ok (.aload_n 0, 1) := by decide +kernel
theorem dX8_meaning_15 : decode cX8_meaning 15 = .ok (.invokevirtual 87, 3) := by decide +kernel
theorem dX8_meaning_18 : decode cX8_meaning 18 = .ok (.istore_n 3, 1) := by decide +kernel
theorem dX8_meaning_19 : decode cX8_meaning 19 = .ok (.iload_n 1, 1) := by decide +kernel
theorem dX8_meaning_20 : decode cX8_meaning 20 = .ok (.aload_n 0, 1) := by decide +kernel
theorem dX8_meaning_21 : decode cX8_meaning 21 = .ok (.getfield 20, 3) := by decide +kernel
theorem dX8_meaning_24 : decode cX8_meaning 24 = .ok (.getfield 61, 3) := by decide +kernel
theorem dX8_meaning_27 : decode cX8_meaning 27 = .ok (.invokestatic 272, 3) := by decide +kernel
theorem dX8_meaning_30 : decode cX8_meaning 30 = .ok (.istore 4, 2) := by decide +kernel
theorem dX8_meaning_32 : decode cX8_meaning 32 = .ok (.aload_n 0, 1) := by decide +kernel
theorem dX8_meaning_33 : decode cX8_meaning 33 = .ok (.getfield 20, 3) := by decide +kernel
theorem dX8_meaning_36 : decode cX8_meaning 36 = .ok (.getfield 74, 3) := by decide +kernel
theorem dX8_meaning_39 : decode cX8_meaning 39 = .ok (.tableswitch 98 0 6 #[41, 45, 49, 56, 63, 72, 86], 41) := by decide +kernel
theorem dX8_meaning_80 : decode cX8_meaning 80 = .ok (.iload_n 1, 1) := by decide +kernel
theorem dX8_meaning_81 : decode cX8_meaning 81 = .ok (.iload_n 2, 1) := by decide +kernel
theorem dX8_meaning_82 : decode cX8_meaning 82 = .ok (.idiv, 1) := by decide +kernel
theorem dX8_meaning_83 : decode cX8_meaning 83 = .ok (.ireturn, 1) := by decide +kernel
theorem dX8_meaning_84 : decode cX8_meaning 84 = .ok (.iload_n 1, 1) := by decide +kernel
theorem dX8_meaning_85 : decode cX8_meaning 85 = .ok (.iload_n 2, 1) := by decide +kernel
theorem dX8_meaning_86 : decode cX8_meaning 86 = .ok (.irem, 1) := by decide +kernel
theorem dX8_meaning_87 : decode cX8_meaning 87 = .ok (.ireturn, 1) := by decide +kernel
theorem dX8_meaning_88 : decode cX8_meaning 88 = .ok (.iload 4, 2) := by decide +kernel
theorem dX8_meaning_90 : decode cX8_meaning 90 = .ok (.iload_n 2, 1) := by decide +kernel
theorem dX8_meaning_91 : decode cX8_meaning 91 = .ok (.idiv, 1) := by decide +kernel
theorem dX8_meaning_92 : decode cX8_meaning 92 = .ok (.iload_n 3, 1) := by decide +kernel
theorem dX8_meaning_93 : decode cX8_meaning 93 = .ok (.iand, 1) := by decide +kernel
theorem dX8_meaning_94 : decode cX8_meaning 94 = .ok (.ireturn, 1) := by decide +kernel
theorem dX8_meaning_95 : decode cX8_meaning 95 = .ok (.iload 4, 2) := by decide +kernel
theorem dX8_meaning_97 : decode cX8_meaning 97 = .ok (.iload_n 2, 1) := by decide +kernel
theorem dX8_meaning_98 : decode cX8_meaning 98 = .ok (.irem, 1) := by decide +kernel
theorem dX8_meaning_99 : decode cX8_meaning 99 = .ok (.iload_n 3, 1) := by decide +kernel
theorem dX8_meaning_100 : decode cX8_meaning 100 = .ok (.iand, 1) := by decide +kernel
theorem dX8_meaning_101 : decode cX8_meaning 101 = .ok (.ireturn, 1) := by decide +kernel
theorem dX8_meaning_102 : decode cX8_meaning 102 = .ok (.iload 4, 2) := by decide +kernel
theorem dX8_meaning_104 : decode cX8_meaning 104 = .ok (.iload_n 2, 1) := by decide +kernel
theorem dX8_meaning_105 : decode cX8_meaning 105 = .ok (.invokestatic 275, 3) := by decide +kernel
theorem dX8_meaning_108 : decode cX8_meaning 108 = .ok (.iload_n 3, 1) := by decide +kernel
theorem dX8_meaning_109 : decode cX8_meaning 109 = .ok (.iand, 1) := by decide +kernel
theorem dX8_meaning_110 : decode cX8_meaning 110 = .ok (.ireturn, 1) := by decide +kernel
theorem dX8_meaning_111 : decode cX8_meaning 111 = .ok (.iload_n 1, 1) := by decide +kernel
theorem dX8_meaning_112 : decode cX8_meaning 112 = .ok (.iload_n 2, 1) := by decide +kernel
theorem dX8_meaning_113 : decode cX8_meaning 113 = .ok (.irem, 1) := by decide +kernel
theorem dX8_meaning_114 : decode cX8_meaning 114 = .ok (.ifCond .ne 9, 3) := by decide +kernel
theorem dX8_meaning_117 : decode cX8_meaning 117 = .ok (.iload_n 1, 1) := by decide +kernel
theorem dX8_meaning_118 : decode cX8_meaning 118 = .ok (.iload_n 2, 1) := by decide +kernel
theorem dX8_meaning_119 : decode cX8_meaning 119 = .ok (.idiv, 1) := by decide +kernel
theorem dX8_meaning_120 : decode cX8_meaning 120 = .ok (.goto 4, 3) := by decide +kernel
theorem dX8_meaning_123 : decode cX8_meaning 123 = .ok (.iconst (-1), 1) := by decide +kernel
theorem dX8_meaning_124 : decode cX8_meaning 124 = .ok (.ireturn, 1) := by decide +kernel
theorem dX8_meaning_125 : decode cX8_meaning 125 = .ok (.iload_n 1, 1) := by decide +kernel
theorem dX8_meaning_126 : decode cX8_meaning 126 = .ok (.iload_n 2, 1) := by decide +kernel
theorem dX8_meaning_127 : decode cX8_meaning 127 = .ok (.irem, 1) := by decide +kernel
theorem dX8_meaning_128 : decode cX8_meaning 128 = .ok (.ifCond .ne 7, 3) := by decide +kernel
theorem dX8_meaning_131 : decode cX8_meaning 131 = .ok (.iconst 1, 1) := by decide +kernel
theorem dX8_meaning_132 : decode cX8_meaning 132 = .ok (.goto 4, 3) := by decide +kernel
theorem dX8_meaning_135 : decode cX8_meaning 135 = .ok (.iconst 0, 1) := by decide +kernel
theorem dX8_meaning_136 : decode cX8_meaning 136 = .ok (.ireturn, 1) := by decide +kernel
theorem dX8_meaning_137 : decode cX8_meaning 137 = .ok (.iload_n 1, 1) := by decide +kernel
theorem dX8_meaning_138 : decode cX8_meaning 138 = .ok (.iload_n 2, 1) := by decide +kernel
theorem dX8_meaning_139 : decode cX8_meaning 139 = .ok (.imul, 1) := by decide +kernel
theorem dX8_meaning_140 : decode cX8_meaning 140 = .ok (.iload_n 3, 1) := by decide +kernel
theorem dX8_meaning_141 : decode cX8_meaning 141 = .ok (.iand, 1) := by decide +kernel
theorem dX8_meaning_142 : decode cX8_meaning 142 = .ok (.ireturn, 1) := by decide +kernel
theorem dX9_init_0 : decode cX9_init 0 = .ok (.aload_n 0, 1) := by decide +kernel
theorem dX9_init_1 : decode cX9_init 1 = .ok (.invokespecial 1, 3) := by decide +kernel
theorem dX9_init_4 : decode cX9_init 4 = .ok (.aload_n 0, 1) := by decide +kernel
theorem dX9_init_5 : decode cX9_init 5 = .ok (.sipush 206, 3) := by decide +kernel
theorem dX9_init_8 : decode cX9_init 8 = .ok (.newarray .int, 2) := by decide +kernel
theorem dX9_init_10 : decode cX9_init 10 = .ok (.putfield 7, 3) := by decide +kernel
theorem dX9_init_13 : decode cX9_init 13 = .ok (.aload_n 0, 1) := by decide +kernel
theorem dX9_init_14 : decode cX9_init 14 = .ok (.sipush 1648, 3) := by decide +kernel
theorem dX9_init_17 : decode cX9_init 17 = .ok (.newarray .int, 2) := by decide +kernel
theorem dX9_init_19 : decode cX9_init 19 = .ok (.putfield 13, 3) := by decide +kernel
theorem dX9_init_22 : decode cX9_init 22 = .ok (.aload_n 0, 1) := by decide +kernel
theorem dX9_init_23 : decode cX9_init 23 = .ok (.iconst 3, 1) := by decide +kernel
theorem dX9_init_24 : decode cX9_init 24 = .ok (.newarray .int, 2) := by decide +kernel
theorem dX9_init_26 : decode cX9_init 26 = .ok (.putfield 16, 3) := by decide +kernel
theorem dX9_init_29 : decode cX9_init 29 = .ok (.aload_n 0, 1) := by decide +kernel
theorem dX9_init_30 : decode cX9_init 30 = .ok (.bipush 41, 2) := by decide +kernel
theorem dX9_init_32 : decode cX9_init 32 = .ok (.newarray .int, 2) := by decide +kernel
theorem dX9_init_34 : decode cX9_init 34 = .ok (.putfield 19, 3) := by decide +kernel
theorem dX9_init_37 : decode cX9_init 37 = .ok (.aload_n 0, 1) := by decide +kernel
theorem dX9_init_38 : decode cX9_init 38 = .ok (.bipush 41, 2) := by decide +kernel
theorem dX9_init_40 : decode cX9_init 40 = .ok (.newarray .boolean, 2) := by decide +kernel
theorem dX9_init_42 : decode cX9_init 42 = .ok (.putfield 22, 3) := by decide +kernel
theorem dX9_init_45 : decode cX9_init 45 = .ok (.aload_n 0, 1) := by decide +kernel
theorem dX9_init_46 : decode cX9_init 46 = .ok (.bipush 41, 2) := by decide +kernel
theorem dX9_init_48 : decode cX9_init 48 = .ok (.newarray .int, 2) := by decide +kernel
theorem dX9_init_50 : decode cX9_init 50 = .ok (.putfield 26, 3) := by decide +kernel
theorem dX9_init_53 : decode cX9_init 53 = .ok (.aload_n 0, 1) := by decide +kernel
theorem dX9_init_54 : decode cX9_init 54 = .ok (.bipush 68, 2) := by decide +kernel
theorem dX9_init_56 : decode cX9_init 56 = .ok (.newarray .char, 2) := by decide +kernel
theorem dX9_init_58 : decode cX9_init 58 = .ok (.dup, 1) := by decide +kernel
theorem dX9_init_59 : decode cX9_init 59 = .ok (.iconst 0, 1) := by decide +kernel
theorem dX9_init_60 : decode cX9_init 60 = .ok (.bipush 115, 2) := by decide +kernel
theorem dX9_init_62 : decode cX9_init 62 = .ok (.castore, 1) := by decide +kernel
theorem dX9_init_63 : decode cX9_init 63 = .ok (.dup, 1) := by decide +kernel
theorem dX9_init_64 : decode cX9_init 64 = .ok (.iconst 1, 1) := by decide +kernel
theorem dX9_init_65 : decode cX9_init 65 = .ok (.bipush 104, 2) := by decide +kernel
theorem dX9_init_67 : decode cX9_init 67 = .ok (.castore, 1) := by decide +kernel
theorem dX9_init_68 : decode cX9_init 68 = .ok (.dup, 1) := by decide +kernel
theorem dX9_init_69 : decode cX9_init 69 = .ok (.iconst 2, 1) := by decide +kernel
theorem dX9_init_70 : decode cX9_init 70 = .ok (.bipush 108, 2) := by decide +kernel
theorem dX9_init_72 : decode cX9_init 72 = .ok (.castore, 1) := by decide +kernel
theorem dX9_init_73 : decode cX9_init 73 = .ok (.dup, 1) := by decide +kernel
theorem dX9_init_74 : decode cX9_init 74 = .ok (.iconst 3, 1) := by decide +kernel
theorem dX9_init_75 : decode cX9_init 75 = .ok (.bipush 59, 2) := by decide +kernel
theorem dX9_init_77 : decode cX9_init 77 = .ok (.castore, 1) := by decide +kernel
theorem dX9_init_78 : decode cX9_init 78 = .ok (.dup, 1) := by decide +kernel
theorem dX9_init_79 : decode cX9_init 79 = .ok (.iconst 4, 1) := by decide +kernel
theorem dX9_init_80 : decode cX9_init 80 = .ok (.bipush 115, 2) := by decide +kernel
theorem dX9_init_82 : decode cX9_init 82 = .ok (.castore, 1) := by decide +kernel
theorem dX9_init_83 : decode cX9_init 83 = .ok (.dup, 1) := by decide +kernel
theorem dX9_init_84 : decode cX9_init 84 = .ok (.iconst 5, 1) := by decide +kernel
theorem dX9_init_85 : decode cX9_init 85 = .ok (.bipush 104, 2) := by decide +kernel
theorem dX9_init_87 : decode cX9_init 87 = .ok (.castore, 1) := by decide +kernel
theorem dX9_init_88 : decode cX9_init 88 = .ok (.dup, 1) := by decide +kernel
theorem dX9_init_89 : decode cX9_init 89 = .ok (.bipush 6, 2) := by decide +kernel
theorem dX9_init_91 : decode cX9_init 91 = .ok (.bipush 114, 2) := by decide +kernel
theorem dX9_init_93 : decode cX9_init 93 = .ok (.castore, 1) := by decide +kernel
theorem dX9_init_94 : decode cX9_init 94 = .ok (.dup, 1) := by decide +kernel
theorem dX9_init_95 : decode cX9_init 95 = .ok (.bipush 7, 2) := by decide +kernel
theorem dX9_init_97 : decode cX9_init 97 = .ok (.bipush 59, 2) := by decide +kernel
theorem dX9_init_99 : decode cX9_init 99 = .ok (.castore, 1) := by decide +kernel
theorem dX9_init_100 : decode cX9_init 100 = .ok (.dup, 1) := by decide +kernel
theorem dX9_init_101 : decode cX9_init 101 = .ok (.bipush 8, 2) := by decide +kernel
theorem dX9_init_103 : decode cX9_init 103 = .ok (.bipush 115, 2) := by decide +kernel
theorem dX9_init_105 : decode cX9_init 105 = .ok (.castore, 1) := by decide +kernel
theorem dX9_init_106 : decode cX9_init 106 = .ok (.dup, 1) := by decide +kernel
theorem dX9_init_107 : decode cX9_init 107 = .ok (.bipush 9, 2) := by decide +kernel
theorem dX9_init_109 : decode cX9_init 109 = .ok (.bipush 97, 2) := by decide +kernel
theorem dX9_init_111 : decode cX9_init 111 = .ok (.castore, 1) := by decide +kernel
theorem dX9_init_112 : decode cX9_init 112 = .ok (.dup, 1) := by decide +kernel
theorem dX9_init_113 : decode cX9_init 113 = .ok (.bipush 10, 2) := by decide +kernel
theorem dX9_init_115 : decode cX9_init 115 = .ok (.bipush 114, 2) := by decide +kernel
theorem dX9_init_117 : decode cX9_init 117 = .ok (.castore, 1) := by decide +kernel
theorem dX9_init_118 : decode cX9_init 118 = .ok (.dup, 1) := by decide +kernel
theorem dX9_init_119 : decode cX9_init 119 = .ok (.bipush 11, 2) := by decide +kernel
theorem dX9_init_121 : decode cX9_init 121 = .ok (.bipush 59, 2) := by decide +kernel
theorem dX9_init_123 : decode cX9_init 123 = .ok (.castore, 1) := by decide +kernel
theorem dX9_init_124 : decode cX9_init 124 = .ok (.dup, 1) := by decide +kernel
theorem dX9_init_125 : decode cX9_init 125 = .ok (.bipush 12, 2) := by decide +kernel
theorem dX9_init_127 : decode cX9_init 127 = .ok (.bipush 97, 2) := by decide +kernel
theorem dX9_init_129 : decode cX9_init 129 = .ok (.castore, 1) := by decide +kernel
theorem dX9_init_130 : decode cX9_init 130 = .ok (.dup, 1) := by decide +kernel
theorem dX9_init_131 : decode cX9_init 131 = .ok (.bipush 13, 2) := by decide +kernel
theorem dX9_init_133 : decode cX9_init 133 = .ok (.bipush 100, 2) := by decide +kernel
theorem dX9_init_135 : decode cX9_init 135 = .ok (.castore, 1) := by decide +kernel
theorem dX9_init_136 : decode cX9_init 136 = .ok (.dup, 1) := by decide +kernel
theorem dX9_init_137 : decode cX9_init 137 = .ok (.bipush 14, 2) := by decide +kernel
theorem dX9_init_139 : decode cX9_init 139 = .ok (.bipush 100, 2) := by decide +kernel
theorem dX9_init_141 : decode cX9_init 141 = .ok (.castore, 1) := by decide +kernel
theorem dX9_init_142 : decode cX9_init 142 = .ok (.dup, 1) := by decide +kernel
theorem dX9_init_143 : decode cX9_init 143 = .ok (.bipush 15, 2) := by decide +kernel
theorem dX9_init_145 : decode cX9_init 145 = .ok (.bipush 59, 2) := by decide +kernel
theorem dX9_init_147 : decode cX9_init 147 = .ok (.castore, 1) := by decide +kernel
theorem dX9_init_148 : decode cX9_init 148 = .ok (.dup, 1) := by decide +kernel
theorem dX9_init_149 : decode cX9_init 149 = .ok (.bipush 16, 2) := by decide +kernel
theorem dX9_init_151 : decode cX9_init 151 = .ok (.bipush 115, 2) := by decide +kernel
theorem dX9_init_153 : decode cX9_init 153 = .ok (.castore, 1) := by decide +kernel
theorem dX9_init_154 : decode cX9_init 154 = .ok (.dup, 1) := by decide +kernel
theorem dX9_init_155 : decode cX9_init 155 = .ok (.bipush 17, 2) := by decide +kernel
theorem dX9_init_157 : decode cX9_init 157 = .ok (.bipush 117, 2) := by decide +kernel
theorem dX9_init_159 : decode cX9_init 159 = .ok (.castore, 1) := by decide +kernel
theorem dX9_init_160 : decode cX9_init 160 = .ok (.dup, 1) := by decide +kernel
theorem dX9_init_161 : decode cX9_init 161 = .ok (.bipush 18, 2) := by decide +kernel
theorem dX9_init_163 : decode cX9_init 163 = .ok (.bipush 98, 2) := by decide +kernel
theorem dX9_init_165 : decode cX9_init 165 = .ok (.castore, 1) := by decide +kernel
theorem dX9_init_166 : decode cX9_init 166 = .ok (.dup, 1) := by decide +kernel
theorem dX9_init_167 : decode cX9_init 167 = .ok (.bipush 19, 2) := by decide +kernel
theorem dX9_init_169 : decode cX9_init 169 = .ok (.bipush 59, 2) := by decide +kernel
theorem dX9_init_171 : decode cX9_init 171 = .ok (.castore, 1) := by decide +kernel
theorem dX9_init_172 : decode cX9_init 172 = .ok (.dup, 1) := by decide +kernel
theorem dX9_init_173 : decode cX9_init 173 = .ok (.bipush 20, 2) := by decide +kernel
theorem dX9_init_175 : decode cX9_init 175 = .ok (.bipush 109, 2) := by decide +kernel
theorem dX9_init_177 : decode cX9_init 177 = .ok (.castore, 1) := by decide +kernel
theorem dX9_init_178 : decode cX9_init 178 = .ok (.dup, 1) := by decide +kernel
theorem dX9_init_179 : decode cX9_init 179 = .ok (.bipush 21, 2) := by decide +kernel
theorem dX9_init_181 : decode cX9_init 181 = .ok (.bipush 117, 2) := by decide +kernel
theorem dX9_init_183 : decode cX9_init 183 = .ok (.castore, 1) := by decide +kernel
theorem dX9_init_184 : decode cX9_init 184 = .ok (.dup, 1) := by decide +kernel
theorem dX9_init_185 : decode cX9_init 185 = .ok (.bipush 22, 2) := by decide +kernel
theorem dX9_init_187 : decode cX9_init 187 = .ok (.bipush 108, 2) := by decide +kernel
theorem dX9_init_189 : decode cX9_init 189 = .ok (.castore, 1) := by decide +kernel
theorem dX9_init_190 : decode cX9_init 190 = .ok (.dup, 1) := by decide +kernel
theorem dX9_init_191 : decode cX9_init 191 = .ok (.bipush 23, 2) := by decide +kernel
theorem dX9_init_193 : decode cX9_init 193 = .ok (.bipush 59, 2) := by decide +kernel
theorem dX9_init_195 : decode cX9_init 195 = .ok (.castore, 1) := by decide +kernel
theorem dX9_init_196 : decode cX9_init 196 = .ok (.dup, 1) := by decide +kernel
theorem dX9_init_197 : decode cX9_init 197 = .ok (.bipush 24, 2) := by decide +kernel
theorem dX9_init_199 : decode cX9_init 199 = .ok (.bipush 109, 2) := by decide +kernel
theorem dX9_init_201 : decode cX9_init 201 = .ok (.castore, 1) := by decide +kernel
theorem dX9_init_202 : decode cX9_init 202 = .ok (.dup, 1) := by decide +kernel
theorem dX9_init_203 : decode cX9_init 203 = .ok (.bipush 25, 2) := by decide +kernel
theorem dX9_init_205 : decode cX9_init 205 = .ok (.bipush 117, 2) := by decide +kernel
theorem dX9_init_207 : decode cX9_init 207 = .ok (.castore, 1) := by decide +kernel
theorem dX9_init_208 : decode cX9_init 208 = .ok (.dup, 1) := by decide +kernel
theorem dX9_init_209 : decode cX9_init 209 = .ok (.bipush 26, 2) := by decide +kernel
theorem dX9_init_211 : decode cX9_init 211 = .ok (.bipush 108, 2) := by decide +kernel
theorem dX9_init_213 : decode cX9_init 213 = .ok (.castore, 1) := by decide +kernel
theorem dX9_init_214 : decode cX9_init 214 = .ok (.dup, 1) := by decide +kernel
theorem dX9_init_215 : decode cX9_init 215 = .ok (.bipush 27, 2) := by decide +kernel
theorem dX9_init_217 : decode cX9_init 217 = .ok (.bipush 104, 2) := by decide +kernel
theorem dX9_init_219 : decode cX9_init 219 = .ok (.castore, 1) := by decide +kernel
theorem dX9_init_220 : decode cX9_init 220 = .ok (.dup, 1) := by decide +kernel
theorem dX9_init_221 : decode cX9_init 221 = .ok (.bipush 28, 2) := by decide +kernel
theorem dX9_init_223 : decode cX9_init 223 = .ok (.bipush 117, 2) := by decide +kernel
theorem dX9_init_225 : decode cX9_init 225 = .ok (.castore, 1) := by decide +kernel
theorem dX9_init_226 : decode cX9_init 226 = .ok (.dup, 1) := by decide +kernel
theorem dX9_init_227 : decode cX9_init 227 = .ok (.bipush 29, 2) := by decide +kernel
theorem dX9_init_229 : decode cX9_init 229 = .ok (.bipush 59, 2) := by decide +kernel
theorem dX9_init_231 : decode cX9_init 231 = .ok (.castore, 1) := by decide +kernel
theorem dX9_init_232 : decode cX9_init 232 = .ok (.dup, 1) := by decide +kernel
theorem dX9_init_233 : decode cX9_init 233 = .ok (.bipush 30, 2) := by decide +kernel
theorem dX9_init_235 : decode cX9_init 235 = .ok (.bipush 109, 2) := by decide +kernel
theorem dX9_init_237 : decode cX9_init 237 = .ok (.castore, 1) := by decide +kernel
theorem dX9_init_238 : decode cX9_init 238 = .ok (.dup, 1) := by decide +kernel
theorem dX9_init_239 : decode cX9_init 239 = .ok (.bipush 31, 2) := by decide +kernel
theorem dX9_init_241 : decode cX9_init 241 = .ok (.bipush 117, 2) := by decide +kernel
theorem dX9_init_243 : decode cX9_init 243 = .ok (.castore, 1) := by decide +kernel
theorem dX9_init_244 : decode cX9_init 244 = .ok (.dup, 1) := by decide +kernel
theorem dX9_init_245 : decode cX9_init 245 = .ok (.bipush 32, 2) := by decide +kernel
theorem dX9_init_247 : decode cX9_init 247 = .ok (.bipush 108, 2) := by decide +kernel
theorem dX9_init_249 : decode cX9_init 249 = .ok (.castore, 1) := by decide +kernel
theorem dX9_init_250 : decode cX9_init 250 = .ok (.dup, 1) := by decide +kernel
theorem dX9_init_251 : decode cX9_init 251 = .ok (.bipush 33, 2) := by decide +kernel
theorem dX9_init_253 : decode cX9_init 253 = .ok (.bipush 104, 2) := by decide +kernel
theorem dX9_init_255 : decode cX9_init 255 = .ok (.castore, 1) := by decide +kernel
theorem dX9_init_256 : decode cX9_init 256 = .ok (.dup, 1) := by decide +kernel
theorem dX9_init_257 : decode cX9_init 257 = .ok (.bipush 34, 2) := by decide +kernel
theorem dX9_init_259 : decode cX9_init 259 = .ok (.bipush 115, 2) := by decide +kernel
theorem dX9_init_261 : decode cX9_init 261 = .ok (.castore, 1) := by decide +kernel
theorem dX9_init_262 : decode cX9_init 262 = .ok (.dup, 1) := by decide +kernel
theorem dX9_init_263 : decode cX9_init 263 = .ok (.bipush 35, 2) := by decide +kernel
theorem dX9_init_265 : decode cX9_init 265 = .ok (.bipush 59, 2) := by decide +kernel
theorem dX9_init_267 : decode cX9_init 267 = .ok (.castore, 1) := by decide +kernel
theorem dX9_init_268 : decode cX9_init 268 = .ok (.dup, 1) := by decide +kernel
theorem dX9_init_269 : decode cX9_init 269 = .ok (.bipush 36, 2) := by decide +kernel
theorem dX9_init_271 : decode cX9_init 271 = .ok (.bipush 97, 2) := by decide +kernel
theorem dX9_init_273 : decode cX9_init 273 = .ok (.castore, 1) := by decide +kernel
theorem dX9_init_274 : decode cX9_init 274 = .ok (.dup, 1) := by decide +kernel
theorem dX9_init_275 : decode cX9_init 275 = .ok (.bipush 37, 2) := by decide +kernel
theorem dX9_init_277 : decode cX9_init 277 = .ok (.bipush 110, 2) := by decide +kernel
theorem dX9_init_279 : decode cX9_init 279 = .ok (.castore, 1) := by decide +kernel
theorem dX9_init_280 : decode cX9_init 280 = .ok (.dup, 1) := by decide +kernel
theorem dX9_init_281 : decode cX9_init 281 = .ok (.bipush 38, 2) := by decide +kernel
theorem dX9_init_283 : decode cX9_init 283 = .ok (.bipush 100, 2) := by decide +kernel
theorem dX9_init_285 : decode cX9_init 285 = .ok (.castore, 1) := by decide +kernel
theorem dX9_init_286 : decode cX9_init 286 = .ok (.dup, 1) := by decide +kernel
theorem dX9_init_287 : decode cX9_init 287 = .ok (.bipush 39, 2) := by decide +kernel
theorem dX9_init_289 : decode cX9_init 289 = .ok (.bipush 59, 2) := by decide +kernel
theorem dX9_init_291 : decode cX9_init 291 = .ok (.castore, 1) := by decide +kernel
theorem dX9_init_292 : decode cX9_init 292 = .ok (.dup, 1) := by decide +kernel
theorem dX9_init_293 : decode cX9_init 293 = .ok (.bipush 40, 2) := by decide +kernel
theorem dX9_init_295 : decode cX9_init 295 = .ok (.bipush 120, 2) := by decide +kernel
theorem dX9_init_297 : decode cX9_init 297 = .ok (.castore, 1) := by decide +kernel
theorem dX9_init_298 : decode cX9_init 298 = .ok (.dup, 1) := by decide +kernel
theorem dX9_init_299 : decode cX9_init 299 = .ok (.bipush 41, 2) := by decide +kernel
theorem dX9_init_301 : decode cX9_init 301 = .ok (.bipush 111, 2) := by decide +kernel
theorem dX9_init_303 : decode cX9_init 303 = .ok (.castore, 1) := by decide +kernel
theorem dX9_init_304 : decode cX9_init 304 = .ok (.dup, 1) := by decide +kernel
theorem dX9_init_305 : decode cX9_init 305 = .ok (.bipush 42, 2) := by decide +kernel
theorem dX9_init_307 : decode cX9_init 307 = .ok (.bipush 114, 2) := by decide +kernel
theorem dX9_init_309 : decode cX9_init 309 = .ok (.castore, 1) := by decide +kernel
theorem dX9_init_310 : decode cX9_init 310 = .ok (.dup, 1) := by decide +kernel
theorem dX9_init_311 : decode cX9_init 311 = .ok (.bipush 43, 2) := by decide +kernel
theorem dX9_init_313 : decode cX9_init 313 = .ok (.bipush 59, 2) := by decide +kernel
theorem dX9_init_315 : decode cX9_init 315 = .ok (.castore, 1) := by decide +kernel
theorem dX9_init_316 : decode cX9_init 316 = .ok (.dup, 1) := by decide +kernel
theorem dX9_init_317 : decode cX9_init 317 = .ok (.bipush 44, 2) := by decide +kernel
theorem dX9_init_319 : decode cX9_init 319 = .ok (.bipush 114, 2) := by decide +kernel
theorem dX9_init_321 : decode cX9_init 321 = .ok (.castore, 1) := by decide +kernel
theorem dX9_init_322 : decode cX9_init 322 = .ok (.dup, 1) := by decide +kernel
theorem dX9_init_323 : decode cX9_init 323 = .ok (.bipush 45, 2) := by decide +kernel
theorem dX9_init_325 : decode cX9_init 325 = .ok (.bipush 111, 2) := by decide +kernel
theorem dX9_init_327 : decode cX9_init 327 = .ok (.castore, 1) := by decide +kernel
theorem dX9_init_328 : decode cX9_init 328 = .ok (.dup, 1) := by decide +kernel
theorem dX9_init_329 : decode cX9_init 329 = .ok (.bipush 46, 2) := by decide +kernel
theorem dX9_init_331 : decode cX9_init 331 = .ok (.bipush 114, 2) := by decide +kernel
theorem dX9_init_333 : decode cX9_init 333 = .ok (.castore, 1) := by decide +kernel
theorem dX9_init_334 : decode cX9_init 334 = .ok (.dup, 1) := by decide +kernel
theorem dX9_init_335 : decode cX9_init 335 = .ok (.bipush 47, 2) := by decide +kernel
theorem dX9_init_337 : decode cX9_init 337 = .ok (.bipush 59, 2) := by decide +kernel
theorem dX9_init_339 : decode cX9_init 339 = .ok (.castore, 1) := by decide +kernel
theorem dX9_init_340 : decode cX9_init 340 = .ok (.dup, 1) := by decide +kernel
theorem dX9_init_341 : decode cX9_init 341 = .ok (.bipush 48, 2) := by decide +kernel
theorem dX9_init_343 : decode cX9_init 343 = .ok (.bipush 108, 2) := by decide +kernel
theorem dX9_init_345 : decode cX9_init 345 = .ok (.castore, 1) := by decide +kernel
theorem dX9_init_346 : decode cX9_init 346 = .ok (.dup, 1) := by decide +kernel
theorem dX9_init_347 : decode cX9_init 347 = .ok (.bipush 49, 2) := by decide +kernel
theorem dX9_init_349 : decode cX9_init 349 = .ok (.bipush 101, 2) := by decide +kernel
theorem dX9_init_351 : decode cX9_init 351 = .ok (.castore, 1) := by decide +kernel
theorem dX9_init_352 : decode cX9_init 352 = .ok (.dup, 1) := by decide +kernel
theorem dX9_init_353 : decode cX9_init 353 = .ok (.bipush 50, 2) := by decide +kernel
theorem dX9_init_355 : decode cX9_init 355 = .ok (.bipush 117, 2) := by decide +kernel
theorem dX9_init_357 : decode cX9_init 357 = .ok (.castore, 1) := by decide +kernel
theorem dX9_init_358 : decode cX9_init 358 = .ok (.dup, 1) := by decide +kernel
theorem dX9_init_359 : decode cX9_init 359 = .ok (.bipush 51, 2) := by decide +kernel
theorem dX9_init_361 : decode cX9_init 361 = .ok (.bipush 59, 2) := by decide +kernel
theorem dX9_init_363 : decode cX9_init 363 = .ok (.castore, 1) := by decide +kernel
theorem dX9_init_364 : decode cX9_init 364 = .ok (.dup, 1) := by decide +kernel
theorem dX9_init_365 : decode cX9_init 365 = .ok (.bipush 52, 2) := by decide +kernel
theorem dX9_init_367 : decode cX9_init 367 = .ok (.bipush 32, 2) := by decide +kernel
theorem dX9_init_369 : decode cX9_init 369 = .ok (.castore, 1) := by decide +kernel
theorem dX9_init_370 : decode cX9_init 370 = .ok (.dup, 1) := by decide +kernel
theorem dX9_init_371 : decode cX9_init 371 = .ok (.bipush 53, 2) := by decide +kernel
theorem dX9_init_373 : decode cX9_init 373 = .ok (.bipush 61, 2) := by decide +kernel
theorem dX9_init_375 : decode cX9_init 375 = .ok (.castore, 1) := by decide +kernel
theorem dX9_init_376 : decode cX9_init 376 = .ok (.dup, 1) := by decide +kernel
theorem dX9_init_377 : decode cX9_init 377 = .ok (.bipush 54, 2) := by decide +kernel
theorem dX9_init_379 : decode cX9_init 379 = .ok (.bipush 32, 2) := by decide +kernel
theorem dX9_init_381 : decode cX9_init 381 = .ok (.castore, 1) := by decide +kernel
theorem dX9_init_382 : decode cX9_init 382 = .ok (.dup, 1) := by decide +kernel
theorem dX9_init_383 : decode cX9_init 383 = .ok (.bipush 55, 2) := by decide +kernel
theorem dX9_init_385 : decode cX9_init 385 = .ok (.bipush 59, 2) := by decide +kernel
theorem dX9_init_387 : decode cX9_init 387 = .ok (.castore, 1) := by decide +kernel
theorem dX9_init_388 : decode cX9_init 388 = .ok (.dup, 1) := by decide +kernel
theorem dX9_init_389 : decode cX9_init 389 = .ok (.bipush 56, 2) := by decide +kernel
theorem dX9_init_391 : decode cX9_init 391 = .ok (.bipush 44, 2) := by decide +kernel
theorem dX9_init_393 : decode cX9_init 393 = .ok (.castore, 1) := by decide +kernel
theorem dX9_init_394 : decode cX9_init 394 = .ok (.dup, 1) := by decide +kernel
theorem dX9_init_395 : decode cX9_init 395 = .ok (.bipush 57, 2) := by decide +kernel
theorem dX9_init_397 : decode cX9_init 397 = .ok (.bipush 32, 2) := by decide +kernel
theorem dX9_init_399 : decode cX9_init 399 = .ok (.castore, 1) := by decide +kernel
theorem dX9_init_400 : decode cX9_init 400 = .ok (.dup, 1) := by decide +kernel
theorem dX9_init_401 : decode cX9_init 401 = .ok (.bipush 58, 2) := by decide +kernel
theorem dX9_init_403 : decode cX9_init 403 = .ok (.bipush 59, 2) := by decide +kernel
theorem dX9_init_405 : decode cX9_init 405 = .ok (.castore, 1) := by decide +kernel
theorem dX9_init_406 : decode cX9_init 406 = .ok (.dup, 1) := by decide +kernel
theorem dX9_init_407 : decode cX9_init 407 = .ok (.bipush 59, 2) := by decide +kernel
theorem dX9_init_409 : decode cX9_init 409 = .ok (.bipush 114, 2) := by decide +kernel
theorem dX9_init_411 : decode cX9_init 411 = .ok (.castore, 1) := by decide +kernel
theorem dX9_init_412 : decode cX9_init 412 = .ok (.dup, 1) := by decide +kernel
theorem dX9_init_413 : decode cX9_init 413 = .ok (.bipush 60, 2) := by decide +kernel
theorem dX9_init_415 : decode cX9_init 415 = .ok (.bipush 101, 2) := by decide +kernel
theorem dX9_init_417 : decode cX9_init 417 = .ok (.castore, 1) := by decide +kernel
theorem dX9_init_418 : decode cX9_init 418 = .ok (.dup, 1) := by decide +kernel
theorem dX9_init_419 : decode cX9_init 419 = .ok (.bipush 61, 2) := by decide +kernel
theorem dX9_init_421 : decode cX9_init 421 = .ok (.bipush 116, 2) := by decide +kernel
theorem dX9_init_423 : decode cX9_init 423 = .ok (.castore, 1) := by decide +kernel
theorem dX9_init_424 : decode cX9_init 424 = .ok (.dup, 1) := by decide +kernel
theorem dX9_init_425 : decode cX9_init 425 = .ok (.bipush 62, 2) := by decide +kernel
theorem dX9_init_427 : decode cX9_init 427 = .ok (.bipush 117, 2) := by decide +kernel
theorem dX9_init_429 : decode cX9_init 429 = .ok (.castore, 1) := by decide +kernel
theorem dX9_init_430 : decode cX9_init 430 = .ok (.dup, 1) := by decide +kernel
theorem dX9_init_431 : decode cX9_init 431 = .ok (.bipush 63, 2) := by decide +kernel
theorem dX9_init_433 : decode cX9_init 433 = .ok (.bipush 114, 2) := by decide +kernel
theorem dX9_init_435 : decode cX9_init 435 = .ok (.castore, 1) := by decide +kernel
theorem dX9_init_436 : decode cX9_init 436 = .ok (.dup, 1) := by decide +kernel
theorem dX9_init_437 : decode cX9_init 437 = .ok (.bipush 64, 2) := by decide +kernel
theorem dX9_init_439 : decode cX9_init 439 = .ok (.bipush 110, 2) := by decide +kernel
theorem dX9_init_441 : decode cX9_init 441 = .ok (.castore, 1) := by decide +kernel
theorem dX9_init_442 : decode cX9_init 442 = .ok (.dup, 1) := by decide +kernel
theorem dX9_init_443 : decode cX9_init 443 = .ok (.bipush 65, 2) := by decide +kernel
theorem dX9_init_445 : decode cX9_init 445 = .ok (.bipush 32, 2) := by decide +kernel
theorem dX9_init_447 : decode cX9_init 447 = .ok (.castore, 1) := by decide +kernel
theorem dX9_init_448 : decode cX9_init 448 = .ok (.dup, 1) := by decide +kernel
theorem dX9_init_449 : decode cX9_init 449 = .ok (.bipush 66, 2) := by decide +kernel
theorem dX9_init_451 : decode cX9_init 451 = .ok (.bipush 118, 2) := by decide +kernel
theorem dX9_init_453 : decode cX9_init 453 = .ok (.castore, 1) := by decide +kernel
theorem dX9_init_454 : decode cX9_init 454 = .ok (.dup, 1) := by decide +kernel
theorem dX9_init_455 : decode cX9_init 455 = .ok (.bipush 67, 2) := by decide +kernel
theorem dX9_init_457 : decode cX9_init 457 = .ok (.bipush 59, 2) := by decide +kernel
theorem dX9_init_459 : decode cX9_init 459 = .ok (.castore, 1) := by decide +kernel
theorem dX9_init_460 : decode cX9_init 460 = .ok (.putfield 29, 3) := by decide +kernel
theorem dX9_init_463 : decode cX9_init 463 = .ok (.aload_n 0, 1) := by decide +kernel
theorem dX9_init_464 : decode cX9_init 464 = .ok (.sipush 2000, 3) := by decide +kernel
theorem dX9_init_467 : decode cX9_init 467 = .ok (.newarray .int, 2) := by decide +kernel
theorem dX9_init_469 : decode cX9_init 469 = .ok (.putfield 33, 3) := by decide +kernel
theorem dX9_init_472 : decode cX9_init 472 = .ok (.aload_n 0, 1) := by decide +kernel
theorem dX9_init_473 : decode cX9_init 473 = .ok (.bipush 41, 2) := by decide +kernel
theorem dX9_init_475 : decode cX9_init 475 = .ok (.newarray .long, 2) := by decide +kernel
theorem dX9_init_477 : decode cX9_init 477 = .ok (.putfield 36, 3) := by decide +kernel
theorem dX9_init_480 : decode cX9_init 480 = .ok (.aload_n 0, 1) := by decide +kernel
theorem dX9_init_481 : decode cX9_init 481 = .ok (.getfield 7, 3) := by decide +kernel
theorem dX9_init_484 : decode cX9_init 484 = .ok (.iconst 0, 1) := by decide +kernel
theorem dX9_init_485 : decode cX9_init 485 = .ok (.bipush 8, 2) := by decide +kernel
theorem dX9_init_487 : decode cX9_init 487 = .ok (.iastore, 1) := by decide +kernel
theorem dX9_init_488 : decode cX9_init 488 = .ok (.aload_n 0, 1) := by decide +kernel
theorem dX9_init_489 : decode cX9_init 489 = .ok (.getfield 7, 3) := by decide +kernel
theorem dX9_init_492 : decode cX9_init 492 = .ok (.iconst 1, 1) := by decide +kernel
theorem dX9_init_493 : decode cX9_init 493 = .ok (.iconst (-1), 1) := by decide +kernel
theorem dX9_init_494 : decode cX9_init 494 = .ok (.iastore, 1) := by decide +kernel
theorem dX9_init_495 : decode cX9_init 495 = .ok (.aload_n 0, 1) := by decide +kernel
theorem dX9_init_496 : decode cX9_init 496 = .ok (.getfield 16, 3) := by decide +kernel
theorem dX9_init_499 : decode cX9_init 499 = .ok (.iconst 0, 1) := by decide +kernel
theorem dX9_init_500 : decode cX9_init 500 = .ok (.iconst 3, 1) := by decide +kernel
theorem dX9_init_501 : decode cX9_init 501 = .ok (.iastore, 1) := by decide +kernel
theorem dX9_init_502 : decode cX9_init 502 = .ok (.aload_n 0, 1) := by decide +kernel
theorem dX9_init_503 : decode cX9_init 503 = .ok (.getfield 16, 3) := by decide +kernel
theorem dX9_init_506 : decode cX9_init 506 = .ok (.iconst 1, 1) := by decide +kernel
theorem dX9_init_507 : decode cX9_init 507 = .ok (.iconst 5, 1) := by decide +kernel
theorem dX9_init_508 : decode cX9_init 508 = .ok (.iastore, 1) := by decide +kernel
theorem dX9_init_509 : decode cX9_init 509 = .ok (.aload_n 0, 1) := by decide +kernel
theorem dX9_init_510 : decode cX9_init 510 = .ok (.getfield 16, 3) := by decide +kernel
theorem dX9_init_513 : decode cX9_init 513 = .ok (.iconst 2, 1) := by decide +kernel
theorem dX9_init_514 : decode cX9_init 514 = .ok (.iconst 1, 1) := by decide +kernel
theorem dX9_init_515 : decode cX9_init 515 = .ok (.iastore, 1) := by decide +kernel
theorem dX9_init_516 : decode cX9_init 516 = .ok (.return_, 1) := by decide +kernel
theorem dX9_thrown_0 : decode cX9_thrown 0 = .ok (.aload_n 0, 1) := by decide +kernel
theorem dX9_thrown_1 : decode cX9_thrown 1 = .ok (.getfield 40, 3) := by decide +kernel
theorem dX9_thrown_4 : decode cX9_thrown 4 = .ok (.ireturn, 1) := by decide +kernel
theorem dX9_in_0 : decode cX9_in 0 = .ok (.lload_n 0, 1) := by decide +kernel
theorem dX9_in_1 : decode cX9_in 1 = .ok (.lload_n 2, 1) := by decide +kernel
theorem dX9_in_2 : decode cX9_in 2 = .ok (.lcmp, 1) := by decide +kernel
theorem dX9_in_3 : decode cX9_in 3 = .ok (.ifCond .lt 14, 3) := by decide +kernel
theorem dX9_in_6 : decode cX9_in 6 = .ok (.lload_n 0, 1) := by decide +kernel
theorem dX9_in_7 : decode cX9_in 7 = .ok (.lload 4, 2) := by decide +kernel
theorem dX9_in_9 : decode cX9_in 9 = .ok (.lcmp, 1) := by decide +kernel
theorem dX9_in_10 : decode cX9_in 10 = .ok (.ifCond .gt 7, 3) := by decide +kernel
theorem dX9_in_13 : decode cX9_in 13 = .ok (.iconst 1, 1) := by decide +kernel
theorem dX9_in_14 : decode cX9_in 14 = .ok (.goto 4, 3) := by decide +kernel
theorem dX9_in_17 : decode cX9_in 17 = .ok (.iconst 0, 1) := by decide +kernel
theorem dX9_in_18 : decode cX9_in 18 = .ok (.ireturn, 1) := by decide +kernel
theorem dX9_fails_0 : decode cX9_fails 0 = .ok (.aload_n 0, 1) := by decide +kernel
theorem dX9_fails_1 : decode cX9_fails 1 = .ok (.iload_n 1, 1) := by decide +kernel
theorem dX9_fails_2 : decode cX9_fails 2 = .ok (.putfield 40, 3) := by decide +kernel
theorem dX9_fails_5 : decode cX9_fails 5 = .ok (.iconst 0, 1) := by decide +kernel
theorem dX9_fails_6 : decode cX9_fails 6 = .ok (.ireturn, 1) := by decide +kernel
theorem dX9_edits_0 : decode cX9_edits 0 = .ok (.aload_n 0, 1) := by decide +kernel
theorem dX9_edits_1 : decode cX9_edits 1 = .ok (.getfield 44, 3) := by decide +kernel
theorem dX9_edits_4 : decode cX9_edits 4 = .ok (.bipush 8, 2) := by decide +kernel
theorem dX9_edits_6 : decode cX9_edits 6 = .ok (.if_icmp .ne 44, 3) := by decide +kernel
theorem dX9_edits_9 : decode cX9_edits 9 = .ok (.iconst 0, 1) := by decide +kernel
theorem dX9_edits_10 : decode cX9_edits 10 = .ok (.istore_n 1, 1) := by decide +kernel
theorem dX9_edits_11 : decode cX9_edits 11 = .ok (.iload_n 1, 1) := by decide +kernel
theorem dX9_edits_12 : decode cX9_edits 12 = .ok (.sipush 1442, 3) := by decide +kernel
theorem dX9_edits_15 : decode cX9_edits 15 = .ok (.if_icmp .ge 25, 3) := by decide +kernel
theorem dX9_edits_18 : decode cX9_edits 18 = .ok (.aload_n 0, 1) := by decide +kernel
theorem dX9_edits_19 : decode cX9_edits 19 = .ok (.getfield 13, 3) := by decide +kernel
theorem dX9_edits_22 : decode cX9_edits 22 = .ok (.iload_n 1, 1) := by decide +kernel
theorem dX9_edits_23 : decode cX9_edits 23 = .ok (.aload_n 0, 1) := by decide +kernel
theorem dX9_edits_24 : decode cX9_edits 24 = .ok (.getfield 13, 3) := by decide +kernel
theorem dX9_edits_27 : decode cX9_edits 27 = .ok (.iload_n 1, 1) := by decide +kernel
theorem dX9_edits_28 : decode cX9_edits 28 = .ok (.sipush 206, 3) := by decide +kernel
theorem dX9_edits_31 : decode cX9_edits 31 = .ok (.iadd, 1) := by decide +kernel
theorem dX9_edits_32 : decode cX9_edits 32 = .ok (.iaload, 1) := by decide +kernel
theorem dX9_edits_33 : decode cX9_edits 33 = .ok (.iastore, 1) := by decide +kernel
theorem dX9_edits_34 : decode cX9_edits 34 = .ok (.iinc 1 1, 3) := by decide +kernel
theorem dX9_edits_37 : decode cX9_edits 37 = .ok (.goto (-26), 3) := by decide +kernel
theorem dX9_edits_40 : decode cX9_edits 40 = .ok (.aload_n 0, 1) := by decide +kernel
theorem dX9_edits_41 : decode cX9_edits 41 = .ok (.dup, 1) := by decide +kernel
theorem dX9_edits_42 : decode cX9_edits 42 = .ok (.getfield 44, 3) := by decide +kernel
theorem dX9_edits_45 : decode cX9_edits 45 = .ok (.iconst 1, 1) := by decide +kernel
theorem dX9_edits_46 : decode cX9_edits 46 = .ok (.isub, 1) := by decide +kernel
theorem dX9_edits_47 : decode cX9_edits 47 = .ok (.putfield 44, 3) := by decide +kernel
theorem dX9_edits_50 : decode cX9_edits 50 = .ok (.iconst 0, 1) := by decide +kernel
theorem dX9_edits_51 : decode cX9_edits 51 = .ok (.istore_n 1, 1) := by decide +kernel
theorem dX9_edits_52 : decode cX9_edits 52 = .ok (.iload_n 1, 1) := by decide +kernel
theorem dX9_edits_53 : decode cX9_edits 53 = .ok (.sipush 206, 3) := by decide +kernel
theorem dX9_edits_56 : decode cX9_edits 56 = .ok (.if_icmp .ge 30, 3) := by decide +kernel
theorem dX9_edits_59 : decode cX9_edits 59 = .ok (.aload_n 0, 1) := by decide +kernel
theorem dX9_edits_60 : decode cX9_edits 60 = .ok (.getfield 13, 3) := by decide +kernel
theorem dX9_edits_63 : decode cX9_edits 63 = .ok (.sipush 206, 3) := by decide +kernel
theorem dX9_edits_66 : decode cX9_edits 66 = .ok (.aload_n 0, 1) := by decide +kernel
theorem dX9_edits_67 : decode cX9_edits 67 = .ok (.getfield 44, 3) := by decide +kernel
theorem dX9_edits_70 : decode cX9_edits 70 = .ok (.imul, 1) := by decide +kernel
theorem dX9_edits_71 : decode cX9_edits 71 = .ok (.iload_n 1, 1) := by decide +kernel
theorem dX9_edits_72 : decode cX9_edits 72 = .ok (.iadd, 1) := by decide +kernel
theorem dX9_edits_73 : decode cX9_edits 73 = .ok (.aload_n 0, 1) := by decide +kernel
theorem dX9_edits_74 : decode cX9_edits 74 = .ok (.getfield 7, 3) := by decide +kernel
theorem dX9_edits_77 : decode cX9_edits 77 = .ok (.iload_n 1, 1) := by decide +kernel
theorem dX9_edits_78 : decode cX9_edits 78 = .ok (.iaload, 1) := by decide +kernel
theorem dX9_edits_79 : decode cX9_edits 79 = .ok (.iastore, 1) := by decide +kernel
theorem dX9_edits_80 : decode cX9_edits 80 = .ok (.iinc 1 1, 3) := by decide +kernel
theorem dX9_edits_83 : decode cX9_edits 83 = .ok (.goto (-31), 3) := by decide +kernel
theorem dX9_edits_86 : decode cX9_edits 86 = .ok (.aload_n 0, 1) := by decide +kernel
theorem dX9_edits_87 : decode cX9_edits 87 = .ok (.dup, 1) := by decide +kernel
theorem dX9_edits_88 : decode cX9_edits 88 = .ok (.getfield 44, 3) := by decide +kernel
theorem dX9_edits_91 : decode cX9_edits 91 = .ok (.iconst 1, 1) := by decide +kernel
theorem dX9_edits_92 : decode cX9_edits 92 = .ok (.iadd, 1) := by decide +kernel
theorem dX9_edits_93 : decode cX9_edits 93 = .ok (.putfield 44, 3) := by decide +kernel
theorem dX9_edits_96 : decode cX9_edits 96 = .ok (.return_, 1) := by decide +kernel
theorem dX9_power_0 : decode cX9_power 0 = .ok (.lconst 1, 1) := by decide +kernel
theorem dX9_power_1 : decode cX9_power 1 = .ok (.iload_n 0, 1) := by decide +kernel
theorem dX9_power_2 : decode cX9_power 2 = .ok (.lshl, 1) := by decide +kernel
theorem dX9_power_3 : decode cX9_power 3 = .ok (.lreturn, 1) := by decide +kernel
theorem dX9_all_0 : decode cX9_all 0 = .ok (.aload_n 0, 1) := by decide +kernel
theorem dX9_all_1 : decode cX9_all 1 = .ok (.getfield 7, 3) := by decide +kernel
theorem dX9_all_4 : decode cX9_all 4 = .ok (.iconst 0, 1) := by decide +kernel
theorem dX9_all_5 : decode cX9_all 5 = .ok (.iaload, 1) := by decide +kernel
theorem dX9_all_6 : decode cX9_all 6 = .ok (.invokestatic 47, 3) := by decide +kernel
theorem dX9_all_9 : decode cX9_all 9 = .ok (.lreturn, 1) := by decide +kernel
theorem dX9_half_0 : decode cX9_half 0 = .ok (.aload_n 0, 1) := by decide +kernel
theorem dX9_half_1 : decode cX9_half 1 = .ok (.getfield 7, 3) := by decide +kernel
theorem dX9_half_4 : decode cX9_half 4 = .ok (.iconst 0, 1) := by decide +kernel
theorem dX9_half_5 : decode cX9_half 5 = .ok (.iaload, 1) := by decide +kernel
theorem dX9_half_6 : decode cX9_half 6 = .ok (.iconst 1, 1) := by decide +kernel
theorem dX9_half_7 : decode cX9_half 7 = .ok (.isub, 1) := by decide +kernel
theorem dX9_half_8 : decode cX9_half 8 = .ok (.invokestatic 47, 3) := by decide +kernel
theorem dX9_half_11 : decode cX9_half 11 = .ok (.lreturn, 1) := by decide +kernel
theorem dX9_floor_0 : decode cX9_floor 0 = .ok (.lload_n 0, 1) := by decide +kernel
theorem dX9_floor_1 : decode cX9_floor 1 = .ok (.lload_n 2, 1) := by decide +kernel
theorem dX9_floor_2 : decode cX9_floor 2 = .ok (.ldiv, 1) := by decide +kernel
theorem dX9_floor_3 : decode cX9_floor 3 = .ok (.lstore 4, 2) := by decide +kernel
theorem dX9_floor_5 : decode cX9_floor 5 = .ok (.lload_n 0, 1) := by decide +kernel
theorem dX9_floor_6 : decode cX9_floor 6 = .ok (.lload_n 2, 1) := by decide +kernel
theorem dX9_floor_7 : decode cX9_floor 7 = .ok (.lrem, 1) := by decide +kernel
theorem dX9_floor_8 : decode cX9_floor 8 = .ok (.lconst 0, 1) := by decide +kernel
theorem dX9_floor_9 : decode cX9_floor 9 = .ok (.lcmp, 1) := by decide +kernel
theorem dX9_floor_10 : decode cX9_floor 10 = .ok (.ifCond .ge 10, 3) := by decide +kernel
theorem dX9_floor_13 : decode cX9_floor 13 = .ok (.lload 4, 2) := by decide +kernel
theorem dX9_floor_15 : decode cX9_floor 15 = .ok (.lconst 1, 1) := by decide +kernel
theorem dX9_floor_16 : decode cX9_floor 16 = .ok (.lsub, 1) := by decide +kernel
theorem dX9_floor_17 : decode cX9_floor 17 = .ok (.goto 5, 3) := by decide +kernel
theorem dX9_floor_20 : decode cX9_floor 20 = .ok (.lload 4, 2) := by decide +kernel
theorem dX9_floor_22 : decode cX9_floor 22 = .ok (.lreturn, 1) := by decide +kernel
theorem dX9_value_0 : decode cX9_value 0 = .ok (.lload_n 1, 1) := by decide +kernel
theorem dX9_value_1 : decode cX9_value 1 = .ok (.aload_n 0, 1) := by decide +kernel
theorem dX9_value_2 : decode cX9_value 2 = .ok (.invokevirtual 51, 3) := by decide +kernel
theorem dX9_value_5 : decode cX9_value 5 = .ok (.lload_n 1, 1) := by decide +kernel
theorem dX9_value_6 : decode cX9_value 6 = .ok (.aload_n 0, 1) := by decide +kernel
theorem dX9_value_7 : decode cX9_value 7 = .ok (.invokevirtual 51, 3) := by decide +kernel
theorem dX9_value_10 : decode cX9_value 10 = .ok (.invokestatic 55, 3) := by decide +kernel
theorem dX9_value_13 : decode cX9_value 13 = .ok (.lmul, 1) := by decide +kernel
theorem dX9_value_14 : decode cX9_value 14 = .ok (.lsub, 1) := by decide +kernel
theorem dX9_value_15 : decode cX9_value 15 = .ok (.lreturn, 1) := by decide +kernel
theorem dX9_signed_0 : decode cX9_signed 0 = .ok (.lload_n 1, 1) := by decide +kernel
theorem dX9_signed_1 : decode cX9_signed 1 = .ok (.aload_n 0, 1) := by decide +kernel
theorem dX9_signed_2 : decode cX9_signed 2 = .ok (.invokevirtual 59, 3) := by decide +kernel
theorem dX9_signed_5 : decode cX9_signed 5 = .ok (.lcmp, 1) := by decide +kernel
theorem dX9_signed_6 : decode cX9_signed 6 = .ok (.ifCond .ge 7, 3) := by decide +kernel
theorem dX9_signed_9 : decode cX9_signed 9 = .ok (.lload_n 1, 1) := by decide +kernel
theorem dX9_signed_10 : decode cX9_signed 10 = .ok (.goto 9, 3) := by decide +kernel
theorem dX9_signed_13 : decode cX9_signed 13 = .ok (.lload_n 1, 1) := by decide +kernel
theorem dX9_signed_14 : decode cX9_signed 14 = .ok (.aload_n 0, 1) := by decide +kernel
theorem dX9_signed_15 : decode cX9_signed 15 = .ok (.invokevirtual 51, 3) := by decide +kernel
theorem dX9_signed_18 : decode cX9_signed 18 = .ok (.lsub, 1) := by decide +kernel
theorem dX9_signed_19 : decode cX9_signed 19 = .ok (.lreturn, 1) := by decide +kernel
theorem dX9_ceil_0 : decode cX9_ceil 0 = .ok (.lload_n 0, 1) := by decide +kernel
theorem dX9_ceil_1 : decode cX9_ceil 1 = .ok (.lload_n 2, 1) := by decide +kernel
theorem dX9_ceil_2 : decode cX9_ceil 2 = .ok (.ladd, 1) := by decide +kernel
theorem dX9_ceil_3 : decode cX9_ceil 3 = .ok (.lconst 1, 1) := by decide +kernel
theorem dX9_ceil_4 : decode cX9_ceil 4 = .ok (.lsub, 1) := by decide +kernel
theorem dX9_ceil_5 : decode cX9_ceil 5 = .ok (.lload_n 2, 1) := by decide +kernel
theorem dX9_ceil_6 : decode cX9_ceil 6 = .ok (.ldiv, 1) := by decide +kernel
theorem dX9_ceil_7 : decode cX9_ceil 7 = .ok (.lreturn, 1) := by decide +kernel
theorem dX9_twos_0 : decode cX9_twos 0 = .ok (.iconst 0, 1) := by decide +kernel
theorem dX9_twos_1 : decode cX9_twos 1 = .ok (.istore_n 2, 1) := by decide +kernel
theorem dX9_twos_2 : decode cX9_twos 2 = .ok (.lload_n 0, 1) := by decide +kernel
theorem dX9_twos_3 : decode cX9_twos 3 = .ok (.iload_n 2, 1) := by decide +kernel
theorem dX9_twos_4 : decode cX9_twos 4 = .ok (.lshr, 1) := by decide +kernel
theorem dX9_twos_5 : decode cX9_twos 5 = .ok (.lconst 1, 1) := by decide +kernel
theorem dX9_twos_6 : decode cX9_twos 6 = .ok (.land, 1) := by decide +kernel
theorem dX9_twos_7 : decode cX9_twos 7 = .ok (.lconst 0, 1) := by decide +kernel
theorem dX9_twos_8 : decode cX9_twos 8 = .ok (.lcmp, 1) := by decide +kernel
theorem dX9_twos_9 : decode cX9_twos 9 = .ok (.ifCond .ne 9, 3) := by decide +kernel
theorem dX9_twos_12 : decode cX9_twos 12 = .ok (.iinc 2 1, 3) := by decide +kernel
theorem dX9_twos_15 : decode cX9_twos 15 = .ok (.goto (-13), 3) := by decide +kernel
theorem dX9_twos_18 : decode cX9_twos 18 = .ok (.iload_n 2, 1) := by decide +kernel
theorem dX9_twos_19 : decode cX9_twos 19 = .ok (.ireturn, 1) := by decide +kernel
theorem dX9_isPower_0 : decode cX9_isPower 0 = .ok (.lload_n 0, 1) := by decide +kernel
theorem dX9_isPower_1 : decode cX9_isPower 1 = .ok (.lconst 0, 1) := by decide +kernel
theorem dX9_isPower_2 : decode cX9_isPower 2 = .ok (.lcmp, 1) := by decide +kernel
theorem dX9_isPower_3 : decode cX9_isPower 3 = .ok (.ifCond .le 17, 3) := by decide +kernel
theorem dX9_isPower_6 : decode cX9_isPower 6 = .ok (.lload_n 0, 1) := by decide +kernel
theorem dX9_isPower_7 : decode cX9_isPower 7 = .ok (.lload_n 0, 1) := by decide +kernel
theorem dX9_isPower_8 : decode cX9_isPower 8 = .ok (.lconst 1, 1) := by decide +kernel
theorem dX9_isPower_9 : decode cX9_isPower 9 = .ok (.lsub, 1) := by decide +kernel
theorem dX9_isPower_10 : decode cX9_isPower 10 = .ok (.land, 1) := by decide +kernel
theorem dX9_isPower_11 : decode cX9_isPower 11 = .ok (.lconst 0, 1) := by decide +kernel
theorem dX9_isPower_12 : decode cX9_isPower 12 = .ok (.lcmp, 1) := by decide +kernel
theorem dX9_isPower_13 : decode cX9_isPower 13 = .ok (.ifCond .ne 7, 3) := by decide +kernel
theorem dX9_isPower_16 : decode cX9_isPower 16 = .ok (.iconst 1, 1) := by decide +kernel
theorem dX9_isPower_17 : decode cX9_isPower 17 = .ok (.goto 4, 3) := by decide +kernel
theorem dX9_isPower_20 : decode cX9_isPower 20 = .ok (.iconst 0, 1) := by decide +kernel
theorem dX9_isPower_21 : decode cX9_isPower 21 = .ok (.ireturn, 1) := by decide +kernel
theorem dX9_shiftFor_0 : decode cX9_shiftFor 0 = .ok (.iconst 0, 1) := by decide +kernel
theorem dX9_shiftFor_1 : decode cX9_shiftFor 1 = .ok (.istore 4, 2) := by decide +kernel
theorem dX9_shiftFor_3 : decode cX9_shiftFor 3 = .ok (.aload_n 0, 1) := by decide +kernel
theorem dX9_shiftFor_4 : decode cX9_shiftFor 4 = .ok (.getfield 7, 3) := by decide +kernel
theorem dX9_shiftFor_7 : decode cX9_shiftFor 7 = .ok (.iconst 0, 1) := by decide +kernel
theorem dX9_shiftFor_8 : decode cX9_shiftFor 8 = .ok (.iaload, 1) := by decide +kernel
theorem dX9_shiftFor_9 : decode cX9_shiftFor 9 = .ok (.iload 4, 2) := by decide +kernel
theorem dX9_shiftFor_11 : decode cX9_shiftFor 11 = .ok (.iadd, 1) := by decide +kernel
theorem dX9_shiftFor_12 : decode cX9_shiftFor 12 = .ok (.invokestatic 47, 3) := by decide +kernel
theorem dX9_shiftFor_15 : decode cX9_shiftFor 15 = .ok (.lload_n 1, 1) := by decide +kernel
theorem dX9_shiftFor_16 : decode cX9_shiftFor 16 = .ok (.invokestatic 62, 3) := by decide +kernel
theorem dX9_shiftFor_19 : decode cX9_shiftFor 19 = .ok (.lload_n 1, 1) := by decide +kernel
theorem dX9_shiftFor_20 : decode cX9_shiftFor 20 = .ok (.lmul, 1) := by decide +kernel
theorem dX9_shiftFor_21 : decode cX9_shiftFor 21 = .ok (.aload_n 0, 1) := by decide +kernel
theorem dX9_shiftFor_22 : decode cX9_shiftFor 22 = .ok (.getfield 7, 3) := by decide +kernel
theorem dX9_shiftFor_25 : decode cX9_shiftFor 25 = .ok (.iconst 0, 1) := by decide +kernel
theorem dX9_shiftFor_26 : decode cX9_shiftFor 26 = .ok (.iaload, 1) := by decide +kernel
theorem dX9_shiftFor_27 : decode cX9_shiftFor 27 = .ok (.iload 4, 2) := by decide +kernel
theorem dX9_shiftFor_29 : decode cX9_shiftFor 29 = .ok (.iadd, 1) := by decide +kernel
theorem dX9_shiftFor_30 : decode cX9_shiftFor 30 = .ok (.invokestatic 47, 3) := by decide +kernel
theorem dX9_shiftFor_33 : decode cX9_shiftFor 33 = .ok (.lsub, 1) := by decide +kernel
theorem dX9_shiftFor_34 : decode cX9_shiftFor 34 = .ok (.iload 4, 2) := by decide +kernel
theorem dX9_shiftFor_36 : decode cX9_shiftFor 36 = .ok (.iload_n 3, 1) := by decide +kernel
theorem dX9_shiftFor_37 : decode cX9_shiftFor 37 = .ok (.iadd, 1) := by decide +kernel
theorem dX9_shiftFor_38 : decode cX9_shiftFor 38 = .ok (.invokestatic 47, 3) := by decide +kernel
theorem dX9_shiftFor_41 : decode cX9_shiftFor 41 = .ok (.lcmp, 1) := by decide +kernel
theorem dX9_shiftFor_42 : decode cX9_shiftFor 42 = .ok (.ifCond .le 9, 3) := by decide +kernel
theorem dX9_shiftFor_45 : decode cX9_shiftFor 45 = .ok (.iinc 4 1, 3) := by decide +kernel
theorem dX9_shiftFor_48 : decode cX9_shiftFor 48 = .ok (.goto (-45), 3) := by decide +kernel
theorem dX9_shiftFor_51 : decode cX9_shiftFor 51 = .ok (.iload 4, 2) := by decide +kernel
theorem dX9_shiftFor_53 : decode cX9_shiftFor 53 = .ok (.ireturn, 1) := by decide +kernel
theorem dX9_multiplierFor_0 : decode cX9_multiplierFor 0 = .ok (.aload_n 0, 1) := by decide +kernel
theorem dX9_multiplierFor_1 : decode cX9_multiplierFor 1 = .ok (.getfield 7, 3) := by decide +kernel
theorem dX9_multiplierFor_4 : decode cX9_multiplierFor 4 = .ok (.iconst 0, 1) := by decide +kernel
theorem dX9_multiplierFor_5 : decode cX9_multiplierFor 5 = .ok (.iaload, 1) := by decide +kernel
theorem dX9_multiplierFor_6 : decode cX9_multiplierFor 6 = .ok (.iload_n 3, 1) := by decide +kernel
theorem dX9_multiplierFor_7 : decode cX9_multiplierFor 7 = .ok (.iadd, 1) := by decide +kernel
theorem dX9_multiplierFor_8 : decode cX9_multiplierFor 8 = .ok (.invokestatic 47, 3) := by decide +kernel
theorem dX9_multiplierFor_11 : decode cX9_multiplierFor 11 = .ok (.lload_n 1, 1) := by decide +kernel
theorem dX9_multiplierFor_12 : decode cX9_multiplierFor 12 = .ok (.invokestatic 62, 3) := by decide +kernel
theorem dX9_multiplierFor_15 : decode cX9_multiplierFor 15 = .ok (.lreturn, 1) := by decide +kernel
theorem dX9_inverseOf_0 : decode cX9_inverseOf 0 = .ok (.lconst 1, 1) := by decide +kernel
theorem dX9_inverseOf_1 : decode cX9_inverseOf 1 = .ok (.lstore_n 3, 1) := by decide +kernel
theorem dX9_inverseOf_2 : decode cX9_inverseOf 2 = .ok (.aload_n 0, 1) := by decide +kernel
theorem dX9_inverseOf_3 : decode cX9_inverseOf 3 = .ok (.lload_n 1, 1) := by decide +kernel
theorem dX9_inverseOf_4 : decode cX9_inverseOf 4 = .ok (.lload_n 3, 1) := by decide +kernel
theorem dX9_inverseOf_5 : decode cX9_inverseOf 5 = .ok (.lmul, 1) := by decide +kernel
theorem dX9_inverseOf_6 : decode cX9_inverseOf 6 = .ok (.invokevirtual 65, 3) := by decide +kernel
theorem dX9_inverseOf_9 : decode cX9_inverseOf 9 = .ok (.lconst 1, 1) := by decide +kernel
theorem dX9_inverseOf_10 : decode cX9_inverseOf 10 = .ok (.lcmp, 1) := by decide +kernel
theorem dX9_inverseOf_11 : decode cX9_inverseOf 11 = .ok (.ifCond .eq 12, 3) := by decide +kernel
theorem dX9_inverseOf_14 : decode cX9_inverseOf 14 = .ok (.lload_n 3, 1) := by decide +kernel
theorem dX9_inverseOf_15 : decode cX9_inverseOf 15 = .ok (.ldc2_w 69, 3) := by decide +kernel
theorem dX9_inverseOf_18 : decode cX9_inverseOf 18 = .ok (.ladd, 1) := by decide +kernel
theorem dX9_inverseOf_19 : decode cX9_inverseOf 19 = .ok (.lstore_n 3, 1) := by decide +kernel
theorem dX9_inverseOf_20 : decode cX9_inverseOf 20 = .ok (.goto (-18), 3) := by decide +kernel
theorem dX9_inverseOf_23 : decode cX9_inverseOf 23 = .ok (.lload_n 3, 1) := by decide +kernel
theorem dX9_inverseOf_24 : decode cX9_inverseOf 24 = .ok (.lreturn, 1) := by decide +kernel
theorem dX9_digitAt_0 : decode cX9_digitAt 0 = .ok (.ldc2_w 71, 3) := by decide +kernel
theorem dX9_digitAt_3 : decode cX9_digitAt 3 = .ok (.lload_n 0, 1) := by decide +kernel
theorem dX9_digitAt_4 : decode cX9_digitAt 4 = .ok (.lmul, 1) := by decide +kernel
theorem dX9_digitAt_5 : decode cX9_digitAt 5 = .ok (.lstore_n 3, 1) := by decide +kernel
theorem dX9_digitAt_6 : decode cX9_digitAt 6 = .ok (.lload_n 3, 1) := by decide +kernel
theorem dX9_digitAt_7 : decode cX9_digitAt 7 = .ok (.iload_n 2, 1) := by decide +kernel
theorem dX9_digitAt_8 : decode cX9_digitAt 8 = .ok (.iconst 1, 1) := by decide +kernel
theorem dX9_digitAt_9 : decode cX9_digitAt 9 = .ok (.iadd, 1) := by decide +kernel
theorem dX9_digitAt_10 : decode cX9_digitAt 10 = .ok (.lshr, 1) := by decide +kernel
theorem dX9_digitAt_11 : decode cX9_digitAt 11 = .ok (.lconst 1, 1) := by decide +kernel
theorem dX9_digitAt_12 : decode cX9_digitAt 12 = .ok (.land, 1) := by decide +kernel
theorem dX9_digitAt_13 : decode cX9_digitAt 13 = .ok (.lload_n 0, 1) := by decide +kernel
theorem dX9_digitAt_14 : decode cX9_digitAt 14 = .ok (.iload_n 2, 1) := by decide +kernel
theorem dX9_digitAt_15 : decode cX9_digitAt 15 = .ok (.iconst 1, 1) := by decide +kernel
theorem dX9_digitAt_16 : decode cX9_digitAt 16 = .ok (.iadd, 1) := by decide +kernel
theorem dX9_digitAt_17 : decode cX9_digitAt 17 = .ok (.lshr, 1) := by decide +kernel
theorem dX9_digitAt_18 : decode cX9_digitAt 18 = .ok (.lconst 1, 1) := by decide +kernel
theorem dX9_digitAt_19 : decode cX9_digitAt 19 = .ok (.land, 1) := by decide +kernel
theorem dX9_digitAt_20 : decode cX9_digitAt 20 = .ok (.lsub, 1) := by decide +kernel
theorem dX9_digitAt_21 : decode cX9_digitAt 21 = .ok (.l2i, 1) := by decide +kernel
theorem dX9_digitAt_22 : decode cX9_digitAt 22 = .ok (.ireturn, 1) := by decide +kernel
theorem dX9_digitsOf_0 : decode cX9_digitsOf 0 = .ok (.iconst 0, 1) := by decide +kernel
theorem dX9_digitsOf_1 : decode cX9_digitsOf 1 = .ok (.istore_n 3, 1) := by decide +kernel
theorem dX9_digitsOf_2 : decode cX9_digitsOf 2 = .ok (.iconst 0, 1) := by decide +kernel
theorem dX9_digitsOf_3 : decode cX9_digitsOf 3 = .ok (.istore 4, 2) := by decide +kernel
theorem dX9_digitsOf_5 : decode cX9_digitsOf 5 = .ok (.iload 4, 2) := by decide +kernel
theorem dX9_digitsOf_7 : decode cX9_digitsOf 7 = .ok (.aload_n 0, 1) := by decide +kernel
theorem dX9_digitsOf_8 : decode cX9_digitsOf 8 = .ok (.getfield 7, 3) := by decide +kernel
theorem dX9_digitsOf_11 : decode cX9_digitsOf 11 = .ok (.iconst 0, 1) := by decide +kernel
theorem dX9_digitsOf_12 : decode cX9_digitsOf 12 = .ok (.iaload, 1) := by decide +kernel
theorem dX9_digitsOf_13 : decode cX9_digitsOf 13 = .ok (.if_icmp .ge 26, 3) := by decide +kernel
theorem dX9_digitsOf_16 : decode cX9_digitsOf 16 = .ok (.iload_n 3, 1) := by decide +kernel
theorem dX9_digitsOf_17 : decode cX9_digitsOf 17 = .ok (.lload_n 1, 1) := by decide +kernel
theorem dX9_digitsOf_18 : decode cX9_digitsOf 18 = .ok (.iload 4, 2) := by decide +kernel
theorem dX9_digitsOf_20 : decode cX9_digitsOf 20 = .ok (.invokestatic 73, 3) := by decide +kernel
theorem dX9_digitsOf_23 : decode cX9_digitsOf 23 = .ok (.ifCond .ne 7, 3) := by decide +kernel
theorem dX9_digitsOf_26 : decode cX9_digitsOf 26 = .ok (.iconst 0, 1) := by decide +kernel
theorem dX9_digitsOf_27 : decode cX9_digitsOf 27 = .ok (.goto 4, 3) := by decide +kernel
theorem dX9_digitsOf_30 : decode cX9_digitsOf 30 = .ok (.iconst 1, 1) := by decide +kernel
theorem dX9_digitsOf_31 : decode cX9_digitsOf 31 = .ok (.iadd, 1) := by decide +kernel
theorem dX9_digitsOf_32 : decode cX9_digitsOf 32 = .ok (.istore_n 3, 1) := by decide +kernel
theorem dX9_digitsOf_33 : decode cX9_digitsOf 33 = .ok (.iinc 4 1, 3) := by decide +kernel
theorem dX9_digitsOf_36 : decode cX9_digitsOf 36 = .ok (.goto (-31), 3) := by decide +kernel
theorem dX9_digitsOf_39 : decode cX9_digitsOf 39 = .ok (.iload_n 3, 1) := by decide +kernel
theorem dX9_digitsOf_40 : decode cX9_digitsOf 40 = .ok (.ireturn, 1) := by decide +kernel
theorem dX9_writes_0 : decode cX9_writes 0 = .ok (.iconst 5, 1) := by decide +kernel
theorem dX9_writes_1 : decode cX9_writes 1 = .ok (.iconst 5, 1) := by decide +kernel
theorem dX9_writes_2 : decode cX9_writes 2 = .ok (.aload_n 0, 1) := by decide +kernel
theorem dX9_writes_3 : decode cX9_writes 3 = .ok (.getfield 7, 3) := by decide +kernel
theorem dX9_writes_6 : decode cX9_writes 6 = .ok (.iconst 3, 1) := by decide +kernel
theorem dX9_writes_7 : decode cX9_writes 7 = .ok (.iaload, 1) := by decide +kernel
theorem dX9_writes_8 : decode cX9_writes 8 = .ok (.imul, 1) := by decide +kernel
theorem dX9_writes_9 : decode cX9_writes 9 = .ok (.iadd, 1) := by decide +kernel
theorem dX9_writes_10 : decode cX9_writes 10 = .ok (.istore 8, 2) := by decide +kernel
theorem dX9_writes_12 : decode cX9_writes 12 = .ok (.aload_n 0, 1) := by decide +kernel
theorem dX9_writes_13 : decode cX9_writes 13 = .ok (.getfield 7, 3) := by decide +kernel
theorem dX9_writes_16 : decode cX9_writes 16 = .ok (.iload 8, 2) := by decide +kernel
theorem dX9_writes_18 : decode cX9_writes 18 = .ok (.iload_n 1, 1) := by decide +kernel
theorem dX9_writes_19 : decode cX9_writes 19 = .ok (.iastore, 1) := by decide +kernel
theorem dX9_writes_20 : decode cX9_writes 20 = .ok (.aload_n 0, 1) := by decide +kernel
theorem dX9_writes_21 : decode cX9_writes 21 = .ok (.getfield 7, 3) := by decide +kernel
theorem dX9_writes_24 : decode cX9_writes 24 = .ok (.iload 8, 2) := by decide +kernel
theorem dX9_writes_26 : decode cX9_writes 26 = .ok (.iconst 1, 1) := by decide +kernel
theorem dX9_writes_27 : decode cX9_writes 27 = .ok (.iadd, 1) := by decide +kernel
theorem dX9_writes_28 : decode cX9_writes 28 = .ok (.iload_n 2, 1) := by decide +kernel
theorem dX9_writes_29 : decode cX9_writes 29 = .ok (.ifCond .eq 7, 3) := by decide +kernel
theorem dX9_writes_32 : decode cX9_writes 32 = .ok (.iconst 1, 1) := by decide +kernel
theorem dX9_writes_33 : decode cX9_writes 33 = .ok (.goto 4, 3) := by decide +kernel
theorem dX9_writes_36 : decode cX9_writes 36 = .ok (.iconst 0, 1) := by decide +kernel
theorem dX9_writes_37 : decode cX9_writes 37 = .ok (.iastore, 1) := by decide +kernel
theorem dX9_writes_38 : decode cX9_writes 38 = .ok (.aload_n 0, 1) := by decide +kernel
theorem dX9_writes_39 : decode cX9_writes 39 = .ok (.getfield 7, 3) := by decide +kernel
theorem dX9_writes_42 : decode cX9_writes 42 = .ok (.iload 8, 2) := by decide +kernel
theorem dX9_writes_44 : decode cX9_writes 44 = .ok (.iconst 2, 1) := by decide +kernel
theorem dX9_writes_45 : decode cX9_writes 45 = .ok (.iadd, 1) := by decide +kernel
theorem dX9_writes_46 : decode cX9_writes 46 = .ok (.lload_n 3, 1) := by decide +kernel
theorem dX9_writes_47 : decode cX9_writes 47 = .ok (.l2i, 1) := by decide +kernel
theorem dX9_writes_48 : decode cX9_writes 48 = .ok (.iastore, 1) := by decide +kernel
theorem dX9_writes_49 : decode cX9_writes 49 = .ok (.aload_n 0, 1) := by decide +kernel
theorem dX9_writes_50 : decode cX9_writes 50 = .ok (.getfield 7, 3) := by decide +kernel
theorem dX9_writes_53 : decode cX9_writes 53 = .ok (.iload 8, 2) := by decide +kernel
theorem dX9_writes_55 : decode cX9_writes 55 = .ok (.iconst 3, 1) := by decide +kernel
theorem dX9_writes_56 : decode cX9_writes 56 = .ok (.iadd, 1) := by decide +kernel
theorem dX9_writes_57 : decode cX9_writes 57 = .ok (.iload 5, 2) := by decide +kernel
theorem dX9_writes_59 : decode cX9_writes 59 = .ok (.ifCond .eq 7, 3) := by decide +kernel
theorem dX9_writes_62 : decode cX9_writes 62 = .ok (.iconst 1, 1) := by decide +kernel
theorem dX9_writes_63 : decode cX9_writes 63 = .ok (.goto 4, 3) := by decide +kernel
theorem dX9_writes_66 : decode cX9_writes 66 = .ok (.iconst 0, 1) := by decide +kernel
theorem dX9_writes_67 : decode cX9_writes 67 = .ok (.iastore, 1) := by decide +kernel
theorem dX9_writes_68 : decode cX9_writes 68 = .ok (.aload_n 0, 1) := by decide +kernel
theorem dX9_writes_69 : decode cX9_writes 69 = .ok (.getfield 7, 3) := by decide +kernel
theorem dX9_writes_72 : decode cX9_writes 72 = .ok (.iload 8, 2) := by decide +kernel
theorem dX9_writes_74 : decode cX9_writes 74 = .ok (.iconst 4, 1) := by decide +kernel
theorem dX9_writes_75 : decode cX9_writes 75 = .ok (.iadd, 1) := by decide +kernel
theorem dX9_writes_76 : decode cX9_writes 76 = .ok (.lload 6, 2) := by decide +kernel
theorem dX9_writes_78 : decode cX9_writes 78 = .ok (.l2i, 1) := by decide +kernel
theorem dX9_writes_79 : decode cX9_writes 79 = .ok (.iastore, 1) := by decide +kernel
theorem dX9_writes_80 : decode cX9_writes 80 = .ok (.aload_n 0, 1) := by decide +kernel
theorem dX9_writes_81 : decode cX9_writes 81 = .ok (.getfield 7, 3) := by decide +kernel
theorem dX9_writes_84 : decode cX9_writes 84 = .ok (.iconst 3, 1) := by decide +kernel
theorem dX9_writes_85 : decode cX9_writes 85 = .ok (.dup2, 1) := by decide +kernel
theorem dX9_writes_86 : decode cX9_writes 86 = .ok (.iaload, 1) := by decide +kernel
theorem dX9_writes_87 : decode cX9_writes 87 = .ok (.iconst 1, 1) := by decide +kernel
theorem dX9_writes_88 : decode cX9_writes 88 = .ok (.iadd, 1) := by decide +kernel
theorem dX9_writes_89 : decode cX9_writes 89 = .ok (.iastore, 1) := by decide +kernel
theorem dX9_writes_90 : decode cX9_writes 90 = .ok (.aload_n 0, 1) := by decide +kernel
theorem dX9_writes_91 : decode cX9_writes 91 = .ok (.getfield 7, 3) := by decide +kernel
theorem dX9_writes_94 : decode cX9_writes 94 = .ok (.iconst 3, 1) := by decide +kernel
theorem dX9_writes_95 : decode cX9_writes 95 = .ok (.iaload, 1) := by decide +kernel
theorem dX9_writes_96 : decode cX9_writes 96 = .ok (.ireturn, 1) := by decide +kernel
theorem dX9_shifts_0 : decode cX9_shifts 0 = .ok (.iload_n 3, 1) := by decide +kernel
theorem dX9_shifts_1 : decode cX9_shifts 1 = .ok (.ifCond .ne 7, 3) := by decide +kernel
theorem dX9_shifts_4 : decode cX9_shifts 4 = .ok (.iload_n 2, 1) := by decide +kernel
theorem dX9_shifts_5 : decode cX9_shifts 5 = .ok (.goto 14, 3) := by decide +kernel
theorem dX9_shifts_8 : decode cX9_shifts 8 = .ok (.aload_n 0, 1) := by decide +kernel
theorem dX9_shifts_9 : decode cX9_shifts 9 = .ok (.iload_n 1, 1) := by decide +kernel
theorem dX9_shifts_10 : decode cX9_shifts 10 = .ok (.iconst 0, 1) := by decide +kernel
theorem dX9_shifts_11 : decode cX9_shifts 11 = .ok (.iload_n 2, 1) := by decide +kernel
theorem dX9_shifts_12 : decode cX9_shifts 12 = .ok (.i2l, 1) := by decide +kernel
theorem dX9_shifts_13 : decode cX9_shifts 13 = .ok (.iconst 1, 1) := by decide +kernel
theorem dX9_shifts_14 : decode cX9_shifts 14 = .ok (.iload_n 3, 1) := by decide +kernel
theorem dX9_shifts_15 : decode cX9_shifts 15 = .ok (.i2l, 1) := by decide +kernel
theorem dX9_shifts_16 : decode cX9_shifts 16 = .ok (.invokevirtual 77, 3) := by decide +kernel
theorem dX9_shifts_19 : decode cX9_shifts 19 = .ok (.ireturn, 1) := by decide +kernel
theorem dX9_constant_0 : decode cX9_constant 0 = .ok (.aload_n 0, 1) := by decide +kernel
theorem dX9_constant_1 : decode cX9_constant 1 = .ok (.iload_n 1, 1) := by decide +kernel
theorem dX9_constant_2 : decode cX9_constant 2 = .ok (.iconst 0, 1) := by decide +kernel
theorem dX9_constant_3 : decode cX9_constant 3 = .ok (.iload_n 2, 1) := by decide +kernel
theorem dX9_constant_4 : decode cX9_constant 4 = .ok (.i2l, 1) := by decide +kernel
theorem dX9_constant_5 : decode cX9_constant 5 = .ok (.iconst 1, 1) := by decide +kernel
theorem dX9_constant_6 : decode cX9_constant 6 = .ok (.lload_n 3, 1) := by decide +kernel
theorem dX9_constant_7 : decode cX9_constant 7 = .ok (.invokevirtual 77, 3) := by decide +kernel
theorem dX9_constant_10 : decode cX9_constant 10 = .ok (.ireturn, 1) := by decide +kernel
theorem dX9_both_0 : decode cX9_both 0 = .ok (.aload_n 0, 1) := by decide +kernel
theorem dX9_both_1 : decode cX9_both 1 = .ok (.iload_n 1, 1) := by decide +kernel
theorem dX9_both_2 : decode cX9_both 2 = .ok (.iconst 0, 1) := by decide +kernel
theorem dX9_both_3 : decode cX9_both 3 = .ok (.iload_n 2, 1) := by decide +kernel
theorem dX9_both_4 : decode cX9_both 4 = .ok (.i2l, 1) := by decide +kernel
theorem dX9_both_5 : decode cX9_both 5 = .ok (.iconst 0, 1) := by decide +kernel
theorem dX9_both_6 : decode cX9_both 6 = .ok (.iload_n 3, 1) := by decide +kernel
theorem dX9_both_7 : decode cX9_both 7 = .ok (.i2l, 1) := by decide +kernel
theorem dX9_both_8 : decode cX9_both 8 = .ok (.invokevirtual 77, 3) := by decide +kernel
theorem dX9_both_11 : decode cX9_both 11 = .ok (.ireturn, 1) := by decide +kernel
theorem dX9_negative_0 : decode cX9_negative 0 = .ok (.aload_n 0, 1) := by decide +kernel
theorem dX9_negative_1 : decode cX9_negative 1 = .ok (.iconst 4, 1) := by decide +kernel
theorem dX9_negative_2 : decode cX9_negative 2 = .ok (.iconst 1, 1) := by decide +kernel
theorem dX9_negative_3 : decode cX9_negative 3 = .ok (.lconst 0, 1) := by decide +kernel
theorem dX9_negative_4 : decode cX9_negative 4 = .ok (.iconst 0, 1) := by decide +kernel
theorem dX9_negative_5 : decode cX9_negative 5 = .ok (.iload_n 1, 1) := by decide +kernel
theorem dX9_negative_6 : decode cX9_negative 6 = .ok (.i2l, 1) := by decide +kernel
theorem dX9_negative_7 : decode cX9_negative 7 = .ok (.invokevirtual 77, 3) := by decide +kernel
theorem dX9_negative_10 : decode cX9_negative 10 = .ok (.ireturn, 1) := by decide +kernel
theorem dX9_lengthOf_0 : decode cX9_lengthOf 0 = .ok (.iconst 0, 1) := by decide +kernel
theorem dX9_lengthOf_1 : decode cX9_lengthOf 1 = .ok (.istore_n 3, 1) := by decide +kernel
theorem dX9_lengthOf_2 : decode cX9_lengthOf 2 = .ok (.iconst 1, 1) := by decide +kernel
theorem dX9_lengthOf_3 : decode cX9_lengthOf 3 = .ok (.istore 4, 2) := by decide +kernel
theorem dX9_lengthOf_5 : decode cX9_lengthOf 5 = .ok (.iconst 0, 1) := by decide +kernel
theorem dX9_lengthOf_6 : decode cX9_lengthOf 6 = .ok (.istore 5, 2) := by decide +kernel
theorem dX9_lengthOf_8 : decode cX9_lengthOf 8 = .ok (.iload 5, 2) := by decide +kernel
theorem dX9_lengthOf_10 : decode cX9_lengthOf 10 = .ok (.aload_n 0, 1) := by decide +kernel
theorem dX9_lengthOf_11 : decode cX9_lengthOf 11 = .ok (.getfield 7, 3) := by decide +kernel
theorem dX9_lengthOf_14 : decode cX9_lengthOf 14 = .ok (.iconst 0, 1) := by decide +kernel
theorem dX9_lengthOf_15 : decode cX9_lengthOf 15 = .ok (.iaload, 1) := by decide +kernel
theorem dX9_lengthOf_16 : decode cX9_lengthOf 16 = .ok (.if_icmp .ge 54, 3) := by decide +kernel
theorem dX9_lengthOf_19 : decode cX9_lengthOf 19 = .ok (.lload_n 1, 1) := by decide +kernel
theorem dX9_lengthOf_20 : decode cX9_lengthOf 20 = .ok (.iload 5, 2) := by decide +kernel
theorem dX9_lengthOf_22 : decode cX9_lengthOf 22 = .ok (.invokestatic 73, 3) := by decide +kernel
theorem dX9_lengthOf_25 : decode cX9_lengthOf 25 = .ok (.istore 6, 2) := by decide +kernel
theorem dX9_lengthOf_27 : decode cX9_lengthOf 27 = .ok (.iload 6, 2) := by decide +kernel
theorem dX9_lengthOf_29 : decode cX9_lengthOf 29 = .ok (.ifCond .eq 35, 3) := by decide +kernel
theorem dX9_lengthOf_32 : decode cX9_lengthOf 32 = .ok (.iload_n 3, 1) := by decide +kernel
theorem dX9_lengthOf_33 : decode cX9_lengthOf 33 = .ok (.iload 5, 2) := by decide +kernel
theorem dX9_lengthOf_35 : decode cX9_lengthOf 35 = .ok (.ifCond .le 7, 3) := by decide +kernel
theorem dX9_lengthOf_38 : decode cX9_lengthOf 38 = .ok (.iconst 1, 1) := by decide +kernel
theorem dX9_lengthOf_39 : decode cX9_lengthOf 39 = .ok (.goto 4, 3) := by decide +kernel
theorem dX9_lengthOf_42 : decode cX9_lengthOf 42 = .ok (.iconst 0, 1) := by decide +kernel
theorem dX9_lengthOf_43 : decode cX9_lengthOf 43 = .ok (.iload 4, 2) := by decide +kernel
theorem dX9_lengthOf_45 : decode cX9_lengthOf 45 = .ok (.ifCond .eq 8, 3) := by decide +kernel
theorem dX9_lengthOf_48 : decode cX9_lengthOf 48 = .ok (.iload 6, 2) := by decide +kernel
theorem dX9_lengthOf_50 : decode cX9_lengthOf 50 = .ok (.ifCond .ge 7, 3) := by decide +kernel
theorem dX9_lengthOf_53 : decode cX9_lengthOf 53 = .ok (.iconst 1, 1) := by decide +kernel
theorem dX9_lengthOf_54 : decode cX9_lengthOf 54 = .ok (.goto 4, 3) := by decide +kernel
theorem dX9_lengthOf_57 : decode cX9_lengthOf 57 = .ok (.iconst 0, 1) := by decide +kernel
theorem dX9_lengthOf_58 : decode cX9_lengthOf 58 = .ok (.iadd, 1) := by decide +kernel
theorem dX9_lengthOf_59 : decode cX9_lengthOf 59 = .ok (.iadd, 1) := by decide +kernel
theorem dX9_lengthOf_60 : decode cX9_lengthOf 60 = .ok (.istore_n 3, 1) := by decide +kernel
theorem dX9_lengthOf_61 : decode cX9_lengthOf 61 = .ok (.iconst 0, 1) := by decide +kernel
theorem dX9_lengthOf_62 : decode cX9_lengthOf 62 = .ok (.istore 4, 2) := by decide +kernel
theorem dX9_lengthOf_64 : decode cX9_lengthOf 64 = .ok (.iinc 5 1, 3) := by decide +kernel
theorem dX9_lengthOf_67 : decode cX9_lengthOf 67 = .ok (.goto (-59), 3) := by decide +kernel
theorem dX9_lengthOf_70 : decode cX9_lengthOf 70 = .ok (.iload_n 3, 1) := by decide +kernel
theorem dX9_lengthOf_71 : decode cX9_lengthOf 71 = .ok (.ireturn, 1) := by decide +kernel
theorem dX9_product_0 : decode cX9_product 0 = .ok (.lload_n 2, 1) := by decide +kernel
theorem dX9_product_1 : decode cX9_product 1 = .ok (.lconst 1, 1) := by decide +kernel
theorem dX9_product_2 : decode cX9_product 2 = .ok (.lcmp, 1) := by decide +kernel
theorem dX9_product_3 : decode cX9_product 3 = .ok (.ifCond .ne 5, 3) := by decide +kernel
theorem dX9_product_6 : decode cX9_product 6 = .ok (.iload_n 1, 1) := by decide +kernel
theorem dX9_product_7 : decode cX9_product 7 = .ok (.ireturn, 1) := by decide +kernel
theorem dX9_product_8 : decode cX9_product 8 = .ok (.lload_n 2, 1) := by decide +kernel
theorem dX9_product_9 : decode cX9_product 9 = .ok (.lconst 0, 1) := by decide +kernel
theorem dX9_product_10 : decode cX9_product 10 = .ok (.lcmp, 1) := by decide +kernel
theorem dX9_product_11 : decode cX9_product 11 = .ok (.ifCond .ne 12, 3) := by decide +kernel
theorem dX9_product_14 : decode cX9_product 14 = .ok (.aload_n 0, 1) := by decide +kernel
theorem dX9_product_15 : decode cX9_product 15 = .ok (.bipush 8, 2) := by decide +kernel
theorem dX9_product_17 : decode cX9_product 17 = .ok (.iload_n 1, 1) := by decide +kernel
theorem dX9_product_18 : decode cX9_product 18 = .ok (.lconst 0, 1) := by decide +kernel
theorem dX9_product_19 : decode cX9_product 19 = .ok (.invokevirtual 81, 3) := by decide +kernel
theorem dX9_product_22 : decode cX9_product 22 = .ok (.ireturn, 1) := by decide +kernel
theorem dX9_product_23 : decode cX9_product 23 = .ok (.aload_n 0, 1) := by decide +kernel
theorem dX9_product_24 : decode cX9_product 24 = .ok (.lload_n 2, 1) := by decide +kernel
theorem dX9_product_25 : decode cX9_product 25 = .ok (.invokevirtual 85, 3) := by decide +kernel
theorem dX9_product_28 : decode cX9_product 28 = .ok (.aload_n 0, 1) := by decide +kernel
theorem dX9_product_29 : decode cX9_product 29 = .ok (.getfield 16, 3) := by decide +kernel
theorem dX9_product_32 : decode cX9_product 32 = .ok (.iconst 2, 1) := by decide +kernel
theorem dX9_product_33 : decode cX9_product 33 = .ok (.iaload, 1) := by decide +kernel
theorem dX9_product_34 : decode cX9_product 34 = .ok (.imul, 1) := by decide +kernel
theorem dX9_product_35 : decode cX9_product 35 = .ok (.aload_n 0, 1) := by decide +kernel
theorem dX9_product_36 : decode cX9_product 36 = .ok (.getfield 16, 3) := by decide +kernel
theorem dX9_product_39 : decode cX9_product 39 = .ok (.iconst 0, 1) := by decide +kernel
theorem dX9_product_40 : decode cX9_product 40 = .ok (.iaload, 1) := by decide +kernel
theorem dX9_product_41 : decode cX9_product 41 = .ok (.if_icmp .le 11, 3) := by decide +kernel
theorem dX9_product_44 : decode cX9_product 44 = .ok (.aload_n 0, 1) := by decide +kernel
theorem dX9_product_45 : decode cX9_product 45 = .ok (.iconst 5, 1) := by decide +kernel
theorem dX9_product_46 : decode cX9_product 46 = .ok (.iload_n 1, 1) := by decide +kernel
theorem dX9_product_47 : decode cX9_product 47 = .ok (.lload_n 2, 1) := by decide +kernel
theorem dX9_product_48 : decode cX9_product 48 = .ok (.invokevirtual 81, 3) := by decide +kernel
theorem dX9_product_51 : decode cX9_product 51 = .ok (.ireturn, 1) := by decide +kernel
theorem dX9_product_52 : decode cX9_product 52 = .ok (.iconst (-1), 1) := by decide +kernel
theorem dX9_product_53 : decode cX9_product 53 = .ok (.istore 4, 2) := by decide +kernel
theorem dX9_product_55 : decode cX9_product 55 = .ok (.iconst 0, 1) := by decide +kernel
theorem dX9_product_56 : decode cX9_product 56 = .ok (.istore 5, 2) := by decide +kernel
theorem dX9_product_58 : decode cX9_product 58 = .ok (.iload 5, 2) := by decide +kernel
theorem dX9_product_60 : decode cX9_product 60 = .ok (.aload_n 0, 1) := by decide +kernel
theorem dX9_product_61 : decode cX9_product 61 = .ok (.getfield 7, 3) := by decide +kernel
theorem dX9_product_64 : decode cX9_product 64 = .ok (.iconst 0, 1) := by decide +kernel
theorem dX9_product_65 : decode cX9_product 65 = .ok (.iaload, 1) := by decide +kernel
theorem dX9_product_66 : decode cX9_product 66 = .ok (.if_icmp .ge 78, 3) := by decide +kernel
theorem dX9_product_69 : decode cX9_product 69 = .ok (.lload_n 2, 1) := by decide +kernel
theorem dX9_product_70 : decode cX9_product 70 = .ok (.iload 5, 2) := by decide +kernel
theorem dX9_product_72 : decode cX9_product 72 = .ok (.invokestatic 73, 3) := by decide +kernel
theorem dX9_product_75 : decode cX9_product 75 = .ok (.istore 6, 2) := by decide +kernel
theorem dX9_product_77 : decode cX9_product 77 = .ok (.iload 6, 2) := by decide +kernel
theorem dX9_product_79 : decode cX9_product 79 = .ok (.ifCond .eq 59, 3) := by decide +kernel
theorem dX9_product_82 : decode cX9_product 82 = .ok (.aload_n 0, 1) := by decide +kernel
theorem dX9_product_83 : decode cX9_product 83 = .ok (.iconst 0, 1) := by decide +kernel
theorem dX9_product_84 : decode cX9_product 84 = .ok (.iload_n 1, 1) := by decide +kernel
theorem dX9_product_85 : decode cX9_product 85 = .ok (.iload 5, 2) := by decide +kernel
theorem dX9_product_87 : decode cX9_product 87 = .ok (.invokevirtual 89, 3) := by decide +kernel
theorem dX9_product_90 : decode cX9_product 90 = .ok (.istore 7, 2) := by decide +kernel
theorem dX9_product_92 : decode cX9_product 92 = .ok (.iload 4, 2) := by decide +kernel
theorem dX9_product_94 : decode cX9_product 94 = .ok (.ifCond .ge 24, 3) := by decide +kernel
theorem dX9_product_97 : decode cX9_product 97 = .ok (.iload 6, 2) := by decide +kernel
theorem dX9_product_99 : decode cX9_product 99 = .ok (.ifCond .le 8, 3) := by decide +kernel
theorem dX9_product_102 : decode cX9_product 102 = .ok (.iload 7, 2) := by decide +kernel
theorem dX9_product_104 : decode cX9_product 104 = .ok (.goto 9, 3) := by decide +kernel
theorem dX9_product_107 : decode cX9_product 107 = .ok (.aload_n 0, 1) := by decide +kernel
theorem dX9_product_108 : decode cX9_product 108 = .ok (.iload 7, 2) := by decide +kernel
theorem dX9_product_110 : decode cX9_product 110 = .ok (.invokevirtual 93, 3) := by decide +kernel
theorem dX9_product_113 : decode cX9_product 113 = .ok (.istore 4, 2) := by decide +kernel
theorem dX9_product_115 : decode cX9_product 115 = .ok (.goto 23, 3) := by decide +kernel
theorem dX9_product_118 : decode cX9_product 118 = .ok (.aload_n 0, 1) := by decide +kernel
theorem dX9_product_119 : decode cX9_product 119 = .ok (.iload 6, 2) := by decide +kernel
theorem dX9_product_121 : decode cX9_product 121 = .ok (.ifCond .le 7, 3) := by decide +kernel
theorem dX9_product_124 : decode cX9_product 124 = .ok (.iconst 3, 1) := by decide +kernel
theorem dX9_product_125 : decode cX9_product 125 = .ok (.goto 4, 3) := by decide +kernel
theorem dX9_product_128 : decode cX9_product 128 = .ok (.iconst 4, 1) := by decide +kernel
theorem dX9_product_129 : decode cX9_product 129 = .ok (.iload 4, 2) := by decide +kernel
theorem dX9_product_131 : decode cX9_product 131 = .ok (.iload 7, 2) := by decide +kernel
theorem dX9_product_133 : decode cX9_product 133 = .ok (.invokevirtual 97, 3) := by decide +kernel
theorem dX9_product_136 : decode cX9_product 136 = .ok (.istore 4, 2) := by decide +kernel
theorem dX9_product_138 : decode cX9_product 138 = .ok (.iinc 5 1, 3) := by decide +kernel
theorem dX9_product_141 : decode cX9_product 141 = .ok (.goto (-83), 3) := by decide +kernel
theorem dX9_product_144 : decode cX9_product 144 = .ok (.iload 4, 2) := by decide +kernel
theorem dX9_product_146 : decode cX9_product 146 = .ok (.ireturn, 1) := by decide +kernel
theorem dX9_quotient_0 : decode cX9_quotient 0 = .ok (.lload_n 2, 1) := by decide +kernel
theorem dX9_quotient_1 : decode cX9_quotient 1 = .ok (.invokestatic 100, 3) := by decide +kernel
theorem dX9_quotient_4 : decode cX9_quotient 4 = .ok (.istore 4, 2) := by decide +kernel
theorem dX9_quotient_6 : decode cX9_quotient 6 = .ok (.lload_n 2, 1) := by decide +kernel
theorem dX9_quotient_7 : decode cX9_quotient 7 = .ok (.invokestatic 103, 3) := by decide +kernel
theorem dX9_quotient_10 : decode cX9_quotient 10 = .ok (.ifCond .eq 12, 3) := by decide +kernel
theorem dX9_quotient_13 : decode cX9_quotient 13 = .ok (.aload_n 0, 1) := by decide +kernel
theorem dX9_quotient_14 : decode cX9_quotient 14 = .ok (.iconst 1, 1) := by decide +kernel
theorem dX9_quotient_15 : decode cX9_quotient 15 = .ok (.iload_n 1, 1) := by decide +kernel
theorem dX9_quotient_16 : decode cX9_quotient 16 = .ok (.iload 4, 2) := by decide +kernel
theorem dX9_quotient_18 : decode cX9_quotient 18 = .ok (.invokevirtual 89, 3) := by decide +kernel
theorem dX9_quotient_21 : decode cX9_quotient 21 = .ok (.ireturn, 1) := by decide +kernel
theorem dX9_quotient_22 : decode cX9_quotient 22 = .ok (.aload_n 0, 1) := by decide +kernel
theorem dX9_quotient_23 : decode cX9_quotient 23 = .ok (.lload_n 2, 1) := by decide +kernel
theorem dX9_quotient_24 : decode cX9_quotient 24 = .ok (.iconst 0, 1) := by decide +kernel
theorem dX9_quotient_25 : decode cX9_quotient 25 = .ok (.invokevirtual 107, 3) := by decide +kernel
theorem dX9_quotient_28 : decode cX9_quotient 28 = .ok (.istore 5, 2) := by decide +kernel
theorem dX9_quotient_30 : decode cX9_quotient 30 = .ok (.aload_n 0, 1) := by decide +kernel
theorem dX9_quotient_31 : decode cX9_quotient 31 = .ok (.lload_n 2, 1) := by decide +kernel
theorem dX9_quotient_32 : decode cX9_quotient 32 = .ok (.iload 5, 2) := by decide +kernel
theorem dX9_quotient_34 : decode cX9_quotient 34 = .ok (.invokevirtual 110, 3) := by decide +kernel
theorem dX9_quotient_37 : decode cX9_quotient 37 = .ok (.lstore 6, 2) := by decide +kernel
theorem dX9_quotient_39 : decode cX9_quotient 39 = .ok (.lload 6, 2) := by decide +kernel
theorem dX9_quotient_41 : decode cX9_quotient 41 = .ok (.aload_n 0, 1) := by decide +kernel
theorem dX9_quotient_42 : decode cX9_quotient 42 = .ok (.invokevirtual 51, 3) := by decide +kernel
theorem dX9_quotient_45 : decode cX9_quotient 45 = .ok (.lcmp, 1) := by decide +kernel
theorem dX9_quotient_46 : decode cX9_quotient 46 = .ok (.ifCond .ge 20, 3) := by decide +kernel
theorem dX9_quotient_49 : decode cX9_quotient 49 = .ok (.aload_n 0, 1) := by decide +kernel
theorem dX9_quotient_50 : decode cX9_quotient 50 = .ok (.iconst 1, 1) := by decide +kernel
theorem dX9_quotient_51 : decode cX9_quotient 51 = .ok (.aload_n 0, 1) := by decide +kernel
theorem dX9_quotient_52 : decode cX9_quotient 52 = .ok (.bipush 6, 2) := by decide +kernel
theorem dX9_quotient_54 : decode cX9_quotient 54 = .ok (.iload_n 1, 1) := by decide +kernel
theorem dX9_quotient_55 : decode cX9_quotient 55 = .ok (.lload 6, 2) := by decide +kernel
theorem dX9_quotient_57 : decode cX9_quotient 57 = .ok (.invokevirtual 81, 3) := by decide +kernel
theorem dX9_quotient_60 : decode cX9_quotient 60 = .ok (.iload 5, 2) := by decide +kernel
theorem dX9_quotient_62 : decode cX9_quotient 62 = .ok (.invokevirtual 89, 3) := by decide +kernel
theorem dX9_quotient_65 : decode cX9_quotient 65 = .ok (.ireturn, 1) := by decide +kernel
theorem dX9_quotient_66 : decode cX9_quotient 66 = .ok (.iload 4, 2) := by decide +kernel
theorem dX9_quotient_68 : decode cX9_quotient 68 = .ok (.ifCond .le 49, 3) := by decide +kernel
theorem dX9_quotient_71 : decode cX9_quotient 71 = .ok (.lload_n 2, 1) := by decide +kernel
theorem dX9_quotient_72 : decode cX9_quotient 72 = .ok (.iload 4, 2) := by decide +kernel
theorem dX9_quotient_74 : decode cX9_quotient 74 = .ok (.lshr, 1) := by decide +kernel
theorem dX9_quotient_75 : decode cX9_quotient 75 = .ok (.lstore 8, 2) := by decide +kernel
theorem dX9_quotient_77 : decode cX9_quotient 77 = .ok (.aload_n 0, 1) := by decide +kernel
theorem dX9_quotient_78 : decode cX9_quotient 78 = .ok (.lload 8, 2) := by decide +kernel
theorem dX9_quotient_80 : decode cX9_quotient 80 = .ok (.iload 4, 2) := by decide +kernel
theorem dX9_quotient_82 : decode cX9_quotient 82 = .ok (.invokevirtual 107, 3) := by decide +kernel
theorem dX9_quotient_85 : decode cX9_quotient 85 = .ok (.istore 10, 2) := by decide +kernel
theorem dX9_quotient_87 : decode cX9_quotient 87 = .ok (.aload_n 0, 1) := by decide +kernel
theorem dX9_quotient_88 : decode cX9_quotient 88 = .ok (.iconst 1, 1) := by decide +kernel
theorem dX9_quotient_89 : decode cX9_quotient 89 = .ok (.aload_n 0, 1) := by decide +kernel
theorem dX9_quotient_90 : decode cX9_quotient 90 = .ok (.bipush 6, 2) := by decide +kernel
theorem dX9_quotient_92 : decode cX9_quotient 92 = .ok (.aload_n 0, 1) := by decide +kernel
theorem dX9_quotient_93 : decode cX9_quotient 93 = .ok (.iconst 1, 1) := by decide +kernel
theorem dX9_quotient_94 : decode cX9_quotient 94 = .ok (.iload_n 1, 1) := by decide +kernel
theorem dX9_quotient_95 : decode cX9_quotient 95 = .ok (.iload 4, 2) := by decide +kernel
theorem dX9_quotient_97 : decode cX9_quotient 97 = .ok (.invokevirtual 89, 3) := by decide +kernel
theorem dX9_quotient_100 : decode cX9_quotient 100 = .ok (.aload_n 0, 1) := by decide +kernel
theorem dX9_quotient_101 : decode cX9_quotient 101 = .ok (.lload 8, 2) := by decide +kernel
theorem dX9_quotient_103 : decode cX9_quotient 103 = .ok (.iload 10, 2) := by decide +kernel
theorem dX9_quotient_105 : decode cX9_quotient 105 = .ok (.invokevirtual 110, 3) := by decide +kernel
theorem dX9_quotient_108 : decode cX9_quotient 108 = .ok (.invokevirtual 81, 3) := by decide +kernel
theorem dX9_quotient_111 : decode cX9_quotient 111 = .ok (.iload 10, 2) := by decide +kernel
theorem dX9_quotient_113 : decode cX9_quotient 113 = .ok (.invokevirtual 89, 3) := by decide +kernel
theorem dX9_quotient_116 : decode cX9_quotient 116 = .ok (.ireturn, 1) := by decide +kernel
theorem dX9_quotient_117 : decode cX9_quotient 117 = .ok (.aload_n 0, 1) := by decide +kernel
theorem dX9_quotient_118 : decode cX9_quotient 118 = .ok (.bipush 6, 2) := by decide +kernel
theorem dX9_quotient_120 : decode cX9_quotient 120 = .ok (.iload_n 1, 1) := by decide +kernel
theorem dX9_quotient_121 : decode cX9_quotient 121 = .ok (.lload 6, 2) := by decide +kernel
theorem dX9_quotient_123 : decode cX9_quotient 123 = .ok (.aload_n 0, 1) := by decide +kernel
theorem dX9_quotient_124 : decode cX9_quotient 124 = .ok (.invokevirtual 51, 3) := by decide +kernel
theorem dX9_quotient_127 : decode cX9_quotient 127 = .ok (.lsub, 1) := by decide +kernel
theorem dX9_quotient_128 : decode cX9_quotient 128 = .ok (.invokevirtual 81, 3) := by decide +kernel
theorem dX9_quotient_131 : decode cX9_quotient 131 = .ok (.istore 8, 2) := by decide +kernel
theorem dX9_quotient_133 : decode cX9_quotient 133 = .ok (.aload_n 0, 1) := by decide +kernel
theorem dX9_quotient_134 : decode cX9_quotient 134 = .ok (.iconst 1, 1) := by decide +kernel
theorem dX9_quotient_135 : decode cX9_quotient 135 = .ok (.aload_n 0, 1) := by decide +kernel
theorem dX9_quotient_136 : decode cX9_quotient 136 = .ok (.iconst 4, 1) := by decide +kernel
theorem dX9_quotient_137 : decode cX9_quotient 137 = .ok (.iload_n 1, 1) := by decide +kernel
theorem dX9_quotient_138 : decode cX9_quotient 138 = .ok (.iload 8, 2) := by decide +kernel
theorem dX9_quotient_140 : decode cX9_quotient 140 = .ok (.invokevirtual 97, 3) := by decide +kernel
theorem dX9_quotient_143 : decode cX9_quotient 143 = .ok (.iconst 1, 1) := by decide +kernel
theorem dX9_quotient_144 : decode cX9_quotient 144 = .ok (.invokevirtual 89, 3) := by decide +kernel
theorem dX9_quotient_147 : decode cX9_quotient 147 = .ok (.istore 9, 2) := by decide +kernel
theorem dX9_quotient_149 : decode cX9_quotient 149 = .ok (.aload_n 0, 1) := by decide +kernel
theorem dX9_quotient_150 : decode cX9_quotient 150 = .ok (.iconst 1, 1) := by decide +kernel
theorem dX9_quotient_151 : decode cX9_quotient 151 = .ok (.aload_n 0, 1) := by decide +kernel
theorem dX9_quotient_152 : decode cX9_quotient 152 = .ok (.iconst 3, 1) := by decide +kernel
theorem dX9_quotient_153 : decode cX9_quotient 153 = .ok (.iload 9, 2) := by decide +kernel
theorem dX9_quotient_155 : decode cX9_quotient 155 = .ok (.iload 8, 2) := by decide +kernel
theorem dX9_quotient_157 : decode cX9_quotient 157 = .ok (.invokevirtual 97, 3) := by decide +kernel
theorem dX9_quotient_160 : decode cX9_quotient 160 = .ok (.iload 5, 2) := by decide +kernel
theorem dX9_quotient_162 : decode cX9_quotient 162 = .ok (.iconst 1, 1) := by decide +kernel
theorem dX9_quotient_163 : decode cX9_quotient 163 = .ok (.isub, 1) := by decide +kernel
theorem dX9_quotient_164 : decode cX9_quotient 164 = .ok (.invokevirtual 89, 3) := by decide +kernel
theorem dX9_quotient_167 : decode cX9_quotient 167 = .ok (.ireturn, 1) := by decide +kernel
theorem dX9_signedQuotient_0 : decode cX9_signedQuotient 0 = .ok (.lload_n 1, 1) := by decide +kernel
theorem dX9_signedQuotient_1 : decode cX9_signedQuotient 1 = .ok (.lconst 0, 1) := by decide +kernel
theorem dX9_signedQuotient_2 : decode cX9_signedQuotient 2 = .ok (.lcmp, 1) := by decide +kernel
theorem dX9_signedQuotient_3 : decode cX9_signedQuotient 3 = .ok (.ifCond .ge 9, 3) := by decide +kernel
theorem dX9_signedQuotient_6 : decode cX9_signedQuotient 6 = .ok (.lconst 0, 1) := by decide +kernel
theorem dX9_signedQuotient_7 : decode cX9_signedQuotient 7 = .ok (.lload_n 1, 1) := by decide +kernel
theorem dX9_signedQuotient_8 : decode cX9_signedQuotient 8 = .ok (.lsub, 1) := by decide +kernel
theorem dX9_signedQuotient_9 : decode cX9_signedQuotient 9 = .ok (.goto 4, 3) := by decide +kernel
theorem dX9_signedQuotient_12 : decode cX9_signedQuotient 12 = .ok (.lload_n 1, 1) := by decide +kernel
theorem dX9_signedQuotient_13 : decode cX9_signedQuotient 13 = .ok (.lstore_n 3, 1) := by decide +kernel
theorem dX9_signedQuotient_14 : decode cX9_signedQuotient 14 = .ok (.aload_n 0, 1) := by decide +kernel
theorem dX9_signedQuotient_15 : decode cX9_signedQuotient 15 = .ok (.getfield 7, 3) := by decide +kernel
theorem dX9_signedQuotient_18 : decode cX9_signedQuotient 18 = .ok (.iconst 0, 1) := by decide +kernel
theorem dX9_signedQuotient_19 : decode cX9_signedQuotient 19 = .ok (.iaload, 1) := by decide +kernel
theorem dX9_signedQuotient_20 : decode cX9_signedQuotient 20 = .ok (.istore 5, 2) := by decide +kernel
theorem dX9_signedQuotient_22 : decode cX9_signedQuotient 22 = .ok (.iconst 0, 1) := by decide +kernel
theorem dX9_signedQuotient_23 : decode cX9_signedQuotient 23 = .ok (.istore 6, 2) := by decide +kernel
theorem dX9_signedQuotient_25 : decode cX9_signedQuotient 25 = .ok (.lload_n 3, 1) := by decide +kernel
theorem dX9_signedQuotient_26 : decode cX9_signedQuotient 26 = .ok (.invokestatic 103, 3) := by decide +kernel
theorem dX9_signedQuotient_29 : decode cX9_signedQuotient 29 = .ok (.ifCond .eq 57, 3) := by decide +kernel
theorem dX9_signedQuotient_32 : decode cX9_signedQuotient 32 = .ok (.lload_n 3, 1) := by decide +kernel
theorem dX9_signedQuotient_33 : decode cX9_signedQuotient 33 = .ok (.lconst 1, 1) := by decide +kernel
theorem dX9_signedQuotient_34 : decode cX9_signedQuotient 34 = .ok (.lcmp, 1) := by decide +kernel
theorem dX9_signedQuotient_35 : decode cX9_signedQuotient 35 = .ok (.ifCond .le 51, 3) := by decide +kernel
theorem dX9_signedQuotient_38 : decode cX9_signedQuotient 38 = .ok (.lload_n 3, 1) := by decide +kernel
theorem dX9_signedQuotient_39 : decode cX9_signedQuotient 39 = .ok (.invokestatic 100, 3) := by decide +kernel
theorem dX9_signedQuotient_42 : decode cX9_signedQuotient 42 = .ok (.istore 7, 2) := by decide +kernel
theorem dX9_signedQuotient_44 : decode cX9_signedQuotient 44 = .ok (.aload_n 0, 1) := by decide +kernel
theorem dX9_signedQuotient_45 : decode cX9_signedQuotient 45 = .ok (.iconst 1, 1) := by decide +kernel
theorem dX9_signedQuotient_46 : decode cX9_signedQuotient 46 = .ok (.aload_n 0, 1) := by decide +kernel
theorem dX9_signedQuotient_47 : decode cX9_signedQuotient 47 = .ok (.iconst 2, 1) := by decide +kernel
theorem dX9_signedQuotient_48 : decode cX9_signedQuotient 48 = .ok (.iconst 0, 1) := by decide +kernel
theorem dX9_signedQuotient_49 : decode cX9_signedQuotient 49 = .ok (.iload 7, 2) := by decide +kernel
theorem dX9_signedQuotient_51 : decode cX9_signedQuotient 51 = .ok (.iconst 1, 1) := by decide +kernel
theorem dX9_signedQuotient_52 : decode cX9_signedQuotient 52 = .ok (.isub, 1) := by decide +kernel
theorem dX9_signedQuotient_53 : decode cX9_signedQuotient 53 = .ok (.invokevirtual 89, 3) := by decide +kernel
theorem dX9_signedQuotient_56 : decode cX9_signedQuotient 56 = .ok (.iload 5, 2) := by decide +kernel
theorem dX9_signedQuotient_58 : decode cX9_signedQuotient 58 = .ok (.iload 7, 2) := by decide +kernel
theorem dX9_signedQuotient_60 : decode cX9_signedQuotient 60 = .ok (.isub, 1) := by decide +kernel
theorem dX9_signedQuotient_61 : decode cX9_signedQuotient 61 = .ok (.invokevirtual 89, 3) := by decide +kernel
theorem dX9_signedQuotient_64 : decode cX9_signedQuotient 64 = .ok (.istore 8, 2) := by decide +kernel
theorem dX9_signedQuotient_66 : decode cX9_signedQuotient 66 = .ok (.aload_n 0, 1) := by decide +kernel
theorem dX9_signedQuotient_67 : decode cX9_signedQuotient 67 = .ok (.iconst 2, 1) := by decide +kernel
theorem dX9_signedQuotient_68 : decode cX9_signedQuotient 68 = .ok (.aload_n 0, 1) := by decide +kernel
theorem dX9_signedQuotient_69 : decode cX9_signedQuotient 69 = .ok (.iconst 3, 1) := by decide +kernel
theorem dX9_signedQuotient_70 : decode cX9_signedQuotient 70 = .ok (.iconst 0, 1) := by decide +kernel
theorem dX9_signedQuotient_71 : decode cX9_signedQuotient 71 = .ok (.iload 8, 2) := by decide +kernel
theorem dX9_signedQuotient_73 : decode cX9_signedQuotient 73 = .ok (.invokevirtual 97, 3) := by decide +kernel
theorem dX9_signedQuotient_76 : decode cX9_signedQuotient 76 = .ok (.iload 7, 2) := by decide +kernel
theorem dX9_signedQuotient_78 : decode cX9_signedQuotient 78 = .ok (.invokevirtual 89, 3) := by decide +kernel
theorem dX9_signedQuotient_81 : decode cX9_signedQuotient 81 = .ok (.istore 6, 2) := by decide +kernel
theorem dX9_signedQuotient_83 : decode cX9_signedQuotient 83 = .ok (.goto 92, 3) := by decide +kernel
theorem dX9_signedQuotient_86 : decode cX9_signedQuotient 86 = .ok (.lload_n 3, 1) := by decide +kernel
theorem dX9_signedQuotient_87 : decode cX9_signedQuotient 87 = .ok (.lconst 1, 1) := by decide +kernel
theorem dX9_signedQuotient_88 : decode cX9_signedQuotient 88 = .ok (.lcmp, 1) := by decide +kernel
theorem dX9_signedQuotient_89 : decode cX9_signedQuotient 89 = .ok (.ifCond .le 86, 3) := by decide +kernel
theorem dX9_signedQuotient_92 : decode cX9_signedQuotient 92 = .ok (.aload_n 0, 1) := by decide +kernel
theorem dX9_signedQuotient_93 : decode cX9_signedQuotient 93 = .ok (.lload_n 3, 1) := by decide +kernel
theorem dX9_signedQuotient_94 : decode cX9_signedQuotient 94 = .ok (.iconst 1, 1) := by decide +kernel
theorem dX9_signedQuotient_95 : decode cX9_signedQuotient 95 = .ok (.invokevirtual 107, 3) := by decide +kernel
theorem dX9_signedQuotient_98 : decode cX9_signedQuotient 98 = .ok (.istore 7, 2) := by decide +kernel
theorem dX9_signedQuotient_100 : decode cX9_signedQuotient 100 = .ok (.aload_n 0, 1) := by decide +kernel
theorem dX9_signedQuotient_101 : decode cX9_signedQuotient 101 = .ok (.lload_n 3, 1) := by decide +kernel
theorem dX9_signedQuotient_102 : decode cX9_signedQuotient 102 = .ok (.iload 7, 2) := by decide +kernel
theorem dX9_signedQuotient_104 : decode cX9_signedQuotient 104 = .ok (.invokevirtual 110, 3) := by decide +kernel
theorem dX9_signedQuotient_107 : decode cX9_signedQuotient 107 = .ok (.lstore 8, 2) := by decide +kernel
theorem dX9_signedQuotient_109 : decode cX9_signedQuotient 109 = .ok (.aload_n 0, 1) := by decide +kernel
theorem dX9_signedQuotient_110 : decode cX9_signedQuotient 110 = .ok (.bipush 7, 2) := by decide +kernel
theorem dX9_signedQuotient_112 : decode cX9_signedQuotient 112 = .ok (.iconst 0, 1) := by decide +kernel
theorem dX9_signedQuotient_113 : decode cX9_signedQuotient 113 = .ok (.lload 8, 2) := by decide +kernel
theorem dX9_signedQuotient_115 : decode cX9_signedQuotient 115 = .ok (.invokevirtual 81, 3) := by decide +kernel
theorem dX9_signedQuotient_118 : decode cX9_signedQuotient 118 = .ok (.istore 10, 2) := by decide +kernel
theorem dX9_signedQuotient_120 : decode cX9_signedQuotient 120 = .ok (.lload 8, 2) := by decide +kernel
theorem dX9_signedQuotient_122 : decode cX9_signedQuotient 122 = .ok (.aload_n 0, 1) := by decide +kernel
theorem dX9_signedQuotient_123 : decode cX9_signedQuotient 123 = .ok (.invokevirtual 59, 3) := by decide +kernel
theorem dX9_signedQuotient_126 : decode cX9_signedQuotient 126 = .ok (.lcmp, 1) := by decide +kernel
theorem dX9_signedQuotient_127 : decode cX9_signedQuotient 127 = .ok (.ifCond .lt 14, 3) := by decide +kernel
theorem dX9_signedQuotient_130 : decode cX9_signedQuotient 130 = .ok (.aload_n 0, 1) := by decide +kernel
theorem dX9_signedQuotient_131 : decode cX9_signedQuotient 131 = .ok (.iconst 3, 1) := by decide +kernel
theorem dX9_signedQuotient_132 : decode cX9_signedQuotient 132 = .ok (.iload 10, 2) := by decide +kernel
theorem dX9_signedQuotient_134 : decode cX9_signedQuotient 134 = .ok (.iconst 0, 1) := by decide +kernel
theorem dX9_signedQuotient_135 : decode cX9_signedQuotient 135 = .ok (.invokevirtual 97, 3) := by decide +kernel
theorem dX9_signedQuotient_138 : decode cX9_signedQuotient 138 = .ok (.goto 5, 3) := by decide +kernel
theorem dX9_signedQuotient_141 : decode cX9_signedQuotient 141 = .ok (.iload 10, 2) := by decide +kernel
theorem dX9_signedQuotient_143 : decode cX9_signedQuotient 143 = .ok (.istore 10, 2) := by decide +kernel
theorem dX9_signedQuotient_145 : decode cX9_signedQuotient 145 = .ok (.aload_n 0, 1) := by decide +kernel
theorem dX9_signedQuotient_146 : decode cX9_signedQuotient 146 = .ok (.iconst 2, 1) := by decide +kernel
theorem dX9_signedQuotient_147 : decode cX9_signedQuotient 147 = .ok (.iload 10, 2) := by decide +kernel
theorem dX9_signedQuotient_149 : decode cX9_signedQuotient 149 = .ok (.iload 7, 2) := by decide +kernel
theorem dX9_signedQuotient_151 : decode cX9_signedQuotient 151 = .ok (.invokevirtual 89, 3) := by decide +kernel
theorem dX9_signedQuotient_154 : decode cX9_signedQuotient 154 = .ok (.istore 10, 2) := by decide +kernel
theorem dX9_signedQuotient_156 : decode cX9_signedQuotient 156 = .ok (.aload_n 0, 1) := by decide +kernel
theorem dX9_signedQuotient_157 : decode cX9_signedQuotient 157 = .ok (.iconst 3, 1) := by decide +kernel
theorem dX9_signedQuotient_158 : decode cX9_signedQuotient 158 = .ok (.iload 10, 2) := by decide +kernel
theorem dX9_signedQuotient_160 : decode cX9_signedQuotient 160 = .ok (.aload_n 0, 1) := by decide +kernel
theorem dX9_signedQuotient_161 : decode cX9_signedQuotient 161 = .ok (.iconst 1, 1) := by decide +kernel
theorem dX9_signedQuotient_162 : decode cX9_signedQuotient 162 = .ok (.iconst 0, 1) := by decide +kernel
theorem dX9_signedQuotient_163 : decode cX9_signedQuotient 163 = .ok (.iload 5, 2) := by decide +kernel
theorem dX9_signedQuotient_165 : decode cX9_signedQuotient 165 = .ok (.iconst 1, 1) := by decide +kernel
theorem dX9_signedQuotient_166 : decode cX9_signedQuotient 166 = .ok (.isub, 1) := by decide +kernel
theorem dX9_signedQuotient_167 : decode cX9_signedQuotient 167 = .ok (.invokevirtual 89, 3) := by decide +kernel
theorem dX9_signedQuotient_170 : decode cX9_signedQuotient 170 = .ok (.invokevirtual 97, 3) := by decide +kernel
theorem dX9_signedQuotient_173 : decode cX9_signedQuotient 173 = .ok (.istore 6, 2) := by decide +kernel
theorem dX9_signedQuotient_175 : decode cX9_signedQuotient 175 = .ok (.lload_n 1, 1) := by decide +kernel
theorem dX9_signedQuotient_176 : decode cX9_signedQuotient 176 = .ok (.lconst 0, 1) := by decide +kernel
theorem dX9_signedQuotient_177 : decode cX9_signedQuotient 177 = .ok (.lcmp, 1) := by decide +kernel
theorem dX9_signedQuotient_178 : decode cX9_signedQuotient 178 = .ok (.ifCond .le 8, 3) := by decide +kernel
theorem dX9_signedQuotient_181 : decode cX9_signedQuotient 181 = .ok (.iload 6, 2) := by decide +kernel
theorem dX9_signedQuotient_183 : decode cX9_signedQuotient 183 = .ok (.goto 9, 3) := by decide +kernel
theorem dX9_signedQuotient_186 : decode cX9_signedQuotient 186 = .ok (.aload_n 0, 1) := by decide +kernel
theorem dX9_signedQuotient_187 : decode cX9_signedQuotient 187 = .ok (.iload 6, 2) := by decide +kernel
theorem dX9_signedQuotient_189 : decode cX9_signedQuotient 189 = .ok (.invokevirtual 93, 3) := by decide +kernel
theorem dX9_signedQuotient_192 : decode cX9_signedQuotient 192 = .ok (.ireturn, 1) := by decide +kernel
theorem dX9_writesKind_0 : decode cX9_writesKind 0 = .ok (.aload_n 0, 1) := by decide +kernel
theorem dX9_writesKind_1 : decode cX9_writesKind 1 = .ok (.getfield 7, 3) := by decide +kernel
theorem dX9_writesKind_4 : decode cX9_writesKind 4 = .ok (.iconst 0, 1) := by decide +kernel
theorem dX9_writesKind_5 : decode cX9_writesKind 5 = .ok (.iaload, 1) := by decide +kernel
theorem dX9_writesKind_6 : decode cX9_writesKind 6 = .ok (.istore 4, 2) := by decide +kernel
theorem dX9_writesKind_8 : decode cX9_writesKind 8 = .ok (.iload_n 1, 1) := by decide +kernel
theorem dX9_writesKind_9 : decode cX9_writesKind 9 = .ok (.tableswitch 188 0 6 #[43, 50, 88, 94, 115, 123, 148], 43) := by decide +kernel
theorem dX9_writesKind_52 : decode cX9_writesKind 52 = .ok (.aload_n 0, 1) := by decide +kernel
theorem dX9_writesKind_53 : decode cX9_writesKind 53 = .ok (.iconst 0, 1) := by decide +kernel
theorem dX9_writesKind_54 : decode cX9_writesKind 54 = .ok (.lload_n 2, 1) := by decide +kernel
theorem dX9_writesKind_55 : decode cX9_writesKind 55 = .ok (.invokevirtual 114, 3) := by decide +kernel
theorem dX9_writesKind_58 : decode cX9_writesKind 58 = .ok (.ireturn, 1) := by decide +kernel
theorem dX9_writesKind_59 : decode cX9_writesKind 59 = .ok (.lload_n 2, 1) := by decide +kernel
theorem dX9_writesKind_60 : decode cX9_writesKind 60 = .ok (.invokestatic 103, 3) := by decide +kernel
theorem dX9_writesKind_63 : decode cX9_writesKind 63 = .ok (.ifCond .eq 16, 3) := by decide +kernel
theorem dX9_writesKind_66 : decode cX9_writesKind 66 = .ok (.aload_n 0, 1) := by decide +kernel
theorem dX9_writesKind_67 : decode cX9_writesKind 67 = .ok (.bipush 8, 2) := by decide +kernel
theorem dX9_writesKind_69 : decode cX9_writesKind 69 = .ok (.iconst 0, 1) := by decide +kernel
theorem dX9_writesKind_70 : decode cX9_writesKind 70 = .ok (.lload_n 2, 1) := by decide +kernel
theorem dX9_writesKind_71 : decode cX9_writesKind 71 = .ok (.lconst 1, 1) := by decide +kernel
theorem dX9_writesKind_72 : decode cX9_writesKind 72 = .ok (.lsub, 1) := by decide +kernel
theorem dX9_writesKind_73 : decode cX9_writesKind 73 = .ok (.invokevirtual 81, 3) := by decide +kernel
theorem dX9_writesKind_76 : decode cX9_writesKind 76 = .ok (.goto 20, 3) := by decide +kernel
theorem dX9_writesKind_79 : decode cX9_writesKind 79 = .ok (.aload_n 0, 1) := by decide +kernel
theorem dX9_writesKind_80 : decode cX9_writesKind 80 = .ok (.iconst 4, 1) := by decide +kernel
theorem dX9_writesKind_81 : decode cX9_writesKind 81 = .ok (.iconst 0, 1) := by decide +kernel
theorem dX9_writesKind_82 : decode cX9_writesKind 82 = .ok (.aload_n 0, 1) := by decide +kernel
theorem dX9_writesKind_83 : decode cX9_writesKind 83 = .ok (.aload_n 0, 1) := by decide +kernel
theorem dX9_writesKind_84 : decode cX9_writesKind 84 = .ok (.iconst 0, 1) := by decide +kernel
theorem dX9_writesKind_85 : decode cX9_writesKind 85 = .ok (.lload_n 2, 1) := by decide +kernel
theorem dX9_writesKind_86 : decode cX9_writesKind 86 = .ok (.invokevirtual 114, 3) := by decide +kernel
theorem dX9_writesKind_89 : decode cX9_writesKind 89 = .ok (.lload_n 2, 1) := by decide +kernel
theorem dX9_writesKind_90 : decode cX9_writesKind 90 = .ok (.invokevirtual 118, 3) := by decide +kernel
theorem dX9_writesKind_93 : decode cX9_writesKind 93 = .ok (.invokevirtual 97, 3) := by decide +kernel
theorem dX9_writesKind_96 : decode cX9_writesKind 96 = .ok (.ireturn, 1) := by decide +kernel
theorem dX9_writesKind_97 : decode cX9_writesKind 97 = .ok (.aload_n 0, 1) := by decide +kernel
theorem dX9_writesKind_98 : decode cX9_writesKind 98 = .ok (.lload_n 2, 1) := by decide +kernel
theorem dX9_writesKind_99 : decode cX9_writesKind 99 = .ok (.invokevirtual 121, 3) := by decide +kernel
theorem dX9_writesKind_102 : decode cX9_writesKind 102 = .ok (.ireturn, 1) := by decide +kernel
theorem dX9_writesKind_103 : decode cX9_writesKind 103 = .ok (.aload_n 0, 1) := by decide +kernel
theorem dX9_writesKind_104 : decode cX9_writesKind 104 = .ok (.iconst 4, 1) := by decide +kernel
theorem dX9_writesKind_105 : decode cX9_writesKind 105 = .ok (.iconst 0, 1) := by decide +kernel
theorem dX9_writesKind_106 : decode cX9_writesKind 106 = .ok (.aload_n 0, 1) := by decide +kernel
theorem dX9_writesKind_107 : decode cX9_writesKind 107 = .ok (.aload_n 0, 1) := by decide +kernel
theorem dX9_writesKind_108 : decode cX9_writesKind 108 = .ok (.lload_n 2, 1) := by decide +kernel
theorem dX9_writesKind_109 : decode cX9_writesKind 109 = .ok (.invokevirtual 121, 3) := by decide +kernel
theorem dX9_writesKind_112 : decode cX9_writesKind 112 = .ok (.aload_n 0, 1) := by decide +kernel
theorem dX9_writesKind_113 : decode cX9_writesKind 113 = .ok (.lload_n 2, 1) := by decide +kernel
theorem dX9_writesKind_114 : decode cX9_writesKind 114 = .ok (.invokevirtual 65, 3) := by decide +kernel
theorem dX9_writesKind_117 : decode cX9_writesKind 117 = .ok (.invokevirtual 118, 3) := by decide +kernel
theorem dX9_writesKind_120 : decode cX9_writesKind 120 = .ok (.invokevirtual 97, 3) := by decide +kernel
theorem dX9_writesKind_123 : decode cX9_writesKind 123 = .ok (.ireturn, 1) := by decide +kernel
theorem dX9_writesKind_124 : decode cX9_writesKind 124 = .ok (.aload_n 0, 1) := by decide +kernel
theorem dX9_writesKind_125 : decode cX9_writesKind 125 = .ok (.lload_n 2, 1) := by decide +kernel
theorem dX9_writesKind_126 : decode cX9_writesKind 126 = .ok (.iload 4, 2) := by decide +kernel
theorem dX9_writesKind_128 : decode cX9_writesKind 128 = .ok (.invokevirtual 124, 3) := by decide +kernel
theorem dX9_writesKind_131 : decode cX9_writesKind 131 = .ok (.ireturn, 1) := by decide +kernel
theorem dX9_writesKind_132 : decode cX9_writesKind 132 = .ok (.aload_n 0, 1) := by decide +kernel
theorem dX9_writesKind_133 : decode cX9_writesKind 133 = .ok (.aload_n 0, 1) := by decide +kernel
theorem dX9_writesKind_134 : decode cX9_writesKind 134 = .ok (.iconst 1, 1) := by decide +kernel
theorem dX9_writesKind_135 : decode cX9_writesKind 135 = .ok (.iconst 0, 1) := by decide +kernel
theorem dX9_writesKind_136 : decode cX9_writesKind 136 = .ok (.lload_n 2, 1) := by decide +kernel
theorem dX9_writesKind_137 : decode cX9_writesKind 137 = .ok (.invokestatic 100, 3) := by decide +kernel
theorem dX9_writesKind_140 : decode cX9_writesKind 140 = .ok (.invokevirtual 89, 3) := by decide +kernel
theorem dX9_writesKind_143 : decode cX9_writesKind 143 = .ok (.aload_n 0, 1) := by decide +kernel
theorem dX9_writesKind_144 : decode cX9_writesKind 144 = .ok (.lload_n 2, 1) := by decide +kernel
theorem dX9_writesKind_145 : decode cX9_writesKind 145 = .ok (.lload_n 2, 1) := by decide +kernel
theorem dX9_writesKind_146 : decode cX9_writesKind 146 = .ok (.invokestatic 100, 3) := by decide +kernel
theorem dX9_writesKind_149 : decode cX9_writesKind 149 = .ok (.lshr, 1) := by decide +kernel
theorem dX9_writesKind_150 : decode cX9_writesKind 150 = .ok (.invokevirtual 127, 3) := by decide +kernel
theorem dX9_writesKind_153 : decode cX9_writesKind 153 = .ok (.invokevirtual 118, 3) := by decide +kernel
theorem dX9_writesKind_156 : decode cX9_writesKind 156 = .ok (.ireturn, 1) := by decide +kernel
theorem dX9_writesKind_157 : decode cX9_writesKind 157 = .ok (.aload_n 0, 1) := by decide +kernel
theorem dX9_writesKind_158 : decode cX9_writesKind 158 = .ok (.bipush 11, 2) := by decide +kernel
theorem dX9_writesKind_160 : decode cX9_writesKind 160 = .ok (.aload_n 0, 1) := by decide +kernel
theorem dX9_writesKind_161 : decode cX9_writesKind 161 = .ok (.bipush 10, 2) := by decide +kernel
theorem dX9_writesKind_163 : decode cX9_writesKind 163 = .ok (.aload_n 0, 1) := by decide +kernel
theorem dX9_writesKind_164 : decode cX9_writesKind 164 = .ok (.iconst 0, 1) := by decide +kernel
theorem dX9_writesKind_165 : decode cX9_writesKind 165 = .ok (.aload_n 0, 1) := by decide +kernel
theorem dX9_writesKind_166 : decode cX9_writesKind 166 = .ok (.lload_n 2, 1) := by decide +kernel
theorem dX9_writesKind_167 : decode cX9_writesKind 167 = .ok (.lload_n 2, 1) := by decide +kernel
theorem dX9_writesKind_168 : decode cX9_writesKind 168 = .ok (.invokestatic 100, 3) := by decide +kernel
theorem dX9_writesKind_171 : decode cX9_writesKind 171 = .ok (.lshr, 1) := by decide +kernel
theorem dX9_writesKind_172 : decode cX9_writesKind 172 = .ok (.invokevirtual 127, 3) := by decide +kernel
theorem dX9_writesKind_175 : decode cX9_writesKind 175 = .ok (.invokevirtual 118, 3) := by decide +kernel
theorem dX9_writesKind_178 : decode cX9_writesKind 178 = .ok (.lload_n 2, 1) := by decide +kernel
theorem dX9_writesKind_179 : decode cX9_writesKind 179 = .ok (.invokestatic 100, 3) := by decide +kernel
theorem dX9_writesKind_182 : decode cX9_writesKind 182 = .ok (.invokevirtual 89, 3) := by decide +kernel
theorem dX9_writesKind_185 : decode cX9_writesKind 185 = .ok (.aload_n 0, 1) := by decide +kernel
theorem dX9_writesKind_186 : decode cX9_writesKind 186 = .ok (.invokevirtual 51, 3) := by decide +kernel
theorem dX9_writesKind_189 : decode cX9_writesKind 189 = .ok (.lconst 1, 1) := by decide +kernel
theorem dX9_writesKind_190 : decode cX9_writesKind 190 = .ok (.lsub, 1) := by decide +kernel
theorem dX9_writesKind_191 : decode cX9_writesKind 191 = .ok (.lload_n 2, 1) := by decide +kernel
theorem dX9_writesKind_192 : decode cX9_writesKind 192 = .ok (.ldiv, 1) := by decide +kernel
theorem dX9_writesKind_193 : decode cX9_writesKind 193 = .ok (.invokevirtual 81, 3) := by decide +kernel
theorem dX9_writesKind_196 : decode cX9_writesKind 196 = .ok (.ireturn, 1) := by decide +kernel
theorem dX9_writesKind_197 : decode cX9_writesKind 197 = .ok (.aload_n 0, 1) := by decide +kernel
theorem dX9_writesKind_198 : decode cX9_writesKind 198 = .ok (.iconst 0, 1) := by decide +kernel
theorem dX9_writesKind_199 : decode cX9_writesKind 199 = .ok (.lload_n 2, 1) := by decide +kernel
theorem dX9_writesKind_200 : decode cX9_writesKind 200 = .ok (.invokevirtual 118, 3) := by decide +kernel
theorem dX9_writesKind_203 : decode cX9_writesKind 203 = .ok (.ireturn, 1) := by decide +kernel
theorem dX9_floors_0 : decode cX9_floors 0 = .ok (.lload_n 1, 1) := by decide +kernel
theorem dX9_floors_1 : decode cX9_floors 1 = .ok (.invokestatic 103, 3) := by decide +kernel
theorem dX9_floors_4 : decode cX9_floors 4 = .ok (.ifCond .eq 14, 3) := by decide +kernel
theorem dX9_floors_7 : decode cX9_floors 7 = .ok (.aload_n 0, 1) := by decide +kernel
theorem dX9_floors_8 : decode cX9_floors 8 = .ok (.iconst 2, 1) := by decide +kernel
theorem dX9_floors_9 : decode cX9_floors 9 = .ok (.iconst 0, 1) := by decide +kernel
theorem dX9_floors_10 : decode cX9_floors 10 = .ok (.lload_n 1, 1) := by decide +kernel
theorem dX9_floors_11 : decode cX9_floors 11 = .ok (.invokestatic 100, 3) := by decide +kernel
theorem dX9_floors_14 : decode cX9_floors 14 = .ok (.invokevirtual 89, 3) := by decide +kernel
theorem dX9_floors_17 : decode cX9_floors 17 = .ok (.ireturn, 1) := by decide +kernel
theorem dX9_floors_18 : decode cX9_floors 18 = .ok (.aload_n 0, 1) := by decide +kernel
theorem dX9_floors_19 : decode cX9_floors 19 = .ok (.iconst 2, 1) := by decide +kernel
theorem dX9_floors_20 : decode cX9_floors 20 = .ok (.iconst 0, 1) := by decide +kernel
theorem dX9_floors_21 : decode cX9_floors 21 = .ok (.iload_n 3, 1) := by decide +kernel
theorem dX9_floors_22 : decode cX9_floors 22 = .ok (.iconst 1, 1) := by decide +kernel
theorem dX9_floors_23 : decode cX9_floors 23 = .ok (.isub, 1) := by decide +kernel
theorem dX9_floors_24 : decode cX9_floors 24 = .ok (.invokevirtual 89, 3) := by decide +kernel
theorem dX9_floors_27 : decode cX9_floors 27 = .ok (.istore 4, 2) := by decide +kernel
theorem dX9_floors_29 : decode cX9_floors 29 = .ok (.aload_n 0, 1) := by decide +kernel
theorem dX9_floors_30 : decode cX9_floors 30 = .ok (.aload_n 0, 1) := by decide +kernel
theorem dX9_floors_31 : decode cX9_floors 31 = .ok (.bipush 9, 2) := by decide +kernel
theorem dX9_floors_33 : decode cX9_floors 33 = .ok (.iconst 0, 1) := by decide +kernel
theorem dX9_floors_34 : decode cX9_floors 34 = .ok (.iload 4, 2) := by decide +kernel
theorem dX9_floors_36 : decode cX9_floors 36 = .ok (.invokevirtual 97, 3) := by decide +kernel
theorem dX9_floors_39 : decode cX9_floors 39 = .ok (.lload_n 1, 1) := by decide +kernel
theorem dX9_floors_40 : decode cX9_floors 40 = .ok (.invokevirtual 114, 3) := by decide +kernel
theorem dX9_floors_43 : decode cX9_floors 43 = .ok (.istore 5, 2) := by decide +kernel
theorem dX9_floors_45 : decode cX9_floors 45 = .ok (.aload_n 0, 1) := by decide +kernel
theorem dX9_floors_46 : decode cX9_floors 46 = .ok (.bipush 9, 2) := by decide +kernel
theorem dX9_floors_48 : decode cX9_floors 48 = .ok (.iload 5, 2) := by decide +kernel
theorem dX9_floors_50 : decode cX9_floors 50 = .ok (.iload 4, 2) := by decide +kernel
theorem dX9_floors_52 : decode cX9_floors 52 = .ok (.invokevirtual 97, 3) := by decide +kernel
theorem dX9_floors_55 : decode cX9_floors 55 = .ok (.ireturn, 1) := by decide +kernel
theorem dX9_isTask_0 : decode cX9_isTask 0 = .ok (.iload_n 1, 1) := by decide +kernel
theorem dX9_isTask_1 : decode cX9_isTask 1 = .ok (.tableswitch 128 0 7 #[47, 47, 59, 59, 90, 47, 102, 116], 47) := by decide +kernel
theorem dX9_isTask_48 : decode cX9_isTask 48 = .ok (.lload_n 2, 1) := by decide +kernel
theorem dX9_isTask_49 : decode cX9_isTask 49 = .ok (.lconst 1, 1) := by decide +kernel
theorem dX9_isTask_50 : decode cX9_isTask 50 = .ok (.aload_n 0, 1) := by decide +kernel
theorem dX9_isTask_51 : decode cX9_isTask 51 = .ok (.invokevirtual 51, 3) := by decide +kernel
theorem dX9_isTask_54 : decode cX9_isTask 54 = .ok (.lconst 1, 1) := by decide +kernel
theorem dX9_isTask_55 : decode cX9_isTask 55 = .ok (.lsub, 1) := by decide +kernel
theorem dX9_isTask_56 : decode cX9_isTask 56 = .ok (.invokestatic 130, 3) := by decide +kernel
theorem dX9_isTask_59 : decode cX9_isTask 59 = .ok (.ireturn, 1) := by decide +kernel
theorem dX9_isTask_60 : decode cX9_isTask 60 = .ok (.lload_n 2, 1) := by decide +kernel
theorem dX9_isTask_61 : decode cX9_isTask 61 = .ok (.lconst 0, 1) := by decide +kernel
theorem dX9_isTask_62 : decode cX9_isTask 62 = .ok (.aload_n 0, 1) := by decide +kernel
theorem dX9_isTask_63 : decode cX9_isTask 63 = .ok (.invokevirtual 59, 3) := by decide +kernel
theorem dX9_isTask_66 : decode cX9_isTask 66 = .ok (.lsub, 1) := by decide +kernel
theorem dX9_isTask_67 : decode cX9_isTask 67 = .ok (.aload_n 0, 1) := by decide +kernel
theorem dX9_isTask_68 : decode cX9_isTask 68 = .ok (.invokevirtual 59, 3) := by decide +kernel
theorem dX9_isTask_71 : decode cX9_isTask 71 = .ok (.lconst 1, 1) := by decide +kernel
theorem dX9_isTask_72 : decode cX9_isTask 72 = .ok (.lsub, 1) := by decide +kernel
theorem dX9_isTask_73 : decode cX9_isTask 73 = .ok (.invokestatic 130, 3) := by decide +kernel
theorem dX9_isTask_76 : decode cX9_isTask 76 = .ok (.ifCond .eq 13, 3) := by decide +kernel
theorem dX9_isTask_79 : decode cX9_isTask 79 = .ok (.lload_n 2, 1) := by decide +kernel
theorem dX9_isTask_80 : decode cX9_isTask 80 = .ok (.lconst 0, 1) := by decide +kernel
theorem dX9_isTask_81 : decode cX9_isTask 81 = .ok (.lcmp, 1) := by decide +kernel
theorem dX9_isTask_82 : decode cX9_isTask 82 = .ok (.ifCond .eq 7, 3) := by decide +kernel
theorem dX9_isTask_85 : decode cX9_isTask 85 = .ok (.iconst 1, 1) := by decide +kernel
theorem dX9_isTask_86 : decode cX9_isTask 86 = .ok (.goto 4, 3) := by decide +kernel
theorem dX9_isTask_89 : decode cX9_isTask 89 = .ok (.iconst 0, 1) := by decide +kernel
theorem dX9_isTask_90 : decode cX9_isTask 90 = .ok (.ireturn, 1) := by decide +kernel
theorem dX9_isTask_91 : decode cX9_isTask 91 = .ok (.lload_n 2, 1) := by decide +kernel
theorem dX9_isTask_92 : decode cX9_isTask 92 = .ok (.lconst 1, 1) := by decide +kernel
theorem dX9_isTask_93 : decode cX9_isTask 93 = .ok (.aload_n 0, 1) := by decide +kernel
theorem dX9_isTask_94 : decode cX9_isTask 94 = .ok (.invokevirtual 59, 3) := by decide +kernel
theorem dX9_isTask_97 : decode cX9_isTask 97 = .ok (.lconst 1, 1) := by decide +kernel
theorem dX9_isTask_98 : decode cX9_isTask 98 = .ok (.lsub, 1) := by decide +kernel
theorem dX9_isTask_99 : decode cX9_isTask 99 = .ok (.invokestatic 130, 3) := by decide +kernel
theorem dX9_isTask_102 : decode cX9_isTask 102 = .ok (.ireturn, 1) := by decide +kernel
theorem dX9_isTask_103 : decode cX9_isTask 103 = .ok (.lload_n 2, 1) := by decide +kernel
theorem dX9_isTask_104 : decode cX9_isTask 104 = .ok (.ldc2_w 69, 3) := by decide +kernel
theorem dX9_isTask_107 : decode cX9_isTask 107 = .ok (.aload_n 0, 1) := by decide +kernel
theorem dX9_isTask_108 : decode cX9_isTask 108 = .ok (.invokevirtual 51, 3) := by decide +kernel
theorem dX9_isTask_111 : decode cX9_isTask 111 = .ok (.lconst 1, 1) := by decide +kernel
theorem dX9_isTask_112 : decode cX9_isTask 112 = .ok (.lsub, 1) := by decide +kernel
theorem dX9_isTask_113 : decode cX9_isTask 113 = .ok (.invokestatic 130, 3) := by decide +kernel
theorem dX9_isTask_116 : decode cX9_isTask 116 = .ok (.ireturn, 1) := by decide +kernel
theorem dX9_isTask_117 : decode cX9_isTask 117 = .ok (.lload_n 2, 1) := by decide +kernel
theorem dX9_isTask_118 : decode cX9_isTask 118 = .ok (.lconst 0, 1) := by decide +kernel
theorem dX9_isTask_119 : decode cX9_isTask 119 = .ok (.aload_n 0, 1) := by decide +kernel
theorem dX9_isTask_120 : decode cX9_isTask 120 = .ok (.invokevirtual 51, 3) := by decide +kernel
theorem dX9_isTask_123 : decode cX9_isTask 123 = .ok (.lconst 1, 1) := by decide +kernel
theorem dX9_isTask_124 : decode cX9_isTask 124 = .ok (.lsub, 1) := by decide +kernel
theorem dX9_isTask_125 : decode cX9_isTask 125 = .ok (.invokestatic 130, 3) := by decide +kernel
theorem dX9_isTask_128 : decode cX9_isTask 128 = .ok (.ireturn, 1) := by decide +kernel
theorem dX9_isTask_129 : decode cX9_isTask 129 = .ok (.iconst 0, 1) := by decide +kernel
theorem dX9_isTask_130 : decode cX9_isTask 130 = .ok (.ireturn, 1) := by decide +kernel
theorem dX9_setWidth_0 : decode cX9_setWidth 0 = .ok (.aload_n 0, 1) := by decide +kernel
theorem dX9_setWidth_1 : decode cX9_setWidth 1 = .ok (.iconst 0, 1) := by decide +kernel
theorem dX9_setWidth_2 : decode cX9_setWidth 2 = .ok (.putfield 40, 3) := by decide +kernel
theorem dX9_setWidth_5 : decode cX9_setWidth 5 = .ok (.iload_n 1, 1) := by decide +kernel
theorem dX9_setWidth_6 : decode cX9_setWidth 6 = .ok (.i2l, 1) := by decide +kernel
theorem dX9_setWidth_7 : decode cX9_setWidth 7 = .ok (.ldc2_w 134, 3) := by decide +kernel
theorem dX9_setWidth_10 : decode cX9_setWidth 10 = .ok (.ldc2_w 136, 3) := by decide +kernel
theorem dX9_setWidth_13 : decode cX9_setWidth 13 = .ok (.invokestatic 130, 3) := by decide +kernel
theorem dX9_setWidth_16 : decode cX9_setWidth 16 = .ok (.ifCond .ne 9, 3) := by decide +kernel
theorem dX9_setWidth_19 : decode cX9_setWidth 19 = .ok (.aload_n 0, 1) := by decide +kernel
theorem dX9_setWidth_20 : decode cX9_setWidth 20 = .ok (.iconst 1, 1) := by decide +kernel
theorem dX9_setWidth_21 : decode cX9_setWidth 21 = .ok (.invokevirtual 138, 3) := by decide +kernel
theorem dX9_setWidth_24 : decode cX9_setWidth 24 = .ok (.ireturn, 1) := by decide +kernel
theorem dX9_setWidth_25 : decode cX9_setWidth 25 = .ok (.aload_n 0, 1) := by decide +kernel
theorem dX9_setWidth_26 : decode cX9_setWidth 26 = .ok (.invokevirtual 141, 3) := by decide +kernel
theorem dX9_setWidth_29 : decode cX9_setWidth 29 = .ok (.aload_n 0, 1) := by decide +kernel
theorem dX9_setWidth_30 : decode cX9_setWidth 30 = .ok (.getfield 7, 3) := by decide +kernel
theorem dX9_setWidth_33 : decode cX9_setWidth 33 = .ok (.iconst 0, 1) := by decide +kernel
theorem dX9_setWidth_34 : decode cX9_setWidth 34 = .ok (.iaload, 1) := by decide +kernel
theorem dX9_setWidth_35 : decode cX9_setWidth 35 = .ok (.istore_n 2, 1) := by decide +kernel
theorem dX9_setWidth_36 : decode cX9_setWidth 36 = .ok (.aload_n 0, 1) := by decide +kernel
theorem dX9_setWidth_37 : decode cX9_setWidth 37 = .ok (.getfield 7, 3) := by decide +kernel
theorem dX9_setWidth_40 : decode cX9_setWidth 40 = .ok (.iconst 0, 1) := by decide +kernel
theorem dX9_setWidth_41 : decode cX9_setWidth 41 = .ok (.iload_n 1, 1) := by decide +kernel
theorem dX9_setWidth_42 : decode cX9_setWidth 42 = .ok (.iastore, 1) := by decide +kernel
theorem dX9_setWidth_43 : decode cX9_setWidth 43 = .ok (.aload_n 0, 1) := by decide +kernel
theorem dX9_setWidth_44 : decode cX9_setWidth 44 = .ok (.getfield 7, 3) := by decide +kernel
theorem dX9_setWidth_47 : decode cX9_setWidth 47 = .ok (.iconst 1, 1) := by decide +kernel
theorem dX9_setWidth_48 : decode cX9_setWidth 48 = .ok (.iconst (-1), 1) := by decide +kernel
theorem dX9_setWidth_49 : decode cX9_setWidth 49 = .ok (.iastore, 1) := by decide +kernel
theorem dX9_setWidth_50 : decode cX9_setWidth 50 = .ok (.aload_n 0, 1) := by decide +kernel
theorem dX9_setWidth_51 : decode cX9_setWidth 51 = .ok (.getfield 7, 3) := by decide +kernel
theorem dX9_setWidth_54 : decode cX9_setWidth 54 = .ok (.iconst 3, 1) := by decide +kernel
theorem dX9_setWidth_55 : decode cX9_setWidth 55 = .ok (.iconst 0, 1) := by decide +kernel
theorem dX9_setWidth_56 : decode cX9_setWidth 56 = .ok (.iastore, 1) := by decide +kernel
theorem dX9_setWidth_57 : decode cX9_setWidth 57 = .ok (.aload_n 0, 1) := by decide +kernel
theorem dX9_setWidth_58 : decode cX9_setWidth 58 = .ok (.getfield 7, 3) := by decide +kernel
theorem dX9_setWidth_61 : decode cX9_setWidth 61 = .ok (.iconst 4, 1) := by decide +kernel
theorem dX9_setWidth_62 : decode cX9_setWidth 62 = .ok (.iconst 0, 1) := by decide +kernel
theorem dX9_setWidth_63 : decode cX9_setWidth 63 = .ok (.iastore, 1) := by decide +kernel
theorem dX9_setWidth_64 : decode cX9_setWidth 64 = .ok (.iload_n 2, 1) := by decide +kernel
theorem dX9_setWidth_65 : decode cX9_setWidth 65 = .ok (.ireturn, 1) := by decide +kernel
theorem dX9_width_0 : decode cX9_width 0 = .ok (.aload_n 0, 1) := by decide +kernel
theorem dX9_width_1 : decode cX9_width 1 = .ok (.iconst 0, 1) := by decide +kernel
theorem dX9_width_2 : decode cX9_width 2 = .ok (.putfield 40, 3) := by decide +kernel
theorem dX9_width_5 : decode cX9_width 5 = .ok (.aload_n 0, 1) := by decide +kernel
theorem dX9_width_6 : decode cX9_width 6 = .ok (.getfield 7, 3) := by decide +kernel
theorem dX9_width_9 : decode cX9_width 9 = .ok (.iconst 0, 1) := by decide +kernel
theorem dX9_width_10 : decode cX9_width 10 = .ok (.iaload, 1) := by decide +kernel
theorem dX9_width_11 : decode cX9_width 11 = .ok (.ireturn, 1) := by decide +kernel
theorem dX9_setCost_0 : decode cX9_setCost 0 = .ok (.aload_n 0, 1) := by decide +kernel
theorem dX9_setCost_1 : decode cX9_setCost 1 = .ok (.iconst 0, 1) := by decide +kernel
theorem dX9_setCost_2 : decode cX9_setCost 2 = .ok (.putfield 40, 3) := by decide +kernel
theorem dX9_setCost_5 : decode cX9_setCost 5 = .ok (.iload_n 1, 1) := by decide +kernel
theorem dX9_setCost_6 : decode cX9_setCost 6 = .ok (.i2l, 1) := by decide +kernel
theorem dX9_setCost_7 : decode cX9_setCost 7 = .ok (.lconst 0, 1) := by decide +kernel
theorem dX9_setCost_8 : decode cX9_setCost 8 = .ok (.ldc2_w 69, 3) := by decide +kernel
theorem dX9_setCost_11 : decode cX9_setCost 11 = .ok (.invokestatic 130, 3) := by decide +kernel
theorem dX9_setCost_14 : decode cX9_setCost 14 = .ok (.ifCond .ne 9, 3) := by decide +kernel
theorem dX9_setCost_17 : decode cX9_setCost 17 = .ok (.aload_n 0, 1) := by decide +kernel
theorem dX9_setCost_18 : decode cX9_setCost 18 = .ok (.iconst 1, 1) := by decide +kernel
theorem dX9_setCost_19 : decode cX9_setCost 19 = .ok (.invokevirtual 138, 3) := by decide +kernel
theorem dX9_setCost_22 : decode cX9_setCost 22 = .ok (.ireturn, 1) := by decide +kernel
theorem dX9_setCost_23 : decode cX9_setCost 23 = .ok (.iload_n 2, 1) := by decide +kernel
theorem dX9_setCost_24 : decode cX9_setCost 24 = .ok (.i2l, 1) := by decide +kernel
theorem dX9_setCost_25 : decode cX9_setCost 25 = .ok (.lconst 1, 1) := by decide +kernel
theorem dX9_setCost_26 : decode cX9_setCost 26 = .ok (.ldc2_w 143, 3) := by decide +kernel
theorem dX9_setCost_29 : decode cX9_setCost 29 = .ok (.invokestatic 130, 3) := by decide +kernel
theorem dX9_setCost_32 : decode cX9_setCost 32 = .ok (.ifCond .ne 9, 3) := by decide +kernel
theorem dX9_setCost_35 : decode cX9_setCost 35 = .ok (.aload_n 0, 1) := by decide +kernel
theorem dX9_setCost_36 : decode cX9_setCost 36 = .ok (.iconst 2, 1) := by decide +kernel
theorem dX9_setCost_37 : decode cX9_setCost 37 = .ok (.invokevirtual 138, 3) := by decide +kernel
theorem dX9_setCost_40 : decode cX9_setCost 40 = .ok (.ireturn, 1) := by decide +kernel
theorem dX9_setCost_41 : decode cX9_setCost 41 = .ok (.aload_n 0, 1) := by decide +kernel
theorem dX9_setCost_42 : decode cX9_setCost 42 = .ok (.getfield 16, 3) := by decide +kernel
theorem dX9_setCost_45 : decode cX9_setCost 45 = .ok (.iload_n 1, 1) := by decide +kernel
theorem dX9_setCost_46 : decode cX9_setCost 46 = .ok (.iaload, 1) := by decide +kernel
theorem dX9_setCost_47 : decode cX9_setCost 47 = .ok (.istore_n 3, 1) := by decide +kernel
theorem dX9_setCost_48 : decode cX9_setCost 48 = .ok (.aload_n 0, 1) := by decide +kernel
theorem dX9_setCost_49 : decode cX9_setCost 49 = .ok (.getfield 16, 3) := by decide +kernel
theorem dX9_setCost_52 : decode cX9_setCost 52 = .ok (.iload_n 1, 1) := by decide +kernel
theorem dX9_setCost_53 : decode cX9_setCost 53 = .ok (.iload_n 2, 1) := by decide +kernel
theorem dX9_setCost_54 : decode cX9_setCost 54 = .ok (.iastore, 1) := by decide +kernel
theorem dX9_setCost_55 : decode cX9_setCost 55 = .ok (.iload_n 3, 1) := by decide +kernel
theorem dX9_setCost_56 : decode cX9_setCost 56 = .ok (.ireturn, 1) := by decide +kernel
theorem dX9_multiplier_0 : decode cX9_multiplier 0 = .ok (.aload_n 0, 1) := by decide +kernel
theorem dX9_multiplier_1 : decode cX9_multiplier 1 = .ok (.iconst 0, 1) := by decide +kernel
theorem dX9_multiplier_2 : decode cX9_multiplier 2 = .ok (.putfield 40, 3) := by decide +kernel
theorem dX9_multiplier_5 : decode cX9_multiplier 5 = .ok (.iload_n 1, 1) := by decide +kernel
theorem dX9_multiplier_6 : decode cX9_multiplier 6 = .ok (.i2l, 1) := by decide +kernel
theorem dX9_multiplier_7 : decode cX9_multiplier 7 = .ok (.lconst 1, 1) := by decide +kernel
theorem dX9_multiplier_8 : decode cX9_multiplier 8 = .ok (.aload_n 0, 1) := by decide +kernel
theorem dX9_multiplier_9 : decode cX9_multiplier 9 = .ok (.invokevirtual 51, 3) := by decide +kernel
theorem dX9_multiplier_12 : decode cX9_multiplier 12 = .ok (.lconst 1, 1) := by decide +kernel
theorem dX9_multiplier_13 : decode cX9_multiplier 13 = .ok (.lsub, 1) := by decide +kernel
theorem dX9_multiplier_14 : decode cX9_multiplier 14 = .ok (.invokestatic 130, 3) := by decide +kernel
theorem dX9_multiplier_17 : decode cX9_multiplier 17 = .ok (.ifCond .ne 9, 3) := by decide +kernel
theorem dX9_multiplier_20 : decode cX9_multiplier 20 = .ok (.aload_n 0, 1) := by decide +kernel
theorem dX9_multiplier_21 : decode cX9_multiplier 21 = .ok (.iconst 1, 1) := by decide +kernel
theorem dX9_multiplier_22 : decode cX9_multiplier 22 = .ok (.invokevirtual 138, 3) := by decide +kernel
theorem dX9_multiplier_25 : decode cX9_multiplier 25 = .ok (.ireturn, 1) := by decide +kernel
theorem dX9_multiplier_26 : decode cX9_multiplier 26 = .ok (.iload_n 1, 1) := by decide +kernel
theorem dX9_multiplier_27 : decode cX9_multiplier 27 = .ok (.i2l, 1) := by decide +kernel
theorem dX9_multiplier_28 : decode cX9_multiplier 28 = .ok (.invokestatic 103, 3) := by decide +kernel
theorem dX9_multiplier_31 : decode cX9_multiplier 31 = .ok (.ifCond .eq 7, 3) := by decide +kernel
theorem dX9_multiplier_34 : decode cX9_multiplier 34 = .ok (.iconst 0, 1) := by decide +kernel
theorem dX9_multiplier_35 : decode cX9_multiplier 35 = .ok (.goto 17, 3) := by decide +kernel
theorem dX9_multiplier_38 : decode cX9_multiplier 38 = .ok (.aload_n 0, 1) := by decide +kernel
theorem dX9_multiplier_39 : decode cX9_multiplier 39 = .ok (.iload_n 1, 1) := by decide +kernel
theorem dX9_multiplier_40 : decode cX9_multiplier 40 = .ok (.i2l, 1) := by decide +kernel
theorem dX9_multiplier_41 : decode cX9_multiplier 41 = .ok (.aload_n 0, 1) := by decide +kernel
theorem dX9_multiplier_42 : decode cX9_multiplier 42 = .ok (.iload_n 1, 1) := by decide +kernel
theorem dX9_multiplier_43 : decode cX9_multiplier 43 = .ok (.i2l, 1) := by decide +kernel
theorem dX9_multiplier_44 : decode cX9_multiplier 44 = .ok (.iconst 0, 1) := by decide +kernel
theorem dX9_multiplier_45 : decode cX9_multiplier 45 = .ok (.invokevirtual 107, 3) := by decide +kernel
theorem dX9_multiplier_48 : decode cX9_multiplier 48 = .ok (.invokevirtual 110, 3) := by decide +kernel
theorem dX9_multiplier_51 : decode cX9_multiplier 51 = .ok (.l2i, 1) := by decide +kernel
theorem dX9_multiplier_52 : decode cX9_multiplier 52 = .ok (.ireturn, 1) := by decide +kernel
theorem dX9_shift_0 : decode cX9_shift 0 = .ok (.aload_n 0, 1) := by decide +kernel
theorem dX9_shift_1 : decode cX9_shift 1 = .ok (.iconst 0, 1) := by decide +kernel
theorem dX9_shift_2 : decode cX9_shift 2 = .ok (.putfield 40, 3) := by decide +kernel
theorem dX9_shift_5 : decode cX9_shift 5 = .ok (.iload_n 1, 1) := by decide +kernel
theorem dX9_shift_6 : decode cX9_shift 6 = .ok (.i2l, 1) := by decide +kernel
theorem dX9_shift_7 : decode cX9_shift 7 = .ok (.lconst 1, 1) := by decide +kernel
theorem dX9_shift_8 : decode cX9_shift 8 = .ok (.aload_n 0, 1) := by decide +kernel
theorem dX9_shift_9 : decode cX9_shift 9 = .ok (.invokevirtual 51, 3) := by decide +kernel
theorem dX9_shift_12 : decode cX9_shift 12 = .ok (.lconst 1, 1) := by decide +kernel
theorem dX9_shift_13 : decode cX9_shift 13 = .ok (.lsub, 1) := by decide +kernel
theorem dX9_shift_14 : decode cX9_shift 14 = .ok (.invokestatic 130, 3) := by decide +kernel
theorem dX9_shift_17 : decode cX9_shift 17 = .ok (.ifCond .ne 9, 3) := by decide +kernel
theorem dX9_shift_20 : decode cX9_shift 20 = .ok (.aload_n 0, 1) := by decide +kernel
theorem dX9_shift_21 : decode cX9_shift 21 = .ok (.iconst 1, 1) := by decide +kernel
theorem dX9_shift_22 : decode cX9_shift 22 = .ok (.invokevirtual 138, 3) := by decide +kernel
theorem dX9_shift_25 : decode cX9_shift 25 = .ok (.ireturn, 1) := by decide +kernel
theorem dX9_shift_26 : decode cX9_shift 26 = .ok (.iload_n 1, 1) := by decide +kernel
theorem dX9_shift_27 : decode cX9_shift 27 = .ok (.i2l, 1) := by decide +kernel
theorem dX9_shift_28 : decode cX9_shift 28 = .ok (.invokestatic 103, 3) := by decide +kernel
theorem dX9_shift_31 : decode cX9_shift 31 = .ok (.ifCond .eq 11, 3) := by decide +kernel
theorem dX9_shift_34 : decode cX9_shift 34 = .ok (.iload_n 1, 1) := by decide +kernel
theorem dX9_shift_35 : decode cX9_shift 35 = .ok (.i2l, 1) := by decide +kernel
theorem dX9_shift_36 : decode cX9_shift 36 = .ok (.invokestatic 100, 3) := by decide +kernel
theorem dX9_shift_39 : decode cX9_shift 39 = .ok (.goto 10, 3) := by decide +kernel
theorem dX9_shift_42 : decode cX9_shift 42 = .ok (.aload_n 0, 1) := by decide +kernel
theorem dX9_shift_43 : decode cX9_shift 43 = .ok (.iload_n 1, 1) := by decide +kernel
theorem dX9_shift_44 : decode cX9_shift 44 = .ok (.i2l, 1) := by decide +kernel
theorem dX9_shift_45 : decode cX9_shift 45 = .ok (.iconst 0, 1) := by decide +kernel
theorem dX9_shift_46 : decode cX9_shift 46 = .ok (.invokevirtual 107, 3) := by decide +kernel
theorem dX9_shift_49 : decode cX9_shift 49 = .ok (.ireturn, 1) := by decide +kernel
theorem dX9_signedMultiplier_0 : decode cX9_signedMultiplier 0 = .ok (.aload_n 0, 1) := by decide +kernel
theorem dX9_signedMultiplier_1 : decode cX9_signedMultiplier 1 = .ok (.iconst 0, 1) := by decide +kernel
theorem dX9_signedMultiplier_2 : decode cX9_signedMultiplier 2 = .ok (.putfield 40, 3) := by decide +kernel
theorem dX9_signedMultiplier_5 : decode cX9_signedMultiplier 5 = .ok (.iload_n 1, 1) := by decide +kernel
theorem dX9_signedMultiplier_6 : decode cX9_signedMultiplier 6 = .ok (.i2l, 1) := by decide +kernel
theorem dX9_signedMultiplier_7 : decode cX9_signedMultiplier 7 = .ok (.lconst 1, 1) := by decide +kernel
theorem dX9_signedMultiplier_8 : decode cX9_signedMultiplier 8 = .ok (.aload_n 0, 1) := by decide +kernel
theorem dX9_signedMultiplier_9 : decode cX9_signedMultiplier 9 = .ok (.invokevirtual 59, 3) := by decide +kernel
theorem dX9_signedMultiplier_12 : decode cX9_signedMultiplier 12 = .ok (.lconst 1, 1) := by decide +kernel
theorem dX9_signedMultiplier_13 : decode cX9_signedMultiplier 13 = .ok (.lsub, 1) := by decide +kernel
theorem dX9_signedMultiplier_14 : decode cX9_signedMultiplier 14 = .ok (.invokestatic 130, 3) := by decide +kernel
theorem dX9_signedMultiplier_17 : decode cX9_signedMultiplier 17 = .ok (.ifCond .ne 9, 3) := by decide +kernel
theorem dX9_signedMultiplier_20 : decode cX9_signedMultiplier 20 = .ok (.aload_n 0, 1) := by decide +kernel
theorem dX9_signedMultiplier_21 : decode cX9_signedMultiplier 21 = .ok (.iconst 1, 1) := by decide +kernel
theorem dX9_signedMultiplier_22 : decode cX9_signedMultiplier 22 = .ok (.invokevirtual 138, 3) := by decide +kernel
theorem dX9_signedMultiplier_25 : decode cX9_signedMultiplier 25 = .ok (.ireturn, 1) := by decide +kernel
theorem dX9_signedMultiplier_26 : decode cX9_signedMultiplier 26 = .ok (.iload_n 1, 1) := by decide +kernel
theorem dX9_signedMultiplier_27 : decode cX9_signedMultiplier 27 = .ok (.i2l, 1) := by decide +kernel
theorem dX9_signedMultiplier_28 : decode cX9_signedMultiplier 28 = .ok (.invokestatic 103, 3) := by decide +kernel
theorem dX9_signedMultiplier_31 : decode cX9_signedMultiplier 31 = .ok (.ifCond .eq 7, 3) := by decide +kernel
theorem dX9_signedMultiplier_34 : decode cX9_signedMultiplier 34 = .ok (.iconst 0, 1) := by decide +kernel
theorem dX9_signedMultiplier_35 : decode cX9_signedMultiplier 35 = .ok (.goto 17, 3) := by decide +kernel
theorem dX9_signedMultiplier_38 : decode cX9_signedMultiplier 38 = .ok (.aload_n 0, 1) := by decide +kernel
theorem dX9_signedMultiplier_39 : decode cX9_signedMultiplier 39 = .ok (.iload_n 1, 1) := by decide +kernel
theorem dX9_signedMultiplier_40 : decode cX9_signedMultiplier 40 = .ok (.i2l, 1) := by decide +kernel
theorem dX9_signedMultiplier_41 : decode cX9_signedMultiplier 41 = .ok (.aload_n 0, 1) := by decide +kernel
theorem dX9_signedMultiplier_42 : decode cX9_signedMultiplier 42 = .ok (.iload_n 1, 1) := by decide +kernel
theorem dX9_signedMultiplier_43 : decode cX9_signedMultiplier 43 = .ok (.i2l, 1) := by decide +kernel
theorem dX9_signedMultiplier_44 : decode cX9_signedMultiplier 44 = .ok (.iconst 1, 1) := by decide +kernel
theorem dX9_signedMultiplier_45 : decode cX9_signedMultiplier 45 = .ok (.invokevirtual 107, 3) := by decide +kernel
theorem dX9_signedMultiplier_48 : decode cX9_signedMultiplier 48 = .ok (.invokevirtual 110, 3) := by decide +kernel
theorem dX9_signedMultiplier_51 : decode cX9_signedMultiplier 51 = .ok (.l2i, 1) := by decide +kernel
theorem dX9_signedMultiplier_52 : decode cX9_signedMultiplier 52 = .ok (.ireturn, 1) := by decide +kernel
theorem dX9_inverse_0 : decode cX9_inverse 0 = .ok (.aload_n 0, 1) := by decide +kernel
theorem dX9_inverse_1 : decode cX9_inverse 1 = .ok (.iconst 0, 1) := by decide +kernel
theorem dX9_inverse_2 : decode cX9_inverse 2 = .ok (.putfield 40, 3) := by decide +kernel
theorem dX9_inverse_5 : decode cX9_inverse 5 = .ok (.iload_n 1, 1) := by decide +kernel
theorem dX9_inverse_6 : decode cX9_inverse 6 = .ok (.i2l, 1) := by decide +kernel
theorem dX9_inverse_7 : decode cX9_inverse 7 = .ok (.lconst 1, 1) := by decide +kernel
theorem dX9_inverse_8 : decode cX9_inverse 8 = .ok (.aload_n 0, 1) := by decide +kernel
theorem dX9_inverse_9 : decode cX9_inverse 9 = .ok (.invokevirtual 51, 3) := by decide +kernel
theorem dX9_inverse_12 : decode cX9_inverse 12 = .ok (.lconst 1, 1) := by decide +kernel
theorem dX9_inverse_13 : decode cX9_inverse 13 = .ok (.lsub, 1) := by decide +kernel
theorem dX9_inverse_14 : decode cX9_inverse 14 = .ok (.invokestatic 130, 3) := by decide +kernel
theorem dX9_inverse_17 : decode cX9_inverse 17 = .ok (.ifCond .eq 20, 3) := by decide +kernel
theorem dX9_inverse_20 : decode cX9_inverse 20 = .ok (.iload_n 1, 1) := by decide +kernel
theorem dX9_inverse_21 : decode cX9_inverse 21 = .ok (.iconst 2, 1) := by decide +kernel
theorem dX9_inverse_22 : decode cX9_inverse 22 = .ok (.irem, 1) := by decide +kernel
theorem dX9_inverse_23 : decode cX9_inverse 23 = .ok (.iconst 1, 1) := by decide +kernel
theorem dX9_inverse_24 : decode cX9_inverse 24 = .ok (.if_icmp .ne 13, 3) := by decide +kernel
theorem dX9_inverse_27 : decode cX9_inverse 27 = .ok (.aload_n 0, 1) := by decide +kernel
theorem dX9_inverse_28 : decode cX9_inverse 28 = .ok (.iload_n 1, 1) := by decide +kernel
theorem dX9_inverse_29 : decode cX9_inverse 29 = .ok (.i2l, 1) := by decide +kernel
theorem dX9_inverse_30 : decode cX9_inverse 30 = .ok (.invokevirtual 127, 3) := by decide +kernel
theorem dX9_inverse_33 : decode cX9_inverse 33 = .ok (.l2i, 1) := by decide +kernel
theorem dX9_inverse_34 : decode cX9_inverse 34 = .ok (.goto 8, 3) := by decide +kernel
theorem dX9_inverse_37 : decode cX9_inverse 37 = .ok (.aload_n 0, 1) := by decide +kernel
theorem dX9_inverse_38 : decode cX9_inverse 38 = .ok (.iconst 1, 1) := by decide +kernel
theorem dX9_inverse_39 : decode cX9_inverse 39 = .ok (.invokevirtual 138, 3) := by decide +kernel
theorem dX9_inverse_42 : decode cX9_inverse 42 = .ok (.ireturn, 1) := by decide +kernel
theorem dX9_digits_0 : decode cX9_digits 0 = .ok (.aload_n 0, 1) := by decide +kernel
theorem dX9_digits_1 : decode cX9_digits 1 = .ok (.iconst 0, 1) := by decide +kernel
theorem dX9_digits_2 : decode cX9_digits 2 = .ok (.putfield 40, 3) := by decide +kernel
theorem dX9_digits_5 : decode cX9_digits 5 = .ok (.iload_n 1, 1) := by decide +kernel
theorem dX9_digits_6 : decode cX9_digits 6 = .ok (.i2l, 1) := by decide +kernel
theorem dX9_digits_7 : decode cX9_digits 7 = .ok (.lconst 0, 1) := by decide +kernel
theorem dX9_digits_8 : decode cX9_digits 8 = .ok (.aload_n 0, 1) := by decide +kernel
theorem dX9_digits_9 : decode cX9_digits 9 = .ok (.invokevirtual 51, 3) := by decide +kernel
theorem dX9_digits_12 : decode cX9_digits 12 = .ok (.lconst 1, 1) := by decide +kernel
theorem dX9_digits_13 : decode cX9_digits 13 = .ok (.lsub, 1) := by decide +kernel
theorem dX9_digits_14 : decode cX9_digits 14 = .ok (.invokestatic 130, 3) := by decide +kernel
theorem dX9_digits_17 : decode cX9_digits 17 = .ok (.ifCond .eq 12, 3) := by decide +kernel
theorem dX9_digits_20 : decode cX9_digits 20 = .ok (.aload_n 0, 1) := by decide +kernel
theorem dX9_digits_21 : decode cX9_digits 21 = .ok (.iload_n 1, 1) := by decide +kernel
theorem dX9_digits_22 : decode cX9_digits 22 = .ok (.i2l, 1) := by decide +kernel
theorem dX9_digits_23 : decode cX9_digits 23 = .ok (.invokevirtual 145, 3) := by decide +kernel
theorem dX9_digits_26 : decode cX9_digits 26 = .ok (.goto 8, 3) := by decide +kernel
theorem dX9_digits_29 : decode cX9_digits 29 = .ok (.aload_n 0, 1) := by decide +kernel
theorem dX9_digits_30 : decode cX9_digits 30 = .ok (.iconst 1, 1) := by decide +kernel
theorem dX9_digits_31 : decode cX9_digits 31 = .ok (.invokevirtual 138, 3) := by decide +kernel
theorem dX9_digits_34 : decode cX9_digits 34 = .ok (.ireturn, 1) := by decide +kernel
theorem dX9_build_0 : decode cX9_build 0 = .ok (.aload_n 0, 1) := by decide +kernel
theorem dX9_build_1 : decode cX9_build 1 = .ok (.iconst 0, 1) := by decide +kernel
theorem dX9_build_2 : decode cX9_build 2 = .ok (.putfield 40, 3) := by decide +kernel
theorem dX9_build_5 : decode cX9_build 5 = .ok (.aload_n 0, 1) := by decide +kernel
theorem dX9_build_6 : decode cX9_build 6 = .ok (.iload_n 1, 1) := by decide +kernel
theorem dX9_build_7 : decode cX9_build 7 = .ok (.iload_n 2, 1) := by decide +kernel
theorem dX9_build_8 : decode cX9_build 8 = .ok (.i2l, 1) := by decide +kernel
theorem dX9_build_9 : decode cX9_build 9 = .ok (.invokevirtual 148, 3) := by decide +kernel
theorem dX9_build_12 : decode cX9_build 12 = .ok (.ifCond .ne 9, 3) := by decide +kernel
theorem dX9_build_15 : decode cX9_build 15 = .ok (.aload_n 0, 1) := by decide +kernel
theorem dX9_build_16 : decode cX9_build 16 = .ok (.iconst 1, 1) := by decide +kernel
theorem dX9_build_17 : decode cX9_build 17 = .ok (.invokevirtual 138, 3) := by decide +kernel
theorem dX9_build_20 : decode cX9_build 20 = .ok (.ireturn, 1) := by decide +kernel
theorem dX9_build_21 : decode cX9_build 21 = .ok (.aload_n 0, 1) := by decide +kernel
theorem dX9_build_22 : decode cX9_build 22 = .ok (.invokevirtual 141, 3) := by decide +kernel
theorem dX9_build_25 : decode cX9_build 25 = .ok (.aload_n 0, 1) := by decide +kernel
theorem dX9_build_26 : decode cX9_build 26 = .ok (.getfield 7, 3) := by decide +kernel
theorem dX9_build_29 : decode cX9_build 29 = .ok (.iconst 1, 1) := by decide +kernel
theorem dX9_build_30 : decode cX9_build 30 = .ok (.iload_n 1, 1) := by decide +kernel
theorem dX9_build_31 : decode cX9_build 31 = .ok (.iastore, 1) := by decide +kernel
theorem dX9_build_32 : decode cX9_build 32 = .ok (.aload_n 0, 1) := by decide +kernel
theorem dX9_build_33 : decode cX9_build 33 = .ok (.getfield 7, 3) := by decide +kernel
theorem dX9_build_36 : decode cX9_build 36 = .ok (.iconst 2, 1) := by decide +kernel
theorem dX9_build_37 : decode cX9_build 37 = .ok (.iload_n 2, 1) := by decide +kernel
theorem dX9_build_38 : decode cX9_build 38 = .ok (.iastore, 1) := by decide +kernel
theorem dX9_build_39 : decode cX9_build 39 = .ok (.aload_n 0, 1) := by decide +kernel
theorem dX9_build_40 : decode cX9_build 40 = .ok (.getfield 7, 3) := by decide +kernel
theorem dX9_build_43 : decode cX9_build 43 = .ok (.iconst 3, 1) := by decide +kernel
theorem dX9_build_44 : decode cX9_build 44 = .ok (.iconst 0, 1) := by decide +kernel
theorem dX9_build_45 : decode cX9_build 45 = .ok (.iastore, 1) := by decide +kernel
theorem dX9_build_46 : decode cX9_build 46 = .ok (.aload_n 0, 1) := by decide +kernel
theorem dX9_build_47 : decode cX9_build 47 = .ok (.getfield 7, 3) := by decide +kernel
theorem dX9_build_50 : decode cX9_build 50 = .ok (.iconst 4, 1) := by decide +kernel
theorem dX9_build_51 : decode cX9_build 51 = .ok (.aload_n 0, 1) := by decide +kernel
theorem dX9_build_52 : decode cX9_build 52 = .ok (.iload_n 1, 1) := by decide +kernel
theorem dX9_build_53 : decode cX9_build 53 = .ok (.iload_n 2, 1) := by decide +kernel
theorem dX9_build_54 : decode cX9_build 54 = .ok (.i2l, 1) := by decide +kernel
theorem dX9_build_55 : decode cX9_build 55 = .ok (.invokevirtual 152, 3) := by decide +kernel
theorem dX9_build_58 : decode cX9_build 58 = .ok (.iastore, 1) := by decide +kernel
theorem dX9_build_59 : decode cX9_build 59 = .ok (.aload_n 0, 1) := by decide +kernel
theorem dX9_build_60 : decode cX9_build 60 = .ok (.getfield 7, 3) := by decide +kernel
theorem dX9_build_63 : decode cX9_build 63 = .ok (.iconst 3, 1) := by decide +kernel
theorem dX9_build_64 : decode cX9_build 64 = .ok (.iaload, 1) := by decide +kernel
theorem dX9_build_65 : decode cX9_build 65 = .ok (.ireturn, 1) := by decide +kernel
theorem dX9_setTask_0 : decode cX9_setTask 0 = .ok (.aload_n 0, 1) := by decide +kernel
theorem dX9_setTask_1 : decode cX9_setTask 1 = .ok (.iconst 0, 1) := by decide +kernel
theorem dX9_setTask_2 : decode cX9_setTask 2 = .ok (.putfield 40, 3) := by decide +kernel
theorem dX9_setTask_5 : decode cX9_setTask 5 = .ok (.aload_n 0, 1) := by decide +kernel
theorem dX9_setTask_6 : decode cX9_setTask 6 = .ok (.iload_n 1, 1) := by decide +kernel
theorem dX9_setTask_7 : decode cX9_setTask 7 = .ok (.iload_n 2, 1) := by decide +kernel
theorem dX9_setTask_8 : decode cX9_setTask 8 = .ok (.i2l, 1) := by decide +kernel
theorem dX9_setTask_9 : decode cX9_setTask 9 = .ok (.invokevirtual 148, 3) := by decide +kernel
theorem dX9_setTask_12 : decode cX9_setTask 12 = .ok (.ifCond .ne 9, 3) := by decide +kernel
theorem dX9_setTask_15 : decode cX9_setTask 15 = .ok (.aload_n 0, 1) := by decide +kernel
theorem dX9_setTask_16 : decode cX9_setTask 16 = .ok (.iconst 1, 1) := by decide +kernel
theorem dX9_setTask_17 : decode cX9_setTask 17 = .ok (.invokevirtual 138, 3) := by decide +kernel
theorem dX9_setTask_20 : decode cX9_setTask 20 = .ok (.ireturn, 1) := by decide +kernel
theorem dX9_setTask_21 : decode cX9_setTask 21 = .ok (.aload_n 0, 1) := by decide +kernel
theorem dX9_setTask_22 : decode cX9_setTask 22 = .ok (.invokevirtual 141, 3) := by decide +kernel
theorem dX9_setTask_25 : decode cX9_setTask 25 = .ok (.aload_n 0, 1) := by decide +kernel
theorem dX9_setTask_26 : decode cX9_setTask 26 = .ok (.getfield 7, 3) := by decide +kernel
theorem dX9_setTask_29 : decode cX9_setTask 29 = .ok (.iconst 1, 1) := by decide +kernel
theorem dX9_setTask_30 : decode cX9_setTask 30 = .ok (.iaload, 1) := by decide +kernel
theorem dX9_setTask_31 : decode cX9_setTask 31 = .ok (.istore_n 3, 1) := by decide +kernel
theorem dX9_setTask_32 : decode cX9_setTask 32 = .ok (.aload_n 0, 1) := by decide +kernel
theorem dX9_setTask_33 : decode cX9_setTask 33 = .ok (.getfield 7, 3) := by decide +kernel
theorem dX9_setTask_36 : decode cX9_setTask 36 = .ok (.iconst 1, 1) := by decide +kernel
theorem dX9_setTask_37 : decode cX9_setTask 37 = .ok (.iload_n 1, 1) := by decide +kernel
theorem dX9_setTask_38 : decode cX9_setTask 38 = .ok (.iastore, 1) := by decide +kernel
theorem dX9_setTask_39 : decode cX9_setTask 39 = .ok (.aload_n 0, 1) := by decide +kernel
theorem dX9_setTask_40 : decode cX9_setTask 40 = .ok (.getfield 7, 3) := by decide +kernel
theorem dX9_setTask_43 : decode cX9_setTask 43 = .ok (.iconst 2, 1) := by decide +kernel
theorem dX9_setTask_44 : decode cX9_setTask 44 = .ok (.iload_n 2, 1) := by decide +kernel
theorem dX9_setTask_45 : decode cX9_setTask 45 = .ok (.iastore, 1) := by decide +kernel
theorem dX9_setTask_46 : decode cX9_setTask 46 = .ok (.iload_n 3, 1) := by decide +kernel
theorem dX9_setTask_47 : decode cX9_setTask 47 = .ok (.ireturn, 1) := by decide +kernel
theorem dX9_isShift_0 : decode cX9_isShift 0 = .ok (.iload_n 0, 1) := by decide +kernel
theorem dX9_isShift_1 : decode cX9_isShift 1 = .ok (.iconst 2, 1) := by decide +kernel
theorem dX9_isShift_2 : decode cX9_isShift 2 = .ok (.if_icmp .le 9, 3) := by decide +kernel
theorem dX9_isShift_5 : decode cX9_isShift 5 = .ok (.iload_n 0, 1) := by decide +kernel
theorem dX9_isShift_6 : decode cX9_isShift 6 = .ok (.bipush 10, 2) := by decide +kernel
theorem dX9_isShift_8 : decode cX9_isShift 8 = .ok (.if_icmp .ne 7, 3) := by decide +kernel
theorem dX9_isShift_11 : decode cX9_isShift 11 = .ok (.iconst 1, 1) := by decide +kernel
theorem dX9_isShift_12 : decode cX9_isShift 12 = .ok (.goto 4, 3) := by decide +kernel
theorem dX9_isShift_15 : decode cX9_isShift 15 = .ok (.iconst 0, 1) := by decide +kernel
theorem dX9_isShift_16 : decode cX9_isShift 16 = .ok (.ireturn, 1) := by decide +kernel
theorem dX9_isOperand_0 : decode cX9_isOperand 0 = .ok (.iload_n 2, 1) := by decide +kernel
theorem dX9_isOperand_1 : decode cX9_isOperand 1 = .ok (.i2l, 1) := by decide +kernel
theorem dX9_isOperand_2 : decode cX9_isOperand 2 = .ok (.lconst 0, 1) := by decide +kernel
theorem dX9_isOperand_3 : decode cX9_isOperand 3 = .ok (.iload_n 1, 1) := by decide +kernel
theorem dX9_isOperand_4 : decode cX9_isOperand 4 = .ok (.ifCond .eq 12, 3) := by decide +kernel
theorem dX9_isOperand_7 : decode cX9_isOperand 7 = .ok (.aload_n 0, 1) := by decide +kernel
theorem dX9_isOperand_8 : decode cX9_isOperand 8 = .ok (.invokevirtual 51, 3) := by decide +kernel
theorem dX9_isOperand_11 : decode cX9_isOperand 11 = .ok (.lconst 1, 1) := by decide +kernel
theorem dX9_isOperand_12 : decode cX9_isOperand 12 = .ok (.lsub, 1) := by decide +kernel
theorem dX9_isOperand_13 : decode cX9_isOperand 13 = .ok (.goto 10, 3) := by decide +kernel
theorem dX9_isOperand_16 : decode cX9_isOperand 16 = .ok (.aload_n 0, 1) := by decide +kernel
theorem dX9_isOperand_17 : decode cX9_isOperand 17 = .ok (.getfield 7, 3) := by decide +kernel
theorem dX9_isOperand_20 : decode cX9_isOperand 20 = .ok (.iconst 3, 1) := by decide +kernel
theorem dX9_isOperand_21 : decode cX9_isOperand 21 = .ok (.iaload, 1) := by decide +kernel
theorem dX9_isOperand_22 : decode cX9_isOperand 22 = .ok (.i2l, 1) := by decide +kernel
theorem dX9_isOperand_23 : decode cX9_isOperand 23 = .ok (.invokestatic 130, 3) := by decide +kernel
theorem dX9_isOperand_26 : decode cX9_isOperand 26 = .ok (.ireturn, 1) := by decide +kernel
theorem dX9_append_0 : decode cX9_append 0 = .ok (.aload_n 0, 1) := by decide +kernel
theorem dX9_append_1 : decode cX9_append 1 = .ok (.iconst 0, 1) := by decide +kernel
theorem dX9_append_2 : decode cX9_append 2 = .ok (.putfield 40, 3) := by decide +kernel
theorem dX9_append_5 : decode cX9_append 5 = .ok (.iload_n 1, 1) := by decide +kernel
theorem dX9_append_6 : decode cX9_append 6 = .ok (.i2l, 1) := by decide +kernel
theorem dX9_append_7 : decode cX9_append 7 = .ok (.lconst 0, 1) := by decide +kernel
theorem dX9_append_8 : decode cX9_append 8 = .ok (.ldc2_w 155, 3) := by decide +kernel
theorem dX9_append_11 : decode cX9_append 11 = .ok (.invokestatic 130, 3) := by decide +kernel
theorem dX9_append_14 : decode cX9_append 14 = .ok (.ifCond .eq 27, 3) := by decide +kernel
theorem dX9_append_17 : decode cX9_append 17 = .ok (.aload_n 0, 1) := by decide +kernel
theorem dX9_append_18 : decode cX9_append 18 = .ok (.iload_n 2, 1) := by decide +kernel
theorem dX9_append_19 : decode cX9_append 19 = .ok (.iload_n 3, 1) := by decide +kernel
theorem dX9_append_20 : decode cX9_append 20 = .ok (.invokevirtual 157, 3) := by decide +kernel
theorem dX9_append_23 : decode cX9_append 23 = .ok (.ifCond .eq 18, 3) := by decide +kernel
theorem dX9_append_26 : decode cX9_append 26 = .ok (.aload_n 0, 1) := by decide +kernel
theorem dX9_append_27 : decode cX9_append 27 = .ok (.iload 4, 2) := by decide +kernel
theorem dX9_append_29 : decode cX9_append 29 = .ok (.iload 5, 2) := by decide +kernel
theorem dX9_append_31 : decode cX9_append 31 = .ok (.invokevirtual 157, 3) := by decide +kernel
theorem dX9_append_34 : decode cX9_append 34 = .ok (.ifCond .eq 7, 3) := by decide +kernel
theorem dX9_append_37 : decode cX9_append 37 = .ok (.iconst 1, 1) := by decide +kernel
theorem dX9_append_38 : decode cX9_append 38 = .ok (.goto 4, 3) := by decide +kernel
theorem dX9_append_41 : decode cX9_append 41 = .ok (.iconst 0, 1) := by decide +kernel
theorem dX9_append_42 : decode cX9_append 42 = .ok (.istore 6, 2) := by decide +kernel
theorem dX9_append_44 : decode cX9_append 44 = .ok (.iload 6, 2) := by decide +kernel
theorem dX9_append_46 : decode cX9_append 46 = .ok (.ifCond .eq 26, 3) := by decide +kernel
theorem dX9_append_49 : decode cX9_append 49 = .ok (.iload_n 1, 1) := by decide +kernel
theorem dX9_append_50 : decode cX9_append 50 = .ok (.invokestatic 161, 3) := by decide +kernel
theorem dX9_append_53 : decode cX9_append 53 = .ok (.ifCond .eq 25, 3) := by decide +kernel
theorem dX9_append_56 : decode cX9_append 56 = .ok (.iload 4, 2) := by decide +kernel
theorem dX9_append_58 : decode cX9_append 58 = .ok (.ifCond .eq 14, 3) := by decide +kernel
theorem dX9_append_61 : decode cX9_append 61 = .ok (.iload 5, 2) := by decide +kernel
theorem dX9_append_63 : decode cX9_append 63 = .ok (.aload_n 0, 1) := by decide +kernel
theorem dX9_append_64 : decode cX9_append 64 = .ok (.getfield 7, 3) := by decide +kernel
theorem dX9_append_67 : decode cX9_append 67 = .ok (.iconst 0, 1) := by decide +kernel
theorem dX9_append_68 : decode cX9_append 68 = .ok (.iaload, 1) := by decide +kernel
theorem dX9_append_69 : decode cX9_append 69 = .ok (.if_icmp .lt 9, 3) := by decide +kernel
theorem dX9_append_72 : decode cX9_append 72 = .ok (.aload_n 0, 1) := by decide +kernel
theorem dX9_append_73 : decode cX9_append 73 = .ok (.iconst 1, 1) := by decide +kernel
theorem dX9_append_74 : decode cX9_append 74 = .ok (.invokevirtual 138, 3) := by decide +kernel
theorem dX9_append_77 : decode cX9_append 77 = .ok (.ireturn, 1) := by decide +kernel
theorem dX9_append_78 : decode cX9_append 78 = .ok (.aload_n 0, 1) := by decide +kernel
theorem dX9_append_79 : decode cX9_append 79 = .ok (.getfield 7, 3) := by decide +kernel
theorem dX9_append_82 : decode cX9_append 82 = .ok (.iconst 3, 1) := by decide +kernel
theorem dX9_append_83 : decode cX9_append 83 = .ok (.iaload, 1) := by decide +kernel
theorem dX9_append_84 : decode cX9_append 84 = .ok (.bipush 40, 2) := by decide +kernel
theorem dX9_append_86 : decode cX9_append 86 = .ok (.if_icmp .ne 9, 3) := by decide +kernel
theorem dX9_append_89 : decode cX9_append 89 = .ok (.aload_n 0, 1) := by decide +kernel
theorem dX9_append_90 : decode cX9_append 90 = .ok (.iconst 2, 1) := by decide +kernel
theorem dX9_append_91 : decode cX9_append 91 = .ok (.invokevirtual 138, 3) := by decide +kernel
theorem dX9_append_94 : decode cX9_append 94 = .ok (.ireturn, 1) := by decide +kernel
theorem dX9_append_95 : decode cX9_append 95 = .ok (.aload_n 0, 1) := by decide +kernel
theorem dX9_append_96 : decode cX9_append 96 = .ok (.invokevirtual 141, 3) := by decide +kernel
theorem dX9_append_99 : decode cX9_append 99 = .ok (.aload_n 0, 1) := by decide +kernel
theorem dX9_append_100 : decode cX9_append 100 = .ok (.getfield 7, 3) := by decide +kernel
theorem dX9_append_103 : decode cX9_append 103 = .ok (.iconst 4, 1) := by decide +kernel
theorem dX9_append_104 : decode cX9_append 104 = .ok (.aload_n 0, 1) := by decide +kernel
theorem dX9_append_105 : decode cX9_append 105 = .ok (.iload_n 1, 1) := by decide +kernel
theorem dX9_append_106 : decode cX9_append 106 = .ok (.iload_n 2, 1) := by decide +kernel
theorem dX9_append_107 : decode cX9_append 107 = .ok (.iload_n 3, 1) := by decide +kernel
theorem dX9_append_108 : decode cX9_append 108 = .ok (.i2l, 1) := by decide +kernel
theorem dX9_append_109 : decode cX9_append 109 = .ok (.iload 4, 2) := by decide +kernel
theorem dX9_append_111 : decode cX9_append 111 = .ok (.iload 5, 2) := by decide +kernel
theorem dX9_append_113 : decode cX9_append 113 = .ok (.i2l, 1) := by decide +kernel
theorem dX9_append_114 : decode cX9_append 114 = .ok (.invokevirtual 77, 3) := by decide +kernel
theorem dX9_append_117 : decode cX9_append 117 = .ok (.iastore, 1) := by decide +kernel
theorem dX9_append_118 : decode cX9_append 118 = .ok (.aload_n 0, 1) := by decide +kernel
theorem dX9_append_119 : decode cX9_append 119 = .ok (.getfield 7, 3) := by decide +kernel
theorem dX9_append_122 : decode cX9_append 122 = .ok (.iconst 3, 1) := by decide +kernel
theorem dX9_append_123 : decode cX9_append 123 = .ok (.iaload, 1) := by decide +kernel
theorem dX9_append_124 : decode cX9_append 124 = .ok (.ireturn, 1) := by decide +kernel
theorem dX9_setResult_0 : decode cX9_setResult 0 = .ok (.aload_n 0, 1) := by decide +kernel
theorem dX9_setResult_1 : decode cX9_setResult 1 = .ok (.iconst 0, 1) := by decide +kernel
theorem dX9_setResult_2 : decode cX9_setResult 2 = .ok (.putfield 40, 3) := by decide +kernel
theorem dX9_setResult_5 : decode cX9_setResult 5 = .ok (.iload_n 1, 1) := by decide +kernel
theorem dX9_setResult_6 : decode cX9_setResult 6 = .ok (.i2l, 1) := by decide +kernel
theorem dX9_setResult_7 : decode cX9_setResult 7 = .ok (.lconst 0, 1) := by decide +kernel
theorem dX9_setResult_8 : decode cX9_setResult 8 = .ok (.aload_n 0, 1) := by decide +kernel
theorem dX9_setResult_9 : decode cX9_setResult 9 = .ok (.getfield 7, 3) := by decide +kernel
theorem dX9_setResult_12 : decode cX9_setResult 12 = .ok (.iconst 3, 1) := by decide +kernel
theorem dX9_setResult_13 : decode cX9_setResult 13 = .ok (.iaload, 1) := by decide +kernel
theorem dX9_setResult_14 : decode cX9_setResult 14 = .ok (.i2l, 1) := by decide +kernel
theorem dX9_setResult_15 : decode cX9_setResult 15 = .ok (.invokestatic 130, 3) := by decide +kernel
theorem dX9_setResult_18 : decode cX9_setResult 18 = .ok (.ifCond .ne 9, 3) := by decide +kernel
theorem dX9_setResult_21 : decode cX9_setResult 21 = .ok (.aload_n 0, 1) := by decide +kernel
theorem dX9_setResult_22 : decode cX9_setResult 22 = .ok (.iconst 1, 1) := by decide +kernel
theorem dX9_setResult_23 : decode cX9_setResult 23 = .ok (.invokevirtual 138, 3) := by decide +kernel
theorem dX9_setResult_26 : decode cX9_setResult 26 = .ok (.ireturn, 1) := by decide +kernel
theorem dX9_setResult_27 : decode cX9_setResult 27 = .ok (.aload_n 0, 1) := by decide +kernel
theorem dX9_setResult_28 : decode cX9_setResult 28 = .ok (.invokevirtual 141, 3) := by decide +kernel
theorem dX9_setResult_31 : decode cX9_setResult 31 = .ok (.aload_n 0, 1) := by decide +kernel
theorem dX9_setResult_32 : decode cX9_setResult 32 = .ok (.getfield 7, 3) := by decide +kernel
theorem dX9_setResult_35 : decode cX9_setResult 35 = .ok (.iconst 4, 1) := by decide +kernel
theorem dX9_setResult_36 : decode cX9_setResult 36 = .ok (.iaload, 1) := by decide +kernel
theorem dX9_setResult_37 : decode cX9_setResult 37 = .ok (.istore_n 2, 1) := by decide +kernel
theorem dX9_setResult_38 : decode cX9_setResult 38 = .ok (.aload_n 0, 1) := by decide +kernel
theorem dX9_setResult_39 : decode cX9_setResult 39 = .ok (.getfield 7, 3) := by decide +kernel
theorem dX9_setResult_42 : decode cX9_setResult 42 = .ok (.iconst 4, 1) := by decide +kernel
theorem dX9_setResult_43 : decode cX9_setResult 43 = .ok (.iload_n 1, 1) := by decide +kernel
theorem dX9_setResult_44 : decode cX9_setResult 44 = .ok (.iastore, 1) := by decide +kernel
theorem dX9_setResult_45 : decode cX9_setResult 45 = .ok (.iload_n 2, 1) := by decide +kernel
theorem dX9_setResult_46 : decode cX9_setResult 46 = .ok (.ireturn, 1) := by decide +kernel
theorem dX9_drop_0 : decode cX9_drop 0 = .ok (.aload_n 0, 1) := by decide +kernel
theorem dX9_drop_1 : decode cX9_drop 1 = .ok (.iconst 0, 1) := by decide +kernel
theorem dX9_drop_2 : decode cX9_drop 2 = .ok (.putfield 40, 3) := by decide +kernel
theorem dX9_drop_5 : decode cX9_drop 5 = .ok (.aload_n 0, 1) := by decide +kernel
theorem dX9_drop_6 : decode cX9_drop 6 = .ok (.getfield 7, 3) := by decide +kernel
theorem dX9_drop_9 : decode cX9_drop 9 = .ok (.iconst 3, 1) := by decide +kernel
theorem dX9_drop_10 : decode cX9_drop 10 = .ok (.iaload, 1) := by decide +kernel
theorem dX9_drop_11 : decode cX9_drop 11 = .ok (.ifCond .ne 9, 3) := by decide +kernel
theorem dX9_drop_14 : decode cX9_drop 14 = .ok (.aload_n 0, 1) := by decide +kernel
theorem dX9_drop_15 : decode cX9_drop 15 = .ok (.iconst 1, 1) := by decide +kernel
theorem dX9_drop_16 : decode cX9_drop 16 = .ok (.invokevirtual 138, 3) := by decide +kernel
theorem dX9_drop_19 : decode cX9_drop 19 = .ok (.ireturn, 1) := by decide +kernel
theorem dX9_drop_20 : decode cX9_drop 20 = .ok (.aload_n 0, 1) := by decide +kernel
theorem dX9_drop_21 : decode cX9_drop 21 = .ok (.invokevirtual 141, 3) := by decide +kernel
theorem dX9_drop_24 : decode cX9_drop 24 = .ok (.aload_n 0, 1) := by decide +kernel
theorem dX9_drop_25 : decode cX9_drop 25 = .ok (.getfield 7, 3) := by decide +kernel
theorem dX9_drop_28 : decode cX9_drop 28 = .ok (.iconst 3, 1) := by decide +kernel
theorem dX9_drop_29 : decode cX9_drop 29 = .ok (.dup2, 1) := by decide +kernel
theorem dX9_drop_30 : decode cX9_drop 30 = .ok (.iaload, 1) := by decide +kernel
theorem dX9_drop_31 : decode cX9_drop 31 = .ok (.iconst 1, 1) := by decide +kernel
theorem dX9_drop_32 : decode cX9_drop 32 = .ok (.isub, 1) := by decide +kernel
theorem dX9_drop_33 : decode cX9_drop 33 = .ok (.iastore, 1) := by decide +kernel
theorem dX9_drop_34 : decode cX9_drop 34 = .ok (.aload_n 0, 1) := by decide +kernel
theorem dX9_drop_35 : decode cX9_drop 35 = .ok (.getfield 7, 3) := by decide +kernel
theorem dX9_drop_38 : decode cX9_drop 38 = .ok (.iconst 4, 1) := by decide +kernel
theorem dX9_drop_39 : decode cX9_drop 39 = .ok (.aload_n 0, 1) := by decide +kernel
theorem dX9_drop_40 : decode cX9_drop 40 = .ok (.getfield 7, 3) := by decide +kernel
theorem dX9_drop_43 : decode cX9_drop 43 = .ok (.iconst 4, 1) := by decide +kernel
theorem dX9_drop_44 : decode cX9_drop 44 = .ok (.iaload, 1) := by decide +kernel
theorem dX9_drop_45 : decode cX9_drop 45 = .ok (.aload_n 0, 1) := by decide +kernel
theorem dX9_drop_46 : decode cX9_drop 46 = .ok (.getfield 7, 3) := by decide +kernel
theorem dX9_drop_49 : decode cX9_drop 49 = .ok (.iconst 3, 1) := by decide +kernel
theorem dX9_drop_50 : decode cX9_drop 50 = .ok (.iaload, 1) := by decide +kernel
theorem dX9_drop_51 : decode cX9_drop 51 = .ok (.if_icmp .le 12, 3) := by decide +kernel
theorem dX9_drop_54 : decode cX9_drop 54 = .ok (.aload_n 0, 1) := by decide +kernel
theorem dX9_drop_55 : decode cX9_drop 55 = .ok (.getfield 7, 3) := by decide +kernel
theorem dX9_drop_58 : decode cX9_drop 58 = .ok (.iconst 3, 1) := by decide +kernel
theorem dX9_drop_59 : decode cX9_drop 59 = .ok (.iaload, 1) := by decide +kernel
theorem dX9_drop_60 : decode cX9_drop 60 = .ok (.goto 9, 3) := by decide +kernel
theorem dX9_drop_63 : decode cX9_drop 63 = .ok (.aload_n 0, 1) := by decide +kernel
theorem dX9_drop_64 : decode cX9_drop 64 = .ok (.getfield 7, 3) := by decide +kernel
theorem dX9_drop_67 : decode cX9_drop 67 = .ok (.iconst 4, 1) := by decide +kernel
theorem dX9_drop_68 : decode cX9_drop 68 = .ok (.iaload, 1) := by decide +kernel
theorem dX9_drop_69 : decode cX9_drop 69 = .ok (.iastore, 1) := by decide +kernel
theorem dX9_drop_70 : decode cX9_drop 70 = .ok (.aload_n 0, 1) := by decide +kernel
theorem dX9_drop_71 : decode cX9_drop 71 = .ok (.getfield 7, 3) := by decide +kernel
theorem dX9_drop_74 : decode cX9_drop 74 = .ok (.iconst 3, 1) := by decide +kernel
theorem dX9_drop_75 : decode cX9_drop 75 = .ok (.iaload, 1) := by decide +kernel
theorem dX9_drop_76 : decode cX9_drop 76 = .ok (.ireturn, 1) := by decide +kernel
