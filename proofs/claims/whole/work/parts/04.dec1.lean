theorem dX0_init_0 : decode cX0_init 0 = .ok (.aload_n 0, 1) := by decide +kernel
theorem dX0_init_1 : decode cX0_init 1 = .ok (.invokespecial 3, 3) := by decide +kernel
theorem dX0_init_4 : decode cX0_init 4 = .ok (.aload_n 0, 1) := by decide +kernel
theorem dX0_init_5 : decode cX0_init 5 = .ok (.new 9, 3) := by decide +kernel
theorem dX0_init_8 : decode cX0_init 8 = .ok (.dup, 1) := by decide +kernel
theorem dX0_init_9 : decode cX0_init 9 = .ok (.invokespecial 11, 3) := by decide +kernel
theorem dX0_init_12 : decode cX0_init 12 = .ok (.putfield 12, 3) := by decide +kernel
theorem dX0_init_15 : decode cX0_init 15 = .ok (.aload_n 0, 1) := by decide +kernel
theorem dX0_init_16 : decode cX0_init 16 = .ok (.iconst 3, 1) := by decide +kernel
theorem dX0_init_17 : decode cX0_init 17 = .ok (.newarray .int, 2) := by decide +kernel
theorem dX0_init_19 : decode cX0_init 19 = .ok (.dup, 1) := by decide +kernel
theorem dX0_init_20 : decode cX0_init 20 = .ok (.iconst 0, 1) := by decide +kernel
theorem dX0_init_21 : decode cX0_init 21 = .ok (.iconst 3, 1) := by decide +kernel
theorem dX0_init_22 : decode cX0_init 22 = .ok (.iastore, 1) := by decide +kernel
theorem dX0_init_23 : decode cX0_init 23 = .ok (.dup, 1) := by decide +kernel
theorem dX0_init_24 : decode cX0_init 24 = .ok (.iconst 1, 1) := by decide +kernel
theorem dX0_init_25 : decode cX0_init 25 = .ok (.iconst 5, 1) := by decide +kernel
theorem dX0_init_26 : decode cX0_init 26 = .ok (.iastore, 1) := by decide +kernel
theorem dX0_init_27 : decode cX0_init 27 = .ok (.dup, 1) := by decide +kernel
theorem dX0_init_28 : decode cX0_init 28 = .ok (.iconst 2, 1) := by decide +kernel
theorem dX0_init_29 : decode cX0_init 29 = .ok (.iconst 1, 1) := by decide +kernel
theorem dX0_init_30 : decode cX0_init 30 = .ok (.iastore, 1) := by decide +kernel
theorem dX0_init_31 : decode cX0_init 31 = .ok (.putfield 18, 3) := by decide +kernel
theorem dX0_init_34 : decode cX0_init 34 = .ok (.aload_n 0, 1) := by decide +kernel
theorem dX0_init_35 : decode cX0_init 35 = .ok (.iconst 0, 1) := by decide +kernel
theorem dX0_init_36 : decode cX0_init 36 = .ok (.invokestatic 22, 3) := by decide +kernel
theorem dX0_init_39 : decode cX0_init 39 = .ok (.putfield 26, 3) := by decide +kernel
theorem dX0_init_42 : decode cX0_init 42 = .ok (.return_, 1) := by decide +kernel
theorem dX0_writeKind_0 : decode cX0_writeKind 0 = .ok (.iload_n 1, 1) := by decide +kernel
theorem dX0_writeKind_1 : decode cX0_writeKind 1 = .ok (.tableswitch 111 0 6 #[43, 53, 59, 65, 93, 99, 105], 43) := by decide +kernel
theorem dX0_writeKind_44 : decode cX0_writeKind 44 = .ok (.aload_n 0, 1) := by decide +kernel
theorem dX0_writeKind_45 : decode cX0_writeKind 45 = .ok (.aload_n 0, 1) := by decide +kernel
theorem dX0_writeKind_46 : decode cX0_writeKind 46 = .ok (.getfield 26, 3) := by decide +kernel
theorem dX0_writeKind_49 : decode cX0_writeKind 49 = .ok (.iload_n 2, 1) := by decide +kernel
theorem dX0_writeKind_50 : decode cX0_writeKind 50 = .ok (.invokevirtual 30, 3) := by decide +kernel
theorem dX0_writeKind_53 : decode cX0_writeKind 53 = .ok (.ireturn, 1) := by decide +kernel
theorem dX0_writeKind_54 : decode cX0_writeKind 54 = .ok (.aload_n 0, 1) := by decide +kernel
theorem dX0_writeKind_55 : decode cX0_writeKind 55 = .ok (.iload_n 2, 1) := by decide +kernel
theorem dX0_writeKind_56 : decode cX0_writeKind 56 = .ok (.invokevirtual 34, 3) := by decide +kernel
theorem dX0_writeKind_59 : decode cX0_writeKind 59 = .ok (.ireturn, 1) := by decide +kernel
theorem dX0_writeKind_60 : decode cX0_writeKind 60 = .ok (.aload_n 0, 1) := by decide +kernel
theorem dX0_writeKind_61 : decode cX0_writeKind 61 = .ok (.iload_n 2, 1) := by decide +kernel
theorem dX0_writeKind_62 : decode cX0_writeKind 62 = .ok (.invokevirtual 37, 3) := by decide +kernel
theorem dX0_writeKind_65 : decode cX0_writeKind 65 = .ok (.ireturn, 1) := by decide +kernel
theorem dX0_writeKind_66 : decode cX0_writeKind 66 = .ok (.aload_n 0, 1) := by decide +kernel
theorem dX0_writeKind_67 : decode cX0_writeKind 67 = .ok (.getfield 12, 3) := by decide +kernel
theorem dX0_writeKind_70 : decode cX0_writeKind 70 = .ok (.iconst 4, 1) := by decide +kernel
theorem dX0_writeKind_71 : decode cX0_writeKind 71 = .ok (.aload_n 0, 1) := by decide +kernel
theorem dX0_writeKind_72 : decode cX0_writeKind 72 = .ok (.getfield 26, 3) := by decide +kernel
theorem dX0_writeKind_75 : decode cX0_writeKind 75 = .ok (.aload_n 0, 1) := by decide +kernel
theorem dX0_writeKind_76 : decode cX0_writeKind 76 = .ok (.aload_n 0, 1) := by decide +kernel
theorem dX0_writeKind_77 : decode cX0_writeKind 77 = .ok (.iload_n 2, 1) := by decide +kernel
theorem dX0_writeKind_78 : decode cX0_writeKind 78 = .ok (.invokevirtual 37, 3) := by decide +kernel
theorem dX0_writeKind_81 : decode cX0_writeKind 81 = .ok (.iload_n 2, 1) := by decide +kernel
theorem dX0_writeKind_82 : decode cX0_writeKind 82 = .ok (.aload_n 0, 1) := by decide +kernel
theorem dX0_writeKind_83 : decode cX0_writeKind 83 = .ok (.invokevirtual 40, 3) := by decide +kernel
theorem dX0_writeKind_86 : decode cX0_writeKind 86 = .ok (.iand, 1) := by decide +kernel
theorem dX0_writeKind_87 : decode cX0_writeKind 87 = .ok (.invokevirtual 44, 3) := by decide +kernel
theorem dX0_writeKind_90 : decode cX0_writeKind 90 = .ok (.invokevirtual 47, 3) := by decide +kernel
theorem dX0_writeKind_93 : decode cX0_writeKind 93 = .ok (.ireturn, 1) := by decide +kernel
theorem dX0_writeKind_94 : decode cX0_writeKind 94 = .ok (.aload_n 0, 1) := by decide +kernel
theorem dX0_writeKind_95 : decode cX0_writeKind 95 = .ok (.iload_n 2, 1) := by decide +kernel
theorem dX0_writeKind_96 : decode cX0_writeKind 96 = .ok (.invokevirtual 51, 3) := by decide +kernel
theorem dX0_writeKind_99 : decode cX0_writeKind 99 = .ok (.ireturn, 1) := by decide +kernel
theorem dX0_writeKind_100 : decode cX0_writeKind 100 = .ok (.aload_n 0, 1) := by decide +kernel
theorem dX0_writeKind_101 : decode cX0_writeKind 101 = .ok (.iload_n 2, 1) := by decide +kernel
theorem dX0_writeKind_102 : decode cX0_writeKind 102 = .ok (.invokevirtual 54, 3) := by decide +kernel
theorem dX0_writeKind_105 : decode cX0_writeKind 105 = .ok (.ireturn, 1) := by decide +kernel
theorem dX0_writeKind_106 : decode cX0_writeKind 106 = .ok (.aload_n 0, 1) := by decide +kernel
theorem dX0_writeKind_107 : decode cX0_writeKind 107 = .ok (.iload_n 2, 1) := by decide +kernel
theorem dX0_writeKind_108 : decode cX0_writeKind 108 = .ok (.invokevirtual 57, 3) := by decide +kernel
theorem dX0_writeKind_111 : decode cX0_writeKind 111 = .ok (.ireturn, 1) := by decide +kernel
theorem dX0_writeKind_112 : decode cX0_writeKind 112 = .ok (.aload_n 0, 1) := by decide +kernel
theorem dX0_writeKind_113 : decode cX0_writeKind 113 = .ok (.aload_n 0, 1) := by decide +kernel
theorem dX0_writeKind_114 : decode cX0_writeKind 114 = .ok (.getfield 26, 3) := by decide +kernel
theorem dX0_writeKind_117 : decode cX0_writeKind 117 = .ok (.iload_n 2, 1) := by decide +kernel
theorem dX0_writeKind_118 : decode cX0_writeKind 118 = .ok (.invokevirtual 44, 3) := by decide +kernel
theorem dX0_writeKind_121 : decode cX0_writeKind 121 = .ok (.ireturn, 1) := by decide +kernel
theorem dX0_mask_0 : decode cX0_mask 0 = .ok (.iconst 1, 1) := by decide +kernel
theorem dX0_mask_1 : decode cX0_mask 1 = .ok (.aload_n 0, 1) := by decide +kernel
theorem dX0_mask_2 : decode cX0_mask 2 = .ok (.getfield 12, 3) := by decide +kernel
theorem dX0_mask_5 : decode cX0_mask 5 = .ok (.getfield 60, 3) := by decide +kernel
theorem dX0_mask_8 : decode cX0_mask 8 = .ok (.ishl, 1) := by decide +kernel
theorem dX0_mask_9 : decode cX0_mask 9 = .ok (.iconst 1, 1) := by decide +kernel
theorem dX0_mask_10 : decode cX0_mask 10 = .ok (.isub, 1) := by decide +kernel
theorem dX0_mask_11 : decode cX0_mask 11 = .ok (.ireturn, 1) := by decide +kernel
theorem dX0_shifted_0 : decode cX0_shifted 0 = .ok (.iload_n 3, 1) := by decide +kernel
theorem dX0_shifted_1 : decode cX0_shifted 1 = .ok (.ifCond .ne 7, 3) := by decide +kernel
theorem dX0_shifted_4 : decode cX0_shifted 4 = .ok (.iload_n 2, 1) := by decide +kernel
theorem dX0_shifted_5 : decode cX0_shifted 5 = .ok (.goto 13, 3) := by decide +kernel
theorem dX0_shifted_8 : decode cX0_shifted 8 = .ok (.aload_n 0, 1) := by decide +kernel
theorem dX0_shifted_9 : decode cX0_shifted 9 = .ok (.getfield 12, 3) := by decide +kernel
theorem dX0_shifted_12 : decode cX0_shifted 12 = .ok (.iload_n 1, 1) := by decide +kernel
theorem dX0_shifted_13 : decode cX0_shifted 13 = .ok (.iload_n 2, 1) := by decide +kernel
theorem dX0_shifted_14 : decode cX0_shifted 14 = .ok (.iload_n 3, 1) := by decide +kernel
theorem dX0_shifted_15 : decode cX0_shifted 15 = .ok (.invokevirtual 47, 3) := by decide +kernel
theorem dX0_shifted_18 : decode cX0_shifted 18 = .ok (.ireturn, 1) := by decide +kernel
theorem dX0_productBy_0 : decode cX0_productBy 0 = .ok (.iload_n 2, 1) := by decide +kernel
theorem dX0_productBy_1 : decode cX0_productBy 1 = .ok (.iconst 1, 1) := by decide +kernel
theorem dX0_productBy_2 : decode cX0_productBy 2 = .ok (.if_icmp .ne 5, 3) := by decide +kernel
theorem dX0_productBy_5 : decode cX0_productBy 5 = .ok (.iload_n 1, 1) := by decide +kernel
theorem dX0_productBy_6 : decode cX0_productBy 6 = .ok (.ireturn, 1) := by decide +kernel
theorem dX0_productBy_7 : decode cX0_productBy 7 = .ok (.iload_n 2, 1) := by decide +kernel
theorem dX0_productBy_8 : decode cX0_productBy 8 = .ok (.ifCond .ne 15, 3) := by decide +kernel
theorem dX0_productBy_11 : decode cX0_productBy 11 = .ok (.aload_n 0, 1) := by decide +kernel
theorem dX0_productBy_12 : decode cX0_productBy 12 = .ok (.getfield 12, 3) := by decide +kernel
theorem dX0_productBy_15 : decode cX0_productBy 15 = .ok (.bipush 8, 2) := by decide +kernel
theorem dX0_productBy_17 : decode cX0_productBy 17 = .ok (.iload_n 1, 1) := by decide +kernel
theorem dX0_productBy_18 : decode cX0_productBy 18 = .ok (.iconst 0, 1) := by decide +kernel
theorem dX0_productBy_19 : decode cX0_productBy 19 = .ok (.invokevirtual 47, 3) := by decide +kernel
theorem dX0_productBy_22 : decode cX0_productBy 22 = .ok (.ireturn, 1) := by decide +kernel
theorem dX0_productBy_23 : decode cX0_productBy 23 = .ok (.aload_n 0, 1) := by decide +kernel
theorem dX0_productBy_24 : decode cX0_productBy 24 = .ok (.iload_n 2, 1) := by decide +kernel
theorem dX0_productBy_25 : decode cX0_productBy 25 = .ok (.invokevirtual 63, 3) := by decide +kernel
theorem dX0_productBy_28 : decode cX0_productBy 28 = .ok (.aload_n 0, 1) := by decide +kernel
theorem dX0_productBy_29 : decode cX0_productBy 29 = .ok (.getfield 18, 3) := by decide +kernel
theorem dX0_productBy_32 : decode cX0_productBy 32 = .ok (.iconst 0, 1) := by decide +kernel
theorem dX0_productBy_33 : decode cX0_productBy 33 = .ok (.iaload, 1) := by decide +kernel
theorem dX0_productBy_34 : decode cX0_productBy 34 = .ok (.if_icmp .gt 10, 3) := by decide +kernel
theorem dX0_productBy_37 : decode cX0_productBy 37 = .ok (.aload_n 0, 1) := by decide +kernel
theorem dX0_productBy_38 : decode cX0_productBy 38 = .ok (.iload_n 1, 1) := by decide +kernel
theorem dX0_productBy_39 : decode cX0_productBy 39 = .ok (.iload_n 2, 1) := by decide +kernel
theorem dX0_productBy_40 : decode cX0_productBy 40 = .ok (.invokevirtual 66, 3) := by decide +kernel
theorem dX0_productBy_43 : decode cX0_productBy 43 = .ok (.ireturn, 1) := by decide +kernel
theorem dX0_productBy_44 : decode cX0_productBy 44 = .ok (.aload_n 0, 1) := by decide +kernel
theorem dX0_productBy_45 : decode cX0_productBy 45 = .ok (.getfield 12, 3) := by decide +kernel
theorem dX0_productBy_48 : decode cX0_productBy 48 = .ok (.iconst 5, 1) := by decide +kernel
theorem dX0_productBy_49 : decode cX0_productBy 49 = .ok (.iload_n 1, 1) := by decide +kernel
theorem dX0_productBy_50 : decode cX0_productBy 50 = .ok (.iload_n 2, 1) := by decide +kernel
theorem dX0_productBy_51 : decode cX0_productBy 51 = .ok (.invokevirtual 47, 3) := by decide +kernel
theorem dX0_productBy_54 : decode cX0_productBy 54 = .ok (.ireturn, 1) := by decide +kernel
theorem dX0_costOfDigits_0 : decode cX0_costOfDigits 0 = .ok (.iload_n 1, 1) := by decide +kernel
theorem dX0_costOfDigits_1 : decode cX0_costOfDigits 1 = .ok (.invokestatic 69, 3) := by decide +kernel
theorem dX0_costOfDigits_4 : decode cX0_costOfDigits 4 = .ok (.istore_n 2, 1) := by decide +kernel
theorem dX0_costOfDigits_5 : decode cX0_costOfDigits 5 = .ok (.iload_n 1, 1) := by decide +kernel
theorem dX0_costOfDigits_6 : decode cX0_costOfDigits 6 = .ok (.aload_n 0, 1) := by decide +kernel
theorem dX0_costOfDigits_7 : decode cX0_costOfDigits 7 = .ok (.getfield 12, 3) := by decide +kernel
theorem dX0_costOfDigits_10 : decode cX0_costOfDigits 10 = .ok (.getfield 60, 3) := by decide +kernel
theorem dX0_costOfDigits_13 : decode cX0_costOfDigits 13 = .ok (.invokestatic 74, 3) := by decide +kernel
theorem dX0_costOfDigits_16 : decode cX0_costOfDigits 16 = .ok (.istore_n 3, 1) := by decide +kernel
theorem dX0_costOfDigits_17 : decode cX0_costOfDigits 17 = .ok (.iload_n 2, 1) := by decide +kernel
theorem dX0_costOfDigits_18 : decode cX0_costOfDigits 18 = .ok (.ifCond .ne 9, 3) := by decide +kernel
theorem dX0_costOfDigits_21 : decode cX0_costOfDigits 21 = .ok (.iload_n 3, 1) := by decide +kernel
theorem dX0_costOfDigits_22 : decode cX0_costOfDigits 22 = .ok (.iconst 1, 1) := by decide +kernel
theorem dX0_costOfDigits_23 : decode cX0_costOfDigits 23 = .ok (.isub, 1) := by decide +kernel
theorem dX0_costOfDigits_24 : decode cX0_costOfDigits 24 = .ok (.goto 4, 3) := by decide +kernel
theorem dX0_costOfDigits_27 : decode cX0_costOfDigits 27 = .ok (.iload_n 3, 1) := by decide +kernel
theorem dX0_costOfDigits_28 : decode cX0_costOfDigits 28 = .ok (.istore 4, 2) := by decide +kernel
theorem dX0_costOfDigits_30 : decode cX0_costOfDigits 30 = .ok (.iload_n 1, 1) := by decide +kernel
theorem dX0_costOfDigits_31 : decode cX0_costOfDigits 31 = .ok (.iload_n 2, 1) := by decide +kernel
theorem dX0_costOfDigits_32 : decode cX0_costOfDigits 32 = .ok (.invokestatic 79, 3) := by decide +kernel
theorem dX0_costOfDigits_35 : decode cX0_costOfDigits 35 = .ok (.ifCond .ge 7, 3) := by decide +kernel
theorem dX0_costOfDigits_38 : decode cX0_costOfDigits 38 = .ok (.iconst 1, 1) := by decide +kernel
theorem dX0_costOfDigits_39 : decode cX0_costOfDigits 39 = .ok (.goto 4, 3) := by decide +kernel
theorem dX0_costOfDigits_42 : decode cX0_costOfDigits 42 = .ok (.iconst 0, 1) := by decide +kernel
theorem dX0_costOfDigits_43 : decode cX0_costOfDigits 43 = .ok (.istore 5, 2) := by decide +kernel
theorem dX0_costOfDigits_45 : decode cX0_costOfDigits 45 = .ok (.iload 4, 2) := by decide +kernel
theorem dX0_costOfDigits_47 : decode cX0_costOfDigits 47 = .ok (.iload 5, 2) := by decide +kernel
theorem dX0_costOfDigits_49 : decode cX0_costOfDigits 49 = .ok (.iadd, 1) := by decide +kernel
theorem dX0_costOfDigits_50 : decode cX0_costOfDigits 50 = .ok (.iload_n 3, 1) := by decide +kernel
theorem dX0_costOfDigits_51 : decode cX0_costOfDigits 51 = .ok (.iadd, 1) := by decide +kernel
theorem dX0_costOfDigits_52 : decode cX0_costOfDigits 52 = .ok (.iconst 1, 1) := by decide +kernel
theorem dX0_costOfDigits_53 : decode cX0_costOfDigits 53 = .ok (.isub, 1) := by decide +kernel
theorem dX0_costOfDigits_54 : decode cX0_costOfDigits 54 = .ok (.aload_n 0, 1) := by decide +kernel
theorem dX0_costOfDigits_55 : decode cX0_costOfDigits 55 = .ok (.getfield 18, 3) := by decide +kernel
theorem dX0_costOfDigits_58 : decode cX0_costOfDigits 58 = .ok (.iconst 2, 1) := by decide +kernel
theorem dX0_costOfDigits_59 : decode cX0_costOfDigits 59 = .ok (.iaload, 1) := by decide +kernel
theorem dX0_costOfDigits_60 : decode cX0_costOfDigits 60 = .ok (.imul, 1) := by decide +kernel
theorem dX0_costOfDigits_61 : decode cX0_costOfDigits 61 = .ok (.ireturn, 1) := by decide +kernel
theorem dX0_productByDigits_0 : decode cX0_productByDigits 0 = .ok (.iload_n 2, 1) := by decide +kernel
theorem dX0_productByDigits_1 : decode cX0_productByDigits 1 = .ok (.invokestatic 69, 3) := by decide +kernel
theorem dX0_productByDigits_4 : decode cX0_productByDigits 4 = .ok (.istore_n 3, 1) := by decide +kernel
theorem dX0_productByDigits_5 : decode cX0_productByDigits 5 = .ok (.aload_n 0, 1) := by decide +kernel
theorem dX0_productByDigits_6 : decode cX0_productByDigits 6 = .ok (.iconst 0, 1) := by decide +kernel
theorem dX0_productByDigits_7 : decode cX0_productByDigits 7 = .ok (.iload_n 1, 1) := by decide +kernel
theorem dX0_productByDigits_8 : decode cX0_productByDigits 8 = .ok (.iload_n 3, 1) := by decide +kernel
theorem dX0_productByDigits_9 : decode cX0_productByDigits 9 = .ok (.invokevirtual 82, 3) := by decide +kernel
theorem dX0_productByDigits_12 : decode cX0_productByDigits 12 = .ok (.istore 4, 2) := by decide +kernel
theorem dX0_productByDigits_14 : decode cX0_productByDigits 14 = .ok (.iload_n 2, 1) := by decide +kernel
theorem dX0_productByDigits_15 : decode cX0_productByDigits 15 = .ok (.iload_n 3, 1) := by decide +kernel
theorem dX0_productByDigits_16 : decode cX0_productByDigits 16 = .ok (.invokestatic 79, 3) := by decide +kernel
theorem dX0_productByDigits_19 : decode cX0_productByDigits 19 = .ok (.ifCond .ge 16, 3) := by decide +kernel
theorem dX0_productByDigits_22 : decode cX0_productByDigits 22 = .ok (.aload_n 0, 1) := by decide +kernel
theorem dX0_productByDigits_23 : decode cX0_productByDigits 23 = .ok (.getfield 12, 3) := by decide +kernel
theorem dX0_productByDigits_26 : decode cX0_productByDigits 26 = .ok (.iconst 4, 1) := by decide +kernel
theorem dX0_productByDigits_27 : decode cX0_productByDigits 27 = .ok (.iconst 0, 1) := by decide +kernel
theorem dX0_productByDigits_28 : decode cX0_productByDigits 28 = .ok (.iload 4, 2) := by decide +kernel
theorem dX0_productByDigits_30 : decode cX0_productByDigits 30 = .ok (.invokevirtual 47, 3) := by decide +kernel
theorem dX0_productByDigits_33 : decode cX0_productByDigits 33 = .ok (.istore 4, 2) := by decide +kernel
theorem dX0_productByDigits_35 : decode cX0_productByDigits 35 = .ok (.iload_n 3, 1) := by decide +kernel
theorem dX0_productByDigits_36 : decode cX0_productByDigits 36 = .ok (.iconst 1, 1) := by decide +kernel
theorem dX0_productByDigits_37 : decode cX0_productByDigits 37 = .ok (.iadd, 1) := by decide +kernel
theorem dX0_productByDigits_38 : decode cX0_productByDigits 38 = .ok (.istore 5, 2) := by decide +kernel
theorem dX0_productByDigits_40 : decode cX0_productByDigits 40 = .ok (.iload 5, 2) := by decide +kernel
theorem dX0_productByDigits_42 : decode cX0_productByDigits 42 = .ok (.aload_n 0, 1) := by decide +kernel
theorem dX0_productByDigits_43 : decode cX0_productByDigits 43 = .ok (.getfield 12, 3) := by decide +kernel
theorem dX0_productByDigits_46 : decode cX0_productByDigits 46 = .ok (.getfield 60, 3) := by decide +kernel
theorem dX0_productByDigits_49 : decode cX0_productByDigits 49 = .ok (.if_icmp .ge 58, 3) := by decide +kernel
theorem dX0_productByDigits_52 : decode cX0_productByDigits 52 = .ok (.iload_n 2, 1) := by decide +kernel
theorem dX0_productByDigits_53 : decode cX0_productByDigits 53 = .ok (.iload 5, 2) := by decide +kernel
theorem dX0_productByDigits_55 : decode cX0_productByDigits 55 = .ok (.invokestatic 79, 3) := by decide +kernel
theorem dX0_productByDigits_58 : decode cX0_productByDigits 58 = .ok (.istore 6, 2) := by decide +kernel
theorem dX0_productByDigits_60 : decode cX0_productByDigits 60 = .ok (.iload 6, 2) := by decide +kernel
theorem dX0_productByDigits_62 : decode cX0_productByDigits 62 = .ok (.ifCond .eq 39, 3) := by decide +kernel
theorem dX0_productByDigits_65 : decode cX0_productByDigits 65 = .ok (.aload_n 0, 1) := by decide +kernel
theorem dX0_productByDigits_66 : decode cX0_productByDigits 66 = .ok (.getfield 12, 3) := by decide +kernel
theorem dX0_productByDigits_69 : decode cX0_productByDigits 69 = .ok (.iconst 0, 1) := by decide +kernel
theorem dX0_productByDigits_70 : decode cX0_productByDigits 70 = .ok (.iload_n 1, 1) := by decide +kernel
theorem dX0_productByDigits_71 : decode cX0_productByDigits 71 = .ok (.iload 5, 2) := by decide +kernel
theorem dX0_productByDigits_73 : decode cX0_productByDigits 73 = .ok (.invokevirtual 47, 3) := by decide +kernel
theorem dX0_productByDigits_76 : decode cX0_productByDigits 76 = .ok (.istore 7, 2) := by decide +kernel
theorem dX0_productByDigits_78 : decode cX0_productByDigits 78 = .ok (.aload_n 0, 1) := by decide +kernel
theorem dX0_productByDigits_79 : decode cX0_productByDigits 79 = .ok (.getfield 12, 3) := by decide +kernel
theorem dX0_productByDigits_82 : decode cX0_productByDigits 82 = .ok (.iload 6, 2) := by decide +kernel
theorem dX0_productByDigits_84 : decode cX0_productByDigits 84 = .ok (.ifCond .le 7, 3) := by decide +kernel
theorem dX0_productByDigits_87 : decode cX0_productByDigits 87 = .ok (.iconst 3, 1) := by decide +kernel
theorem dX0_productByDigits_88 : decode cX0_productByDigits 88 = .ok (.goto 4, 3) := by decide +kernel
theorem dX0_productByDigits_91 : decode cX0_productByDigits 91 = .ok (.iconst 4, 1) := by decide +kernel
theorem dX0_productByDigits_92 : decode cX0_productByDigits 92 = .ok (.iload 4, 2) := by decide +kernel
theorem dX0_productByDigits_94 : decode cX0_productByDigits 94 = .ok (.iload 7, 2) := by decide +kernel
theorem dX0_productByDigits_96 : decode cX0_productByDigits 96 = .ok (.invokevirtual 47, 3) := by decide +kernel
theorem dX0_productByDigits_99 : decode cX0_productByDigits 99 = .ok (.istore 4, 2) := by decide +kernel
theorem dX0_productByDigits_101 : decode cX0_productByDigits 101 = .ok (.iinc 5 1, 3) := by decide +kernel
theorem dX0_productByDigits_104 : decode cX0_productByDigits 104 = .ok (.goto (-64), 3) := by decide +kernel
theorem dX0_productByDigits_107 : decode cX0_productByDigits 107 = .ok (.iload 4, 2) := by decide +kernel
theorem dX0_productByDigits_109 : decode cX0_productByDigits 109 = .ok (.ireturn, 1) := by decide +kernel
theorem dX0_unsignedQuotient_0 : decode cX0_unsignedQuotient 0 = .ok (.iload_n 2, 1) := by decide +kernel
theorem dX0_unsignedQuotient_1 : decode cX0_unsignedQuotient 1 = .ok (.invokestatic 85, 3) := by decide +kernel
theorem dX0_unsignedQuotient_4 : decode cX0_unsignedQuotient 4 = .ok (.ifCond .eq 14, 3) := by decide +kernel
theorem dX0_unsignedQuotient_7 : decode cX0_unsignedQuotient 7 = .ok (.aload_n 0, 1) := by decide +kernel
theorem dX0_unsignedQuotient_8 : decode cX0_unsignedQuotient 8 = .ok (.iconst 1, 1) := by decide +kernel
theorem dX0_unsignedQuotient_9 : decode cX0_unsignedQuotient 9 = .ok (.iload_n 1, 1) := by decide +kernel
theorem dX0_unsignedQuotient_10 : decode cX0_unsignedQuotient 10 = .ok (.iload_n 2, 1) := by decide +kernel
theorem dX0_unsignedQuotient_11 : decode cX0_unsignedQuotient 11 = .ok (.invokestatic 69, 3) := by decide +kernel
theorem dX0_unsignedQuotient_14 : decode cX0_unsignedQuotient 14 = .ok (.invokevirtual 82, 3) := by decide +kernel
theorem dX0_unsignedQuotient_17 : decode cX0_unsignedQuotient 17 = .ok (.ireturn, 1) := by decide +kernel
theorem dX0_unsignedQuotient_18 : decode cX0_unsignedQuotient 18 = .ok (.aload_n 0, 1) := by decide +kernel
theorem dX0_unsignedQuotient_19 : decode cX0_unsignedQuotient 19 = .ok (.getfield 12, 3) := by decide +kernel
theorem dX0_unsignedQuotient_22 : decode cX0_unsignedQuotient 22 = .ok (.getfield 60, 3) := by decide +kernel
theorem dX0_unsignedQuotient_25 : decode cX0_unsignedQuotient 25 = .ok (.iload_n 2, 1) := by decide +kernel
theorem dX0_unsignedQuotient_26 : decode cX0_unsignedQuotient 26 = .ok (.iconst 0, 1) := by decide +kernel
theorem dX0_unsignedQuotient_27 : decode cX0_unsignedQuotient 27 = .ok (.invokestatic 89, 3) := by decide +kernel
theorem dX0_unsignedQuotient_30 : decode cX0_unsignedQuotient 30 = .ok (.istore_n 3, 1) := by decide +kernel
theorem dX0_unsignedQuotient_31 : decode cX0_unsignedQuotient 31 = .ok (.aload_n 0, 1) := by decide +kernel
theorem dX0_unsignedQuotient_32 : decode cX0_unsignedQuotient 32 = .ok (.getfield 12, 3) := by decide +kernel
theorem dX0_unsignedQuotient_35 : decode cX0_unsignedQuotient 35 = .ok (.getfield 60, 3) := by decide +kernel
theorem dX0_unsignedQuotient_38 : decode cX0_unsignedQuotient 38 = .ok (.iload_n 2, 1) := by decide +kernel
theorem dX0_unsignedQuotient_39 : decode cX0_unsignedQuotient 39 = .ok (.iload_n 3, 1) := by decide +kernel
theorem dX0_unsignedQuotient_40 : decode cX0_unsignedQuotient 40 = .ok (.invokestatic 92, 3) := by decide +kernel
theorem dX0_unsignedQuotient_43 : decode cX0_unsignedQuotient 43 = .ok (.istore 4, 2) := by decide +kernel
theorem dX0_unsignedQuotient_45 : decode cX0_unsignedQuotient 45 = .ok (.iload 4, 2) := by decide +kernel
theorem dX0_unsignedQuotient_47 : decode cX0_unsignedQuotient 47 = .ok (.aload_n 0, 1) := by decide +kernel
theorem dX0_unsignedQuotient_48 : decode cX0_unsignedQuotient 48 = .ok (.invokevirtual 40, 3) := by decide +kernel
theorem dX0_unsignedQuotient_51 : decode cX0_unsignedQuotient 51 = .ok (.if_icmp .gt 22, 3) := by decide +kernel
theorem dX0_unsignedQuotient_54 : decode cX0_unsignedQuotient 54 = .ok (.aload_n 0, 1) := by decide +kernel
theorem dX0_unsignedQuotient_55 : decode cX0_unsignedQuotient 55 = .ok (.iconst 1, 1) := by decide +kernel
theorem dX0_unsignedQuotient_56 : decode cX0_unsignedQuotient 56 = .ok (.aload_n 0, 1) := by decide +kernel
theorem dX0_unsignedQuotient_57 : decode cX0_unsignedQuotient 57 = .ok (.getfield 12, 3) := by decide +kernel
theorem dX0_unsignedQuotient_60 : decode cX0_unsignedQuotient 60 = .ok (.bipush 6, 2) := by decide +kernel
theorem dX0_unsignedQuotient_62 : decode cX0_unsignedQuotient 62 = .ok (.iload_n 1, 1) := by decide +kernel
theorem dX0_unsignedQuotient_63 : decode cX0_unsignedQuotient 63 = .ok (.iload 4, 2) := by decide +kernel
theorem dX0_unsignedQuotient_65 : decode cX0_unsignedQuotient 65 = .ok (.invokevirtual 47, 3) := by decide +kernel
theorem dX0_unsignedQuotient_68 : decode cX0_unsignedQuotient 68 = .ok (.iload_n 3, 1) := by decide +kernel
theorem dX0_unsignedQuotient_69 : decode cX0_unsignedQuotient 69 = .ok (.invokevirtual 82, 3) := by decide +kernel
theorem dX0_unsignedQuotient_72 : decode cX0_unsignedQuotient 72 = .ok (.ireturn, 1) := by decide +kernel
theorem dX0_unsignedQuotient_73 : decode cX0_unsignedQuotient 73 = .ok (.iload_n 2, 1) := by decide +kernel
theorem dX0_unsignedQuotient_74 : decode cX0_unsignedQuotient 74 = .ok (.iconst 1, 1) := by decide +kernel
theorem dX0_unsignedQuotient_75 : decode cX0_unsignedQuotient 75 = .ok (.iand, 1) := by decide +kernel
theorem dX0_unsignedQuotient_76 : decode cX0_unsignedQuotient 76 = .ok (.ifCond .ne 10, 3) := by decide +kernel
theorem dX0_unsignedQuotient_79 : decode cX0_unsignedQuotient 79 = .ok (.aload_n 0, 1) := by decide +kernel
theorem dX0_unsignedQuotient_80 : decode cX0_unsignedQuotient 80 = .ok (.iload_n 1, 1) := by decide +kernel
theorem dX0_unsignedQuotient_81 : decode cX0_unsignedQuotient 81 = .ok (.iload_n 2, 1) := by decide +kernel
theorem dX0_unsignedQuotient_82 : decode cX0_unsignedQuotient 82 = .ok (.invokevirtual 95, 3) := by decide +kernel
theorem dX0_unsignedQuotient_85 : decode cX0_unsignedQuotient 85 = .ok (.ireturn, 1) := by decide +kernel
theorem dX0_unsignedQuotient_86 : decode cX0_unsignedQuotient 86 = .ok (.aload_n 0, 1) := by decide +kernel
theorem dX0_unsignedQuotient_87 : decode cX0_unsignedQuotient 87 = .ok (.getfield 12, 3) := by decide +kernel
theorem dX0_unsignedQuotient_90 : decode cX0_unsignedQuotient 90 = .ok (.bipush 6, 2) := by decide +kernel
theorem dX0_unsignedQuotient_92 : decode cX0_unsignedQuotient 92 = .ok (.iload_n 1, 1) := by decide +kernel
theorem dX0_unsignedQuotient_93 : decode cX0_unsignedQuotient 93 = .ok (.iload 4, 2) := by decide +kernel
theorem dX0_unsignedQuotient_95 : decode cX0_unsignedQuotient 95 = .ok (.aload_n 0, 1) := by decide +kernel
theorem dX0_unsignedQuotient_96 : decode cX0_unsignedQuotient 96 = .ok (.invokevirtual 40, 3) := by decide +kernel
theorem dX0_unsignedQuotient_99 : decode cX0_unsignedQuotient 99 = .ok (.iand, 1) := by decide +kernel
theorem dX0_unsignedQuotient_100 : decode cX0_unsignedQuotient 100 = .ok (.invokevirtual 47, 3) := by decide +kernel
theorem dX0_unsignedQuotient_103 : decode cX0_unsignedQuotient 103 = .ok (.istore 5, 2) := by decide +kernel
theorem dX0_unsignedQuotient_105 : decode cX0_unsignedQuotient 105 = .ok (.aload_n 0, 1) := by decide +kernel
theorem dX0_unsignedQuotient_106 : decode cX0_unsignedQuotient 106 = .ok (.getfield 12, 3) := by decide +kernel
theorem dX0_unsignedQuotient_109 : decode cX0_unsignedQuotient 109 = .ok (.iconst 1, 1) := by decide +kernel
theorem dX0_unsignedQuotient_110 : decode cX0_unsignedQuotient 110 = .ok (.aload_n 0, 1) := by decide +kernel
theorem dX0_unsignedQuotient_111 : decode cX0_unsignedQuotient 111 = .ok (.getfield 12, 3) := by decide +kernel
theorem dX0_unsignedQuotient_114 : decode cX0_unsignedQuotient 114 = .ok (.iconst 4, 1) := by decide +kernel
theorem dX0_unsignedQuotient_115 : decode cX0_unsignedQuotient 115 = .ok (.iload_n 1, 1) := by decide +kernel
theorem dX0_unsignedQuotient_116 : decode cX0_unsignedQuotient 116 = .ok (.iload 5, 2) := by decide +kernel
theorem dX0_unsignedQuotient_118 : decode cX0_unsignedQuotient 118 = .ok (.invokevirtual 47, 3) := by decide +kernel
theorem dX0_unsignedQuotient_121 : decode cX0_unsignedQuotient 121 = .ok (.iconst 1, 1) := by decide +kernel
theorem dX0_unsignedQuotient_122 : decode cX0_unsignedQuotient 122 = .ok (.invokevirtual 47, 3) := by decide +kernel
theorem dX0_unsignedQuotient_125 : decode cX0_unsignedQuotient 125 = .ok (.istore 6, 2) := by decide +kernel
theorem dX0_unsignedQuotient_127 : decode cX0_unsignedQuotient 127 = .ok (.aload_n 0, 1) := by decide +kernel
theorem dX0_unsignedQuotient_128 : decode cX0_unsignedQuotient 128 = .ok (.iconst 1, 1) := by decide +kernel
theorem dX0_unsignedQuotient_129 : decode cX0_unsignedQuotient 129 = .ok (.aload_n 0, 1) := by decide +kernel
theorem dX0_unsignedQuotient_130 : decode cX0_unsignedQuotient 130 = .ok (.getfield 12, 3) := by decide +kernel
theorem dX0_unsignedQuotient_133 : decode cX0_unsignedQuotient 133 = .ok (.iconst 3, 1) := by decide +kernel
theorem dX0_unsignedQuotient_134 : decode cX0_unsignedQuotient 134 = .ok (.iload 6, 2) := by decide +kernel
theorem dX0_unsignedQuotient_136 : decode cX0_unsignedQuotient 136 = .ok (.iload 5, 2) := by decide +kernel
theorem dX0_unsignedQuotient_138 : decode cX0_unsignedQuotient 138 = .ok (.invokevirtual 47, 3) := by decide +kernel
theorem dX0_unsignedQuotient_141 : decode cX0_unsignedQuotient 141 = .ok (.iload_n 3, 1) := by decide +kernel
theorem dX0_unsignedQuotient_142 : decode cX0_unsignedQuotient 142 = .ok (.iconst 1, 1) := by decide +kernel
theorem dX0_unsignedQuotient_143 : decode cX0_unsignedQuotient 143 = .ok (.isub, 1) := by decide +kernel
theorem dX0_unsignedQuotient_144 : decode cX0_unsignedQuotient 144 = .ok (.invokevirtual 82, 3) := by decide +kernel
theorem dX0_unsignedQuotient_147 : decode cX0_unsignedQuotient 147 = .ok (.ireturn, 1) := by decide +kernel
theorem dX0_evenQuotient_0 : decode cX0_evenQuotient 0 = .ok (.iload_n 2, 1) := by decide +kernel
theorem dX0_evenQuotient_1 : decode cX0_evenQuotient 1 = .ok (.invokestatic 69, 3) := by decide +kernel
theorem dX0_evenQuotient_4 : decode cX0_evenQuotient 4 = .ok (.istore_n 3, 1) := by decide +kernel
theorem dX0_evenQuotient_5 : decode cX0_evenQuotient 5 = .ok (.iload_n 2, 1) := by decide +kernel
theorem dX0_evenQuotient_6 : decode cX0_evenQuotient 6 = .ok (.iload_n 3, 1) := by decide +kernel
theorem dX0_evenQuotient_7 : decode cX0_evenQuotient 7 = .ok (.ishr, 1) := by decide +kernel
theorem dX0_evenQuotient_8 : decode cX0_evenQuotient 8 = .ok (.istore 4, 2) := by decide +kernel
theorem dX0_evenQuotient_10 : decode cX0_evenQuotient 10 = .ok (.aload_n 0, 1) := by decide +kernel
theorem dX0_evenQuotient_11 : decode cX0_evenQuotient 11 = .ok (.getfield 12, 3) := by decide +kernel
theorem dX0_evenQuotient_14 : decode cX0_evenQuotient 14 = .ok (.getfield 60, 3) := by decide +kernel
theorem dX0_evenQuotient_17 : decode cX0_evenQuotient 17 = .ok (.iload 4, 2) := by decide +kernel
theorem dX0_evenQuotient_19 : decode cX0_evenQuotient 19 = .ok (.iload_n 3, 1) := by decide +kernel
theorem dX0_evenQuotient_20 : decode cX0_evenQuotient 20 = .ok (.invokestatic 89, 3) := by decide +kernel
theorem dX0_evenQuotient_23 : decode cX0_evenQuotient 23 = .ok (.istore 5, 2) := by decide +kernel
theorem dX0_evenQuotient_25 : decode cX0_evenQuotient 25 = .ok (.aload_n 0, 1) := by decide +kernel
theorem dX0_evenQuotient_26 : decode cX0_evenQuotient 26 = .ok (.getfield 12, 3) := by decide +kernel
theorem dX0_evenQuotient_29 : decode cX0_evenQuotient 29 = .ok (.getfield 60, 3) := by decide +kernel
theorem dX0_evenQuotient_32 : decode cX0_evenQuotient 32 = .ok (.iload 4, 2) := by decide +kernel
theorem dX0_evenQuotient_34 : decode cX0_evenQuotient 34 = .ok (.iload 5, 2) := by decide +kernel
theorem dX0_evenQuotient_36 : decode cX0_evenQuotient 36 = .ok (.invokestatic 92, 3) := by decide +kernel
theorem dX0_evenQuotient_39 : decode cX0_evenQuotient 39 = .ok (.istore 6, 2) := by decide +kernel
theorem dX0_evenQuotient_41 : decode cX0_evenQuotient 41 = .ok (.aload_n 0, 1) := by decide +kernel
theorem dX0_evenQuotient_42 : decode cX0_evenQuotient 42 = .ok (.iconst 1, 1) := by decide +kernel
theorem dX0_evenQuotient_43 : decode cX0_evenQuotient 43 = .ok (.aload_n 0, 1) := by decide +kernel
theorem dX0_evenQuotient_44 : decode cX0_evenQuotient 44 = .ok (.getfield 12, 3) := by decide +kernel
theorem dX0_evenQuotient_47 : decode cX0_evenQuotient 47 = .ok (.bipush 6, 2) := by decide +kernel
theorem dX0_evenQuotient_49 : decode cX0_evenQuotient 49 = .ok (.aload_n 0, 1) := by decide +kernel
theorem dX0_evenQuotient_50 : decode cX0_evenQuotient 50 = .ok (.iconst 1, 1) := by decide +kernel
theorem dX0_evenQuotient_51 : decode cX0_evenQuotient 51 = .ok (.iload_n 1, 1) := by decide +kernel
theorem dX0_evenQuotient_52 : decode cX0_evenQuotient 52 = .ok (.iload_n 3, 1) := by decide +kernel
theorem dX0_evenQuotient_53 : decode cX0_evenQuotient 53 = .ok (.invokevirtual 82, 3) := by decide +kernel
theorem dX0_evenQuotient_56 : decode cX0_evenQuotient 56 = .ok (.iload 6, 2) := by decide +kernel
theorem dX0_evenQuotient_58 : decode cX0_evenQuotient 58 = .ok (.invokevirtual 47, 3) := by decide +kernel
theorem dX0_evenQuotient_61 : decode cX0_evenQuotient 61 = .ok (.iload 5, 2) := by decide +kernel
theorem dX0_evenQuotient_63 : decode cX0_evenQuotient 63 = .ok (.invokevirtual 82, 3) := by decide +kernel
theorem dX0_evenQuotient_66 : decode cX0_evenQuotient 66 = .ok (.ireturn, 1) := by decide +kernel
theorem dX0_unsignedRemainder_0 : decode cX0_unsignedRemainder 0 = .ok (.iload_n 1, 1) := by decide +kernel
theorem dX0_unsignedRemainder_1 : decode cX0_unsignedRemainder 1 = .ok (.invokestatic 85, 3) := by decide +kernel
theorem dX0_unsignedRemainder_4 : decode cX0_unsignedRemainder 4 = .ok (.ifCond .eq 20, 3) := by decide +kernel
theorem dX0_unsignedRemainder_7 : decode cX0_unsignedRemainder 7 = .ok (.aload_n 0, 1) := by decide +kernel
theorem dX0_unsignedRemainder_8 : decode cX0_unsignedRemainder 8 = .ok (.getfield 12, 3) := by decide +kernel
theorem dX0_unsignedRemainder_11 : decode cX0_unsignedRemainder 11 = .ok (.bipush 8, 2) := by decide +kernel
theorem dX0_unsignedRemainder_13 : decode cX0_unsignedRemainder 13 = .ok (.aload_n 0, 1) := by decide +kernel
theorem dX0_unsignedRemainder_14 : decode cX0_unsignedRemainder 14 = .ok (.getfield 26, 3) := by decide +kernel
theorem dX0_unsignedRemainder_17 : decode cX0_unsignedRemainder 17 = .ok (.iload_n 1, 1) := by decide +kernel
theorem dX0_unsignedRemainder_18 : decode cX0_unsignedRemainder 18 = .ok (.iconst 1, 1) := by decide +kernel
theorem dX0_unsignedRemainder_19 : decode cX0_unsignedRemainder 19 = .ok (.isub, 1) := by decide +kernel
theorem dX0_unsignedRemainder_20 : decode cX0_unsignedRemainder 20 = .ok (.invokevirtual 47, 3) := by decide +kernel
theorem dX0_unsignedRemainder_23 : decode cX0_unsignedRemainder 23 = .ok (.ireturn, 1) := by decide +kernel
theorem dX0_unsignedRemainder_24 : decode cX0_unsignedRemainder 24 = .ok (.aload_n 0, 1) := by decide +kernel
theorem dX0_unsignedRemainder_25 : decode cX0_unsignedRemainder 25 = .ok (.getfield 12, 3) := by decide +kernel
theorem dX0_unsignedRemainder_28 : decode cX0_unsignedRemainder 28 = .ok (.iconst 4, 1) := by decide +kernel
theorem dX0_unsignedRemainder_29 : decode cX0_unsignedRemainder 29 = .ok (.aload_n 0, 1) := by decide +kernel
theorem dX0_unsignedRemainder_30 : decode cX0_unsignedRemainder 30 = .ok (.getfield 26, 3) := by decide +kernel
theorem dX0_unsignedRemainder_33 : decode cX0_unsignedRemainder 33 = .ok (.aload_n 0, 1) := by decide +kernel
theorem dX0_unsignedRemainder_34 : decode cX0_unsignedRemainder 34 = .ok (.aload_n 0, 1) := by decide +kernel
theorem dX0_unsignedRemainder_35 : decode cX0_unsignedRemainder 35 = .ok (.aload_n 0, 1) := by decide +kernel
theorem dX0_unsignedRemainder_36 : decode cX0_unsignedRemainder 36 = .ok (.getfield 26, 3) := by decide +kernel
theorem dX0_unsignedRemainder_39 : decode cX0_unsignedRemainder 39 = .ok (.iload_n 1, 1) := by decide +kernel
theorem dX0_unsignedRemainder_40 : decode cX0_unsignedRemainder 40 = .ok (.invokevirtual 30, 3) := by decide +kernel
theorem dX0_unsignedRemainder_43 : decode cX0_unsignedRemainder 43 = .ok (.iload_n 1, 1) := by decide +kernel
theorem dX0_unsignedRemainder_44 : decode cX0_unsignedRemainder 44 = .ok (.invokevirtual 44, 3) := by decide +kernel
theorem dX0_unsignedRemainder_47 : decode cX0_unsignedRemainder 47 = .ok (.invokevirtual 47, 3) := by decide +kernel
theorem dX0_unsignedRemainder_50 : decode cX0_unsignedRemainder 50 = .ok (.ireturn, 1) := by decide +kernel
theorem dX0_signedQuotient_0 : decode cX0_signedQuotient 0 = .ok (.aload_n 0, 1) := by decide +kernel
theorem dX0_signedQuotient_1 : decode cX0_signedQuotient 1 = .ok (.iload_n 1, 1) := by decide +kernel
theorem dX0_signedQuotient_2 : decode cX0_signedQuotient 2 = .ok (.invokestatic 98, 3) := by decide +kernel
theorem dX0_signedQuotient_5 : decode cX0_signedQuotient 5 = .ok (.invokevirtual 103, 3) := by decide +kernel
theorem dX0_signedQuotient_8 : decode cX0_signedQuotient 8 = .ok (.istore_n 2, 1) := by decide +kernel
theorem dX0_signedQuotient_9 : decode cX0_signedQuotient 9 = .ok (.iload_n 1, 1) := by decide +kernel
theorem dX0_signedQuotient_10 : decode cX0_signedQuotient 10 = .ok (.ifCond .le 7, 3) := by decide +kernel
theorem dX0_signedQuotient_13 : decode cX0_signedQuotient 13 = .ok (.iload_n 2, 1) := by decide +kernel
theorem dX0_signedQuotient_14 : decode cX0_signedQuotient 14 = .ok (.goto 13, 3) := by decide +kernel
theorem dX0_signedQuotient_17 : decode cX0_signedQuotient 17 = .ok (.aload_n 0, 1) := by decide +kernel
theorem dX0_signedQuotient_18 : decode cX0_signedQuotient 18 = .ok (.getfield 12, 3) := by decide +kernel
theorem dX0_signedQuotient_21 : decode cX0_signedQuotient 21 = .ok (.iconst 4, 1) := by decide +kernel
theorem dX0_signedQuotient_22 : decode cX0_signedQuotient 22 = .ok (.iconst 0, 1) := by decide +kernel
theorem dX0_signedQuotient_23 : decode cX0_signedQuotient 23 = .ok (.iload_n 2, 1) := by decide +kernel
theorem dX0_signedQuotient_24 : decode cX0_signedQuotient 24 = .ok (.invokevirtual 47, 3) := by decide +kernel
theorem dX0_signedQuotient_27 : decode cX0_signedQuotient 27 = .ok (.ireturn, 1) := by decide +kernel
theorem dX0_quotientTowardZero_0 : decode cX0_quotientTowardZero 0 = .ok (.aload_n 0, 1) := by decide +kernel
theorem dX0_quotientTowardZero_1 : decode cX0_quotientTowardZero 1 = .ok (.getfield 12, 3) := by decide +kernel
theorem dX0_quotientTowardZero_4 : decode cX0_quotientTowardZero 4 = .ok (.getfield 60, 3) := by decide +kernel
theorem dX0_quotientTowardZero_7 : decode cX0_quotientTowardZero 7 = .ok (.istore_n 2, 1) := by decide +kernel
theorem dX0_quotientTowardZero_8 : decode cX0_quotientTowardZero 8 = .ok (.iload_n 1, 1) := by decide +kernel
theorem dX0_quotientTowardZero_9 : decode cX0_quotientTowardZero 9 = .ok (.iconst 1, 1) := by decide +kernel
theorem dX0_quotientTowardZero_10 : decode cX0_quotientTowardZero 10 = .ok (.if_icmp .ne 8, 3) := by decide +kernel
theorem dX0_quotientTowardZero_13 : decode cX0_quotientTowardZero 13 = .ok (.aload_n 0, 1) := by decide +kernel
theorem dX0_quotientTowardZero_14 : decode cX0_quotientTowardZero 14 = .ok (.getfield 26, 3) := by decide +kernel
theorem dX0_quotientTowardZero_17 : decode cX0_quotientTowardZero 17 = .ok (.ireturn, 1) := by decide +kernel
theorem dX0_quotientTowardZero_18 : decode cX0_quotientTowardZero 18 = .ok (.iload_n 1, 1) := by decide +kernel
theorem dX0_quotientTowardZero_19 : decode cX0_quotientTowardZero 19 = .ok (.invokestatic 85, 3) := by decide +kernel
theorem dX0_quotientTowardZero_22 : decode cX0_quotientTowardZero 22 = .ok (.ifCond .eq 51, 3) := by decide +kernel
theorem dX0_quotientTowardZero_25 : decode cX0_quotientTowardZero 25 = .ok (.iload_n 1, 1) := by decide +kernel
theorem dX0_quotientTowardZero_26 : decode cX0_quotientTowardZero 26 = .ok (.invokestatic 69, 3) := by decide +kernel
theorem dX0_quotientTowardZero_29 : decode cX0_quotientTowardZero 29 = .ok (.istore_n 3, 1) := by decide +kernel
theorem dX0_quotientTowardZero_30 : decode cX0_quotientTowardZero 30 = .ok (.aload_n 0, 1) := by decide +kernel
theorem dX0_quotientTowardZero_31 : decode cX0_quotientTowardZero 31 = .ok (.iconst 1, 1) := by decide +kernel
theorem dX0_quotientTowardZero_32 : decode cX0_quotientTowardZero 32 = .ok (.aload_n 0, 1) := by decide +kernel
theorem dX0_quotientTowardZero_33 : decode cX0_quotientTowardZero 33 = .ok (.iconst 2, 1) := by decide +kernel
theorem dX0_quotientTowardZero_34 : decode cX0_quotientTowardZero 34 = .ok (.aload_n 0, 1) := by decide +kernel
theorem dX0_quotientTowardZero_35 : decode cX0_quotientTowardZero 35 = .ok (.getfield 26, 3) := by decide +kernel
theorem dX0_quotientTowardZero_38 : decode cX0_quotientTowardZero 38 = .ok (.iload_n 3, 1) := by decide +kernel
theorem dX0_quotientTowardZero_39 : decode cX0_quotientTowardZero 39 = .ok (.iconst 1, 1) := by decide +kernel
theorem dX0_quotientTowardZero_40 : decode cX0_quotientTowardZero 40 = .ok (.isub, 1) := by decide +kernel
theorem dX0_quotientTowardZero_41 : decode cX0_quotientTowardZero 41 = .ok (.invokevirtual 82, 3) := by decide +kernel
theorem dX0_quotientTowardZero_44 : decode cX0_quotientTowardZero 44 = .ok (.iload_n 2, 1) := by decide +kernel
theorem dX0_quotientTowardZero_45 : decode cX0_quotientTowardZero 45 = .ok (.iload_n 3, 1) := by decide +kernel
theorem dX0_quotientTowardZero_46 : decode cX0_quotientTowardZero 46 = .ok (.isub, 1) := by decide +kernel
theorem dX0_quotientTowardZero_47 : decode cX0_quotientTowardZero 47 = .ok (.invokevirtual 82, 3) := by decide +kernel
theorem dX0_quotientTowardZero_50 : decode cX0_quotientTowardZero 50 = .ok (.istore 4, 2) := by decide +kernel
theorem dX0_quotientTowardZero_52 : decode cX0_quotientTowardZero 52 = .ok (.aload_n 0, 1) := by decide +kernel
theorem dX0_quotientTowardZero_53 : decode cX0_quotientTowardZero 53 = .ok (.iconst 2, 1) := by decide +kernel
theorem dX0_quotientTowardZero_54 : decode cX0_quotientTowardZero 54 = .ok (.aload_n 0, 1) := by decide +kernel
theorem dX0_quotientTowardZero_55 : decode cX0_quotientTowardZero 55 = .ok (.getfield 12, 3) := by decide +kernel
theorem dX0_quotientTowardZero_58 : decode cX0_quotientTowardZero 58 = .ok (.iconst 3, 1) := by decide +kernel
theorem dX0_quotientTowardZero_59 : decode cX0_quotientTowardZero 59 = .ok (.aload_n 0, 1) := by decide +kernel
theorem dX0_quotientTowardZero_60 : decode cX0_quotientTowardZero 60 = .ok (.getfield 26, 3) := by decide +kernel
theorem dX0_quotientTowardZero_63 : decode cX0_quotientTowardZero 63 = .ok (.iload 4, 2) := by decide +kernel
theorem dX0_quotientTowardZero_65 : decode cX0_quotientTowardZero 65 = .ok (.invokevirtual 47, 3) := by decide +kernel
theorem dX0_quotientTowardZero_68 : decode cX0_quotientTowardZero 68 = .ok (.iload_n 3, 1) := by decide +kernel
theorem dX0_quotientTowardZero_69 : decode cX0_quotientTowardZero 69 = .ok (.invokevirtual 82, 3) := by decide +kernel
theorem dX0_quotientTowardZero_72 : decode cX0_quotientTowardZero 72 = .ok (.ireturn, 1) := by decide +kernel
theorem dX0_quotientTowardZero_73 : decode cX0_quotientTowardZero 73 = .ok (.iload_n 2, 1) := by decide +kernel
theorem dX0_quotientTowardZero_74 : decode cX0_quotientTowardZero 74 = .ok (.iload_n 1, 1) := by decide +kernel
theorem dX0_quotientTowardZero_75 : decode cX0_quotientTowardZero 75 = .ok (.iconst 1, 1) := by decide +kernel
theorem dX0_quotientTowardZero_76 : decode cX0_quotientTowardZero 76 = .ok (.invokestatic 89, 3) := by decide +kernel
theorem dX0_quotientTowardZero_79 : decode cX0_quotientTowardZero 79 = .ok (.istore_n 3, 1) := by decide +kernel
theorem dX0_quotientTowardZero_80 : decode cX0_quotientTowardZero 80 = .ok (.iload_n 2, 1) := by decide +kernel
theorem dX0_quotientTowardZero_81 : decode cX0_quotientTowardZero 81 = .ok (.iload_n 1, 1) := by decide +kernel
theorem dX0_quotientTowardZero_82 : decode cX0_quotientTowardZero 82 = .ok (.iload_n 3, 1) := by decide +kernel
theorem dX0_quotientTowardZero_83 : decode cX0_quotientTowardZero 83 = .ok (.invokestatic 92, 3) := by decide +kernel
theorem dX0_quotientTowardZero_86 : decode cX0_quotientTowardZero 86 = .ok (.istore 4, 2) := by decide +kernel
theorem dX0_quotientTowardZero_88 : decode cX0_quotientTowardZero 88 = .ok (.aload_n 0, 1) := by decide +kernel
theorem dX0_quotientTowardZero_89 : decode cX0_quotientTowardZero 89 = .ok (.getfield 12, 3) := by decide +kernel
theorem dX0_quotientTowardZero_92 : decode cX0_quotientTowardZero 92 = .ok (.bipush 7, 2) := by decide +kernel
theorem dX0_quotientTowardZero_94 : decode cX0_quotientTowardZero 94 = .ok (.aload_n 0, 1) := by decide +kernel
theorem dX0_quotientTowardZero_95 : decode cX0_quotientTowardZero 95 = .ok (.getfield 26, 3) := by decide +kernel
theorem dX0_quotientTowardZero_98 : decode cX0_quotientTowardZero 98 = .ok (.iload 4, 2) := by decide +kernel
theorem dX0_quotientTowardZero_100 : decode cX0_quotientTowardZero 100 = .ok (.invokevirtual 47, 3) := by decide +kernel
theorem dX0_quotientTowardZero_103 : decode cX0_quotientTowardZero 103 = .ok (.istore 5, 2) := by decide +kernel
theorem dX0_quotientTowardZero_105 : decode cX0_quotientTowardZero 105 = .ok (.iload 4, 2) := by decide +kernel
theorem dX0_quotientTowardZero_107 : decode cX0_quotientTowardZero 107 = .ok (.iconst 1, 1) := by decide +kernel
theorem dX0_quotientTowardZero_108 : decode cX0_quotientTowardZero 108 = .ok (.iload_n 2, 1) := by decide +kernel
theorem dX0_quotientTowardZero_109 : decode cX0_quotientTowardZero 109 = .ok (.iconst 1, 1) := by decide +kernel
theorem dX0_quotientTowardZero_110 : decode cX0_quotientTowardZero 110 = .ok (.isub, 1) := by decide +kernel
theorem dX0_quotientTowardZero_111 : decode cX0_quotientTowardZero 111 = .ok (.ishl, 1) := by decide +kernel
theorem dX0_quotientTowardZero_112 : decode cX0_quotientTowardZero 112 = .ok (.if_icmp .lt 19, 3) := by decide +kernel
theorem dX0_quotientTowardZero_115 : decode cX0_quotientTowardZero 115 = .ok (.aload_n 0, 1) := by decide +kernel
theorem dX0_quotientTowardZero_116 : decode cX0_quotientTowardZero 116 = .ok (.getfield 12, 3) := by decide +kernel
theorem dX0_quotientTowardZero_119 : decode cX0_quotientTowardZero 119 = .ok (.iconst 3, 1) := by decide +kernel
theorem dX0_quotientTowardZero_120 : decode cX0_quotientTowardZero 120 = .ok (.iload 5, 2) := by decide +kernel
theorem dX0_quotientTowardZero_122 : decode cX0_quotientTowardZero 122 = .ok (.aload_n 0, 1) := by decide +kernel
theorem dX0_quotientTowardZero_123 : decode cX0_quotientTowardZero 123 = .ok (.getfield 26, 3) := by decide +kernel
theorem dX0_quotientTowardZero_126 : decode cX0_quotientTowardZero 126 = .ok (.invokevirtual 47, 3) := by decide +kernel
theorem dX0_quotientTowardZero_129 : decode cX0_quotientTowardZero 129 = .ok (.istore 5, 2) := by decide +kernel
theorem dX0_quotientTowardZero_131 : decode cX0_quotientTowardZero 131 = .ok (.aload_n 0, 1) := by decide +kernel
theorem dX0_quotientTowardZero_132 : decode cX0_quotientTowardZero 132 = .ok (.iconst 2, 1) := by decide +kernel
theorem dX0_quotientTowardZero_133 : decode cX0_quotientTowardZero 133 = .ok (.iload 5, 2) := by decide +kernel
theorem dX0_quotientTowardZero_135 : decode cX0_quotientTowardZero 135 = .ok (.iload_n 3, 1) := by decide +kernel
theorem dX0_quotientTowardZero_136 : decode cX0_quotientTowardZero 136 = .ok (.invokevirtual 82, 3) := by decide +kernel
theorem dX0_quotientTowardZero_139 : decode cX0_quotientTowardZero 139 = .ok (.istore 5, 2) := by decide +kernel
theorem dX0_quotientTowardZero_141 : decode cX0_quotientTowardZero 141 = .ok (.aload_n 0, 1) := by decide +kernel
theorem dX0_quotientTowardZero_142 : decode cX0_quotientTowardZero 142 = .ok (.getfield 12, 3) := by decide +kernel
theorem dX0_quotientTowardZero_145 : decode cX0_quotientTowardZero 145 = .ok (.iconst 3, 1) := by decide +kernel
theorem dX0_quotientTowardZero_146 : decode cX0_quotientTowardZero 146 = .ok (.iload 5, 2) := by decide +kernel
theorem dX0_quotientTowardZero_148 : decode cX0_quotientTowardZero 148 = .ok (.aload_n 0, 1) := by decide +kernel
theorem dX0_quotientTowardZero_149 : decode cX0_quotientTowardZero 149 = .ok (.getfield 12, 3) := by decide +kernel
theorem dX0_quotientTowardZero_152 : decode cX0_quotientTowardZero 152 = .ok (.iconst 1, 1) := by decide +kernel
theorem dX0_quotientTowardZero_153 : decode cX0_quotientTowardZero 153 = .ok (.aload_n 0, 1) := by decide +kernel
theorem dX0_quotientTowardZero_154 : decode cX0_quotientTowardZero 154 = .ok (.getfield 26, 3) := by decide +kernel
theorem dX0_quotientTowardZero_157 : decode cX0_quotientTowardZero 157 = .ok (.iload_n 2, 1) := by decide +kernel
theorem dX0_quotientTowardZero_158 : decode cX0_quotientTowardZero 158 = .ok (.iconst 1, 1) := by decide +kernel
theorem dX0_quotientTowardZero_159 : decode cX0_quotientTowardZero 159 = .ok (.isub, 1) := by decide +kernel
theorem dX0_quotientTowardZero_160 : decode cX0_quotientTowardZero 160 = .ok (.invokevirtual 47, 3) := by decide +kernel
theorem dX0_quotientTowardZero_163 : decode cX0_quotientTowardZero 163 = .ok (.invokevirtual 47, 3) := by decide +kernel
theorem dX0_quotientTowardZero_166 : decode cX0_quotientTowardZero 166 = .ok (.ireturn, 1) := by decide +kernel
theorem dX0_floorQuotient_0 : decode cX0_floorQuotient 0 = .ok (.iload_n 1, 1) := by decide +kernel
theorem dX0_floorQuotient_1 : decode cX0_floorQuotient 1 = .ok (.invokestatic 85, 3) := by decide +kernel
theorem dX0_floorQuotient_4 : decode cX0_floorQuotient 4 = .ok (.ifCond .eq 17, 3) := by decide +kernel
theorem dX0_floorQuotient_7 : decode cX0_floorQuotient 7 = .ok (.aload_n 0, 1) := by decide +kernel
theorem dX0_floorQuotient_8 : decode cX0_floorQuotient 8 = .ok (.iconst 2, 1) := by decide +kernel
theorem dX0_floorQuotient_9 : decode cX0_floorQuotient 9 = .ok (.aload_n 0, 1) := by decide +kernel
theorem dX0_floorQuotient_10 : decode cX0_floorQuotient 10 = .ok (.getfield 26, 3) := by decide +kernel
theorem dX0_floorQuotient_13 : decode cX0_floorQuotient 13 = .ok (.iload_n 1, 1) := by decide +kernel
theorem dX0_floorQuotient_14 : decode cX0_floorQuotient 14 = .ok (.invokestatic 69, 3) := by decide +kernel
theorem dX0_floorQuotient_17 : decode cX0_floorQuotient 17 = .ok (.invokevirtual 82, 3) := by decide +kernel
theorem dX0_floorQuotient_20 : decode cX0_floorQuotient 20 = .ok (.ireturn, 1) := by decide +kernel
theorem dX0_floorQuotient_21 : decode cX0_floorQuotient 21 = .ok (.aload_n 0, 1) := by decide +kernel
theorem dX0_floorQuotient_22 : decode cX0_floorQuotient 22 = .ok (.getfield 12, 3) := by decide +kernel
theorem dX0_floorQuotient_25 : decode cX0_floorQuotient 25 = .ok (.iconst 2, 1) := by decide +kernel
theorem dX0_floorQuotient_26 : decode cX0_floorQuotient 26 = .ok (.aload_n 0, 1) := by decide +kernel
theorem dX0_floorQuotient_27 : decode cX0_floorQuotient 27 = .ok (.getfield 26, 3) := by decide +kernel
theorem dX0_floorQuotient_30 : decode cX0_floorQuotient 30 = .ok (.aload_n 0, 1) := by decide +kernel
theorem dX0_floorQuotient_31 : decode cX0_floorQuotient 31 = .ok (.getfield 12, 3) := by decide +kernel
theorem dX0_floorQuotient_34 : decode cX0_floorQuotient 34 = .ok (.getfield 60, 3) := by decide +kernel
theorem dX0_floorQuotient_37 : decode cX0_floorQuotient 37 = .ok (.iconst 1, 1) := by decide +kernel
theorem dX0_floorQuotient_38 : decode cX0_floorQuotient 38 = .ok (.isub, 1) := by decide +kernel
theorem dX0_floorQuotient_39 : decode cX0_floorQuotient 39 = .ok (.invokevirtual 47, 3) := by decide +kernel
theorem dX0_floorQuotient_42 : decode cX0_floorQuotient 42 = .ok (.istore_n 2, 1) := by decide +kernel
theorem dX0_floorQuotient_43 : decode cX0_floorQuotient 43 = .ok (.aload_n 0, 1) := by decide +kernel
theorem dX0_floorQuotient_44 : decode cX0_floorQuotient 44 = .ok (.getfield 12, 3) := by decide +kernel
theorem dX0_floorQuotient_47 : decode cX0_floorQuotient 47 = .ok (.bipush 9, 2) := by decide +kernel
theorem dX0_floorQuotient_49 : decode cX0_floorQuotient 49 = .ok (.aload_n 0, 1) := by decide +kernel
theorem dX0_floorQuotient_50 : decode cX0_floorQuotient 50 = .ok (.getfield 26, 3) := by decide +kernel
theorem dX0_floorQuotient_53 : decode cX0_floorQuotient 53 = .ok (.iload_n 2, 1) := by decide +kernel
theorem dX0_floorQuotient_54 : decode cX0_floorQuotient 54 = .ok (.invokevirtual 47, 3) := by decide +kernel
theorem dX0_floorQuotient_57 : decode cX0_floorQuotient 57 = .ok (.istore_n 3, 1) := by decide +kernel
theorem dX0_floorQuotient_58 : decode cX0_floorQuotient 58 = .ok (.aload_n 0, 1) := by decide +kernel
theorem dX0_floorQuotient_59 : decode cX0_floorQuotient 59 = .ok (.getfield 12, 3) := by decide +kernel
theorem dX0_floorQuotient_62 : decode cX0_floorQuotient 62 = .ok (.bipush 9, 2) := by decide +kernel
theorem dX0_floorQuotient_64 : decode cX0_floorQuotient 64 = .ok (.aload_n 0, 1) := by decide +kernel
theorem dX0_floorQuotient_65 : decode cX0_floorQuotient 65 = .ok (.iload_n 3, 1) := by decide +kernel
theorem dX0_floorQuotient_66 : decode cX0_floorQuotient 66 = .ok (.iload_n 1, 1) := by decide +kernel
theorem dX0_floorQuotient_67 : decode cX0_floorQuotient 67 = .ok (.invokevirtual 30, 3) := by decide +kernel
theorem dX0_floorQuotient_70 : decode cX0_floorQuotient 70 = .ok (.iload_n 2, 1) := by decide +kernel
theorem dX0_floorQuotient_71 : decode cX0_floorQuotient 71 = .ok (.invokevirtual 47, 3) := by decide +kernel
theorem dX0_floorQuotient_74 : decode cX0_floorQuotient 74 = .ok (.ireturn, 1) := by decide +kernel
theorem dX0_exactQuotient_0 : decode cX0_exactQuotient 0 = .ok (.iload_n 1, 1) := by decide +kernel
theorem dX0_exactQuotient_1 : decode cX0_exactQuotient 1 = .ok (.invokestatic 69, 3) := by decide +kernel
theorem dX0_exactQuotient_4 : decode cX0_exactQuotient 4 = .ok (.istore_n 2, 1) := by decide +kernel
theorem dX0_exactQuotient_5 : decode cX0_exactQuotient 5 = .ok (.aload_n 0, 1) := by decide +kernel
theorem dX0_exactQuotient_6 : decode cX0_exactQuotient 6 = .ok (.aload_n 0, 1) := by decide +kernel
theorem dX0_exactQuotient_7 : decode cX0_exactQuotient 7 = .ok (.iconst 1, 1) := by decide +kernel
theorem dX0_exactQuotient_8 : decode cX0_exactQuotient 8 = .ok (.aload_n 0, 1) := by decide +kernel
theorem dX0_exactQuotient_9 : decode cX0_exactQuotient 9 = .ok (.getfield 26, 3) := by decide +kernel
theorem dX0_exactQuotient_12 : decode cX0_exactQuotient 12 = .ok (.iload_n 2, 1) := by decide +kernel
theorem dX0_exactQuotient_13 : decode cX0_exactQuotient 13 = .ok (.invokevirtual 82, 3) := by decide +kernel
theorem dX0_exactQuotient_16 : decode cX0_exactQuotient 16 = .ok (.iload_n 1, 1) := by decide +kernel
theorem dX0_exactQuotient_17 : decode cX0_exactQuotient 17 = .ok (.iload_n 2, 1) := by decide +kernel
theorem dX0_exactQuotient_18 : decode cX0_exactQuotient 18 = .ok (.ishr, 1) := by decide +kernel
theorem dX0_exactQuotient_19 : decode cX0_exactQuotient 19 = .ok (.aload_n 0, 1) := by decide +kernel
theorem dX0_exactQuotient_20 : decode cX0_exactQuotient 20 = .ok (.getfield 12, 3) := by decide +kernel
theorem dX0_exactQuotient_23 : decode cX0_exactQuotient 23 = .ok (.getfield 60, 3) := by decide +kernel
theorem dX0_exactQuotient_26 : decode cX0_exactQuotient 26 = .ok (.invokestatic 106, 3) := by decide +kernel
theorem dX0_exactQuotient_29 : decode cX0_exactQuotient 29 = .ok (.invokevirtual 44, 3) := by decide +kernel
theorem dX0_exactQuotient_32 : decode cX0_exactQuotient 32 = .ok (.ireturn, 1) := by decide +kernel
theorem dX0_divisibility_0 : decode cX0_divisibility 0 = .ok (.iload_n 1, 1) := by decide +kernel
theorem dX0_divisibility_1 : decode cX0_divisibility 1 = .ok (.iconst 1, 1) := by decide +kernel
theorem dX0_divisibility_2 : decode cX0_divisibility 2 = .ok (.if_icmp .ge 8, 3) := by decide +kernel
theorem dX0_divisibility_5 : decode cX0_divisibility 5 = .ok (.aload_n 0, 1) := by decide +kernel
theorem dX0_divisibility_6 : decode cX0_divisibility 6 = .ok (.getfield 26, 3) := by decide +kernel
theorem dX0_divisibility_9 : decode cX0_divisibility 9 = .ok (.ireturn, 1) := by decide +kernel
theorem dX0_divisibility_10 : decode cX0_divisibility 10 = .ok (.iload_n 1, 1) := by decide +kernel
theorem dX0_divisibility_11 : decode cX0_divisibility 11 = .ok (.invokestatic 69, 3) := by decide +kernel
theorem dX0_divisibility_14 : decode cX0_divisibility 14 = .ok (.istore_n 2, 1) := by decide +kernel
theorem dX0_divisibility_15 : decode cX0_divisibility 15 = .ok (.aload_n 0, 1) := by decide +kernel
theorem dX0_divisibility_16 : decode cX0_divisibility 16 = .ok (.aload_n 0, 1) := by decide +kernel
theorem dX0_divisibility_17 : decode cX0_divisibility 17 = .ok (.getfield 26, 3) := by decide +kernel
theorem dX0_divisibility_20 : decode cX0_divisibility 20 = .ok (.iload_n 1, 1) := by decide +kernel
theorem dX0_divisibility_21 : decode cX0_divisibility 21 = .ok (.iload_n 2, 1) := by decide +kernel
theorem dX0_divisibility_22 : decode cX0_divisibility 22 = .ok (.ishr, 1) := by decide +kernel
theorem dX0_divisibility_23 : decode cX0_divisibility 23 = .ok (.aload_n 0, 1) := by decide +kernel
theorem dX0_divisibility_24 : decode cX0_divisibility 24 = .ok (.getfield 12, 3) := by decide +kernel
theorem dX0_divisibility_27 : decode cX0_divisibility 27 = .ok (.getfield 60, 3) := by decide +kernel
theorem dX0_divisibility_30 : decode cX0_divisibility 30 = .ok (.invokestatic 106, 3) := by decide +kernel
theorem dX0_divisibility_33 : decode cX0_divisibility 33 = .ok (.invokevirtual 44, 3) := by decide +kernel
theorem dX0_divisibility_36 : decode cX0_divisibility 36 = .ok (.istore_n 3, 1) := by decide +kernel
theorem dX0_divisibility_37 : decode cX0_divisibility 37 = .ok (.aload_n 0, 1) := by decide +kernel
theorem dX0_divisibility_38 : decode cX0_divisibility 38 = .ok (.getfield 12, 3) := by decide +kernel
theorem dX0_divisibility_41 : decode cX0_divisibility 41 = .ok (.bipush 11, 2) := by decide +kernel
theorem dX0_divisibility_43 : decode cX0_divisibility 43 = .ok (.aload_n 0, 1) := by decide +kernel
theorem dX0_divisibility_44 : decode cX0_divisibility 44 = .ok (.bipush 10, 2) := by decide +kernel
theorem dX0_divisibility_46 : decode cX0_divisibility 46 = .ok (.iload_n 3, 1) := by decide +kernel
theorem dX0_divisibility_47 : decode cX0_divisibility 47 = .ok (.iload_n 2, 1) := by decide +kernel
theorem dX0_divisibility_48 : decode cX0_divisibility 48 = .ok (.invokevirtual 82, 3) := by decide +kernel
theorem dX0_divisibility_51 : decode cX0_divisibility 51 = .ok (.aload_n 0, 1) := by decide +kernel
theorem dX0_divisibility_52 : decode cX0_divisibility 52 = .ok (.invokevirtual 40, 3) := by decide +kernel
theorem dX0_divisibility_55 : decode cX0_divisibility 55 = .ok (.iload_n 1, 1) := by decide +kernel
theorem dX0_divisibility_56 : decode cX0_divisibility 56 = .ok (.idiv, 1) := by decide +kernel
theorem dX0_divisibility_57 : decode cX0_divisibility 57 = .ok (.invokevirtual 47, 3) := by decide +kernel
theorem dX0_divisibility_60 : decode cX0_divisibility 60 = .ok (.ireturn, 1) := by decide +kernel
theorem dX1_init_0 : decode cX1_init 0 = .ok (.aload_n 0, 1) := by decide +kernel
theorem dX1_init_1 : decode cX1_init 1 = .ok (.invokespecial 3, 3) := by decide +kernel
theorem dX1_init_4 : decode cX1_init 4 = .ok (.aload_n 0, 1) := by decide +kernel
theorem dX1_init_5 : decode cX1_init 5 = .ok (.bipush 8, 2) := by decide +kernel
theorem dX1_init_7 : decode cX1_init 7 = .ok (.anewarray 9, 3) := by decide +kernel
theorem dX1_init_10 : decode cX1_init 10 = .ok (.putfield 11, 3) := by decide +kernel
theorem dX1_init_13 : decode cX1_init 13 = .ok (.iconst 0, 1) := by decide +kernel
theorem dX1_init_14 : decode cX1_init 14 = .ok (.istore_n 1, 1) := by decide +kernel
theorem dX1_init_15 : decode cX1_init 15 = .ok (.iload_n 1, 1) := by decide +kernel
theorem dX1_init_16 : decode cX1_init 16 = .ok (.bipush 8, 2) := by decide +kernel
theorem dX1_init_18 : decode cX1_init 18 = .ok (.if_icmp .ge 22, 3) := by decide +kernel
theorem dX1_init_21 : decode cX1_init 21 = .ok (.aload_n 0, 1) := by decide +kernel
theorem dX1_init_22 : decode cX1_init 22 = .ok (.getfield 11, 3) := by decide +kernel
theorem dX1_init_25 : decode cX1_init 25 = .ok (.iload_n 1, 1) := by decide +kernel
theorem dX1_init_26 : decode cX1_init 26 = .ok (.new 9, 3) := by decide +kernel
theorem dX1_init_29 : decode cX1_init 29 = .ok (.dup, 1) := by decide +kernel
theorem dX1_init_30 : decode cX1_init 30 = .ok (.invokespecial 17, 3) := by decide +kernel
theorem dX1_init_33 : decode cX1_init 33 = .ok (.aastore, 1) := by decide +kernel
theorem dX1_init_34 : decode cX1_init 34 = .ok (.iinc 1 1, 3) := by decide +kernel
theorem dX1_init_37 : decode cX1_init 37 = .ok (.goto (-22), 3) := by decide +kernel
theorem dX1_init_40 : decode cX1_init 40 = .ok (.return_, 1) := by decide +kernel
theorem dX1_remember_0 : decode cX1_remember 0 = .ok (.aload_n 0, 1) := by decide +kernel
theorem dX1_remember_1 : decode cX1_remember 1 = .ok (.getfield 11, 3) := by decide +kernel
theorem dX1_remember_4 : decode cX1_remember 4 = .ok (.aload_n 0, 1) := by decide +kernel
theorem dX1_remember_5 : decode cX1_remember 5 = .ok (.getfield 18, 3) := by decide +kernel
theorem dX1_remember_8 : decode cX1_remember 8 = .ok (.aaload, 1) := by decide +kernel
theorem dX1_remember_9 : decode cX1_remember 9 = .ok (.aload_n 1, 1) := by decide +kernel
theorem dX1_remember_10 : decode cX1_remember 10 = .ok (.invokevirtual 22, 3) := by decide +kernel
theorem dX1_remember_13 : decode cX1_remember 13 = .ok (.aload_n 0, 1) := by decide +kernel
theorem dX1_remember_14 : decode cX1_remember 14 = .ok (.aload_n 0, 1) := by decide +kernel
theorem dX1_remember_15 : decode cX1_remember 15 = .ok (.getfield 18, 3) := by decide +kernel
theorem dX1_remember_18 : decode cX1_remember 18 = .ok (.iconst 1, 1) := by decide +kernel
theorem dX1_remember_19 : decode cX1_remember 19 = .ok (.iadd, 1) := by decide +kernel
theorem dX1_remember_20 : decode cX1_remember 20 = .ok (.bipush 8, 2) := by decide +kernel
theorem dX1_remember_22 : decode cX1_remember 22 = .ok (.irem, 1) := by decide +kernel
theorem dX1_remember_23 : decode cX1_remember 23 = .ok (.putfield 18, 3) := by decide +kernel
theorem dX1_remember_26 : decode cX1_remember 26 = .ok (.aload_n 0, 1) := by decide +kernel
theorem dX1_remember_27 : decode cX1_remember 27 = .ok (.aload_n 0, 1) := by decide +kernel
theorem dX1_remember_28 : decode cX1_remember 28 = .ok (.getfield 26, 3) := by decide +kernel
theorem dX1_remember_31 : decode cX1_remember 31 = .ok (.iconst 1, 1) := by decide +kernel
theorem dX1_remember_32 : decode cX1_remember 32 = .ok (.iadd, 1) := by decide +kernel
theorem dX1_remember_33 : decode cX1_remember 33 = .ok (.bipush 8, 2) := by decide +kernel
theorem dX1_remember_35 : decode cX1_remember 35 = .ok (.invokestatic 29, 3) := by decide +kernel
theorem dX1_remember_38 : decode cX1_remember 38 = .ok (.putfield 26, 3) := by decide +kernel
theorem dX1_remember_41 : decode cX1_remember 41 = .ok (.return_, 1) := by decide +kernel
theorem dX1_restore_0 : decode cX1_restore 0 = .ok (.aload_n 0, 1) := by decide +kernel
theorem dX1_restore_1 : decode cX1_restore 1 = .ok (.aload_n 0, 1) := by decide +kernel
theorem dX1_restore_2 : decode cX1_restore 2 = .ok (.getfield 18, 3) := by decide +kernel
theorem dX1_restore_5 : decode cX1_restore 5 = .ok (.bipush 8, 2) := by decide +kernel
theorem dX1_restore_7 : decode cX1_restore 7 = .ok (.iadd, 1) := by decide +kernel
theorem dX1_restore_8 : decode cX1_restore 8 = .ok (.iconst 1, 1) := by decide +kernel
theorem dX1_restore_9 : decode cX1_restore 9 = .ok (.isub, 1) := by decide +kernel
theorem dX1_restore_10 : decode cX1_restore 10 = .ok (.bipush 8, 2) := by decide +kernel
theorem dX1_restore_12 : decode cX1_restore 12 = .ok (.irem, 1) := by decide +kernel
theorem dX1_restore_13 : decode cX1_restore 13 = .ok (.putfield 18, 3) := by decide +kernel
theorem dX1_restore_16 : decode cX1_restore 16 = .ok (.aload_n 0, 1) := by decide +kernel
theorem dX1_restore_17 : decode cX1_restore 17 = .ok (.dup, 1) := by decide +kernel
theorem dX1_restore_18 : decode cX1_restore 18 = .ok (.getfield 26, 3) := by decide +kernel
theorem dX1_restore_21 : decode cX1_restore 21 = .ok (.iconst 1, 1) := by decide +kernel
theorem dX1_restore_22 : decode cX1_restore 22 = .ok (.isub, 1) := by decide +kernel
theorem dX1_restore_23 : decode cX1_restore 23 = .ok (.putfield 26, 3) := by decide +kernel
theorem dX1_restore_26 : decode cX1_restore 26 = .ok (.aload_n 1, 1) := by decide +kernel
theorem dX1_restore_27 : decode cX1_restore 27 = .ok (.aload_n 0, 1) := by decide +kernel
theorem dX1_restore_28 : decode cX1_restore 28 = .ok (.getfield 11, 3) := by decide +kernel
theorem dX1_restore_31 : decode cX1_restore 31 = .ok (.aload_n 0, 1) := by decide +kernel
theorem dX1_restore_32 : decode cX1_restore 32 = .ok (.getfield 18, 3) := by decide +kernel
theorem dX1_restore_35 : decode cX1_restore 35 = .ok (.aaload, 1) := by decide +kernel
theorem dX1_restore_36 : decode cX1_restore 36 = .ok (.invokevirtual 22, 3) := by decide +kernel
theorem dX1_restore_39 : decode cX1_restore 39 = .ok (.return_, 1) := by decide +kernel
theorem dX2_init_0 : decode cX2_init 0 = .ok (.aload_n 0, 1) := by decide +kernel
theorem dX2_init_1 : decode cX2_init 1 = .ok (.invokespecial 3, 3) := by decide +kernel
theorem dX2_init_4 : decode cX2_init 4 = .ok (.return_, 1) := by decide +kernel
theorem dX2_charAt_0 : decode cX2_charAt 0 = .ok (.aload_n 0, 1) := by decide +kernel
theorem dX2_charAt_1 : decode cX2_charAt 1 = .ok (.iload_n 2, 1) := by decide +kernel
theorem dX2_charAt_2 : decode cX2_charAt 2 = .ok (.putfield 9, 3) := by decide +kernel
theorem dX2_charAt_5 : decode cX2_charAt 5 = .ok (.aload_n 0, 1) := by decide +kernel
theorem dX2_charAt_6 : decode cX2_charAt 6 = .ok (.iconst (-1), 1) := by decide +kernel
theorem dX2_charAt_7 : decode cX2_charAt 7 = .ok (.putfield 15, 3) := by decide +kernel
theorem dX2_charAt_10 : decode cX2_charAt 10 = .ok (.iconst 0, 1) := by decide +kernel
theorem dX2_charAt_11 : decode cX2_charAt 11 = .ok (.istore_n 3, 1) := by decide +kernel
theorem dX2_charAt_12 : decode cX2_charAt 12 = .ok (.iload_n 3, 1) := by decide +kernel
theorem dX2_charAt_13 : decode cX2_charAt 13 = .ok (.aload_n 1, 1) := by decide +kernel
theorem dX2_charAt_14 : decode cX2_charAt 14 = .ok (.getfield 18, 3) := by decide +kernel
theorem dX2_charAt_17 : decode cX2_charAt 17 = .ok (.if_icmp .ge 23, 3) := by decide +kernel
theorem dX2_charAt_20 : decode cX2_charAt 20 = .ok (.aload_n 0, 1) := by decide +kernel
theorem dX2_charAt_21 : decode cX2_charAt 21 = .ok (.getfield 15, 3) := by decide +kernel
theorem dX2_charAt_24 : decode cX2_charAt 24 = .ok (.iconst (-1), 1) := by decide +kernel
theorem dX2_charAt_25 : decode cX2_charAt 25 = .ok (.if_icmp .ne 15, 3) := by decide +kernel
theorem dX2_charAt_28 : decode cX2_charAt 28 = .ok (.aload_n 0, 1) := by decide +kernel
theorem dX2_charAt_29 : decode cX2_charAt 29 = .ok (.aload_n 1, 1) := by decide +kernel
theorem dX2_charAt_30 : decode cX2_charAt 30 = .ok (.iload_n 3, 1) := by decide +kernel
theorem dX2_charAt_31 : decode cX2_charAt 31 = .ok (.invokevirtual 23, 3) := by decide +kernel
theorem dX2_charAt_34 : decode cX2_charAt 34 = .ok (.iinc 3 1, 3) := by decide +kernel
theorem dX2_charAt_37 : decode cX2_charAt 37 = .ok (.goto (-25), 3) := by decide +kernel
theorem dX2_charAt_40 : decode cX2_charAt 40 = .ok (.aload_n 0, 1) := by decide +kernel
theorem dX2_charAt_41 : decode cX2_charAt 41 = .ok (.ldc 27, 2) := by decide +kernel
theorem dX2_charAt_43 : decode cX2_charAt 43 = .ok (.invokevirtual 29, 3) := by decide +kernel
theorem dX2_charAt_46 : decode cX2_charAt 46 = .ok (.aload_n 0, 1) := by decide +kernel
theorem dX2_charAt_47 : decode cX2_charAt 47 = .ok (.aload_n 1, 1) := by decide +kernel
theorem dX2_charAt_48 : decode cX2_charAt 48 = .ok (.getfield 33, 3) := by decide +kernel
theorem dX2_charAt_51 : decode cX2_charAt 51 = .ok (.invokevirtual 36, 3) := by decide +kernel
theorem dX2_charAt_54 : decode cX2_charAt 54 = .ok (.aload_n 0, 1) := by decide +kernel
theorem dX2_charAt_55 : decode cX2_charAt 55 = .ok (.bipush 10, 2) := by decide +kernel
theorem dX2_charAt_57 : decode cX2_charAt 57 = .ok (.invokevirtual 40, 3) := by decide +kernel
theorem dX2_charAt_60 : decode cX2_charAt 60 = .ok (.aload_n 0, 1) := by decide +kernel
theorem dX2_charAt_61 : decode cX2_charAt 61 = .ok (.getfield 15, 3) := by decide +kernel
theorem dX2_charAt_64 : decode cX2_charAt 64 = .ok (.ireturn, 1) := by decide +kernel
theorem dX2_passInstruction_0 : decode cX2_passInstruction 0 = .ok (.aload_n 0, 1) := by decide +kernel
theorem dX2_passInstruction_1 : decode cX2_passInstruction 1 = .ok (.bipush 118, 2) := by decide +kernel
theorem dX2_passInstruction_3 : decode cX2_passInstruction 3 = .ok (.invokevirtual 40, 3) := by decide +kernel
theorem dX2_passInstruction_6 : decode cX2_passInstruction 6 = .ok (.aload_n 0, 1) := by decide +kernel
theorem dX2_passInstruction_7 : decode cX2_passInstruction 7 = .ok (.iload_n 2, 1) := by decide +kernel
theorem dX2_passInstruction_8 : decode cX2_passInstruction 8 = .ok (.iconst 1, 1) := by decide +kernel
theorem dX2_passInstruction_9 : decode cX2_passInstruction 9 = .ok (.iadd, 1) := by decide +kernel
theorem dX2_passInstruction_10 : decode cX2_passInstruction 10 = .ok (.invokevirtual 36, 3) := by decide +kernel
theorem dX2_passInstruction_13 : decode cX2_passInstruction 13 = .ok (.aload_n 0, 1) := by decide +kernel
theorem dX2_passInstruction_14 : decode cX2_passInstruction 14 = .ok (.ldc 44, 2) := by decide +kernel
theorem dX2_passInstruction_16 : decode cX2_passInstruction 16 = .ok (.invokevirtual 29, 3) := by decide +kernel
theorem dX2_passInstruction_19 : decode cX2_passInstruction 19 = .ok (.aload_n 0, 1) := by decide +kernel
theorem dX2_passInstruction_20 : decode cX2_passInstruction 20 = .ok (.aload_n 1, 1) := by decide +kernel
theorem dX2_passInstruction_21 : decode cX2_passInstruction 21 = .ok (.getfield 46, 3) := by decide +kernel
theorem dX2_passInstruction_24 : decode cX2_passInstruction 24 = .ok (.iload_n 2, 1) := by decide +kernel
theorem dX2_passInstruction_25 : decode cX2_passInstruction 25 = .ok (.iaload, 1) := by decide +kernel
theorem dX2_passInstruction_26 : decode cX2_passInstruction 26 = .ok (.invokestatic 50, 3) := by decide +kernel
theorem dX2_passInstruction_29 : decode cX2_passInstruction 29 = .ok (.invokevirtual 29, 3) := by decide +kernel
theorem dX2_passInstruction_32 : decode cX2_passInstruction 32 = .ok (.aload_n 0, 1) := by decide +kernel
theorem dX2_passInstruction_33 : decode cX2_passInstruction 33 = .ok (.bipush 32, 2) := by decide +kernel
theorem dX2_passInstruction_35 : decode cX2_passInstruction 35 = .ok (.invokevirtual 40, 3) := by decide +kernel
theorem dX2_passInstruction_38 : decode cX2_passInstruction 38 = .ok (.aload_n 0, 1) := by decide +kernel
theorem dX2_passInstruction_39 : decode cX2_passInstruction 39 = .ok (.aload_n 1, 1) := by decide +kernel
theorem dX2_passInstruction_40 : decode cX2_passInstruction 40 = .ok (.getfield 54, 3) := by decide +kernel
theorem dX2_passInstruction_43 : decode cX2_passInstruction 43 = .ok (.iload_n 2, 1) := by decide +kernel
theorem dX2_passInstruction_44 : decode cX2_passInstruction 44 = .ok (.iaload, 1) := by decide +kernel
theorem dX2_passInstruction_45 : decode cX2_passInstruction 45 = .ok (.invokevirtual 57, 3) := by decide +kernel
theorem dX2_passInstruction_48 : decode cX2_passInstruction 48 = .ok (.aload_n 0, 1) := by decide +kernel
theorem dX2_passInstruction_49 : decode cX2_passInstruction 49 = .ok (.ldc 60, 2) := by decide +kernel
theorem dX2_passInstruction_51 : decode cX2_passInstruction 51 = .ok (.invokevirtual 29, 3) := by decide +kernel
theorem dX2_passInstruction_54 : decode cX2_passInstruction 54 = .ok (.aload_n 0, 1) := by decide +kernel
theorem dX2_passInstruction_55 : decode cX2_passInstruction 55 = .ok (.aload_n 1, 1) := by decide +kernel
theorem dX2_passInstruction_56 : decode cX2_passInstruction 56 = .ok (.getfield 62, 3) := by decide +kernel
theorem dX2_passInstruction_59 : decode cX2_passInstruction 59 = .ok (.iload_n 2, 1) := by decide +kernel
theorem dX2_passInstruction_60 : decode cX2_passInstruction 60 = .ok (.iaload, 1) := by decide +kernel
theorem dX2_passInstruction_61 : decode cX2_passInstruction 61 = .ok (.invokevirtual 57, 3) := by decide +kernel
theorem dX2_passInstruction_64 : decode cX2_passInstruction 64 = .ok (.aload_n 0, 1) := by decide +kernel
theorem dX2_passInstruction_65 : decode cX2_passInstruction 65 = .ok (.bipush 10, 2) := by decide +kernel
theorem dX2_passInstruction_67 : decode cX2_passInstruction 67 = .ok (.invokevirtual 40, 3) := by decide +kernel
theorem dX2_passInstruction_70 : decode cX2_passInstruction 70 = .ok (.return_, 1) := by decide +kernel
theorem dX2_passOperand_0 : decode cX2_passOperand 0 = .ok (.iload_n 1, 1) := by decide +kernel
theorem dX2_passOperand_1 : decode cX2_passOperand 1 = .ok (.invokestatic 65, 3) := by decide +kernel
theorem dX2_passOperand_4 : decode cX2_passOperand 4 = .ok (.ifCond .eq 9, 3) := by decide +kernel
theorem dX2_passOperand_7 : decode cX2_passOperand 7 = .ok (.aload_n 0, 1) := by decide +kernel
theorem dX2_passOperand_8 : decode cX2_passOperand 8 = .ok (.bipush 118, 2) := by decide +kernel
theorem dX2_passOperand_10 : decode cX2_passOperand 10 = .ok (.invokevirtual 40, 3) := by decide +kernel
theorem dX2_passOperand_13 : decode cX2_passOperand 13 = .ok (.aload_n 0, 1) := by decide +kernel
theorem dX2_passOperand_14 : decode cX2_passOperand 14 = .ok (.iload_n 1, 1) := by decide +kernel
theorem dX2_passOperand_15 : decode cX2_passOperand 15 = .ok (.invokestatic 69, 3) := by decide +kernel
theorem dX2_passOperand_18 : decode cX2_passOperand 18 = .ok (.invokevirtual 36, 3) := by decide +kernel
theorem dX2_passOperand_21 : decode cX2_passOperand 21 = .ok (.return_, 1) := by decide +kernel
theorem dX2_passNumber_0 : decode cX2_passNumber 0 = .ok (.sipush 10000, 3) := by decide +kernel
theorem dX2_passNumber_3 : decode cX2_passNumber 3 = .ok (.istore_n 2, 1) := by decide +kernel
theorem dX2_passNumber_4 : decode cX2_passNumber 4 = .ok (.iload_n 2, 1) := by decide +kernel
theorem dX2_passNumber_5 : decode cX2_passNumber 5 = .ok (.iconst 1, 1) := by decide +kernel
theorem dX2_passNumber_6 : decode cX2_passNumber 6 = .ok (.if_icmp .lt 35, 3) := by decide +kernel
theorem dX2_passNumber_9 : decode cX2_passNumber 9 = .ok (.iload_n 1, 1) := by decide +kernel
theorem dX2_passNumber_10 : decode cX2_passNumber 10 = .ok (.iload_n 2, 1) := by decide +kernel
theorem dX2_passNumber_11 : decode cX2_passNumber 11 = .ok (.if_icmp .ge 8, 3) := by decide +kernel
theorem dX2_passNumber_14 : decode cX2_passNumber 14 = .ok (.iload_n 2, 1) := by decide +kernel
theorem dX2_passNumber_15 : decode cX2_passNumber 15 = .ok (.iconst 1, 1) := by decide +kernel
theorem dX2_passNumber_16 : decode cX2_passNumber 16 = .ok (.if_icmp .ne 17, 3) := by decide +kernel
theorem dX2_passNumber_19 : decode cX2_passNumber 19 = .ok (.aload_n 0, 1) := by decide +kernel
theorem dX2_passNumber_20 : decode cX2_passNumber 20 = .ok (.bipush 48, 2) := by decide +kernel
theorem dX2_passNumber_22 : decode cX2_passNumber 22 = .ok (.iload_n 1, 1) := by decide +kernel
theorem dX2_passNumber_23 : decode cX2_passNumber 23 = .ok (.iload_n 2, 1) := by decide +kernel
theorem dX2_passNumber_24 : decode cX2_passNumber 24 = .ok (.idiv, 1) := by decide +kernel
theorem dX2_passNumber_25 : decode cX2_passNumber 25 = .ok (.bipush 10, 2) := by decide +kernel
theorem dX2_passNumber_27 : decode cX2_passNumber 27 = .ok (.irem, 1) := by decide +kernel
theorem dX2_passNumber_28 : decode cX2_passNumber 28 = .ok (.iadd, 1) := by decide +kernel
theorem dX2_passNumber_29 : decode cX2_passNumber 29 = .ok (.i2c, 1) := by decide +kernel
theorem dX2_passNumber_30 : decode cX2_passNumber 30 = .ok (.invokevirtual 40, 3) := by decide +kernel
theorem dX2_passNumber_33 : decode cX2_passNumber 33 = .ok (.iload_n 2, 1) := by decide +kernel
theorem dX2_passNumber_34 : decode cX2_passNumber 34 = .ok (.bipush 10, 2) := by decide +kernel
theorem dX2_passNumber_36 : decode cX2_passNumber 36 = .ok (.idiv, 1) := by decide +kernel
theorem dX2_passNumber_37 : decode cX2_passNumber 37 = .ok (.istore_n 2, 1) := by decide +kernel
theorem dX2_passNumber_38 : decode cX2_passNumber 38 = .ok (.goto (-34), 3) := by decide +kernel
theorem dX2_passNumber_41 : decode cX2_passNumber 41 = .ok (.return_, 1) := by decide +kernel
theorem dX2_passText_0 : decode cX2_passText 0 = .ok (.iconst 0, 1) := by decide +kernel
theorem dX2_passText_1 : decode cX2_passText 1 = .ok (.istore_n 2, 1) := by decide +kernel
theorem dX2_passText_2 : decode cX2_passText 2 = .ok (.iload_n 2, 1) := by decide +kernel
theorem dX2_passText_3 : decode cX2_passText 3 = .ok (.aload_n 1, 1) := by decide +kernel
theorem dX2_passText_4 : decode cX2_passText 4 = .ok (.invokevirtual 73, 3) := by decide +kernel
theorem dX2_passText_7 : decode cX2_passText 7 = .ok (.if_icmp .ge 18, 3) := by decide +kernel
theorem dX2_passText_10 : decode cX2_passText 10 = .ok (.aload_n 0, 1) := by decide +kernel
theorem dX2_passText_11 : decode cX2_passText 11 = .ok (.aload_n 1, 1) := by decide +kernel
theorem dX2_passText_12 : decode cX2_passText 12 = .ok (.iload_n 2, 1) := by decide +kernel
theorem dX2_passText_13 : decode cX2_passText 13 = .ok (.invokevirtual 78, 3) := by decide +kernel
theorem dX2_passText_16 : decode cX2_passText 16 = .ok (.invokevirtual 40, 3) := by decide +kernel
theorem dX2_passText_19 : decode cX2_passText 19 = .ok (.iinc 2 1, 3) := by decide +kernel
theorem dX2_passText_22 : decode cX2_passText 22 = .ok (.goto (-20), 3) := by decide +kernel
theorem dX2_passText_25 : decode cX2_passText 25 = .ok (.return_, 1) := by decide +kernel
theorem dX2_pass_0 : decode cX2_pass 0 = .ok (.aload_n 0, 1) := by decide +kernel
theorem dX2_pass_1 : decode cX2_pass 1 = .ok (.getfield 9, 3) := by decide +kernel
theorem dX2_pass_4 : decode cX2_pass 4 = .ok (.ifCond .ne 8, 3) := by decide +kernel
theorem dX2_pass_7 : decode cX2_pass 7 = .ok (.aload_n 0, 1) := by decide +kernel
theorem dX2_pass_8 : decode cX2_pass 8 = .ok (.iload_n 1, 1) := by decide +kernel
theorem dX2_pass_9 : decode cX2_pass 9 = .ok (.putfield 15, 3) := by decide +kernel
theorem dX2_pass_12 : decode cX2_pass 12 = .ok (.aload_n 0, 1) := by decide +kernel
theorem dX2_pass_13 : decode cX2_pass 13 = .ok (.dup, 1) := by decide +kernel
theorem dX2_pass_14 : decode cX2_pass 14 = .ok (.getfield 9, 3) := by decide +kernel
theorem dX2_pass_17 : decode cX2_pass 17 = .ok (.iconst 1, 1) := by decide +kernel
theorem dX2_pass_18 : decode cX2_pass 18 = .ok (.isub, 1) := by decide +kernel
theorem dX2_pass_19 : decode cX2_pass 19 = .ok (.putfield 9, 3) := by decide +kernel
theorem dX2_pass_22 : decode cX2_pass 22 = .ok (.return_, 1) := by decide +kernel
theorem dX2_nameOf_0 : decode cX2_nameOf 0 = .ok (.iload_n 0, 1) := by decide +kernel
theorem dX2_nameOf_1 : decode cX2_nameOf 1 = .ok (.tableswitch 92 0 10 #[59, 62, 65, 68, 71, 74, 77, 80, 83, 86, 89], 59) := by decide +kernel
theorem dX2_nameOf_60 : decode cX2_nameOf 60 = .ok (.ldc 82, 2) := by decide +kernel
theorem dX2_nameOf_62 : decode cX2_nameOf 62 = .ok (.areturn, 1) := by decide +kernel
theorem dX2_nameOf_63 : decode cX2_nameOf 63 = .ok (.ldc 84, 2) := by decide +kernel
theorem dX2_nameOf_65 : decode cX2_nameOf 65 = .ok (.areturn, 1) := by decide +kernel
theorem dX2_nameOf_66 : decode cX2_nameOf 66 = .ok (.ldc 86, 2) := by decide +kernel
theorem dX2_nameOf_68 : decode cX2_nameOf 68 = .ok (.areturn, 1) := by decide +kernel
theorem dX2_nameOf_69 : decode cX2_nameOf 69 = .ok (.ldc 88, 2) := by decide +kernel
theorem dX2_nameOf_71 : decode cX2_nameOf 71 = .ok (.areturn, 1) := by decide +kernel
theorem dX2_nameOf_72 : decode cX2_nameOf 72 = .ok (.ldc 90, 2) := by decide +kernel
theorem dX2_nameOf_74 : decode cX2_nameOf 74 = .ok (.areturn, 1) := by decide +kernel
theorem dX2_nameOf_75 : decode cX2_nameOf 75 = .ok (.ldc 92, 2) := by decide +kernel
theorem dX2_nameOf_77 : decode cX2_nameOf 77 = .ok (.areturn, 1) := by decide +kernel
theorem dX2_nameOf_78 : decode cX2_nameOf 78 = .ok (.ldc 94, 2) := by decide +kernel
theorem dX2_nameOf_80 : decode cX2_nameOf 80 = .ok (.areturn, 1) := by decide +kernel
theorem dX2_nameOf_81 : decode cX2_nameOf 81 = .ok (.ldc 96, 2) := by decide +kernel
theorem dX2_nameOf_83 : decode cX2_nameOf 83 = .ok (.areturn, 1) := by decide +kernel
theorem dX2_nameOf_84 : decode cX2_nameOf 84 = .ok (.ldc 98, 2) := by decide +kernel
theorem dX2_nameOf_86 : decode cX2_nameOf 86 = .ok (.areturn, 1) := by decide +kernel
theorem dX2_nameOf_87 : decode cX2_nameOf 87 = .ok (.ldc 100, 2) := by decide +kernel
theorem dX2_nameOf_89 : decode cX2_nameOf 89 = .ok (.areturn, 1) := by decide +kernel
theorem dX2_nameOf_90 : decode cX2_nameOf 90 = .ok (.ldc 102, 2) := by decide +kernel
theorem dX2_nameOf_92 : decode cX2_nameOf 92 = .ok (.areturn, 1) := by decide +kernel
theorem dX2_nameOf_93 : decode cX2_nameOf 93 = .ok (.ldc 104, 2) := by decide +kernel
theorem dX2_nameOf_95 : decode cX2_nameOf 95 = .ok (.areturn, 1) := by decide +kernel
theorem dX3_init_0 : decode cX3_init 0 = .ok (.aload_n 0, 1) := by decide +kernel
theorem dX3_init_1 : decode cX3_init 1 = .ok (.invokespecial 3, 3) := by decide +kernel
theorem dX3_init_4 : decode cX3_init 4 = .ok (.aload_n 0, 1) := by decide +kernel
theorem dX3_init_5 : decode cX3_init 5 = .ok (.bipush 41, 2) := by decide +kernel
theorem dX3_init_7 : decode cX3_init 7 = .ok (.newarray .int, 2) := by decide +kernel
theorem dX3_init_9 : decode cX3_init 9 = .ok (.putfield 9, 3) := by decide +kernel
theorem dX3_init_12 : decode cX3_init 12 = .ok (.aload_n 0, 1) := by decide +kernel
theorem dX3_init_13 : decode cX3_init 13 = .ok (.bipush 41, 2) := by decide +kernel
theorem dX3_init_15 : decode cX3_init 15 = .ok (.newarray .int, 2) := by decide +kernel
theorem dX3_init_17 : decode cX3_init 17 = .ok (.putfield 15, 3) := by decide +kernel
theorem dX3_init_20 : decode cX3_init 20 = .ok (.return_, 1) := by decide +kernel
theorem dX3_shiftsBits_0 : decode cX3_shiftsBits 0 = .ok (.iload_n 0, 1) := by decide +kernel
theorem dX3_shiftsBits_1 : decode cX3_shiftsBits 1 = .ok (.ifCond .eq 19, 3) := by decide +kernel
theorem dX3_shiftsBits_4 : decode cX3_shiftsBits 4 = .ok (.iload_n 0, 1) := by decide +kernel
theorem dX3_shiftsBits_5 : decode cX3_shiftsBits 5 = .ok (.iconst 1, 1) := by decide +kernel
theorem dX3_shiftsBits_6 : decode cX3_shiftsBits 6 = .ok (.if_icmp .eq 14, 3) := by decide +kernel
theorem dX3_shiftsBits_9 : decode cX3_shiftsBits 9 = .ok (.iload_n 0, 1) := by decide +kernel
theorem dX3_shiftsBits_10 : decode cX3_shiftsBits 10 = .ok (.iconst 2, 1) := by decide +kernel
theorem dX3_shiftsBits_11 : decode cX3_shiftsBits 11 = .ok (.if_icmp .eq 9, 3) := by decide +kernel
theorem dX3_shiftsBits_14 : decode cX3_shiftsBits 14 = .ok (.iload_n 0, 1) := by decide +kernel
theorem dX3_shiftsBits_15 : decode cX3_shiftsBits 15 = .ok (.bipush 10, 2) := by decide +kernel
theorem dX3_shiftsBits_17 : decode cX3_shiftsBits 17 = .ok (.if_icmp .ne 7, 3) := by decide +kernel
theorem dX3_shiftsBits_20 : decode cX3_shiftsBits 20 = .ok (.iconst 1, 1) := by decide +kernel
theorem dX3_shiftsBits_21 : decode cX3_shiftsBits 21 = .ok (.goto 4, 3) := by decide +kernel
theorem dX3_shiftsBits_24 : decode cX3_shiftsBits 24 = .ok (.iconst 0, 1) := by decide +kernel
theorem dX3_shiftsBits_25 : decode cX3_shiftsBits 25 = .ok (.ireturn, 1) := by decide +kernel
theorem dX3_costClass_0 : decode cX3_costClass 0 = .ok (.iload_n 0, 1) := by decide +kernel
theorem dX3_costClass_1 : decode cX3_costClass 1 = .ok (.iconst 5, 1) := by decide +kernel
theorem dX3_costClass_2 : decode cX3_costClass 2 = .ok (.if_icmp .ne 5, 3) := by decide +kernel
theorem dX3_costClass_5 : decode cX3_costClass 5 = .ok (.iconst 0, 1) := by decide +kernel
theorem dX3_costClass_6 : decode cX3_costClass 6 = .ok (.ireturn, 1) := by decide +kernel
theorem dX3_costClass_7 : decode cX3_costClass 7 = .ok (.iload_n 0, 1) := by decide +kernel
theorem dX3_costClass_8 : decode cX3_costClass 8 = .ok (.bipush 6, 2) := by decide +kernel
theorem dX3_costClass_10 : decode cX3_costClass 10 = .ok (.if_icmp .eq 9, 3) := by decide +kernel
theorem dX3_costClass_13 : decode cX3_costClass 13 = .ok (.iload_n 0, 1) := by decide +kernel
theorem dX3_costClass_14 : decode cX3_costClass 14 = .ok (.bipush 7, 2) := by decide +kernel
theorem dX3_costClass_16 : decode cX3_costClass 16 = .ok (.if_icmp .ne 7, 3) := by decide +kernel
theorem dX3_costClass_19 : decode cX3_costClass 19 = .ok (.iconst 1, 1) := by decide +kernel
theorem dX3_costClass_20 : decode cX3_costClass 20 = .ok (.goto 4, 3) := by decide +kernel
theorem dX3_costClass_23 : decode cX3_costClass 23 = .ok (.iconst 2, 1) := by decide +kernel
theorem dX3_costClass_24 : decode cX3_costClass 24 = .ok (.ireturn, 1) := by decide +kernel
theorem dX3_compute_0 : decode cX3_compute 0 = .ok (.aload_n 0, 1) := by decide +kernel
theorem dX3_compute_1 : decode cX3_compute 1 = .ok (.getfield 9, 3) := by decide +kernel
theorem dX3_compute_4 : decode cX3_compute 4 = .ok (.iconst 0, 1) := by decide +kernel
theorem dX3_compute_5 : decode cX3_compute 5 = .ok (.iload_n 2, 1) := by decide +kernel
theorem dX3_compute_6 : decode cX3_compute 6 = .ok (.iastore, 1) := by decide +kernel
theorem dX3_compute_7 : decode cX3_compute 7 = .ok (.iconst 0, 1) := by decide +kernel
theorem dX3_compute_8 : decode cX3_compute 8 = .ok (.istore 4, 2) := by decide +kernel
theorem dX3_compute_10 : decode cX3_compute 10 = .ok (.iload 4, 2) := by decide +kernel
theorem dX3_compute_12 : decode cX3_compute 12 = .ok (.iload_n 3, 1) := by decide +kernel
theorem dX3_compute_13 : decode cX3_compute 13 = .ok (.if_icmp .ge 62, 3) := by decide +kernel
theorem dX3_compute_16 : decode cX3_compute 16 = .ok (.aload_n 0, 1) := by decide +kernel
theorem dX3_compute_17 : decode cX3_compute 17 = .ok (.aload_n 1, 1) := by decide +kernel
theorem dX3_compute_18 : decode cX3_compute 18 = .ok (.getfield 18, 3) := by decide +kernel
theorem dX3_compute_21 : decode cX3_compute 21 = .ok (.iload 4, 2) := by decide +kernel
theorem dX3_compute_23 : decode cX3_compute 23 = .ok (.iaload, 1) := by decide +kernel
theorem dX3_compute_24 : decode cX3_compute 24 = .ok (.invokevirtual 23, 3) := by decide +kernel
theorem dX3_compute_27 : decode cX3_compute 27 = .ok (.istore 5, 2) := by decide +kernel
theorem dX3_compute_29 : decode cX3_compute 29 = .ok (.aload_n 0, 1) := by decide +kernel
theorem dX3_compute_30 : decode cX3_compute 30 = .ok (.aload_n 1, 1) := by decide +kernel
theorem dX3_compute_31 : decode cX3_compute 31 = .ok (.getfield 27, 3) := by decide +kernel
theorem dX3_compute_34 : decode cX3_compute 34 = .ok (.iload 4, 2) := by decide +kernel
theorem dX3_compute_36 : decode cX3_compute 36 = .ok (.iaload, 1) := by decide +kernel
theorem dX3_compute_37 : decode cX3_compute 37 = .ok (.invokevirtual 23, 3) := by decide +kernel
theorem dX3_compute_40 : decode cX3_compute 40 = .ok (.istore 6, 2) := by decide +kernel
theorem dX3_compute_42 : decode cX3_compute 42 = .ok (.aload_n 0, 1) := by decide +kernel
theorem dX3_compute_43 : decode cX3_compute 43 = .ok (.getfield 9, 3) := by decide +kernel
theorem dX3_compute_46 : decode cX3_compute 46 = .ok (.iload 4, 2) := by decide +kernel
theorem dX3_compute_48 : decode cX3_compute 48 = .ok (.iconst 1, 1) := by decide +kernel
theorem dX3_compute_49 : decode cX3_compute 49 = .ok (.iadd, 1) := by decide +kernel
theorem dX3_compute_50 : decode cX3_compute 50 = .ok (.aload_n 1, 1) := by decide +kernel
theorem dX3_compute_51 : decode cX3_compute 51 = .ok (.getfield 30, 3) := by decide +kernel
theorem dX3_compute_54 : decode cX3_compute 54 = .ok (.iload 4, 2) := by decide +kernel
theorem dX3_compute_56 : decode cX3_compute 56 = .ok (.iaload, 1) := by decide +kernel
theorem dX3_compute_57 : decode cX3_compute 57 = .ok (.iload 5, 2) := by decide +kernel
theorem dX3_compute_59 : decode cX3_compute 59 = .ok (.iload 6, 2) := by decide +kernel
theorem dX3_compute_61 : decode cX3_compute 61 = .ok (.aload_n 1, 1) := by decide +kernel
theorem dX3_compute_62 : decode cX3_compute 62 = .ok (.getfield 33, 3) := by decide +kernel
theorem dX3_compute_65 : decode cX3_compute 65 = .ok (.invokestatic 37, 3) := by decide +kernel
theorem dX3_compute_68 : decode cX3_compute 68 = .ok (.iastore, 1) := by decide +kernel
theorem dX3_compute_69 : decode cX3_compute 69 = .ok (.iinc 4 1, 3) := by decide +kernel
theorem dX3_compute_72 : decode cX3_compute 72 = .ok (.goto (-62), 3) := by decide +kernel
theorem dX3_compute_75 : decode cX3_compute 75 = .ok (.aload_n 0, 1) := by decide +kernel
theorem dX3_compute_76 : decode cX3_compute 76 = .ok (.getfield 9, 3) := by decide +kernel
theorem dX3_compute_79 : decode cX3_compute 79 = .ok (.iload_n 3, 1) := by decide +kernel
theorem dX3_compute_80 : decode cX3_compute 80 = .ok (.iaload, 1) := by decide +kernel
theorem dX3_compute_81 : decode cX3_compute 81 = .ok (.ireturn, 1) := by decide +kernel
theorem dX3_inputOf_0 : decode cX3_inputOf 0 = .ok (.iload_n 1, 1) := by decide +kernel
theorem dX3_inputOf_1 : decode cX3_inputOf 1 = .ok (.invokestatic 41, 3) := by decide +kernel
theorem dX3_inputOf_4 : decode cX3_inputOf 4 = .ok (.ifCond .eq 15, 3) := by decide +kernel
theorem dX3_inputOf_7 : decode cX3_inputOf 7 = .ok (.aload_n 0, 1) := by decide +kernel
theorem dX3_inputOf_8 : decode cX3_inputOf 8 = .ok (.getfield 9, 3) := by decide +kernel
theorem dX3_inputOf_11 : decode cX3_inputOf 11 = .ok (.iload_n 1, 1) := by decide +kernel
theorem dX3_inputOf_12 : decode cX3_inputOf 12 = .ok (.invokestatic 45, 3) := by decide +kernel
theorem dX3_inputOf_15 : decode cX3_inputOf 15 = .ok (.iaload, 1) := by decide +kernel
theorem dX3_inputOf_16 : decode cX3_inputOf 16 = .ok (.goto 4, 3) := by decide +kernel
theorem dX3_inputOf_19 : decode cX3_inputOf 19 = .ok (.iload_n 1, 1) := by decide +kernel
theorem dX3_inputOf_20 : decode cX3_inputOf 20 = .ok (.ireturn, 1) := by decide +kernel
theorem dX3_apply_0 : decode cX3_apply 0 = .ok (.iconst 1, 1) := by decide +kernel
theorem dX3_apply_1 : decode cX3_apply 1 = .ok (.iload_n 3, 1) := by decide +kernel
theorem dX3_apply_2 : decode cX3_apply 2 = .ok (.ishl, 1) := by decide +kernel
theorem dX3_apply_3 : decode cX3_apply 3 = .ok (.iconst 1, 1) := by decide +kernel
theorem dX3_apply_4 : decode cX3_apply 4 = .ok (.isub, 1) := by decide +kernel
theorem dX3_apply_5 : decode cX3_apply 5 = .ok (.istore 4, 2) := by decide +kernel
theorem dX3_apply_7 : decode cX3_apply 7 = .ok (.iload_n 0, 1) := by decide +kernel
theorem dX3_apply_8 : decode cX3_apply 8 = .ok (.tableswitch 150 0 10 #[60, 67, 71, 82, 89, 96, 103, 112, 129, 133, 137], 60) := by decide +kernel
theorem dX3_apply_68 : decode cX3_apply 68 = .ok (.iload_n 1, 1) := by decide +kernel
theorem dX3_apply_69 : decode cX3_apply 69 = .ok (.iload_n 2, 1) := by decide +kernel
theorem dX3_apply_70 : decode cX3_apply 70 = .ok (.ishl, 1) := by decide +kernel
theorem dX3_apply_71 : decode cX3_apply 71 = .ok (.iload 4, 2) := by decide +kernel
theorem dX3_apply_73 : decode cX3_apply 73 = .ok (.iand, 1) := by decide +kernel
theorem dX3_apply_74 : decode cX3_apply 74 = .ok (.ireturn, 1) := by decide +kernel
theorem dX3_apply_75 : decode cX3_apply 75 = .ok (.iload_n 1, 1) := by decide +kernel
theorem dX3_apply_76 : decode cX3_apply 76 = .ok (.iload_n 2, 1) := by decide +kernel
theorem dX3_apply_77 : decode cX3_apply 77 = .ok (.ishr, 1) := by decide +kernel
theorem dX3_apply_78 : decode cX3_apply 78 = .ok (.ireturn, 1) := by decide +kernel
theorem dX3_apply_79 : decode cX3_apply 79 = .ok (.iload_n 1, 1) := by decide +kernel
theorem dX3_apply_80 : decode cX3_apply 80 = .ok (.iload_n 3, 1) := by decide +kernel
theorem dX3_apply_81 : decode cX3_apply 81 = .ok (.invokestatic 48, 3) := by decide +kernel
theorem dX3_apply_84 : decode cX3_apply 84 = .ok (.iload_n 2, 1) := by decide +kernel
theorem dX3_apply_85 : decode cX3_apply 85 = .ok (.ishr, 1) := by decide +kernel
theorem dX3_apply_86 : decode cX3_apply 86 = .ok (.iload 4, 2) := by decide +kernel
theorem dX3_apply_88 : decode cX3_apply 88 = .ok (.iand, 1) := by decide +kernel
theorem dX3_apply_89 : decode cX3_apply 89 = .ok (.ireturn, 1) := by decide +kernel
theorem dX3_apply_90 : decode cX3_apply 90 = .ok (.iload_n 1, 1) := by decide +kernel
theorem dX3_apply_91 : decode cX3_apply 91 = .ok (.iload_n 2, 1) := by decide +kernel
theorem dX3_apply_92 : decode cX3_apply 92 = .ok (.iadd, 1) := by decide +kernel
theorem dX3_apply_93 : decode cX3_apply 93 = .ok (.iload 4, 2) := by decide +kernel
theorem dX3_apply_95 : decode cX3_apply 95 = .ok (.iand, 1) := by decide +kernel
theorem dX3_apply_96 : decode cX3_apply 96 = .ok (.ireturn, 1) := by decide +kernel
theorem dX3_apply_97 : decode cX3_apply 97 = .ok (.iload_n 1, 1) := by decide +kernel
theorem dX3_apply_98 : decode cX3_apply 98 = .ok (.iload_n 2, 1) := by decide +kernel
theorem dX3_apply_99 : decode cX3_apply 99 = .ok (.isub, 1) := by decide +kernel
theorem dX3_apply_100 : decode cX3_apply 100 = .ok (.iload 4, 2) := by decide +kernel
theorem dX3_apply_102 : decode cX3_apply 102 = .ok (.iand, 1) := by decide +kernel
theorem dX3_apply_103 : decode cX3_apply 103 = .ok (.ireturn, 1) := by decide +kernel
theorem dX3_apply_104 : decode cX3_apply 104 = .ok (.iload_n 1, 1) := by decide +kernel
theorem dX3_apply_105 : decode cX3_apply 105 = .ok (.iload_n 2, 1) := by decide +kernel
theorem dX3_apply_106 : decode cX3_apply 106 = .ok (.imul, 1) := by decide +kernel
theorem dX3_apply_107 : decode cX3_apply 107 = .ok (.iload 4, 2) := by decide +kernel
theorem dX3_apply_109 : decode cX3_apply 109 = .ok (.iand, 1) := by decide +kernel
theorem dX3_apply_110 : decode cX3_apply 110 = .ok (.ireturn, 1) := by decide +kernel
theorem dX3_apply_111 : decode cX3_apply 111 = .ok (.iload_n 1, 1) := by decide +kernel
theorem dX3_apply_112 : decode cX3_apply 112 = .ok (.i2l, 1) := by decide +kernel
theorem dX3_apply_113 : decode cX3_apply 113 = .ok (.iload_n 2, 1) := by decide +kernel
theorem dX3_apply_114 : decode cX3_apply 114 = .ok (.i2l, 1) := by decide +kernel
theorem dX3_apply_115 : decode cX3_apply 115 = .ok (.lmul, 1) := by decide +kernel
theorem dX3_apply_116 : decode cX3_apply 116 = .ok (.iload_n 3, 1) := by decide +kernel
theorem dX3_apply_117 : decode cX3_apply 117 = .ok (.lshr, 1) := by decide +kernel
theorem dX3_apply_118 : decode cX3_apply 118 = .ok (.l2i, 1) := by decide +kernel
theorem dX3_apply_119 : decode cX3_apply 119 = .ok (.ireturn, 1) := by decide +kernel
theorem dX3_apply_120 : decode cX3_apply 120 = .ok (.iload_n 1, 1) := by decide +kernel
theorem dX3_apply_121 : decode cX3_apply 121 = .ok (.iload_n 3, 1) := by decide +kernel
theorem dX3_apply_122 : decode cX3_apply 122 = .ok (.invokestatic 48, 3) := by decide +kernel
theorem dX3_apply_125 : decode cX3_apply 125 = .ok (.iload_n 2, 1) := by decide +kernel
theorem dX3_apply_126 : decode cX3_apply 126 = .ok (.iload_n 3, 1) := by decide +kernel
theorem dX3_apply_127 : decode cX3_apply 127 = .ok (.invokestatic 48, 3) := by decide +kernel
theorem dX3_apply_130 : decode cX3_apply 130 = .ok (.imul, 1) := by decide +kernel
theorem dX3_apply_131 : decode cX3_apply 131 = .ok (.iload_n 3, 1) := by decide +kernel
theorem dX3_apply_132 : decode cX3_apply 132 = .ok (.ishr, 1) := by decide +kernel
theorem dX3_apply_133 : decode cX3_apply 133 = .ok (.iload 4, 2) := by decide +kernel
theorem dX3_apply_135 : decode cX3_apply 135 = .ok (.iand, 1) := by decide +kernel
theorem dX3_apply_136 : decode cX3_apply 136 = .ok (.ireturn, 1) := by decide +kernel
theorem dX3_apply_137 : decode cX3_apply 137 = .ok (.iload_n 1, 1) := by decide +kernel
theorem dX3_apply_138 : decode cX3_apply 138 = .ok (.iload_n 2, 1) := by decide +kernel
theorem dX3_apply_139 : decode cX3_apply 139 = .ok (.iand, 1) := by decide +kernel
theorem dX3_apply_140 : decode cX3_apply 140 = .ok (.ireturn, 1) := by decide +kernel
theorem dX3_apply_141 : decode cX3_apply 141 = .ok (.iload_n 1, 1) := by decide +kernel
theorem dX3_apply_142 : decode cX3_apply 142 = .ok (.iload_n 2, 1) := by decide +kernel
theorem dX3_apply_143 : decode cX3_apply 143 = .ok (.ixor, 1) := by decide +kernel
theorem dX3_apply_144 : decode cX3_apply 144 = .ok (.ireturn, 1) := by decide +kernel
theorem dX3_apply_145 : decode cX3_apply 145 = .ok (.iload_n 1, 1) := by decide +kernel
theorem dX3_apply_146 : decode cX3_apply 146 = .ok (.iload_n 2, 1) := by decide +kernel
theorem dX3_apply_147 : decode cX3_apply 147 = .ok (.ishr, 1) := by decide +kernel
theorem dX3_apply_148 : decode cX3_apply 148 = .ok (.iload_n 1, 1) := by decide +kernel
theorem dX3_apply_149 : decode cX3_apply 149 = .ok (.iload_n 3, 1) := by decide +kernel
theorem dX3_apply_150 : decode cX3_apply 150 = .ok (.iload_n 2, 1) := by decide +kernel
theorem dX3_apply_151 : decode cX3_apply 151 = .ok (.isub, 1) := by decide +kernel
theorem dX3_apply_152 : decode cX3_apply 152 = .ok (.ishl, 1) := by decide +kernel
theorem dX3_apply_153 : decode cX3_apply 153 = .ok (.iload 4, 2) := by decide +kernel
theorem dX3_apply_155 : decode cX3_apply 155 = .ok (.iand, 1) := by decide +kernel
theorem dX3_apply_156 : decode cX3_apply 156 = .ok (.ior, 1) := by decide +kernel
theorem dX3_apply_157 : decode cX3_apply 157 = .ok (.ireturn, 1) := by decide +kernel
theorem dX3_apply_158 : decode cX3_apply 158 = .ok (.iload_n 1, 1) := by decide +kernel
theorem dX3_apply_159 : decode cX3_apply 159 = .ok (.iload_n 2, 1) := by decide +kernel
theorem dX3_apply_160 : decode cX3_apply 160 = .ok (.if_icmp .gt 7, 3) := by decide +kernel
theorem dX3_apply_163 : decode cX3_apply 163 = .ok (.iconst 1, 1) := by decide +kernel
theorem dX3_apply_164 : decode cX3_apply 164 = .ok (.goto 4, 3) := by decide +kernel
theorem dX3_apply_167 : decode cX3_apply 167 = .ok (.iconst 0, 1) := by decide +kernel
theorem dX3_apply_168 : decode cX3_apply 168 = .ok (.ireturn, 1) := by decide +kernel
theorem dX3_depthOf_0 : decode cX3_depthOf 0 = .ok (.aload_n 0, 1) := by decide +kernel
theorem dX3_depthOf_1 : decode cX3_depthOf 1 = .ok (.getfield 15, 3) := by decide +kernel
theorem dX3_depthOf_4 : decode cX3_depthOf 4 = .ok (.iconst 0, 1) := by decide +kernel
theorem dX3_depthOf_5 : decode cX3_depthOf 5 = .ok (.iconst 0, 1) := by decide +kernel
theorem dX3_depthOf_6 : decode cX3_depthOf 6 = .ok (.iastore, 1) := by decide +kernel
theorem dX3_depthOf_7 : decode cX3_depthOf 7 = .ok (.iconst 0, 1) := by decide +kernel
theorem dX3_depthOf_8 : decode cX3_depthOf 8 = .ok (.istore_n 2, 1) := by decide +kernel
theorem dX3_depthOf_9 : decode cX3_depthOf 9 = .ok (.iload_n 2, 1) := by decide +kernel
theorem dX3_depthOf_10 : decode cX3_depthOf 10 = .ok (.aload_n 1, 1) := by decide +kernel
theorem dX3_depthOf_11 : decode cX3_depthOf 11 = .ok (.getfield 54, 3) := by decide +kernel
theorem dX3_depthOf_14 : decode cX3_depthOf 14 = .ok (.if_icmp .ge 42, 3) := by decide +kernel
theorem dX3_depthOf_17 : decode cX3_depthOf 17 = .ok (.aload_n 0, 1) := by decide +kernel
theorem dX3_depthOf_18 : decode cX3_depthOf 18 = .ok (.getfield 15, 3) := by decide +kernel
theorem dX3_depthOf_21 : decode cX3_depthOf 21 = .ok (.iload_n 2, 1) := by decide +kernel
theorem dX3_depthOf_22 : decode cX3_depthOf 22 = .ok (.iconst 1, 1) := by decide +kernel
theorem dX3_depthOf_23 : decode cX3_depthOf 23 = .ok (.iadd, 1) := by decide +kernel
theorem dX3_depthOf_24 : decode cX3_depthOf 24 = .ok (.iconst 1, 1) := by decide +kernel
theorem dX3_depthOf_25 : decode cX3_depthOf 25 = .ok (.aload_n 0, 1) := by decide +kernel
theorem dX3_depthOf_26 : decode cX3_depthOf 26 = .ok (.aload_n 1, 1) := by decide +kernel
theorem dX3_depthOf_27 : decode cX3_depthOf 27 = .ok (.getfield 18, 3) := by decide +kernel
theorem dX3_depthOf_30 : decode cX3_depthOf 30 = .ok (.iload_n 2, 1) := by decide +kernel
theorem dX3_depthOf_31 : decode cX3_depthOf 31 = .ok (.iaload, 1) := by decide +kernel
theorem dX3_depthOf_32 : decode cX3_depthOf 32 = .ok (.invokevirtual 57, 3) := by decide +kernel
theorem dX3_depthOf_35 : decode cX3_depthOf 35 = .ok (.aload_n 0, 1) := by decide +kernel
theorem dX3_depthOf_36 : decode cX3_depthOf 36 = .ok (.aload_n 1, 1) := by decide +kernel
theorem dX3_depthOf_37 : decode cX3_depthOf 37 = .ok (.getfield 27, 3) := by decide +kernel
theorem dX3_depthOf_40 : decode cX3_depthOf 40 = .ok (.iload_n 2, 1) := by decide +kernel
theorem dX3_depthOf_41 : decode cX3_depthOf 41 = .ok (.iaload, 1) := by decide +kernel
theorem dX3_depthOf_42 : decode cX3_depthOf 42 = .ok (.invokevirtual 57, 3) := by decide +kernel
theorem dX3_depthOf_45 : decode cX3_depthOf 45 = .ok (.invokestatic 60, 3) := by decide +kernel
theorem dX3_depthOf_48 : decode cX3_depthOf 48 = .ok (.iadd, 1) := by decide +kernel
theorem dX3_depthOf_49 : decode cX3_depthOf 49 = .ok (.iastore, 1) := by decide +kernel
theorem dX3_depthOf_50 : decode cX3_depthOf 50 = .ok (.iinc 2 1, 3) := by decide +kernel
theorem dX3_depthOf_53 : decode cX3_depthOf 53 = .ok (.goto (-44), 3) := by decide +kernel
theorem dX3_depthOf_56 : decode cX3_depthOf 56 = .ok (.aload_n 0, 1) := by decide +kernel
theorem dX3_depthOf_57 : decode cX3_depthOf 57 = .ok (.getfield 15, 3) := by decide +kernel
theorem dX3_depthOf_60 : decode cX3_depthOf 60 = .ok (.aload_n 1, 1) := by decide +kernel
theorem dX3_depthOf_61 : decode cX3_depthOf 61 = .ok (.getfield 54, 3) := by decide +kernel
theorem dX3_depthOf_64 : decode cX3_depthOf 64 = .ok (.iaload, 1) := by decide +kernel
theorem dX3_depthOf_65 : decode cX3_depthOf 65 = .ok (.ireturn, 1) := by decide +kernel
theorem dX3_depthOfOperand_0 : decode cX3_depthOfOperand 0 = .ok (.iload_n 1, 1) := by decide +kernel
theorem dX3_depthOfOperand_1 : decode cX3_depthOfOperand 1 = .ok (.invokestatic 41, 3) := by decide +kernel
theorem dX3_depthOfOperand_4 : decode cX3_depthOfOperand 4 = .ok (.ifCond .eq 15, 3) := by decide +kernel
theorem dX3_depthOfOperand_7 : decode cX3_depthOfOperand 7 = .ok (.aload_n 0, 1) := by decide +kernel
theorem dX3_depthOfOperand_8 : decode cX3_depthOfOperand 8 = .ok (.getfield 15, 3) := by decide +kernel
theorem dX3_depthOfOperand_11 : decode cX3_depthOfOperand 11 = .ok (.iload_n 1, 1) := by decide +kernel
theorem dX3_depthOfOperand_12 : decode cX3_depthOfOperand 12 = .ok (.invokestatic 45, 3) := by decide +kernel
theorem dX3_depthOfOperand_15 : decode cX3_depthOfOperand 15 = .ok (.iaload, 1) := by decide +kernel
theorem dX3_depthOfOperand_16 : decode cX3_depthOfOperand 16 = .ok (.goto 4, 3) := by decide +kernel
theorem dX3_depthOfOperand_19 : decode cX3_depthOfOperand 19 = .ok (.iconst 0, 1) := by decide +kernel
theorem dX3_depthOfOperand_20 : decode cX3_depthOfOperand 20 = .ok (.ireturn, 1) := by decide +kernel
theorem dX4_signedMeaning_0 : decode cX4_signedMeaning 0 = .ok (.iload_n 0, 1) := by decide +kernel
theorem dX4_signedMeaning_1 : decode cX4_signedMeaning 1 = .ok (.iconst 1, 1) := by decide +kernel
theorem dX4_signedMeaning_2 : decode cX4_signedMeaning 2 = .ok (.iload_n 1, 1) := by decide +kernel
theorem dX4_signedMeaning_3 : decode cX4_signedMeaning 3 = .ok (.iconst 1, 1) := by decide +kernel
theorem dX4_signedMeaning_4 : decode cX4_signedMeaning 4 = .ok (.isub, 1) := by decide +kernel
theorem dX4_signedMeaning_5 : decode cX4_signedMeaning 5 = .ok (.ishl, 1) := by decide +kernel
theorem dX4_signedMeaning_6 : decode cX4_signedMeaning 6 = .ok (.if_icmp .ge 7, 3) := by decide +kernel
theorem dX4_signedMeaning_9 : decode cX4_signedMeaning 9 = .ok (.iload_n 0, 1) := by decide +kernel
theorem dX4_signedMeaning_10 : decode cX4_signedMeaning 10 = .ok (.goto 8, 3) := by decide +kernel
theorem dX4_signedMeaning_13 : decode cX4_signedMeaning 13 = .ok (.iload_n 0, 1) := by decide +kernel
theorem dX4_signedMeaning_14 : decode cX4_signedMeaning 14 = .ok (.iconst 1, 1) := by decide +kernel
theorem dX4_signedMeaning_15 : decode cX4_signedMeaning 15 = .ok (.iload_n 1, 1) := by decide +kernel
theorem dX4_signedMeaning_16 : decode cX4_signedMeaning 16 = .ok (.ishl, 1) := by decide +kernel
theorem dX4_signedMeaning_17 : decode cX4_signedMeaning 17 = .ok (.isub, 1) := by decide +kernel
theorem dX4_signedMeaning_18 : decode cX4_signedMeaning 18 = .ok (.ireturn, 1) := by decide +kernel
theorem dX4_isPowerOfTwo_0 : decode cX4_isPowerOfTwo 0 = .ok (.iload_n 0, 1) := by decide +kernel
theorem dX4_isPowerOfTwo_1 : decode cX4_isPowerOfTwo 1 = .ok (.ifCond .le 15, 3) := by decide +kernel
theorem dX4_isPowerOfTwo_4 : decode cX4_isPowerOfTwo 4 = .ok (.iload_n 0, 1) := by decide +kernel
theorem dX4_isPowerOfTwo_5 : decode cX4_isPowerOfTwo 5 = .ok (.iload_n 0, 1) := by decide +kernel
theorem dX4_isPowerOfTwo_6 : decode cX4_isPowerOfTwo 6 = .ok (.iconst 1, 1) := by decide +kernel
theorem dX4_isPowerOfTwo_7 : decode cX4_isPowerOfTwo 7 = .ok (.isub, 1) := by decide +kernel
theorem dX4_isPowerOfTwo_8 : decode cX4_isPowerOfTwo 8 = .ok (.iand, 1) := by decide +kernel
theorem dX4_isPowerOfTwo_9 : decode cX4_isPowerOfTwo 9 = .ok (.ifCond .ne 7, 3) := by decide +kernel
theorem dX4_isPowerOfTwo_12 : decode cX4_isPowerOfTwo 12 = .ok (.iconst 1, 1) := by decide +kernel
theorem dX4_isPowerOfTwo_13 : decode cX4_isPowerOfTwo 13 = .ok (.goto 4, 3) := by decide +kernel
theorem dX4_isPowerOfTwo_16 : decode cX4_isPowerOfTwo 16 = .ok (.iconst 0, 1) := by decide +kernel
theorem dX4_isPowerOfTwo_17 : decode cX4_isPowerOfTwo 17 = .ok (.ireturn, 1) := by decide +kernel
theorem dX4_ceilOfPower_0 : decode cX4_ceilOfPower 0 = .ok (.iload_n 1, 1) := by decide +kernel
theorem dX4_ceilOfPower_1 : decode cX4_ceilOfPower 1 = .ok (.iconst 1, 1) := by decide +kernel
theorem dX4_ceilOfPower_2 : decode cX4_ceilOfPower 2 = .ok (.if_icmp .ge 7, 3) := by decide +kernel
theorem dX4_ceilOfPower_5 : decode cX4_ceilOfPower 5 = .ok (.lconst 0, 1) := by decide +kernel
theorem dX4_ceilOfPower_6 : decode cX4_ceilOfPower 6 = .ok (.goto 13, 3) := by decide +kernel
theorem dX4_ceilOfPower_9 : decode cX4_ceilOfPower 9 = .ok (.lconst 1, 1) := by decide +kernel
theorem dX4_ceilOfPower_10 : decode cX4_ceilOfPower 10 = .ok (.iload_n 0, 1) := by decide +kernel
theorem dX4_ceilOfPower_11 : decode cX4_ceilOfPower 11 = .ok (.lshl, 1) := by decide +kernel
theorem dX4_ceilOfPower_12 : decode cX4_ceilOfPower 12 = .ok (.lconst 1, 1) := by decide +kernel
theorem dX4_ceilOfPower_13 : decode cX4_ceilOfPower 13 = .ok (.lsub, 1) := by decide +kernel
theorem dX4_ceilOfPower_14 : decode cX4_ceilOfPower 14 = .ok (.iload_n 1, 1) := by decide +kernel
theorem dX4_ceilOfPower_15 : decode cX4_ceilOfPower 15 = .ok (.i2l, 1) := by decide +kernel
theorem dX4_ceilOfPower_16 : decode cX4_ceilOfPower 16 = .ok (.ldiv, 1) := by decide +kernel
theorem dX4_ceilOfPower_17 : decode cX4_ceilOfPower 17 = .ok (.lconst 1, 1) := by decide +kernel
theorem dX4_ceilOfPower_18 : decode cX4_ceilOfPower 18 = .ok (.ladd, 1) := by decide +kernel
theorem dX4_ceilOfPower_19 : decode cX4_ceilOfPower 19 = .ok (.lreturn, 1) := by decide +kernel
theorem dX4_multiplierFor_0 : decode cX4_multiplierFor 0 = .ok (.iload_n 0, 1) := by decide +kernel
theorem dX4_multiplierFor_1 : decode cX4_multiplierFor 1 = .ok (.iload_n 2, 1) := by decide +kernel
theorem dX4_multiplierFor_2 : decode cX4_multiplierFor 2 = .ok (.iadd, 1) := by decide +kernel
theorem dX4_multiplierFor_3 : decode cX4_multiplierFor 3 = .ok (.iload_n 1, 1) := by decide +kernel
theorem dX4_multiplierFor_4 : decode cX4_multiplierFor 4 = .ok (.invokestatic 9, 3) := by decide +kernel
theorem dX4_multiplierFor_7 : decode cX4_multiplierFor 7 = .ok (.l2i, 1) := by decide +kernel
theorem dX4_multiplierFor_8 : decode cX4_multiplierFor 8 = .ok (.ireturn, 1) := by decide +kernel
theorem dX4_leastShift_0 : decode cX4_leastShift 0 = .ok (.iconst 0, 1) := by decide +kernel
theorem dX4_leastShift_1 : decode cX4_leastShift 1 = .ok (.istore_n 3, 1) := by decide +kernel
theorem dX4_leastShift_2 : decode cX4_leastShift 2 = .ok (.iload_n 3, 1) := by decide +kernel
theorem dX4_leastShift_3 : decode cX4_leastShift 3 = .ok (.bipush 16, 2) := by decide +kernel
theorem dX4_leastShift_5 : decode cX4_leastShift 5 = .ok (.if_icmp .ge 40, 3) := by decide +kernel
theorem dX4_leastShift_8 : decode cX4_leastShift 8 = .ok (.iload_n 0, 1) := by decide +kernel
theorem dX4_leastShift_9 : decode cX4_leastShift 9 = .ok (.iload_n 3, 1) := by decide +kernel
theorem dX4_leastShift_10 : decode cX4_leastShift 10 = .ok (.iadd, 1) := by decide +kernel
theorem dX4_leastShift_11 : decode cX4_leastShift 11 = .ok (.iload_n 1, 1) := by decide +kernel
theorem dX4_leastShift_12 : decode cX4_leastShift 12 = .ok (.invokestatic 9, 3) := by decide +kernel
theorem dX4_leastShift_15 : decode cX4_leastShift 15 = .ok (.iload_n 1, 1) := by decide +kernel
theorem dX4_leastShift_16 : decode cX4_leastShift 16 = .ok (.i2l, 1) := by decide +kernel
theorem dX4_leastShift_17 : decode cX4_leastShift 17 = .ok (.lmul, 1) := by decide +kernel
theorem dX4_leastShift_18 : decode cX4_leastShift 18 = .ok (.lconst 1, 1) := by decide +kernel
theorem dX4_leastShift_19 : decode cX4_leastShift 19 = .ok (.iload_n 0, 1) := by decide +kernel
theorem dX4_leastShift_20 : decode cX4_leastShift 20 = .ok (.iload_n 3, 1) := by decide +kernel
theorem dX4_leastShift_21 : decode cX4_leastShift 21 = .ok (.iadd, 1) := by decide +kernel
theorem dX4_leastShift_22 : decode cX4_leastShift 22 = .ok (.lshl, 1) := by decide +kernel
theorem dX4_leastShift_23 : decode cX4_leastShift 23 = .ok (.lsub, 1) := by decide +kernel
theorem dX4_leastShift_24 : decode cX4_leastShift 24 = .ok (.lstore 4, 2) := by decide +kernel
theorem dX4_leastShift_26 : decode cX4_leastShift 26 = .ok (.lload 4, 2) := by decide +kernel
theorem dX4_leastShift_28 : decode cX4_leastShift 28 = .ok (.lconst 1, 1) := by decide +kernel
theorem dX4_leastShift_29 : decode cX4_leastShift 29 = .ok (.iload_n 3, 1) := by decide +kernel
theorem dX4_leastShift_30 : decode cX4_leastShift 30 = .ok (.iload_n 2, 1) := by decide +kernel
theorem dX4_leastShift_31 : decode cX4_leastShift 31 = .ok (.iadd, 1) := by decide +kernel
theorem dX4_leastShift_32 : decode cX4_leastShift 32 = .ok (.lshl, 1) := by decide +kernel
theorem dX4_leastShift_33 : decode cX4_leastShift 33 = .ok (.lcmp, 1) := by decide +kernel
theorem dX4_leastShift_34 : decode cX4_leastShift 34 = .ok (.ifCond .gt 5, 3) := by decide +kernel
theorem dX4_leastShift_37 : decode cX4_leastShift 37 = .ok (.iload_n 3, 1) := by decide +kernel
theorem dX4_leastShift_38 : decode cX4_leastShift 38 = .ok (.ireturn, 1) := by decide +kernel
theorem dX4_leastShift_39 : decode cX4_leastShift 39 = .ok (.iinc 3 1, 3) := by decide +kernel
theorem dX4_leastShift_42 : decode cX4_leastShift 42 = .ok (.goto (-40), 3) := by decide +kernel
theorem dX4_leastShift_45 : decode cX4_leastShift 45 = .ok (.bipush 16, 2) := by decide +kernel
theorem dX4_leastShift_47 : decode cX4_leastShift 47 = .ok (.ireturn, 1) := by decide +kernel
theorem dX4_inverseOf_0 : decode cX4_inverseOf 0 = .ok (.iload_n 0, 1) := by decide +kernel
theorem dX4_inverseOf_1 : decode cX4_inverseOf 1 = .ok (.istore_n 2, 1) := by decide +kernel
theorem dX4_inverseOf_2 : decode cX4_inverseOf 2 = .ok (.iconst 0, 1) := by decide +kernel
theorem dX4_inverseOf_3 : decode cX4_inverseOf 3 = .ok (.istore_n 3, 1) := by decide +kernel
theorem dX4_inverseOf_4 : decode cX4_inverseOf 4 = .ok (.iload_n 3, 1) := by decide +kernel
theorem dX4_inverseOf_5 : decode cX4_inverseOf 5 = .ok (.iconst 3, 1) := by decide +kernel
theorem dX4_inverseOf_6 : decode cX4_inverseOf 6 = .ok (.if_icmp .ge 17, 3) := by decide +kernel
theorem dX4_inverseOf_9 : decode cX4_inverseOf 9 = .ok (.iload_n 2, 1) := by decide +kernel
theorem dX4_inverseOf_10 : decode cX4_inverseOf 10 = .ok (.iconst 2, 1) := by decide +kernel
theorem dX4_inverseOf_11 : decode cX4_inverseOf 11 = .ok (.iload_n 0, 1) := by decide +kernel
theorem dX4_inverseOf_12 : decode cX4_inverseOf 12 = .ok (.iload_n 2, 1) := by decide +kernel
theorem dX4_inverseOf_13 : decode cX4_inverseOf 13 = .ok (.imul, 1) := by decide +kernel
theorem dX4_inverseOf_14 : decode cX4_inverseOf 14 = .ok (.isub, 1) := by decide +kernel
theorem dX4_inverseOf_15 : decode cX4_inverseOf 15 = .ok (.imul, 1) := by decide +kernel
theorem dX4_inverseOf_16 : decode cX4_inverseOf 16 = .ok (.istore_n 2, 1) := by decide +kernel
theorem dX4_inverseOf_17 : decode cX4_inverseOf 17 = .ok (.iinc 3 1, 3) := by decide +kernel
theorem dX4_inverseOf_20 : decode cX4_inverseOf 20 = .ok (.goto (-16), 3) := by decide +kernel
theorem dX4_inverseOf_23 : decode cX4_inverseOf 23 = .ok (.iload_n 2, 1) := by decide +kernel
theorem dX4_inverseOf_24 : decode cX4_inverseOf 24 = .ok (.iconst 1, 1) := by decide +kernel
theorem dX4_inverseOf_25 : decode cX4_inverseOf 25 = .ok (.iload_n 1, 1) := by decide +kernel
theorem dX4_inverseOf_26 : decode cX4_inverseOf 26 = .ok (.ishl, 1) := by decide +kernel
theorem dX4_inverseOf_27 : decode cX4_inverseOf 27 = .ok (.iconst 1, 1) := by decide +kernel
theorem dX4_inverseOf_28 : decode cX4_inverseOf 28 = .ok (.isub, 1) := by decide +kernel
theorem dX4_inverseOf_29 : decode cX4_inverseOf 29 = .ok (.iand, 1) := by decide +kernel
theorem dX4_inverseOf_30 : decode cX4_inverseOf 30 = .ok (.ireturn, 1) := by decide +kernel
theorem dX4_digitAt_0 : decode cX4_digitAt 0 = .ok (.iconst 3, 1) := by decide +kernel
theorem dX4_digitAt_1 : decode cX4_digitAt 1 = .ok (.iload_n 0, 1) := by decide +kernel
theorem dX4_digitAt_2 : decode cX4_digitAt 2 = .ok (.imul, 1) := by decide +kernel
theorem dX4_digitAt_3 : decode cX4_digitAt 3 = .ok (.iload_n 1, 1) := by decide +kernel
theorem dX4_digitAt_4 : decode cX4_digitAt 4 = .ok (.iconst 1, 1) := by decide +kernel
theorem dX4_digitAt_5 : decode cX4_digitAt 5 = .ok (.iadd, 1) := by decide +kernel
theorem dX4_digitAt_6 : decode cX4_digitAt 6 = .ok (.ishr, 1) := by decide +kernel
theorem dX4_digitAt_7 : decode cX4_digitAt 7 = .ok (.iconst 1, 1) := by decide +kernel
theorem dX4_digitAt_8 : decode cX4_digitAt 8 = .ok (.iand, 1) := by decide +kernel
theorem dX4_digitAt_9 : decode cX4_digitAt 9 = .ok (.iload_n 0, 1) := by decide +kernel
theorem dX4_digitAt_10 : decode cX4_digitAt 10 = .ok (.iload_n 1, 1) := by decide +kernel
theorem dX4_digitAt_11 : decode cX4_digitAt 11 = .ok (.iconst 1, 1) := by decide +kernel
theorem dX4_digitAt_12 : decode cX4_digitAt 12 = .ok (.iadd, 1) := by decide +kernel
theorem dX4_digitAt_13 : decode cX4_digitAt 13 = .ok (.ishr, 1) := by decide +kernel
theorem dX4_digitAt_14 : decode cX4_digitAt 14 = .ok (.iconst 1, 1) := by decide +kernel
theorem dX4_digitAt_15 : decode cX4_digitAt 15 = .ok (.iand, 1) := by decide +kernel
theorem dX4_digitAt_16 : decode cX4_digitAt 16 = .ok (.isub, 1) := by decide +kernel
theorem dX4_digitAt_17 : decode cX4_digitAt 17 = .ok (.ireturn, 1) := by decide +kernel
theorem dX4_countDigits_0 : decode cX4_countDigits 0 = .ok (.iconst 0, 1) := by decide +kernel
theorem dX4_countDigits_1 : decode cX4_countDigits 1 = .ok (.istore_n 2, 1) := by decide +kernel
theorem dX4_countDigits_2 : decode cX4_countDigits 2 = .ok (.iconst 0, 1) := by decide +kernel
theorem dX4_countDigits_3 : decode cX4_countDigits 3 = .ok (.istore_n 3, 1) := by decide +kernel
theorem dX4_countDigits_4 : decode cX4_countDigits 4 = .ok (.iload_n 3, 1) := by decide +kernel
theorem dX4_countDigits_5 : decode cX4_countDigits 5 = .ok (.iload_n 1, 1) := by decide +kernel
theorem dX4_countDigits_6 : decode cX4_countDigits 6 = .ok (.if_icmp .ge 20, 3) := by decide +kernel
theorem dX4_countDigits_9 : decode cX4_countDigits 9 = .ok (.iload_n 0, 1) := by decide +kernel
theorem dX4_countDigits_10 : decode cX4_countDigits 10 = .ok (.iload_n 3, 1) := by decide +kernel
theorem dX4_countDigits_11 : decode cX4_countDigits 11 = .ok (.invokestatic 15, 3) := by decide +kernel
theorem dX4_countDigits_14 : decode cX4_countDigits 14 = .ok (.ifCond .eq 6, 3) := by decide +kernel
theorem dX4_countDigits_17 : decode cX4_countDigits 17 = .ok (.iinc 2 1, 3) := by decide +kernel
theorem dX4_countDigits_20 : decode cX4_countDigits 20 = .ok (.iinc 3 1, 3) := by decide +kernel
theorem dX4_countDigits_23 : decode cX4_countDigits 23 = .ok (.goto (-19), 3) := by decide +kernel
theorem dX4_countDigits_26 : decode cX4_countDigits 26 = .ok (.iload_n 2, 1) := by decide +kernel
theorem dX4_countDigits_27 : decode cX4_countDigits 27 = .ok (.ireturn, 1) := by decide +kernel
theorem dX4_firstUnreached_0 : decode cX4_firstUnreached 0 = .ok (.lload 4, 2) := by decide +kernel
theorem dX4_firstUnreached_2 : decode cX4_firstUnreached 2 = .ok (.lload_n 0, 1) := by decide +kernel
theorem dX4_firstUnreached_3 : decode cX4_firstUnreached 3 = .ok (.lmul, 1) := by decide +kernel
theorem dX4_firstUnreached_4 : decode cX4_firstUnreached 4 = .ok (.lload_n 2, 1) := by decide +kernel
theorem dX4_firstUnreached_5 : decode cX4_firstUnreached 5 = .ok (.lsub, 1) := by decide +kernel
theorem dX4_firstUnreached_6 : decode cX4_firstUnreached 6 = .ok (.lstore 6, 2) := by decide +kernel
theorem dX4_firstUnreached_8 : decode cX4_firstUnreached 8 = .ok (.lload 6, 2) := by decide +kernel
theorem dX4_firstUnreached_10 : decode cX4_firstUnreached 10 = .ok (.lconst 0, 1) := by decide +kernel
theorem dX4_firstUnreached_11 : decode cX4_firstUnreached 11 = .ok (.lcmp, 1) := by decide +kernel
theorem dX4_firstUnreached_12 : decode cX4_firstUnreached 12 = .ok (.ifCond .ne 7, 3) := by decide +kernel
theorem dX4_firstUnreached_15 : decode cX4_firstUnreached 15 = .ok (.ldc2_w 19, 3) := by decide +kernel
theorem dX4_firstUnreached_18 : decode cX4_firstUnreached 18 = .ok (.lreturn, 1) := by decide +kernel
theorem dX4_firstUnreached_19 : decode cX4_firstUnreached 19 = .ok (.lload 6, 2) := by decide +kernel
theorem dX4_firstUnreached_21 : decode cX4_firstUnreached 21 = .ok (.lconst 0, 1) := by decide +kernel
theorem dX4_firstUnreached_22 : decode cX4_firstUnreached 22 = .ok (.lcmp, 1) := by decide +kernel
theorem dX4_firstUnreached_23 : decode cX4_firstUnreached 23 = .ok (.ifCond .ge 6, 3) := by decide +kernel
theorem dX4_firstUnreached_26 : decode cX4_firstUnreached 26 = .ok (.lload 4, 2) := by decide +kernel
theorem dX4_firstUnreached_28 : decode cX4_firstUnreached 28 = .ok (.lreturn, 1) := by decide +kernel
theorem dX4_firstUnreached_29 : decode cX4_firstUnreached 29 = .ok (.lload_n 2, 1) := by decide +kernel
theorem dX4_firstUnreached_30 : decode cX4_firstUnreached 30 = .ok (.lload 4, 2) := by decide +kernel
theorem dX4_firstUnreached_32 : decode cX4_firstUnreached 32 = .ok (.lconst 1, 1) := by decide +kernel
theorem dX4_firstUnreached_33 : decode cX4_firstUnreached 33 = .ok (.lsub, 1) := by decide +kernel
theorem dX4_firstUnreached_34 : decode cX4_firstUnreached 34 = .ok (.lload_n 0, 1) := by decide +kernel
theorem dX4_firstUnreached_35 : decode cX4_firstUnreached 35 = .ok (.lmul, 1) := by decide +kernel
theorem dX4_firstUnreached_36 : decode cX4_firstUnreached 36 = .ok (.lsub, 1) := by decide +kernel
theorem dX4_firstUnreached_37 : decode cX4_firstUnreached 37 = .ok (.lload 6, 2) := by decide +kernel
theorem dX4_firstUnreached_39 : decode cX4_firstUnreached 39 = .ok (.invokestatic 21, 3) := by decide +kernel
theorem dX4_firstUnreached_42 : decode cX4_firstUnreached 42 = .ok (.lstore 8, 2) := by decide +kernel
theorem dX4_firstUnreached_44 : decode cX4_firstUnreached 44 = .ok (.lload 8, 2) := by decide +kernel
theorem dX4_firstUnreached_46 : decode cX4_firstUnreached 46 = .ok (.lload 4, 2) := by decide +kernel
theorem dX4_firstUnreached_48 : decode cX4_firstUnreached 48 = .ok (.lmul, 1) := by decide +kernel
theorem dX4_firstUnreached_49 : decode cX4_firstUnreached 49 = .ok (.lload_n 2, 1) := by decide +kernel
theorem dX4_firstUnreached_50 : decode cX4_firstUnreached 50 = .ok (.lload 8, 2) := by decide +kernel
theorem dX4_firstUnreached_52 : decode cX4_firstUnreached 52 = .ok (.lload 6, 2) := by decide +kernel
theorem dX4_firstUnreached_54 : decode cX4_firstUnreached 54 = .ok (.lmul, 1) := by decide +kernel
theorem dX4_firstUnreached_55 : decode cX4_firstUnreached 55 = .ok (.lsub, 1) := by decide +kernel
theorem dX4_firstUnreached_56 : decode cX4_firstUnreached 56 = .ok (.lload_n 0, 1) := by decide +kernel
theorem dX4_firstUnreached_57 : decode cX4_firstUnreached 57 = .ok (.invokestatic 21, 3) := by decide +kernel
theorem dX4_firstUnreached_60 : decode cX4_firstUnreached 60 = .ok (.ladd, 1) := by decide +kernel
theorem dX4_firstUnreached_61 : decode cX4_firstUnreached 61 = .ok (.lreturn, 1) := by decide +kernel
theorem dX4_ceilOf_0 : decode cX4_ceilOf 0 = .ok (.lload_n 0, 1) := by decide +kernel
theorem dX4_ceilOf_1 : decode cX4_ceilOf 1 = .ok (.lconst 0, 1) := by decide +kernel
theorem dX4_ceilOf_2 : decode cX4_ceilOf 2 = .ok (.lcmp, 1) := by decide +kernel
theorem dX4_ceilOf_3 : decode cX4_ceilOf 3 = .ok (.ifCond .le 9, 3) := by decide +kernel
theorem dX4_ceilOf_6 : decode cX4_ceilOf 6 = .ok (.lload_n 2, 1) := by decide +kernel
theorem dX4_ceilOf_7 : decode cX4_ceilOf 7 = .ok (.lconst 1, 1) := by decide +kernel
theorem dX4_ceilOf_8 : decode cX4_ceilOf 8 = .ok (.lcmp, 1) := by decide +kernel
theorem dX4_ceilOf_9 : decode cX4_ceilOf 9 = .ok (.ifCond .ge 7, 3) := by decide +kernel
theorem dX4_ceilOf_12 : decode cX4_ceilOf 12 = .ok (.lconst 0, 1) := by decide +kernel
theorem dX4_ceilOf_13 : decode cX4_ceilOf 13 = .ok (.goto 10, 3) := by decide +kernel
theorem dX4_ceilOf_16 : decode cX4_ceilOf 16 = .ok (.lload_n 0, 1) := by decide +kernel
theorem dX4_ceilOf_17 : decode cX4_ceilOf 17 = .ok (.lconst 1, 1) := by decide +kernel
theorem dX4_ceilOf_18 : decode cX4_ceilOf 18 = .ok (.lsub, 1) := by decide +kernel
theorem dX4_ceilOf_19 : decode cX4_ceilOf 19 = .ok (.lload_n 2, 1) := by decide +kernel
theorem dX4_ceilOf_20 : decode cX4_ceilOf 20 = .ok (.ldiv, 1) := by decide +kernel
theorem dX4_ceilOf_21 : decode cX4_ceilOf 21 = .ok (.lconst 1, 1) := by decide +kernel
theorem dX4_ceilOf_22 : decode cX4_ceilOf 22 = .ok (.ladd, 1) := by decide +kernel
theorem dX4_ceilOf_23 : decode cX4_ceilOf 23 = .ok (.lreturn, 1) := by decide +kernel
theorem dX5_init_0 : decode cX5_init 0 = .ok (.aload_n 0, 1) := by decide +kernel
theorem dX5_init_1 : decode cX5_init 1 = .ok (.invokespecial 3, 3) := by decide +kernel
theorem dX5_init_4 : decode cX5_init 4 = .ok (.aload_n 0, 1) := by decide +kernel
theorem dX5_init_5 : decode cX5_init 5 = .ok (.bipush 8, 2) := by decide +kernel
theorem dX5_init_7 : decode cX5_init 7 = .ok (.putfield 9, 3) := by decide +kernel
theorem dX5_init_10 : decode cX5_init 10 = .ok (.aload_n 0, 1) := by decide +kernel
theorem dX5_init_11 : decode cX5_init 11 = .ok (.iconst (-1), 1) := by decide +kernel
theorem dX5_init_12 : decode cX5_init 12 = .ok (.putfield 15, 3) := by decide +kernel
theorem dX5_init_15 : decode cX5_init 15 = .ok (.aload_n 0, 1) := by decide +kernel
theorem dX5_init_16 : decode cX5_init 16 = .ok (.bipush 40, 2) := by decide +kernel
theorem dX5_init_18 : decode cX5_init 18 = .ok (.newarray .int, 2) := by decide +kernel
theorem dX5_init_20 : decode cX5_init 20 = .ok (.putfield 18, 3) := by decide +kernel
theorem dX5_init_23 : decode cX5_init 23 = .ok (.aload_n 0, 1) := by decide +kernel
theorem dX5_init_24 : decode cX5_init 24 = .ok (.bipush 40, 2) := by decide +kernel
theorem dX5_init_26 : decode cX5_init 26 = .ok (.newarray .int, 2) := by decide +kernel
theorem dX5_init_28 : decode cX5_init 28 = .ok (.putfield 22, 3) := by decide +kernel
theorem dX5_init_31 : decode cX5_init 31 = .ok (.aload_n 0, 1) := by decide +kernel
theorem dX5_init_32 : decode cX5_init 32 = .ok (.bipush 40, 2) := by decide +kernel
theorem dX5_init_34 : decode cX5_init 34 = .ok (.newarray .int, 2) := by decide +kernel
theorem dX5_init_36 : decode cX5_init 36 = .ok (.putfield 25, 3) := by decide +kernel
theorem dX5_init_39 : decode cX5_init 39 = .ok (.return_, 1) := by decide +kernel
theorem dX5_operandOf_0 : decode cX5_operandOf 0 = .ok (.iconst (-1), 1) := by decide +kernel
theorem dX5_operandOf_1 : decode cX5_operandOf 1 = .ok (.iload_n 0, 1) := by decide +kernel
theorem dX5_operandOf_2 : decode cX5_operandOf 2 = .ok (.isub, 1) := by decide +kernel
theorem dX5_operandOf_3 : decode cX5_operandOf 3 = .ok (.ireturn, 1) := by decide +kernel
theorem dX5_isValue_0 : decode cX5_isValue 0 = .ok (.iload_n 0, 1) := by decide +kernel
theorem dX5_isValue_1 : decode cX5_isValue 1 = .ok (.ifCond .ge 7, 3) := by decide +kernel
theorem dX5_isValue_4 : decode cX5_isValue 4 = .ok (.iconst 1, 1) := by decide +kernel
theorem dX5_isValue_5 : decode cX5_isValue 5 = .ok (.goto 4, 3) := by decide +kernel
theorem dX5_isValue_8 : decode cX5_isValue 8 = .ok (.iconst 0, 1) := by decide +kernel
theorem dX5_isValue_9 : decode cX5_isValue 9 = .ok (.ireturn, 1) := by decide +kernel
theorem dX5_numberOf_0 : decode cX5_numberOf 0 = .ok (.iload_n 0, 1) := by decide +kernel
theorem dX5_numberOf_1 : decode cX5_numberOf 1 = .ok (.invokestatic 28, 3) := by decide +kernel
theorem dX5_numberOf_4 : decode cX5_numberOf 4 = .ok (.ifCond .eq 9, 3) := by decide +kernel
theorem dX5_numberOf_7 : decode cX5_numberOf 7 = .ok (.iconst (-1), 1) := by decide +kernel
theorem dX5_numberOf_8 : decode cX5_numberOf 8 = .ok (.iload_n 0, 1) := by decide +kernel
theorem dX5_numberOf_9 : decode cX5_numberOf 9 = .ok (.isub, 1) := by decide +kernel
theorem dX5_numberOf_10 : decode cX5_numberOf 10 = .ok (.goto 4, 3) := by decide +kernel
theorem dX5_numberOf_13 : decode cX5_numberOf 13 = .ok (.iload_n 0, 1) := by decide +kernel
theorem dX5_numberOf_14 : decode cX5_numberOf 14 = .ok (.ireturn, 1) := by decide +kernel
theorem dX5_allowsOperand_0 : decode cX5_allowsOperand 0 = .ok (.iload_n 2, 1) := by decide +kernel
theorem dX5_allowsOperand_1 : decode cX5_allowsOperand 1 = .ok (.ifCond .lt 32, 3) := by decide +kernel
theorem dX5_allowsOperand_4 : decode cX5_allowsOperand 4 = .ok (.iload_n 1, 1) := by decide +kernel
theorem dX5_allowsOperand_5 : decode cX5_allowsOperand 5 = .ok (.ifCond .eq 16, 3) := by decide +kernel
theorem dX5_allowsOperand_8 : decode cX5_allowsOperand 8 = .ok (.iload_n 2, 1) := by decide +kernel
theorem dX5_allowsOperand_9 : decode cX5_allowsOperand 9 = .ok (.iconst 1, 1) := by decide +kernel
theorem dX5_allowsOperand_10 : decode cX5_allowsOperand 10 = .ok (.aload_n 0, 1) := by decide +kernel
theorem dX5_allowsOperand_11 : decode cX5_allowsOperand 11 = .ok (.getfield 9, 3) := by decide +kernel
theorem dX5_allowsOperand_14 : decode cX5_allowsOperand 14 = .ok (.ishl, 1) := by decide +kernel
theorem dX5_allowsOperand_15 : decode cX5_allowsOperand 15 = .ok (.if_icmp .ge 18, 3) := by decide +kernel
theorem dX5_allowsOperand_18 : decode cX5_allowsOperand 18 = .ok (.goto 11, 3) := by decide +kernel
theorem dX5_allowsOperand_21 : decode cX5_allowsOperand 21 = .ok (.iload_n 2, 1) := by decide +kernel
theorem dX5_allowsOperand_22 : decode cX5_allowsOperand 22 = .ok (.aload_n 0, 1) := by decide +kernel
theorem dX5_allowsOperand_23 : decode cX5_allowsOperand 23 = .ok (.getfield 32, 3) := by decide +kernel
theorem dX5_allowsOperand_26 : decode cX5_allowsOperand 26 = .ok (.if_icmp .gt 7, 3) := by decide +kernel
theorem dX5_allowsOperand_29 : decode cX5_allowsOperand 29 = .ok (.iconst 1, 1) := by decide +kernel
theorem dX5_allowsOperand_30 : decode cX5_allowsOperand 30 = .ok (.goto 4, 3) := by decide +kernel
theorem dX5_allowsOperand_33 : decode cX5_allowsOperand 33 = .ok (.iconst 0, 1) := by decide +kernel
theorem dX5_allowsOperand_34 : decode cX5_allowsOperand 34 = .ok (.ireturn, 1) := by decide +kernel
theorem dX5_clear_0 : decode cX5_clear 0 = .ok (.aload_n 0, 1) := by decide +kernel
theorem dX5_clear_1 : decode cX5_clear 1 = .ok (.iconst 0, 1) := by decide +kernel
theorem dX5_clear_2 : decode cX5_clear 2 = .ok (.putfield 32, 3) := by decide +kernel
theorem dX5_clear_5 : decode cX5_clear 5 = .ok (.aload_n 0, 1) := by decide +kernel
theorem dX5_clear_6 : decode cX5_clear 6 = .ok (.iconst 0, 1) := by decide +kernel
theorem dX5_clear_7 : decode cX5_clear 7 = .ok (.putfield 35, 3) := by decide +kernel
theorem dX5_clear_10 : decode cX5_clear 10 = .ok (.return_, 1) := by decide +kernel
theorem dX5_write_0 : decode cX5_write 0 = .ok (.aload_n 0, 1) := by decide +kernel
theorem dX5_write_1 : decode cX5_write 1 = .ok (.getfield 32, 3) := by decide +kernel
theorem dX5_write_4 : decode cX5_write 4 = .ok (.bipush 40, 2) := by decide +kernel
theorem dX5_write_6 : decode cX5_write 6 = .ok (.if_icmp .ge 43, 3) := by decide +kernel
theorem dX5_write_9 : decode cX5_write 9 = .ok (.aload_n 0, 1) := by decide +kernel
theorem dX5_write_10 : decode cX5_write 10 = .ok (.getfield 18, 3) := by decide +kernel
theorem dX5_write_13 : decode cX5_write 13 = .ok (.aload_n 0, 1) := by decide +kernel
theorem dX5_write_14 : decode cX5_write 14 = .ok (.getfield 32, 3) := by decide +kernel
theorem dX5_write_17 : decode cX5_write 17 = .ok (.iload_n 1, 1) := by decide +kernel
theorem dX5_write_18 : decode cX5_write 18 = .ok (.iastore, 1) := by decide +kernel
theorem dX5_write_19 : decode cX5_write 19 = .ok (.aload_n 0, 1) := by decide +kernel
theorem dX5_write_20 : decode cX5_write 20 = .ok (.getfield 22, 3) := by decide +kernel
theorem dX5_write_23 : decode cX5_write 23 = .ok (.aload_n 0, 1) := by decide +kernel
theorem dX5_write_24 : decode cX5_write 24 = .ok (.getfield 32, 3) := by decide +kernel
theorem dX5_write_27 : decode cX5_write 27 = .ok (.iload_n 2, 1) := by decide +kernel
theorem dX5_write_28 : decode cX5_write 28 = .ok (.iastore, 1) := by decide +kernel
theorem dX5_write_29 : decode cX5_write 29 = .ok (.aload_n 0, 1) := by decide +kernel
theorem dX5_write_30 : decode cX5_write 30 = .ok (.getfield 25, 3) := by decide +kernel
theorem dX5_write_33 : decode cX5_write 33 = .ok (.aload_n 0, 1) := by decide +kernel
theorem dX5_write_34 : decode cX5_write 34 = .ok (.getfield 32, 3) := by decide +kernel
theorem dX5_write_37 : decode cX5_write 37 = .ok (.iload_n 3, 1) := by decide +kernel
theorem dX5_write_38 : decode cX5_write 38 = .ok (.iastore, 1) := by decide +kernel
theorem dX5_write_39 : decode cX5_write 39 = .ok (.aload_n 0, 1) := by decide +kernel
theorem dX5_write_40 : decode cX5_write 40 = .ok (.dup, 1) := by decide +kernel
theorem dX5_write_41 : decode cX5_write 41 = .ok (.getfield 32, 3) := by decide +kernel
theorem dX5_write_44 : decode cX5_write 44 = .ok (.iconst 1, 1) := by decide +kernel
theorem dX5_write_45 : decode cX5_write 45 = .ok (.iadd, 1) := by decide +kernel
theorem dX5_write_46 : decode cX5_write 46 = .ok (.putfield 32, 3) := by decide +kernel
theorem dX5_write_49 : decode cX5_write 49 = .ok (.iconst (-1), 1) := by decide +kernel
theorem dX5_write_50 : decode cX5_write 50 = .ok (.aload_n 0, 1) := by decide +kernel
theorem dX5_write_51 : decode cX5_write 51 = .ok (.getfield 32, 3) := by decide +kernel
theorem dX5_write_54 : decode cX5_write 54 = .ok (.isub, 1) := by decide +kernel
theorem dX5_write_55 : decode cX5_write 55 = .ok (.ireturn, 1) := by decide +kernel
theorem dX5_copyFrom_0 : decode cX5_copyFrom 0 = .ok (.aload_n 0, 1) := by decide +kernel
theorem dX5_copyFrom_1 : decode cX5_copyFrom 1 = .ok (.aload_n 1, 1) := by decide +kernel
theorem dX5_copyFrom_2 : decode cX5_copyFrom 2 = .ok (.getfield 9, 3) := by decide +kernel
theorem dX5_copyFrom_5 : decode cX5_copyFrom 5 = .ok (.putfield 9, 3) := by decide +kernel
theorem dX5_copyFrom_8 : decode cX5_copyFrom 8 = .ok (.aload_n 0, 1) := by decide +kernel
theorem dX5_copyFrom_9 : decode cX5_copyFrom 9 = .ok (.aload_n 1, 1) := by decide +kernel
theorem dX5_copyFrom_10 : decode cX5_copyFrom 10 = .ok (.getfield 32, 3) := by decide +kernel
theorem dX5_copyFrom_13 : decode cX5_copyFrom 13 = .ok (.putfield 32, 3) := by decide +kernel
theorem dX5_copyFrom_16 : decode cX5_copyFrom 16 = .ok (.aload_n 0, 1) := by decide +kernel
theorem dX5_copyFrom_17 : decode cX5_copyFrom 17 = .ok (.aload_n 1, 1) := by decide +kernel
theorem dX5_copyFrom_18 : decode cX5_copyFrom 18 = .ok (.getfield 35, 3) := by decide +kernel
theorem dX5_copyFrom_21 : decode cX5_copyFrom 21 = .ok (.putfield 35, 3) := by decide +kernel
theorem dX5_copyFrom_24 : decode cX5_copyFrom 24 = .ok (.aload_n 0, 1) := by decide +kernel
theorem dX5_copyFrom_25 : decode cX5_copyFrom 25 = .ok (.aload_n 1, 1) := by decide +kernel
theorem dX5_copyFrom_26 : decode cX5_copyFrom 26 = .ok (.getfield 15, 3) := by decide +kernel
theorem dX5_copyFrom_29 : decode cX5_copyFrom 29 = .ok (.putfield 15, 3) := by decide +kernel
theorem dX5_copyFrom_32 : decode cX5_copyFrom 32 = .ok (.aload_n 0, 1) := by decide +kernel
theorem dX5_copyFrom_33 : decode cX5_copyFrom 33 = .ok (.aload_n 1, 1) := by decide +kernel
theorem dX5_copyFrom_34 : decode cX5_copyFrom 34 = .ok (.getfield 38, 3) := by decide +kernel
theorem dX5_copyFrom_37 : decode cX5_copyFrom 37 = .ok (.putfield 38, 3) := by decide +kernel
theorem dX5_copyFrom_40 : decode cX5_copyFrom 40 = .ok (.aload_n 1, 1) := by decide +kernel
theorem dX5_copyFrom_41 : decode cX5_copyFrom 41 = .ok (.getfield 18, 3) := by decide +kernel
theorem dX5_copyFrom_44 : decode cX5_copyFrom 44 = .ok (.iconst 0, 1) := by decide +kernel
theorem dX5_copyFrom_45 : decode cX5_copyFrom 45 = .ok (.aload_n 0, 1) := by decide +kernel
theorem dX5_copyFrom_46 : decode cX5_copyFrom 46 = .ok (.getfield 18, 3) := by decide +kernel
theorem dX5_copyFrom_49 : decode cX5_copyFrom 49 = .ok (.iconst 0, 1) := by decide +kernel
theorem dX5_copyFrom_50 : decode cX5_copyFrom 50 = .ok (.aload_n 0, 1) := by decide +kernel
theorem dX5_copyFrom_51 : decode cX5_copyFrom 51 = .ok (.getfield 32, 3) := by decide +kernel
theorem dX5_copyFrom_54 : decode cX5_copyFrom 54 = .ok (.invokestatic 41, 3) := by decide +kernel
theorem dX5_copyFrom_57 : decode cX5_copyFrom 57 = .ok (.aload_n 1, 1) := by decide +kernel
theorem dX5_copyFrom_58 : decode cX5_copyFrom 58 = .ok (.getfield 22, 3) := by decide +kernel
theorem dX5_copyFrom_61 : decode cX5_copyFrom 61 = .ok (.iconst 0, 1) := by decide +kernel
theorem dX5_copyFrom_62 : decode cX5_copyFrom 62 = .ok (.aload_n 0, 1) := by decide +kernel
theorem dX5_copyFrom_63 : decode cX5_copyFrom 63 = .ok (.getfield 22, 3) := by decide +kernel
theorem dX5_copyFrom_66 : decode cX5_copyFrom 66 = .ok (.iconst 0, 1) := by decide +kernel
theorem dX5_copyFrom_67 : decode cX5_copyFrom 67 = .ok (.aload_n 0, 1) := by decide +kernel
theorem dX5_copyFrom_68 : decode cX5_copyFrom 68 = .ok (.getfield 32, 3) := by decide +kernel
theorem dX5_copyFrom_71 : decode cX5_copyFrom 71 = .ok (.invokestatic 41, 3) := by decide +kernel
theorem dX5_copyFrom_74 : decode cX5_copyFrom 74 = .ok (.aload_n 1, 1) := by decide +kernel
theorem dX5_copyFrom_75 : decode cX5_copyFrom 75 = .ok (.getfield 25, 3) := by decide +kernel
theorem dX5_copyFrom_78 : decode cX5_copyFrom 78 = .ok (.iconst 0, 1) := by decide +kernel
theorem dX5_copyFrom_79 : decode cX5_copyFrom 79 = .ok (.aload_n 0, 1) := by decide +kernel
theorem dX5_copyFrom_80 : decode cX5_copyFrom 80 = .ok (.getfield 25, 3) := by decide +kernel
theorem dX5_copyFrom_83 : decode cX5_copyFrom 83 = .ok (.iconst 0, 1) := by decide +kernel
theorem dX5_copyFrom_84 : decode cX5_copyFrom 84 = .ok (.aload_n 0, 1) := by decide +kernel
theorem dX5_copyFrom_85 : decode cX5_copyFrom 85 = .ok (.getfield 32, 3) := by decide +kernel
theorem dX5_copyFrom_88 : decode cX5_copyFrom 88 = .ok (.invokestatic 41, 3) := by decide +kernel
theorem dX5_copyFrom_91 : decode cX5_copyFrom 91 = .ok (.return_, 1) := by decide +kernel
theorem dX6_bitsOf_0 : decode cX6_bitsOf 0 = .ok (.dload_n 0, 1) := by decide +kernel
theorem dX6_bitsOf_1 : decode cX6_bitsOf 1 = .ok (.dstore 4, 2) := by decide +kernel
theorem dX6_bitsOf_3 : decode cX6_bitsOf 3 = .ok (.iload_n 2, 1) := by decide +kernel
theorem dX6_bitsOf_4 : decode cX6_bitsOf 4 = .ok (.istore 6, 2) := by decide +kernel
theorem dX6_bitsOf_6 : decode cX6_bitsOf 6 = .ok (.iconst 0, 1) := by decide +kernel
theorem dX6_bitsOf_7 : decode cX6_bitsOf 7 = .ok (.istore 7, 2) := by decide +kernel
theorem dX6_bitsOf_9 : decode cX6_bitsOf 9 = .ok (.iload 7, 2) := by decide +kernel
theorem dX6_bitsOf_11 : decode cX6_bitsOf 11 = .ok (.bipush 17, 2) := by decide +kernel
theorem dX6_bitsOf_13 : decode cX6_bitsOf 13 = .ok (.if_icmp .ge 27, 3) := by decide +kernel
theorem dX6_bitsOf_16 : decode cX6_bitsOf 16 = .ok (.dload 4, 2) := by decide +kernel
theorem dX6_bitsOf_18 : decode cX6_bitsOf 18 = .ok (.dconst 1, 1) := by decide +kernel
theorem dX6_bitsOf_19 : decode cX6_bitsOf 19 = .ok (.dcmp .g, 1) := by decide +kernel
theorem dX6_bitsOf_20 : decode cX6_bitsOf 20 = .ok (.ifCond .ge 20, 3) := by decide +kernel
theorem dX6_bitsOf_23 : decode cX6_bitsOf 23 = .ok (.dload 4, 2) := by decide +kernel
theorem dX6_bitsOf_25 : decode cX6_bitsOf 25 = .ok (.ldc2_w 9, 3) := by decide +kernel
theorem dX6_bitsOf_28 : decode cX6_bitsOf 28 = .ok (.dmul, 1) := by decide +kernel
theorem dX6_bitsOf_29 : decode cX6_bitsOf 29 = .ok (.dstore 4, 2) := by decide +kernel
theorem dX6_bitsOf_31 : decode cX6_bitsOf 31 = .ok (.iinc 6 (-1), 3) := by decide +kernel
theorem dX6_bitsOf_34 : decode cX6_bitsOf 34 = .ok (.iinc 7 1, 3) := by decide +kernel
theorem dX6_bitsOf_37 : decode cX6_bitsOf 37 = .ok (.goto (-28), 3) := by decide +kernel
theorem dX6_bitsOf_40 : decode cX6_bitsOf 40 = .ok (.lconst 1, 1) := by decide +kernel
theorem dX6_bitsOf_41 : decode cX6_bitsOf 41 = .ok (.iload_n 3, 1) := by decide +kernel
theorem dX6_bitsOf_42 : decode cX6_bitsOf 42 = .ok (.lshl, 1) := by decide +kernel
theorem dX6_bitsOf_43 : decode cX6_bitsOf 43 = .ok (.lstore 7, 2) := by decide +kernel
theorem dX6_bitsOf_45 : decode cX6_bitsOf 45 = .ok (.iload 6, 2) := by decide +kernel
theorem dX6_bitsOf_47 : decode cX6_bitsOf 47 = .ok (.i2l, 1) := by decide +kernel
theorem dX6_bitsOf_48 : decode cX6_bitsOf 48 = .ok (.iload_n 3, 1) := by decide +kernel
theorem dX6_bitsOf_49 : decode cX6_bitsOf 49 = .ok (.lshl, 1) := by decide +kernel
theorem dX6_bitsOf_50 : decode cX6_bitsOf 50 = .ok (.dload 4, 2) := by decide +kernel
theorem dX6_bitsOf_52 : decode cX6_bitsOf 52 = .ok (.lload 7, 2) := by decide +kernel
theorem dX6_bitsOf_54 : decode cX6_bitsOf 54 = .ok (.l2d, 1) := by decide +kernel
theorem dX6_bitsOf_55 : decode cX6_bitsOf 55 = .ok (.dmul, 1) := by decide +kernel
theorem dX6_bitsOf_56 : decode cX6_bitsOf 56 = .ok (.d2l, 1) := by decide +kernel
theorem dX6_bitsOf_57 : decode cX6_bitsOf 57 = .ok (.ladd, 1) := by decide +kernel
theorem dX6_bitsOf_58 : decode cX6_bitsOf 58 = .ok (.lload 7, 2) := by decide +kernel
theorem dX6_bitsOf_60 : decode cX6_bitsOf 60 = .ok (.lsub, 1) := by decide +kernel
theorem dX6_bitsOf_61 : decode cX6_bitsOf 61 = .ok (.lreturn, 1) := by decide +kernel
theorem dX6_firstFloatMiss_0 : decode cX6_firstFloatMiss 0 = .ok (.iconst 0, 1) := by decide +kernel
theorem dX6_firstFloatMiss_1 : decode cX6_firstFloatMiss 1 = .ok (.istore_n 3, 1) := by decide +kernel
theorem dX6_firstFloatMiss_2 : decode cX6_firstFloatMiss 2 = .ok (.iload_n 3, 1) := by decide +kernel
theorem dX6_firstFloatMiss_3 : decode cX6_firstFloatMiss 3 = .ok (.iload_n 2, 1) := by decide +kernel
theorem dX6_firstFloatMiss_4 : decode cX6_firstFloatMiss 4 = .ok (.if_icmp .gt 36, 3) := by decide +kernel
theorem dX6_firstFloatMiss_7 : decode cX6_firstFloatMiss 7 = .ok (.iload_n 3, 1) := by decide +kernel
theorem dX6_firstFloatMiss_8 : decode cX6_firstFloatMiss 8 = .ok (.iload_n 1, 1) := by decide +kernel
theorem dX6_firstFloatMiss_9 : decode cX6_firstFloatMiss 9 = .ok (.imul, 1) := by decide +kernel
theorem dX6_firstFloatMiss_10 : decode cX6_firstFloatMiss 10 = .ok (.istore 4, 2) := by decide +kernel
theorem dX6_firstFloatMiss_12 : decode cX6_firstFloatMiss 12 = .ok (.iload 4, 2) := by decide +kernel
theorem dX6_firstFloatMiss_14 : decode cX6_firstFloatMiss 14 = .ok (.iload_n 2, 1) := by decide +kernel
theorem dX6_firstFloatMiss_15 : decode cX6_firstFloatMiss 15 = .ok (.if_icmp .le 6, 3) := by decide +kernel
theorem dX6_firstFloatMiss_18 : decode cX6_firstFloatMiss 18 = .ok (.goto 22, 3) := by decide +kernel
theorem dX6_firstFloatMiss_21 : decode cX6_firstFloatMiss 21 = .ok (.iload 4, 2) := by decide +kernel
theorem dX6_firstFloatMiss_23 : decode cX6_firstFloatMiss 23 = .ok (.i2f, 1) := by decide +kernel
theorem dX6_firstFloatMiss_24 : decode cX6_firstFloatMiss 24 = .ok (.fload_n 0, 1) := by decide +kernel
theorem dX6_firstFloatMiss_25 : decode cX6_firstFloatMiss 25 = .ok (.fmul, 1) := by decide +kernel
theorem dX6_firstFloatMiss_26 : decode cX6_firstFloatMiss 26 = .ok (.f2i, 1) := by decide +kernel
theorem dX6_firstFloatMiss_27 : decode cX6_firstFloatMiss 27 = .ok (.iload_n 3, 1) := by decide +kernel
theorem dX6_firstFloatMiss_28 : decode cX6_firstFloatMiss 28 = .ok (.if_icmp .eq 6, 3) := by decide +kernel
theorem dX6_firstFloatMiss_31 : decode cX6_firstFloatMiss 31 = .ok (.iload 4, 2) := by decide +kernel
theorem dX6_firstFloatMiss_33 : decode cX6_firstFloatMiss 33 = .ok (.ireturn, 1) := by decide +kernel
theorem dX6_firstFloatMiss_34 : decode cX6_firstFloatMiss 34 = .ok (.iinc 3 1, 3) := by decide +kernel
theorem dX6_firstFloatMiss_37 : decode cX6_firstFloatMiss 37 = .ok (.goto (-35), 3) := by decide +kernel
theorem dX6_firstFloatMiss_40 : decode cX6_firstFloatMiss 40 = .ok (.iconst (-1), 1) := by decide +kernel
theorem dX6_firstFloatMiss_41 : decode cX6_firstFloatMiss 41 = .ok (.ireturn, 1) := by decide +kernel
theorem dX6_firstDoubleMiss_0 : decode cX6_firstDoubleMiss 0 = .ok (.iconst 0, 1) := by decide +kernel
theorem dX6_firstDoubleMiss_1 : decode cX6_firstDoubleMiss 1 = .ok (.istore 4, 2) := by decide +kernel
theorem dX6_firstDoubleMiss_3 : decode cX6_firstDoubleMiss 3 = .ok (.iload 4, 2) := by decide +kernel
theorem dX6_firstDoubleMiss_5 : decode cX6_firstDoubleMiss 5 = .ok (.iload_n 3, 1) := by decide +kernel
theorem dX6_firstDoubleMiss_6 : decode cX6_firstDoubleMiss 6 = .ok (.if_icmp .gt 38, 3) := by decide +kernel
theorem dX6_firstDoubleMiss_9 : decode cX6_firstDoubleMiss 9 = .ok (.iload 4, 2) := by decide +kernel
theorem dX6_firstDoubleMiss_11 : decode cX6_firstDoubleMiss 11 = .ok (.iload_n 2, 1) := by decide +kernel
theorem dX6_firstDoubleMiss_12 : decode cX6_firstDoubleMiss 12 = .ok (.imul, 1) := by decide +kernel
theorem dX6_firstDoubleMiss_13 : decode cX6_firstDoubleMiss 13 = .ok (.istore 5, 2) := by decide +kernel
theorem dX6_firstDoubleMiss_15 : decode cX6_firstDoubleMiss 15 = .ok (.iload 5, 2) := by decide +kernel
theorem dX6_firstDoubleMiss_17 : decode cX6_firstDoubleMiss 17 = .ok (.iload_n 3, 1) := by decide +kernel
theorem dX6_firstDoubleMiss_18 : decode cX6_firstDoubleMiss 18 = .ok (.if_icmp .le 6, 3) := by decide +kernel
theorem dX6_firstDoubleMiss_21 : decode cX6_firstDoubleMiss 21 = .ok (.goto 23, 3) := by decide +kernel
theorem dX6_firstDoubleMiss_24 : decode cX6_firstDoubleMiss 24 = .ok (.iload 5, 2) := by decide +kernel
theorem dX6_firstDoubleMiss_26 : decode cX6_firstDoubleMiss 26 = .ok (.i2d, 1) := by decide +kernel
theorem dX6_firstDoubleMiss_27 : decode cX6_firstDoubleMiss 27 = .ok (.dload_n 0, 1) := by decide +kernel
theorem dX6_firstDoubleMiss_28 : decode cX6_firstDoubleMiss 28 = .ok (.dmul, 1) := by decide +kernel
theorem dX6_firstDoubleMiss_29 : decode cX6_firstDoubleMiss 29 = .ok (.d2i, 1) := by decide +kernel
theorem dX6_firstDoubleMiss_30 : decode cX6_firstDoubleMiss 30 = .ok (.iload 4, 2) := by decide +kernel
theorem dX6_firstDoubleMiss_32 : decode cX6_firstDoubleMiss 32 = .ok (.if_icmp .eq 6, 3) := by decide +kernel
theorem dX6_firstDoubleMiss_35 : decode cX6_firstDoubleMiss 35 = .ok (.iload 5, 2) := by decide +kernel
theorem dX6_firstDoubleMiss_37 : decode cX6_firstDoubleMiss 37 = .ok (.ireturn, 1) := by decide +kernel
theorem dX6_firstDoubleMiss_38 : decode cX6_firstDoubleMiss 38 = .ok (.iinc 4 1, 3) := by decide +kernel
theorem dX6_firstDoubleMiss_41 : decode cX6_firstDoubleMiss 41 = .ok (.goto (-38), 3) := by decide +kernel
theorem dX6_firstDoubleMiss_44 : decode cX6_firstDoubleMiss 44 = .ok (.iconst (-1), 1) := by decide +kernel
theorem dX6_firstDoubleMiss_45 : decode cX6_firstDoubleMiss 45 = .ok (.ireturn, 1) := by decide +kernel
theorem dX7_init_0 : decode cX7_init 0 = .ok (.aload_n 0, 1) := by decide +kernel
theorem dX7_init_1 : decode cX7_init 1 = .ok (.invokespecial 3, 3) := by decide +kernel
theorem dX7_init_4 : decode cX7_init 4 = .ok (.aload_n 0, 1) := by decide +kernel
theorem dX7_init_5 : decode cX7_init 5 = .ok (.bipush 41, 2) := by decide +kernel
theorem dX7_init_7 : decode cX7_init 7 = .ok (.newarray .int, 2) := by decide +kernel
theorem dX7_init_9 : decode cX7_init 9 = .ok (.putfield 9, 3) := by decide +kernel
theorem dX7_init_12 : decode cX7_init 12 = .ok (.aload_n 0, 1) := by decide +kernel
theorem dX7_init_13 : decode cX7_init 13 = .ok (.bipush 41, 2) := by decide +kernel
theorem dX7_init_15 : decode cX7_init 15 = .ok (.newarray .boolean, 2) := by decide +kernel
theorem dX7_init_17 : decode cX7_init 17 = .ok (.putfield 15, 3) := by decide +kernel
theorem dX7_init_20 : decode cX7_init 20 = .ok (.return_, 1) := by decide +kernel
theorem dX7_mergeEqual_0 : decode cX7_mergeEqual 0 = .ok (.iconst 0, 1) := by decide +kernel
theorem dX7_mergeEqual_1 : decode cX7_mergeEqual 1 = .ok (.istore_n 2, 1) := by decide +kernel
theorem dX7_mergeEqual_2 : decode cX7_mergeEqual 2 = .ok (.iconst 0, 1) := by decide +kernel
theorem dX7_mergeEqual_3 : decode cX7_mergeEqual 3 = .ok (.istore_n 3, 1) := by decide +kernel
theorem dX7_mergeEqual_4 : decode cX7_mergeEqual 4 = .ok (.iload_n 3, 1) := by decide +kernel
theorem dX7_mergeEqual_5 : decode cX7_mergeEqual 5 = .ok (.aload_n 1, 1) := by decide +kernel
theorem dX7_mergeEqual_6 : decode cX7_mergeEqual 6 = .ok (.getfield 19, 3) := by decide +kernel
theorem dX7_mergeEqual_9 : decode cX7_mergeEqual 9 = .ok (.if_icmp .ge 99, 3) := by decide +kernel
theorem dX7_mergeEqual_12 : decode cX7_mergeEqual 12 = .ok (.aload_n 1, 1) := by decide +kernel
theorem dX7_mergeEqual_13 : decode cX7_mergeEqual 13 = .ok (.getfield 25, 3) := by decide +kernel
theorem dX7_mergeEqual_16 : decode cX7_mergeEqual 16 = .ok (.iload_n 3, 1) := by decide +kernel
theorem dX7_mergeEqual_17 : decode cX7_mergeEqual 17 = .ok (.iaload, 1) := by decide +kernel
theorem dX7_mergeEqual_18 : decode cX7_mergeEqual 18 = .ok (.istore 4, 2) := by decide +kernel
theorem dX7_mergeEqual_20 : decode cX7_mergeEqual 20 = .ok (.aload_n 0, 1) := by decide +kernel
theorem dX7_mergeEqual_21 : decode cX7_mergeEqual 21 = .ok (.aload_n 1, 1) := by decide +kernel
theorem dX7_mergeEqual_22 : decode cX7_mergeEqual 22 = .ok (.getfield 28, 3) := by decide +kernel
theorem dX7_mergeEqual_25 : decode cX7_mergeEqual 25 = .ok (.iload_n 3, 1) := by decide +kernel
theorem dX7_mergeEqual_26 : decode cX7_mergeEqual 26 = .ok (.iaload, 1) := by decide +kernel
theorem dX7_mergeEqual_27 : decode cX7_mergeEqual 27 = .ok (.invokevirtual 31, 3) := by decide +kernel
theorem dX7_mergeEqual_30 : decode cX7_mergeEqual 30 = .ok (.istore 5, 2) := by decide +kernel
theorem dX7_mergeEqual_32 : decode cX7_mergeEqual 32 = .ok (.aload_n 0, 1) := by decide +kernel
theorem dX7_mergeEqual_33 : decode cX7_mergeEqual 33 = .ok (.aload_n 1, 1) := by decide +kernel
theorem dX7_mergeEqual_34 : decode cX7_mergeEqual 34 = .ok (.getfield 35, 3) := by decide +kernel
theorem dX7_mergeEqual_37 : decode cX7_mergeEqual 37 = .ok (.iload_n 3, 1) := by decide +kernel
theorem dX7_mergeEqual_38 : decode cX7_mergeEqual 38 = .ok (.iaload, 1) := by decide +kernel
theorem dX7_mergeEqual_39 : decode cX7_mergeEqual 39 = .ok (.invokevirtual 31, 3) := by decide +kernel
theorem dX7_mergeEqual_42 : decode cX7_mergeEqual 42 = .ok (.istore 6, 2) := by decide +kernel
theorem dX7_mergeEqual_44 : decode cX7_mergeEqual 44 = .ok (.aload_n 1, 1) := by decide +kernel
theorem dX7_mergeEqual_45 : decode cX7_mergeEqual 45 = .ok (.iload_n 2, 1) := by decide +kernel
theorem dX7_mergeEqual_46 : decode cX7_mergeEqual 46 = .ok (.iload 4, 2) := by decide +kernel
theorem dX7_mergeEqual_48 : decode cX7_mergeEqual 48 = .ok (.iload 5, 2) := by decide +kernel
theorem dX7_mergeEqual_50 : decode cX7_mergeEqual 50 = .ok (.iload 6, 2) := by decide +kernel
theorem dX7_mergeEqual_52 : decode cX7_mergeEqual 52 = .ok (.invokestatic 38, 3) := by decide +kernel
theorem dX7_mergeEqual_55 : decode cX7_mergeEqual 55 = .ok (.istore 7, 2) := by decide +kernel
theorem dX7_mergeEqual_57 : decode cX7_mergeEqual 57 = .ok (.iload 7, 2) := by decide +kernel
theorem dX7_mergeEqual_59 : decode cX7_mergeEqual 59 = .ok (.iload_n 2, 1) := by decide +kernel
theorem dX7_mergeEqual_60 : decode cX7_mergeEqual 60 = .ok (.if_icmp .ne 30, 3) := by decide +kernel
theorem dX7_mergeEqual_63 : decode cX7_mergeEqual 63 = .ok (.aload_n 1, 1) := by decide +kernel
theorem dX7_mergeEqual_64 : decode cX7_mergeEqual 64 = .ok (.getfield 25, 3) := by decide +kernel
theorem dX7_mergeEqual_67 : decode cX7_mergeEqual 67 = .ok (.iload_n 2, 1) := by decide +kernel
theorem dX7_mergeEqual_68 : decode cX7_mergeEqual 68 = .ok (.iload 4, 2) := by decide +kernel
theorem dX7_mergeEqual_70 : decode cX7_mergeEqual 70 = .ok (.iastore, 1) := by decide +kernel
theorem dX7_mergeEqual_71 : decode cX7_mergeEqual 71 = .ok (.aload_n 1, 1) := by decide +kernel
theorem dX7_mergeEqual_72 : decode cX7_mergeEqual 72 = .ok (.getfield 28, 3) := by decide +kernel
theorem dX7_mergeEqual_75 : decode cX7_mergeEqual 75 = .ok (.iload_n 2, 1) := by decide +kernel
theorem dX7_mergeEqual_76 : decode cX7_mergeEqual 76 = .ok (.iload 5, 2) := by decide +kernel
theorem dX7_mergeEqual_78 : decode cX7_mergeEqual 78 = .ok (.iastore, 1) := by decide +kernel
theorem dX7_mergeEqual_79 : decode cX7_mergeEqual 79 = .ok (.aload_n 1, 1) := by decide +kernel
theorem dX7_mergeEqual_80 : decode cX7_mergeEqual 80 = .ok (.getfield 35, 3) := by decide +kernel
theorem dX7_mergeEqual_83 : decode cX7_mergeEqual 83 = .ok (.iload_n 2, 1) := by decide +kernel
theorem dX7_mergeEqual_84 : decode cX7_mergeEqual 84 = .ok (.iload 6, 2) := by decide +kernel
theorem dX7_mergeEqual_86 : decode cX7_mergeEqual 86 = .ok (.iastore, 1) := by decide +kernel
theorem dX7_mergeEqual_87 : decode cX7_mergeEqual 87 = .ok (.iinc 2 1, 3) := by decide +kernel
theorem dX7_mergeEqual_90 : decode cX7_mergeEqual 90 = .ok (.aload_n 0, 1) := by decide +kernel
theorem dX7_mergeEqual_91 : decode cX7_mergeEqual 91 = .ok (.getfield 9, 3) := by decide +kernel
theorem dX7_mergeEqual_94 : decode cX7_mergeEqual 94 = .ok (.iload_n 3, 1) := by decide +kernel
theorem dX7_mergeEqual_95 : decode cX7_mergeEqual 95 = .ok (.iconst 1, 1) := by decide +kernel
theorem dX7_mergeEqual_96 : decode cX7_mergeEqual 96 = .ok (.iadd, 1) := by decide +kernel
theorem dX7_mergeEqual_97 : decode cX7_mergeEqual 97 = .ok (.iload 7, 2) := by decide +kernel
theorem dX7_mergeEqual_99 : decode cX7_mergeEqual 99 = .ok (.iconst 1, 1) := by decide +kernel
theorem dX7_mergeEqual_100 : decode cX7_mergeEqual 100 = .ok (.iadd, 1) := by decide +kernel
theorem dX7_mergeEqual_101 : decode cX7_mergeEqual 101 = .ok (.iastore, 1) := by decide +kernel
theorem dX7_mergeEqual_102 : decode cX7_mergeEqual 102 = .ok (.iinc 3 1, 3) := by decide +kernel
theorem dX7_mergeEqual_105 : decode cX7_mergeEqual 105 = .ok (.goto (-101), 3) := by decide +kernel
theorem dX7_mergeEqual_108 : decode cX7_mergeEqual 108 = .ok (.aload_n 1, 1) := by decide +kernel
theorem dX7_mergeEqual_109 : decode cX7_mergeEqual 109 = .ok (.iload_n 2, 1) := by decide +kernel
theorem dX7_mergeEqual_110 : decode cX7_mergeEqual 110 = .ok (.putfield 19, 3) := by decide +kernel
theorem dX7_mergeEqual_113 : decode cX7_mergeEqual 113 = .ok (.aload_n 1, 1) := by decide +kernel
theorem dX7_mergeEqual_114 : decode cX7_mergeEqual 114 = .ok (.aload_n 0, 1) := by decide +kernel
theorem dX7_mergeEqual_115 : decode cX7_mergeEqual 115 = .ok (.getfield 9, 3) := by decide +kernel
theorem dX7_mergeEqual_118 : decode cX7_mergeEqual 118 = .ok (.aload_n 1, 1) := by decide +kernel
theorem dX7_mergeEqual_119 : decode cX7_mergeEqual 119 = .ok (.getfield 42, 3) := by decide +kernel
theorem dX7_mergeEqual_122 : decode cX7_mergeEqual 122 = .ok (.iaload, 1) := by decide +kernel
theorem dX7_mergeEqual_123 : decode cX7_mergeEqual 123 = .ok (.putfield 42, 3) := by decide +kernel
theorem dX7_mergeEqual_126 : decode cX7_mergeEqual 126 = .ok (.return_, 1) := by decide +kernel
theorem dX7_findAmong_0 : decode cX7_findAmong 0 = .ok (.iconst 0, 1) := by decide +kernel
theorem dX7_findAmong_1 : decode cX7_findAmong 1 = .ok (.istore 5, 2) := by decide +kernel
theorem dX7_findAmong_3 : decode cX7_findAmong 3 = .ok (.iload 5, 2) := by decide +kernel
theorem dX7_findAmong_5 : decode cX7_findAmong 5 = .ok (.iload_n 1, 1) := by decide +kernel
theorem dX7_findAmong_6 : decode cX7_findAmong 6 = .ok (.if_icmp .ge 46, 3) := by decide +kernel
theorem dX7_findAmong_9 : decode cX7_findAmong 9 = .ok (.aload_n 0, 1) := by decide +kernel
theorem dX7_findAmong_10 : decode cX7_findAmong 10 = .ok (.getfield 25, 3) := by decide +kernel
theorem dX7_findAmong_13 : decode cX7_findAmong 13 = .ok (.iload 5, 2) := by decide +kernel
theorem dX7_findAmong_15 : decode cX7_findAmong 15 = .ok (.iaload, 1) := by decide +kernel
theorem dX7_findAmong_16 : decode cX7_findAmong 16 = .ok (.iload_n 2, 1) := by decide +kernel
theorem dX7_findAmong_17 : decode cX7_findAmong 17 = .ok (.if_icmp .ne 29, 3) := by decide +kernel
theorem dX7_findAmong_20 : decode cX7_findAmong 20 = .ok (.aload_n 0, 1) := by decide +kernel
theorem dX7_findAmong_21 : decode cX7_findAmong 21 = .ok (.getfield 28, 3) := by decide +kernel
theorem dX7_findAmong_24 : decode cX7_findAmong 24 = .ok (.iload 5, 2) := by decide +kernel
theorem dX7_findAmong_26 : decode cX7_findAmong 26 = .ok (.iaload, 1) := by decide +kernel
theorem dX7_findAmong_27 : decode cX7_findAmong 27 = .ok (.iload_n 3, 1) := by decide +kernel
theorem dX7_findAmong_28 : decode cX7_findAmong 28 = .ok (.if_icmp .ne 18, 3) := by decide +kernel
theorem dX7_findAmong_31 : decode cX7_findAmong 31 = .ok (.aload_n 0, 1) := by decide +kernel
theorem dX7_findAmong_32 : decode cX7_findAmong 32 = .ok (.getfield 35, 3) := by decide +kernel
theorem dX7_findAmong_35 : decode cX7_findAmong 35 = .ok (.iload 5, 2) := by decide +kernel
theorem dX7_findAmong_37 : decode cX7_findAmong 37 = .ok (.iaload, 1) := by decide +kernel
theorem dX7_findAmong_38 : decode cX7_findAmong 38 = .ok (.iload 4, 2) := by decide +kernel
theorem dX7_findAmong_40 : decode cX7_findAmong 40 = .ok (.if_icmp .ne 6, 3) := by decide +kernel
theorem dX7_findAmong_43 : decode cX7_findAmong 43 = .ok (.iload 5, 2) := by decide +kernel
theorem dX7_findAmong_45 : decode cX7_findAmong 45 = .ok (.ireturn, 1) := by decide +kernel
theorem dX7_findAmong_46 : decode cX7_findAmong 46 = .ok (.iinc 5 1, 3) := by decide +kernel
theorem dX7_findAmong_49 : decode cX7_findAmong 49 = .ok (.goto (-46), 3) := by decide +kernel
theorem dX7_findAmong_52 : decode cX7_findAmong 52 = .ok (.iload_n 1, 1) := by decide +kernel
theorem dX7_findAmong_53 : decode cX7_findAmong 53 = .ok (.ireturn, 1) := by decide +kernel
theorem dX7_removeUnneeded_0 : decode cX7_removeUnneeded 0 = .ok (.aload_n 0, 1) := by decide +kernel
theorem dX7_removeUnneeded_1 : decode cX7_removeUnneeded 1 = .ok (.aload_n 1, 1) := by decide +kernel
theorem dX7_removeUnneeded_2 : decode cX7_removeUnneeded 2 = .ok (.invokevirtual 45, 3) := by decide +kernel
theorem dX7_removeUnneeded_5 : decode cX7_removeUnneeded 5 = .ok (.iconst 0, 1) := by decide +kernel
theorem dX7_removeUnneeded_6 : decode cX7_removeUnneeded 6 = .ok (.istore_n 2, 1) := by decide +kernel
theorem dX7_removeUnneeded_7 : decode cX7_removeUnneeded 7 = .ok (.iconst 0, 1) := by decide +kernel
theorem dX7_removeUnneeded_8 : decode cX7_removeUnneeded 8 = .ok (.istore_n 3, 1) := by decide +kernel
theorem dX7_removeUnneeded_9 : decode cX7_removeUnneeded 9 = .ok (.iload_n 3, 1) := by decide +kernel
theorem dX7_removeUnneeded_10 : decode cX7_removeUnneeded 10 = .ok (.aload_n 1, 1) := by decide +kernel
theorem dX7_removeUnneeded_11 : decode cX7_removeUnneeded 11 = .ok (.getfield 19, 3) := by decide +kernel
theorem dX7_removeUnneeded_14 : decode cX7_removeUnneeded 14 = .ok (.if_icmp .ge 76, 3) := by decide +kernel
theorem dX7_removeUnneeded_17 : decode cX7_removeUnneeded 17 = .ok (.aload_n 0, 1) := by decide +kernel
theorem dX7_removeUnneeded_18 : decode cX7_removeUnneeded 18 = .ok (.getfield 15, 3) := by decide +kernel
theorem dX7_removeUnneeded_21 : decode cX7_removeUnneeded 21 = .ok (.iload_n 3, 1) := by decide +kernel
theorem dX7_removeUnneeded_22 : decode cX7_removeUnneeded 22 = .ok (.iconst 1, 1) := by decide +kernel
theorem dX7_removeUnneeded_23 : decode cX7_removeUnneeded 23 = .ok (.iadd, 1) := by decide +kernel
theorem dX7_removeUnneeded_24 : decode cX7_removeUnneeded 24 = .ok (.baload, 1) := by decide +kernel
theorem dX7_removeUnneeded_25 : decode cX7_removeUnneeded 25 = .ok (.ifCond .eq 59, 3) := by decide +kernel
theorem dX7_removeUnneeded_28 : decode cX7_removeUnneeded 28 = .ok (.aload_n 1, 1) := by decide +kernel
theorem dX7_removeUnneeded_29 : decode cX7_removeUnneeded 29 = .ok (.getfield 25, 3) := by decide +kernel
theorem dX7_removeUnneeded_32 : decode cX7_removeUnneeded 32 = .ok (.iload_n 2, 1) := by decide +kernel
theorem dX7_removeUnneeded_33 : decode cX7_removeUnneeded 33 = .ok (.aload_n 1, 1) := by decide +kernel
theorem dX7_removeUnneeded_34 : decode cX7_removeUnneeded 34 = .ok (.getfield 25, 3) := by decide +kernel
theorem dX7_removeUnneeded_37 : decode cX7_removeUnneeded 37 = .ok (.iload_n 3, 1) := by decide +kernel
theorem dX7_removeUnneeded_38 : decode cX7_removeUnneeded 38 = .ok (.iaload, 1) := by decide +kernel
theorem dX7_removeUnneeded_39 : decode cX7_removeUnneeded 39 = .ok (.iastore, 1) := by decide +kernel
theorem dX7_removeUnneeded_40 : decode cX7_removeUnneeded 40 = .ok (.aload_n 1, 1) := by decide +kernel
theorem dX7_removeUnneeded_41 : decode cX7_removeUnneeded 41 = .ok (.getfield 28, 3) := by decide +kernel
theorem dX7_removeUnneeded_44 : decode cX7_removeUnneeded 44 = .ok (.iload_n 2, 1) := by decide +kernel
theorem dX7_removeUnneeded_45 : decode cX7_removeUnneeded 45 = .ok (.aload_n 0, 1) := by decide +kernel
theorem dX7_removeUnneeded_46 : decode cX7_removeUnneeded 46 = .ok (.aload_n 1, 1) := by decide +kernel
theorem dX7_removeUnneeded_47 : decode cX7_removeUnneeded 47 = .ok (.getfield 28, 3) := by decide +kernel
theorem dX7_removeUnneeded_50 : decode cX7_removeUnneeded 50 = .ok (.iload_n 3, 1) := by decide +kernel
theorem dX7_removeUnneeded_51 : decode cX7_removeUnneeded 51 = .ok (.iaload, 1) := by decide +kernel
theorem dX7_removeUnneeded_52 : decode cX7_removeUnneeded 52 = .ok (.invokevirtual 31, 3) := by decide +kernel
theorem dX7_removeUnneeded_55 : decode cX7_removeUnneeded 55 = .ok (.iastore, 1) := by decide +kernel
theorem dX7_removeUnneeded_56 : decode cX7_removeUnneeded 56 = .ok (.aload_n 1, 1) := by decide +kernel
theorem dX7_removeUnneeded_57 : decode cX7_removeUnneeded 57 = .ok (.getfield 35, 3) := by decide +kernel
theorem dX7_removeUnneeded_60 : decode cX7_removeUnneeded 60 = .ok (.iload_n 2, 1) := by decide +kernel
theorem dX7_removeUnneeded_61 : decode cX7_removeUnneeded 61 = .ok (.aload_n 0, 1) := by decide +kernel
theorem dX7_removeUnneeded_62 : decode cX7_removeUnneeded 62 = .ok (.aload_n 1, 1) := by decide +kernel
theorem dX7_removeUnneeded_63 : decode cX7_removeUnneeded 63 = .ok (.getfield 35, 3) := by decide +kernel
theorem dX7_removeUnneeded_66 : decode cX7_removeUnneeded 66 = .ok (.iload_n 3, 1) := by decide +kernel
theorem dX7_removeUnneeded_67 : decode cX7_removeUnneeded 67 = .ok (.iaload, 1) := by decide +kernel
theorem dX7_removeUnneeded_68 : decode cX7_removeUnneeded 68 = .ok (.invokevirtual 31, 3) := by decide +kernel
theorem dX7_removeUnneeded_71 : decode cX7_removeUnneeded 71 = .ok (.iastore, 1) := by decide +kernel
theorem dX7_removeUnneeded_72 : decode cX7_removeUnneeded 72 = .ok (.iinc 2 1, 3) := by decide +kernel
theorem dX7_removeUnneeded_75 : decode cX7_removeUnneeded 75 = .ok (.aload_n 0, 1) := by decide +kernel
theorem dX7_removeUnneeded_76 : decode cX7_removeUnneeded 76 = .ok (.getfield 9, 3) := by decide +kernel
theorem dX7_removeUnneeded_79 : decode cX7_removeUnneeded 79 = .ok (.iload_n 3, 1) := by decide +kernel
theorem dX7_removeUnneeded_80 : decode cX7_removeUnneeded 80 = .ok (.iconst 1, 1) := by decide +kernel
theorem dX7_removeUnneeded_81 : decode cX7_removeUnneeded 81 = .ok (.iadd, 1) := by decide +kernel
theorem dX7_removeUnneeded_82 : decode cX7_removeUnneeded 82 = .ok (.iload_n 2, 1) := by decide +kernel
theorem dX7_removeUnneeded_83 : decode cX7_removeUnneeded 83 = .ok (.iastore, 1) := by decide +kernel
theorem dX7_removeUnneeded_84 : decode cX7_removeUnneeded 84 = .ok (.iinc 3 1, 3) := by decide +kernel
theorem dX7_removeUnneeded_87 : decode cX7_removeUnneeded 87 = .ok (.goto (-78), 3) := by decide +kernel
theorem dX7_removeUnneeded_90 : decode cX7_removeUnneeded 90 = .ok (.aload_n 1, 1) := by decide +kernel
theorem dX7_removeUnneeded_91 : decode cX7_removeUnneeded 91 = .ok (.iload_n 2, 1) := by decide +kernel
theorem dX7_removeUnneeded_92 : decode cX7_removeUnneeded 92 = .ok (.putfield 19, 3) := by decide +kernel
theorem dX7_removeUnneeded_95 : decode cX7_removeUnneeded 95 = .ok (.aload_n 1, 1) := by decide +kernel
theorem dX7_removeUnneeded_96 : decode cX7_removeUnneeded 96 = .ok (.aload_n 0, 1) := by decide +kernel
theorem dX7_removeUnneeded_97 : decode cX7_removeUnneeded 97 = .ok (.getfield 9, 3) := by decide +kernel
theorem dX7_removeUnneeded_100 : decode cX7_removeUnneeded 100 = .ok (.aload_n 1, 1) := by decide +kernel
theorem dX7_removeUnneeded_101 : decode cX7_removeUnneeded 101 = .ok (.getfield 42, 3) := by decide +kernel
theorem dX7_removeUnneeded_104 : decode cX7_removeUnneeded 104 = .ok (.iaload, 1) := by decide +kernel
theorem dX7_removeUnneeded_105 : decode cX7_removeUnneeded 105 = .ok (.putfield 42, 3) := by decide +kernel
theorem dX7_removeUnneeded_108 : decode cX7_removeUnneeded 108 = .ok (.return_, 1) := by decide +kernel
theorem dX7_markNeeded_0 : decode cX7_markNeeded 0 = .ok (.iconst 0, 1) := by decide +kernel
theorem dX7_markNeeded_1 : decode cX7_markNeeded 1 = .ok (.istore_n 2, 1) := by decide +kernel
theorem dX7_markNeeded_2 : decode cX7_markNeeded 2 = .ok (.iload_n 2, 1) := by decide +kernel
theorem dX7_markNeeded_3 : decode cX7_markNeeded 3 = .ok (.aload_n 1, 1) := by decide +kernel
theorem dX7_markNeeded_4 : decode cX7_markNeeded 4 = .ok (.getfield 19, 3) := by decide +kernel
theorem dX7_markNeeded_7 : decode cX7_markNeeded 7 = .ok (.if_icmp .gt 28, 3) := by decide +kernel
theorem dX7_markNeeded_10 : decode cX7_markNeeded 10 = .ok (.aload_n 0, 1) := by decide +kernel
theorem dX7_markNeeded_11 : decode cX7_markNeeded 11 = .ok (.getfield 15, 3) := by decide +kernel
theorem dX7_markNeeded_14 : decode cX7_markNeeded 14 = .ok (.iload_n 2, 1) := by decide +kernel
theorem dX7_markNeeded_15 : decode cX7_markNeeded 15 = .ok (.iload_n 2, 1) := by decide +kernel
theorem dX7_markNeeded_16 : decode cX7_markNeeded 16 = .ok (.aload_n 1, 1) := by decide +kernel
theorem dX7_markNeeded_17 : decode cX7_markNeeded 17 = .ok (.getfield 42, 3) := by decide +kernel
theorem dX7_markNeeded_20 : decode cX7_markNeeded 20 = .ok (.if_icmp .ne 7, 3) := by decide +kernel
theorem dX7_markNeeded_23 : decode cX7_markNeeded 23 = .ok (.iconst 1, 1) := by decide +kernel
theorem dX7_markNeeded_24 : decode cX7_markNeeded 24 = .ok (.goto 4, 3) := by decide +kernel
theorem dX7_markNeeded_27 : decode cX7_markNeeded 27 = .ok (.iconst 0, 1) := by decide +kernel
theorem dX7_markNeeded_28 : decode cX7_markNeeded 28 = .ok (.bastore, 1) := by decide +kernel
theorem dX7_markNeeded_29 : decode cX7_markNeeded 29 = .ok (.iinc 2 1, 3) := by decide +kernel
theorem dX7_markNeeded_32 : decode cX7_markNeeded 32 = .ok (.goto (-30), 3) := by decide +kernel
theorem dX7_markNeeded_35 : decode cX7_markNeeded 35 = .ok (.aload_n 1, 1) := by decide +kernel
theorem dX7_markNeeded_36 : decode cX7_markNeeded 36 = .ok (.getfield 19, 3) := by decide +kernel
theorem dX7_markNeeded_39 : decode cX7_markNeeded 39 = .ok (.iconst 1, 1) := by decide +kernel
theorem dX7_markNeeded_40 : decode cX7_markNeeded 40 = .ok (.isub, 1) := by decide +kernel
theorem dX7_markNeeded_41 : decode cX7_markNeeded 41 = .ok (.istore_n 2, 1) := by decide +kernel
theorem dX7_markNeeded_42 : decode cX7_markNeeded 42 = .ok (.iload_n 2, 1) := by decide +kernel
theorem dX7_markNeeded_43 : decode cX7_markNeeded 43 = .ok (.ifCond .lt 40, 3) := by decide +kernel
theorem dX7_markNeeded_46 : decode cX7_markNeeded 46 = .ok (.aload_n 0, 1) := by decide +kernel
theorem dX7_markNeeded_47 : decode cX7_markNeeded 47 = .ok (.getfield 15, 3) := by decide +kernel
theorem dX7_markNeeded_50 : decode cX7_markNeeded 50 = .ok (.iload_n 2, 1) := by decide +kernel
theorem dX7_markNeeded_51 : decode cX7_markNeeded 51 = .ok (.iconst 1, 1) := by decide +kernel
theorem dX7_markNeeded_52 : decode cX7_markNeeded 52 = .ok (.iadd, 1) := by decide +kernel
theorem dX7_markNeeded_53 : decode cX7_markNeeded 53 = .ok (.baload, 1) := by decide +kernel
theorem dX7_markNeeded_54 : decode cX7_markNeeded 54 = .ok (.ifCond .eq 23, 3) := by decide +kernel
theorem dX7_markNeeded_57 : decode cX7_markNeeded 57 = .ok (.aload_n 0, 1) := by decide +kernel
theorem dX7_markNeeded_58 : decode cX7_markNeeded 58 = .ok (.aload_n 1, 1) := by decide +kernel
theorem dX7_markNeeded_59 : decode cX7_markNeeded 59 = .ok (.getfield 28, 3) := by decide +kernel
theorem dX7_markNeeded_62 : decode cX7_markNeeded 62 = .ok (.iload_n 2, 1) := by decide +kernel
theorem dX7_markNeeded_63 : decode cX7_markNeeded 63 = .ok (.iaload, 1) := by decide +kernel
theorem dX7_markNeeded_64 : decode cX7_markNeeded 64 = .ok (.invokevirtual 49, 3) := by decide +kernel
theorem dX7_markNeeded_67 : decode cX7_markNeeded 67 = .ok (.aload_n 0, 1) := by decide +kernel
theorem dX7_markNeeded_68 : decode cX7_markNeeded 68 = .ok (.aload_n 1, 1) := by decide +kernel
theorem dX7_markNeeded_69 : decode cX7_markNeeded 69 = .ok (.getfield 35, 3) := by decide +kernel
theorem dX7_markNeeded_72 : decode cX7_markNeeded 72 = .ok (.iload_n 2, 1) := by decide +kernel
theorem dX7_markNeeded_73 : decode cX7_markNeeded 73 = .ok (.iaload, 1) := by decide +kernel
theorem dX7_markNeeded_74 : decode cX7_markNeeded 74 = .ok (.invokevirtual 49, 3) := by decide +kernel
theorem dX7_markNeeded_77 : decode cX7_markNeeded 77 = .ok (.iinc 2 (-1), 3) := by decide +kernel
theorem dX7_markNeeded_80 : decode cX7_markNeeded 80 = .ok (.goto (-38), 3) := by decide +kernel
theorem dX7_markNeeded_83 : decode cX7_markNeeded 83 = .ok (.return_, 1) := by decide +kernel
theorem dX7_markOperand_0 : decode cX7_markOperand 0 = .ok (.iload_n 1, 1) := by decide +kernel
theorem dX7_markOperand_1 : decode cX7_markOperand 1 = .ok (.invokestatic 53, 3) := by decide +kernel
theorem dX7_markOperand_4 : decode cX7_markOperand 4 = .ok (.ifCond .eq 13, 3) := by decide +kernel
theorem dX7_markOperand_7 : decode cX7_markOperand 7 = .ok (.aload_n 0, 1) := by decide +kernel
theorem dX7_markOperand_8 : decode cX7_markOperand 8 = .ok (.getfield 15, 3) := by decide +kernel
theorem dX7_markOperand_11 : decode cX7_markOperand 11 = .ok (.iload_n 1, 1) := by decide +kernel
theorem dX7_markOperand_12 : decode cX7_markOperand 12 = .ok (.invokestatic 57, 3) := by decide +kernel
theorem dX7_markOperand_15 : decode cX7_markOperand 15 = .ok (.iconst 1, 1) := by decide +kernel
theorem dX7_markOperand_16 : decode cX7_markOperand 16 = .ok (.bastore, 1) := by decide +kernel
theorem dX7_markOperand_17 : decode cX7_markOperand 17 = .ok (.return_, 1) := by decide +kernel
theorem dX7_renumbered_0 : decode cX7_renumbered 0 = .ok (.iload_n 1, 1) := by decide +kernel
theorem dX7_renumbered_1 : decode cX7_renumbered 1 = .ok (.invokestatic 53, 3) := by decide +kernel
theorem dX7_renumbered_4 : decode cX7_renumbered 4 = .ok (.ifCond .eq 18, 3) := by decide +kernel
theorem dX7_renumbered_7 : decode cX7_renumbered 7 = .ok (.aload_n 0, 1) := by decide +kernel
theorem dX7_renumbered_8 : decode cX7_renumbered 8 = .ok (.getfield 9, 3) := by decide +kernel
theorem dX7_renumbered_11 : decode cX7_renumbered 11 = .ok (.iload_n 1, 1) := by decide +kernel
theorem dX7_renumbered_12 : decode cX7_renumbered 12 = .ok (.invokestatic 57, 3) := by decide +kernel
theorem dX7_renumbered_15 : decode cX7_renumbered 15 = .ok (.iaload, 1) := by decide +kernel
theorem dX7_renumbered_16 : decode cX7_renumbered 16 = .ok (.invokestatic 60, 3) := by decide +kernel
theorem dX7_renumbered_19 : decode cX7_renumbered 19 = .ok (.goto 4, 3) := by decide +kernel
theorem dX7_renumbered_22 : decode cX7_renumbered 22 = .ok (.iload_n 1, 1) := by decide +kernel
theorem dX7_renumbered_23 : decode cX7_renumbered 23 = .ok (.ireturn, 1) := by decide +kernel
theorem dX8_init_0 : decode cX8_init 0 = .ok (.aload_n 0, 1) := by decide +kernel
theorem dX8_init_1 : decode cX8_init 1 = .ok (.invokespecial 1, 3) := by decide +kernel
theorem dX8_init_4 : decode cX8_init 4 = .ok (.aload_n 0, 1) := by decide +kernel
theorem dX8_init_5 : decode cX8_init 5 = .ok (.new 7, 3) := by decide +kernel
theorem dX8_init_8 : decode cX8_init 8 = .ok (.dup, 1) := by decide +kernel
theorem dX8_init_9 : decode cX8_init 9 = .ok (.invokespecial 9, 3) := by decide +kernel
theorem dX8_init_12 : decode cX8_init 12 = .ok (.putfield 10, 3) := by decide +kernel
theorem dX8_init_15 : decode cX8_init 15 = .ok (.aload_n 0, 1) := by decide +kernel
theorem dX8_init_16 : decode cX8_init 16 = .ok (.aload_n 0, 1) := by decide +kernel
theorem dX8_init_17 : decode cX8_init 17 = .ok (.getfield 10, 3) := by decide +kernel
theorem dX8_init_20 : decode cX8_init 20 = .ok (.getfield 16, 3) := by decide +kernel
theorem dX8_init_23 : decode cX8_init 23 = .ok (.putfield 20, 3) := by decide +kernel
theorem dX8_init_26 : decode cX8_init 26 = .ok (.aload_n 0, 1) := by decide +kernel
theorem dX8_init_27 : decode cX8_init 27 = .ok (.aload_n 0, 1) := by decide +kernel
theorem dX8_init_28 : decode cX8_init 28 = .ok (.getfield 10, 3) := by decide +kernel
theorem dX8_init_31 : decode cX8_init 31 = .ok (.getfield 21, 3) := by decide +kernel
theorem dX8_init_34 : decode cX8_init 34 = .ok (.putfield 25, 3) := by decide +kernel
theorem dX8_init_37 : decode cX8_init 37 = .ok (.aload_n 0, 1) := by decide +kernel
theorem dX8_init_38 : decode cX8_init 38 = .ok (.new 26, 3) := by decide +kernel
theorem dX8_init_41 : decode cX8_init 41 = .ok (.dup, 1) := by decide +kernel
theorem dX8_init_42 : decode cX8_init 42 = .ok (.invokespecial 28, 3) := by decide +kernel
theorem dX8_init_45 : decode cX8_init 45 = .ok (.putfield 29, 3) := by decide +kernel
theorem dX8_init_48 : decode cX8_init 48 = .ok (.aload_n 0, 1) := by decide +kernel
theorem dX8_init_49 : decode cX8_init 49 = .ok (.new 33, 3) := by decide +kernel
theorem dX8_init_52 : decode cX8_init 52 = .ok (.dup, 1) := by decide +kernel
theorem dX8_init_53 : decode cX8_init 53 = .ok (.invokespecial 35, 3) := by decide +kernel
theorem dX8_init_56 : decode cX8_init 56 = .ok (.putfield 36, 3) := by decide +kernel
theorem dX8_init_59 : decode cX8_init 59 = .ok (.aload_n 0, 1) := by decide +kernel
theorem dX8_init_60 : decode cX8_init 60 = .ok (.new 40, 3) := by decide +kernel
theorem dX8_init_63 : decode cX8_init 63 = .ok (.dup, 1) := by decide +kernel
theorem dX8_init_64 : decode cX8_init 64 = .ok (.invokespecial 42, 3) := by decide +kernel
theorem dX8_init_67 : decode cX8_init 67 = .ok (.putfield 43, 3) := by decide +kernel
theorem dX8_init_70 : decode cX8_init 70 = .ok (.aload_n 0, 1) := by decide +kernel
theorem dX8_init_71 : decode cX8_init 71 = .ok (.new 47, 3) := by decide +kernel
theorem dX8_init_74 : decode cX8_init 74 = .ok (.dup, 1) := by decide +kernel
theorem dX8_init_75 : decode cX8_init 75 = .ok (.invokespecial 49, 3) := by decide +kernel
theorem dX8_init_78 : decode cX8_init 78 = .ok (.putfield 50, 3) := by decide +kernel
theorem dX8_init_81 : decode cX8_init 81 = .ok (.return_, 1) := by decide +kernel
theorem dX8_setWidth_0 : decode cX8_setWidth 0 = .ok (.iload_n 1, 1) := by decide +kernel
theorem dX8_setWidth_1 : decode cX8_setWidth 1 = .ok (.iconst 4, 1) := by decide +kernel
theorem dX8_setWidth_2 : decode cX8_setWidth 2 = .ok (.if_icmp .lt 9, 3) := by decide +kernel
theorem dX8_setWidth_5 : decode cX8_setWidth 5 = .ok (.iload_n 1, 1) := by decide +kernel
theorem dX8_setWidth_6 : decode cX8_setWidth 6 = .ok (.bipush 16, 2) := by decide +kernel
theorem dX8_setWidth_8 : decode cX8_setWidth 8 = .ok (.if_icmp .le 13, 3) := by decide +kernel
theorem dX8_setWidth_11 : decode cX8_setWidth 11 = .ok (.new 54, 3) := by decide +kernel
theorem dX8_setWidth_14 : decode cX8_setWidth 14 = .ok (.dup, 1) := by decide +kernel
theorem dX8_setWidth_15 : decode cX8_setWidth 15 = .ok (.ldc 56, 2) := by decide +kernel
theorem dX8_setWidth_17 : decode cX8_setWidth 17 = .ok (.invokespecial 58, 3) := by decide +kernel
theorem dX8_setWidth_20 : decode cX8_setWidth 20 = .ok (.athrow, 1) := by decide +kernel
theorem dX8_setWidth_21 : decode cX8_setWidth 21 = .ok (.aload_n 0, 1) := by decide +kernel
theorem dX8_setWidth_22 : decode cX8_setWidth 22 = .ok (.getfield 20, 3) := by decide +kernel
theorem dX8_setWidth_25 : decode cX8_setWidth 25 = .ok (.getfield 61, 3) := by decide +kernel
theorem dX8_setWidth_28 : decode cX8_setWidth 28 = .ok (.istore_n 2, 1) := by decide +kernel
theorem dX8_setWidth_29 : decode cX8_setWidth 29 = .ok (.aload_n 0, 1) := by decide +kernel
theorem dX8_setWidth_30 : decode cX8_setWidth 30 = .ok (.getfield 29, 3) := by decide +kernel
theorem dX8_setWidth_33 : decode cX8_setWidth 33 = .ok (.aload_n 0, 1) := by decide +kernel
theorem dX8_setWidth_34 : decode cX8_setWidth 34 = .ok (.getfield 20, 3) := by decide +kernel
theorem dX8_setWidth_37 : decode cX8_setWidth 37 = .ok (.invokevirtual 67, 3) := by decide +kernel
theorem dX8_setWidth_40 : decode cX8_setWidth 40 = .ok (.aload_n 0, 1) := by decide +kernel
theorem dX8_setWidth_41 : decode cX8_setWidth 41 = .ok (.getfield 20, 3) := by decide +kernel
theorem dX8_setWidth_44 : decode cX8_setWidth 44 = .ok (.iload_n 1, 1) := by decide +kernel
theorem dX8_setWidth_45 : decode cX8_setWidth 45 = .ok (.putfield 61, 3) := by decide +kernel
theorem dX8_setWidth_48 : decode cX8_setWidth 48 = .ok (.aload_n 0, 1) := by decide +kernel
theorem dX8_setWidth_49 : decode cX8_setWidth 49 = .ok (.getfield 20, 3) := by decide +kernel
theorem dX8_setWidth_52 : decode cX8_setWidth 52 = .ok (.invokevirtual 71, 3) := by decide +kernel
theorem dX8_setWidth_55 : decode cX8_setWidth 55 = .ok (.aload_n 0, 1) := by decide +kernel
theorem dX8_setWidth_56 : decode cX8_setWidth 56 = .ok (.getfield 20, 3) := by decide +kernel
theorem dX8_setWidth_59 : decode cX8_setWidth 59 = .ok (.iconst (-1), 1) := by decide +kernel
theorem dX8_setWidth_60 : decode cX8_setWidth 60 = .ok (.putfield 74, 3) := by decide +kernel
theorem dX8_setWidth_63 : decode cX8_setWidth 63 = .ok (.aload_n 0, 1) := by decide +kernel
theorem dX8_setWidth_64 : decode cX8_setWidth 64 = .ok (.getfield 20, 3) := by decide +kernel
theorem dX8_setWidth_67 : decode cX8_setWidth 67 = .ok (.iconst 0, 1) := by decide +kernel
theorem dX8_setWidth_68 : decode cX8_setWidth 68 = .ok (.putfield 77, 3) := by decide +kernel
theorem dX8_setWidth_71 : decode cX8_setWidth 71 = .ok (.iload_n 2, 1) := by decide +kernel
theorem dX8_setWidth_72 : decode cX8_setWidth 72 = .ok (.ireturn, 1) := by decide +kernel
theorem dX8_width_0 : decode cX8_width 0 = .ok (.aload_n 0, 1) := by decide +kernel
theorem dX8_width_1 : decode cX8_width 1 = .ok (.getfield 20, 3) := by decide +kernel
theorem dX8_width_4 : decode cX8_width 4 = .ok (.getfield 61, 3) := by decide +kernel
theorem dX8_width_7 : decode cX8_width 7 = .ok (.ireturn, 1) := by decide +kernel
theorem dX8_setCost_0 : decode cX8_setCost 0 = .ok (.iload_n 1, 1) := by decide +kernel
theorem dX8_setCost_1 : decode cX8_setCost 1 = .ok (.ifCond .lt 12, 3) := by decide +kernel
theorem dX8_setCost_4 : decode cX8_setCost 4 = .ok (.iload_n 1, 1) := by decide +kernel
theorem dX8_setCost_5 : decode cX8_setCost 5 = .ok (.aload_n 0, 1) := by decide +kernel
theorem dX8_setCost_6 : decode cX8_setCost 6 = .ok (.getfield 25, 3) := by decide +kernel
theorem dX8_setCost_9 : decode cX8_setCost 9 = .ok (.arraylength, 1) := by decide +kernel
theorem dX8_setCost_10 : decode cX8_setCost 10 = .ok (.if_icmp .lt 13, 3) := by decide +kernel
theorem dX8_setCost_13 : decode cX8_setCost 13 = .ok (.new 80, 3) := by decide +kernel
theorem dX8_setCost_16 : decode cX8_setCost 16 = .ok (.dup, 1) := by decide +kernel
theorem dX8_setCost_17 : decode cX8_setCost 17 = .ok (.ldc 82, 2) := by decide +kernel
theorem dX8_setCost_19 : decode cX8_setCost 19 = .ok (.invokespecial 84, 3) := by decide +kernel
theorem dX8_setCost_22 : decode cX8_setCost 22 = .ok (.athrow, 1) := by decide +kernel
theorem dX8_setCost_23 : decode cX8_setCost 23 = .ok (.iload_n 2, 1) := by decide +kernel
theorem dX8_setCost_24 : decode cX8_setCost 24 = .ok (.iconst 1, 1) := by decide +kernel
theorem dX8_setCost_25 : decode cX8_setCost 25 = .ok (.if_icmp .lt 9, 3) := by decide +kernel
theorem dX8_setCost_28 : decode cX8_setCost 28 = .ok (.iload_n 2, 1) := by decide +kernel
theorem dX8_setCost_29 : decode cX8_setCost 29 = .ok (.bipush 20, 2) := by decide +kernel
theorem dX8_setCost_31 : decode cX8_setCost 31 = .ok (.if_icmp .le 13, 3) := by decide +kernel
theorem dX8_setCost_34 : decode cX8_setCost 34 = .ok (.new 54, 3) := by decide +kernel
theorem dX8_setCost_37 : decode cX8_setCost 37 = .ok (.dup, 1) := by decide +kernel
theorem dX8_setCost_38 : decode cX8_setCost 38 = .ok (.ldc 85, 2) := by decide +kernel
theorem dX8_setCost_40 : decode cX8_setCost 40 = .ok (.invokespecial 58, 3) := by decide +kernel
theorem dX8_setCost_43 : decode cX8_setCost 43 = .ok (.athrow, 1) := by decide +kernel
theorem dX8_setCost_44 : decode cX8_setCost 44 = .ok (.aload_n 0, 1) := by decide +kernel
theorem dX8_setCost_45 : decode cX8_setCost 45 = .ok (.getfield 25, 3) := by decide +kernel
theorem dX8_setCost_48 : decode cX8_setCost 48 = .ok (.iload_n 1, 1) := by decide +kernel
theorem dX8_setCost_49 : decode cX8_setCost 49 = .ok (.iaload, 1) := by decide +kernel
theorem dX8_setCost_50 : decode cX8_setCost 50 = .ok (.istore_n 3, 1) := by decide +kernel
theorem dX8_setCost_51 : decode cX8_setCost 51 = .ok (.aload_n 0, 1) := by decide +kernel
theorem dX8_setCost_52 : decode cX8_setCost 52 = .ok (.getfield 25, 3) := by decide +kernel
theorem dX8_setCost_55 : decode cX8_setCost 55 = .ok (.iload_n 1, 1) := by decide +kernel
theorem dX8_setCost_56 : decode cX8_setCost 56 = .ok (.iload_n 2, 1) := by decide +kernel
theorem dX8_setCost_57 : decode cX8_setCost 57 = .ok (.iastore, 1) := by decide +kernel
theorem dX8_setCost_58 : decode cX8_setCost 58 = .ok (.iload_n 3, 1) := by decide +kernel
theorem dX8_setCost_59 : decode cX8_setCost 59 = .ok (.ireturn, 1) := by decide +kernel
theorem dX8_multiplier_0 : decode cX8_multiplier 0 = .ok (.iload_n 1, 1) := by decide +kernel
theorem dX8_multiplier_1 : decode cX8_multiplier 1 = .ok (.iconst 1, 1) := by decide +kernel
theorem dX8_multiplier_2 : decode cX8_multiplier 2 = .ok (.aload_n 0, 1) := by decide +kernel
theorem dX8_multiplier_3 : decode cX8_multiplier 3 = .ok (.invokevirtual 87, 3) := by decide +kernel
theorem dX8_multiplier_6 : decode cX8_multiplier 6 = .ok (.invokestatic 91, 3) := by decide +kernel
theorem dX8_multiplier_9 : decode cX8_multiplier 9 = .ok (.iload_n 1, 1) := by decide +kernel
theorem dX8_multiplier_10 : decode cX8_multiplier 10 = .ok (.invokestatic 95, 3) := by decide +kernel
theorem dX8_multiplier_13 : decode cX8_multiplier 13 = .ok (.ifCond .eq 5, 3) := by decide +kernel
theorem dX8_multiplier_16 : decode cX8_multiplier 16 = .ok (.iconst 0, 1) := by decide +kernel
theorem dX8_multiplier_17 : decode cX8_multiplier 17 = .ok (.ireturn, 1) := by decide +kernel
theorem dX8_multiplier_18 : decode cX8_multiplier 18 = .ok (.aload_n 0, 1) := by decide +kernel
theorem dX8_multiplier_19 : decode cX8_multiplier 19 = .ok (.getfield 20, 3) := by decide +kernel
theorem dX8_multiplier_22 : decode cX8_multiplier 22 = .ok (.getfield 61, 3) := by decide +kernel
theorem dX8_multiplier_25 : decode cX8_multiplier 25 = .ok (.iload_n 1, 1) := by decide +kernel
theorem dX8_multiplier_26 : decode cX8_multiplier 26 = .ok (.aload_n 0, 1) := by decide +kernel
theorem dX8_multiplier_27 : decode cX8_multiplier 27 = .ok (.getfield 20, 3) := by decide +kernel
theorem dX8_multiplier_30 : decode cX8_multiplier 30 = .ok (.getfield 61, 3) := by decide +kernel
theorem dX8_multiplier_33 : decode cX8_multiplier 33 = .ok (.iload_n 1, 1) := by decide +kernel
theorem dX8_multiplier_34 : decode cX8_multiplier 34 = .ok (.iconst 0, 1) := by decide +kernel
theorem dX8_multiplier_35 : decode cX8_multiplier 35 = .ok (.invokestatic 101, 3) := by decide +kernel
theorem dX8_multiplier_38 : decode cX8_multiplier 38 = .ok (.invokestatic 105, 3) := by decide +kernel
theorem dX8_multiplier_41 : decode cX8_multiplier 41 = .ok (.ireturn, 1) := by decide +kernel
theorem dX8_shift_0 : decode cX8_shift 0 = .ok (.iload_n 1, 1) := by decide +kernel
theorem dX8_shift_1 : decode cX8_shift 1 = .ok (.iconst 1, 1) := by decide +kernel
theorem dX8_shift_2 : decode cX8_shift 2 = .ok (.aload_n 0, 1) := by decide +kernel
theorem dX8_shift_3 : decode cX8_shift 3 = .ok (.invokevirtual 87, 3) := by decide +kernel
theorem dX8_shift_6 : decode cX8_shift 6 = .ok (.invokestatic 91, 3) := by decide +kernel
theorem dX8_shift_9 : decode cX8_shift 9 = .ok (.iload_n 1, 1) := by decide +kernel
theorem dX8_shift_10 : decode cX8_shift 10 = .ok (.invokestatic 95, 3) := by decide +kernel
theorem dX8_shift_13 : decode cX8_shift 13 = .ok (.ifCond .eq 8, 3) := by decide +kernel
theorem dX8_shift_16 : decode cX8_shift 16 = .ok (.iload_n 1, 1) := by decide +kernel
theorem dX8_shift_17 : decode cX8_shift 17 = .ok (.invokestatic 108, 3) := by decide +kernel
theorem dX8_shift_20 : decode cX8_shift 20 = .ok (.ireturn, 1) := by decide +kernel
theorem dX8_shift_21 : decode cX8_shift 21 = .ok (.aload_n 0, 1) := by decide +kernel
theorem dX8_shift_22 : decode cX8_shift 22 = .ok (.getfield 20, 3) := by decide +kernel
theorem dX8_shift_25 : decode cX8_shift 25 = .ok (.getfield 61, 3) := by decide +kernel
theorem dX8_shift_28 : decode cX8_shift 28 = .ok (.iload_n 1, 1) := by decide +kernel
theorem dX8_shift_29 : decode cX8_shift 29 = .ok (.iconst 0, 1) := by decide +kernel
theorem dX8_shift_30 : decode cX8_shift 30 = .ok (.invokestatic 101, 3) := by decide +kernel
theorem dX8_shift_33 : decode cX8_shift 33 = .ok (.ireturn, 1) := by decide +kernel
theorem dX8_signedMultiplier_0 : decode cX8_signedMultiplier 0 = .ok (.iload_n 1, 1) := by decide +kernel
theorem dX8_signedMultiplier_1 : decode cX8_signedMultiplier 1 = .ok (.iconst 1, 1) := by decide +kernel
theorem dX8_signedMultiplier_2 : decode cX8_signedMultiplier 2 = .ok (.aload_n 0, 1) := by decide +kernel
theorem dX8_signedMultiplier_3 : decode cX8_signedMultiplier 3 = .ok (.invokevirtual 87, 3) := by decide +kernel
theorem dX8_signedMultiplier_6 : decode cX8_signedMultiplier 6 = .ok (.iconst 1, 1) := by decide +kernel
theorem dX8_signedMultiplier_7 : decode cX8_signedMultiplier 7 = .ok (.ishr, 1) := by decide +kernel
theorem dX8_signedMultiplier_8 : decode cX8_signedMultiplier 8 = .ok (.invokestatic 91, 3) := by decide +kernel
theorem dX8_signedMultiplier_11 : decode cX8_signedMultiplier 11 = .ok (.iload_n 1, 1) := by decide +kernel
theorem dX8_signedMultiplier_12 : decode cX8_signedMultiplier 12 = .ok (.invokestatic 95, 3) := by decide +kernel
theorem dX8_signedMultiplier_15 : decode cX8_signedMultiplier 15 = .ok (.ifCond .eq 5, 3) := by decide +kernel
theorem dX8_signedMultiplier_18 : decode cX8_signedMultiplier 18 = .ok (.iconst 0, 1) := by decide +kernel
theorem dX8_signedMultiplier_19 : decode cX8_signedMultiplier 19 = .ok (.ireturn, 1) := by decide +kernel
theorem dX8_signedMultiplier_20 : decode cX8_signedMultiplier 20 = .ok (.aload_n 0, 1) := by decide +kernel
theorem dX8_signedMultiplier_21 : decode cX8_signedMultiplier 21 = .ok (.getfield 20, 3) := by decide +kernel
theorem dX8_signedMultiplier_24 : decode cX8_signedMultiplier 24 = .ok (.getfield 61, 3) := by decide +kernel
theorem dX8_signedMultiplier_27 : decode cX8_signedMultiplier 27 = .ok (.iload_n 1, 1) := by decide +kernel
theorem dX8_signedMultiplier_28 : decode cX8_signedMultiplier 28 = .ok (.aload_n 0, 1) := by decide +kernel
theorem dX8_signedMultiplier_29 : decode cX8_signedMultiplier 29 = .ok (.getfield 20, 3) := by decide +kernel
theorem dX8_signedMultiplier_32 : decode cX8_signedMultiplier 32 = .ok (.getfield 61, 3) := by decide +kernel
theorem dX8_signedMultiplier_35 : decode cX8_signedMultiplier 35 = .ok (.iload_n 1, 1) := by decide +kernel
theorem dX8_signedMultiplier_36 : decode cX8_signedMultiplier 36 = .ok (.iconst 1, 1) := by decide +kernel
theorem dX8_signedMultiplier_37 : decode cX8_signedMultiplier 37 = .ok (.invokestatic 101, 3) := by decide +kernel
theorem dX8_signedMultiplier_40 : decode cX8_signedMultiplier 40 = .ok (.invokestatic 105, 3) := by decide +kernel
theorem dX8_signedMultiplier_43 : decode cX8_signedMultiplier 43 = .ok (.ireturn, 1) := by decide +kernel
theorem dX8_inverse_0 : decode cX8_inverse 0 = .ok (.iload_n 1, 1) := by decide +kernel
theorem dX8_inverse_1 : decode cX8_inverse 1 = .ok (.iconst 1, 1) := by decide +kernel
theorem dX8_inverse_2 : decode cX8_inverse 2 = .ok (.aload_n 0, 1) := by decide +kernel
theorem dX8_inverse_3 : decode cX8_inverse 3 = .ok (.invokevirtual 87, 3) := by decide +kernel
theorem dX8_inverse_6 : decode cX8_inverse 6 = .ok (.invokestatic 91, 3) := by decide +kernel
theorem dX8_inverse_9 : decode cX8_inverse 9 = .ok (.iload_n 1, 1) := by decide +kernel
theorem dX8_inverse_10 : decode cX8_inverse 10 = .ok (.iconst 1, 1) := by decide +kernel
theorem dX8_inverse_11 : decode cX8_inverse 11 = .ok (.iand, 1) := by decide +kernel
theorem dX8_inverse_12 : decode cX8_inverse 12 = .ok (.ifCond .ne 13, 3) := by decide +kernel
theorem dX8_inverse_15 : decode cX8_inverse 15 = .ok (.new 54, 3) := by decide +kernel
theorem dX8_inverse_18 : decode cX8_inverse 18 = .ok (.dup, 1) := by decide +kernel
theorem dX8_inverse_19 : decode cX8_inverse 19 = .ok (.ldc 114, 2) := by decide +kernel
theorem dX8_inverse_21 : decode cX8_inverse 21 = .ok (.invokespecial 58, 3) := by decide +kernel
theorem dX8_inverse_24 : decode cX8_inverse 24 = .ok (.athrow, 1) := by decide +kernel
theorem dX8_inverse_25 : decode cX8_inverse 25 = .ok (.iload_n 1, 1) := by decide +kernel
theorem dX8_inverse_26 : decode cX8_inverse 26 = .ok (.aload_n 0, 1) := by decide +kernel
theorem dX8_inverse_27 : decode cX8_inverse 27 = .ok (.getfield 20, 3) := by decide +kernel
theorem dX8_inverse_30 : decode cX8_inverse 30 = .ok (.getfield 61, 3) := by decide +kernel
theorem dX8_inverse_33 : decode cX8_inverse 33 = .ok (.invokestatic 116, 3) := by decide +kernel
theorem dX8_inverse_36 : decode cX8_inverse 36 = .ok (.ireturn, 1) := by decide +kernel
theorem dX8_digits_0 : decode cX8_digits 0 = .ok (.iload_n 1, 1) := by decide +kernel
theorem dX8_digits_1 : decode cX8_digits 1 = .ok (.iconst 0, 1) := by decide +kernel
theorem dX8_digits_2 : decode cX8_digits 2 = .ok (.aload_n 0, 1) := by decide +kernel
theorem dX8_digits_3 : decode cX8_digits 3 = .ok (.invokevirtual 87, 3) := by decide +kernel
theorem dX8_digits_6 : decode cX8_digits 6 = .ok (.invokestatic 91, 3) := by decide +kernel
theorem dX8_digits_9 : decode cX8_digits 9 = .ok (.iload_n 1, 1) := by decide +kernel
theorem dX8_digits_10 : decode cX8_digits 10 = .ok (.aload_n 0, 1) := by decide +kernel
theorem dX8_digits_11 : decode cX8_digits 11 = .ok (.getfield 20, 3) := by decide +kernel
theorem dX8_digits_14 : decode cX8_digits 14 = .ok (.getfield 61, 3) := by decide +kernel
theorem dX8_digits_17 : decode cX8_digits 17 = .ok (.invokestatic 120, 3) := by decide +kernel
theorem dX8_digits_20 : decode cX8_digits 20 = .ok (.ireturn, 1) := by decide +kernel
theorem dX8_build_0 : decode cX8_build 0 = .ok (.aload_n 0, 1) := by decide +kernel
theorem dX8_build_1 : decode cX8_build 1 = .ok (.iload_n 1, 1) := by decide +kernel
theorem dX8_build_2 : decode cX8_build 2 = .ok (.iload_n 2, 1) := by decide +kernel
theorem dX8_build_3 : decode cX8_build 3 = .ok (.invokevirtual 123, 3) := by decide +kernel
theorem dX8_build_6 : decode cX8_build 6 = .ok (.aload_n 0, 1) := by decide +kernel
theorem dX8_build_7 : decode cX8_build 7 = .ok (.getfield 29, 3) := by decide +kernel
theorem dX8_build_10 : decode cX8_build 10 = .ok (.aload_n 0, 1) := by decide +kernel
theorem dX8_build_11 : decode cX8_build 11 = .ok (.getfield 20, 3) := by decide +kernel
theorem dX8_build_14 : decode cX8_build 14 = .ok (.invokevirtual 67, 3) := by decide +kernel
theorem dX8_build_17 : decode cX8_build 17 = .ok (.aload_n 0, 1) := by decide +kernel
theorem dX8_build_18 : decode cX8_build 18 = .ok (.getfield 20, 3) := by decide +kernel
theorem dX8_build_21 : decode cX8_build 21 = .ok (.invokevirtual 71, 3) := by decide +kernel
theorem dX8_build_24 : decode cX8_build 24 = .ok (.aload_n 0, 1) := by decide +kernel
theorem dX8_build_25 : decode cX8_build 25 = .ok (.getfield 20, 3) := by decide +kernel
theorem dX8_build_28 : decode cX8_build 28 = .ok (.iload_n 1, 1) := by decide +kernel
theorem dX8_build_29 : decode cX8_build 29 = .ok (.putfield 74, 3) := by decide +kernel
theorem dX8_build_32 : decode cX8_build 32 = .ok (.aload_n 0, 1) := by decide +kernel
theorem dX8_build_33 : decode cX8_build 33 = .ok (.getfield 20, 3) := by decide +kernel
theorem dX8_build_36 : decode cX8_build 36 = .ok (.iload_n 2, 1) := by decide +kernel
theorem dX8_build_37 : decode cX8_build 37 = .ok (.putfield 77, 3) := by decide +kernel
theorem dX8_build_40 : decode cX8_build 40 = .ok (.aload_n 0, 1) := by decide +kernel
theorem dX8_build_41 : decode cX8_build 41 = .ok (.getfield 20, 3) := by decide +kernel
theorem dX8_build_44 : decode cX8_build 44 = .ok (.aload_n 0, 1) := by decide +kernel
theorem dX8_build_45 : decode cX8_build 45 = .ok (.getfield 10, 3) := by decide +kernel
theorem dX8_build_48 : decode cX8_build 48 = .ok (.iload_n 1, 1) := by decide +kernel
theorem dX8_build_49 : decode cX8_build 49 = .ok (.iload_n 2, 1) := by decide +kernel
theorem dX8_build_50 : decode cX8_build 50 = .ok (.invokevirtual 127, 3) := by decide +kernel
theorem dX8_build_53 : decode cX8_build 53 = .ok (.invokestatic 130, 3) := by decide +kernel
theorem dX8_build_56 : decode cX8_build 56 = .ok (.putfield 133, 3) := by decide +kernel
theorem dX8_build_59 : decode cX8_build 59 = .ok (.aload_n 0, 1) := by decide +kernel
theorem dX8_build_60 : decode cX8_build 60 = .ok (.getfield 20, 3) := by decide +kernel
theorem dX8_build_63 : decode cX8_build 63 = .ok (.getfield 136, 3) := by decide +kernel
theorem dX8_build_66 : decode cX8_build 66 = .ok (.ireturn, 1) := by decide +kernel
theorem dX8_setTask_0 : decode cX8_setTask 0 = .ok (.aload_n 0, 1) := by decide +kernel
theorem dX8_setTask_1 : decode cX8_setTask 1 = .ok (.iload_n 1, 1) := by decide +kernel
theorem dX8_setTask_2 : decode cX8_setTask 2 = .ok (.iload_n 2, 1) := by decide +kernel
theorem dX8_setTask_3 : decode cX8_setTask 3 = .ok (.invokevirtual 123, 3) := by decide +kernel
theorem dX8_setTask_6 : decode cX8_setTask 6 = .ok (.aload_n 0, 1) := by decide +kernel
theorem dX8_setTask_7 : decode cX8_setTask 7 = .ok (.getfield 20, 3) := by decide +kernel
theorem dX8_setTask_10 : decode cX8_setTask 10 = .ok (.getfield 74, 3) := by decide +kernel
theorem dX8_setTask_13 : decode cX8_setTask 13 = .ok (.istore_n 3, 1) := by decide +kernel
theorem dX8_setTask_14 : decode cX8_setTask 14 = .ok (.aload_n 0, 1) := by decide +kernel
theorem dX8_setTask_15 : decode cX8_setTask 15 = .ok (.getfield 29, 3) := by decide +kernel
theorem dX8_setTask_18 : decode cX8_setTask 18 = .ok (.aload_n 0, 1) := by decide +kernel
theorem dX8_setTask_19 : decode cX8_setTask 19 = .ok (.getfield 20, 3) := by decide +kernel
theorem dX8_setTask_22 : decode cX8_setTask 22 = .ok (.invokevirtual 67, 3) := by decide +kernel
theorem dX8_setTask_25 : decode cX8_setTask 25 = .ok (.aload_n 0, 1) := by decide +kernel
theorem dX8_setTask_26 : decode cX8_setTask 26 = .ok (.getfield 20, 3) := by decide +kernel
theorem dX8_setTask_29 : decode cX8_setTask 29 = .ok (.iload_n 1, 1) := by decide +kernel
theorem dX8_setTask_30 : decode cX8_setTask 30 = .ok (.putfield 74, 3) := by decide +kernel
theorem dX8_setTask_33 : decode cX8_setTask 33 = .ok (.aload_n 0, 1) := by decide +kernel
theorem dX8_setTask_34 : decode cX8_setTask 34 = .ok (.getfield 20, 3) := by decide +kernel
theorem dX8_setTask_37 : decode cX8_setTask 37 = .ok (.iload_n 2, 1) := by decide +kernel
theorem dX8_setTask_38 : decode cX8_setTask 38 = .ok (.putfield 77, 3) := by decide +kernel
theorem dX8_setTask_41 : decode cX8_setTask 41 = .ok (.iload_n 3, 1) := by decide +kernel
theorem dX8_setTask_42 : decode cX8_setTask 42 = .ok (.ireturn, 1) := by decide +kernel
theorem dX8_append_0 : decode cX8_append 0 = .ok (.iload_n 1, 1) := by decide +kernel
theorem dX8_append_1 : decode cX8_append 1 = .ok (.ifCond .lt 9, 3) := by decide +kernel
theorem dX8_append_4 : decode cX8_append 4 = .ok (.iload_n 1, 1) := by decide +kernel
theorem dX8_append_5 : decode cX8_append 5 = .ok (.bipush 11, 2) := by decide +kernel
theorem dX8_append_7 : decode cX8_append 7 = .ok (.if_icmp .le 13, 3) := by decide +kernel
theorem dX8_append_10 : decode cX8_append 10 = .ok (.new 54, 3) := by decide +kernel
theorem dX8_append_13 : decode cX8_append 13 = .ok (.dup, 1) := by decide +kernel
theorem dX8_append_14 : decode cX8_append 14 = .ok (.ldc 139, 2) := by decide +kernel
theorem dX8_append_16 : decode cX8_append 16 = .ok (.invokespecial 58, 3) := by decide +kernel
theorem dX8_append_19 : decode cX8_append 19 = .ok (.athrow, 1) := by decide +kernel
theorem dX8_append_20 : decode cX8_append 20 = .ok (.aload_n 0, 1) := by decide +kernel
theorem dX8_append_21 : decode cX8_append 21 = .ok (.getfield 20, 3) := by decide +kernel
theorem dX8_append_24 : decode cX8_append 24 = .ok (.iload_n 2, 1) := by decide +kernel
theorem dX8_append_25 : decode cX8_append 25 = .ok (.iload_n 3, 1) := by decide +kernel
theorem dX8_append_26 : decode cX8_append 26 = .ok (.invokevirtual 141, 3) := by decide +kernel
theorem dX8_append_29 : decode cX8_append 29 = .ok (.ifCond .eq 17, 3) := by decide +kernel
theorem dX8_append_32 : decode cX8_append 32 = .ok (.aload_n 0, 1) := by decide +kernel
theorem dX8_append_33 : decode cX8_append 33 = .ok (.getfield 20, 3) := by decide +kernel
theorem dX8_append_36 : decode cX8_append 36 = .ok (.iload 4, 2) := by decide +kernel
theorem dX8_append_38 : decode cX8_append 38 = .ok (.iload 5, 2) := by decide +kernel
theorem dX8_append_40 : decode cX8_append 40 = .ok (.invokevirtual 141, 3) := by decide +kernel
theorem dX8_append_43 : decode cX8_append 43 = .ok (.ifCond .ne 13, 3) := by decide +kernel
theorem dX8_append_46 : decode cX8_append 46 = .ok (.new 54, 3) := by decide +kernel
theorem dX8_append_49 : decode cX8_append 49 = .ok (.dup, 1) := by decide +kernel
theorem dX8_append_50 : decode cX8_append 50 = .ok (.ldc 145, 2) := by decide +kernel
theorem dX8_append_52 : decode cX8_append 52 = .ok (.invokespecial 58, 3) := by decide +kernel
theorem dX8_append_55 : decode cX8_append 55 = .ok (.athrow, 1) := by decide +kernel
theorem dX8_append_56 : decode cX8_append 56 = .ok (.iload_n 1, 1) := by decide +kernel
theorem dX8_append_57 : decode cX8_append 57 = .ok (.invokestatic 147, 3) := by decide +kernel
theorem dX8_append_60 : decode cX8_append 60 = .ok (.ifCond .eq 30, 3) := by decide +kernel
theorem dX8_append_63 : decode cX8_append 63 = .ok (.iload 4, 2) := by decide +kernel
theorem dX8_append_65 : decode cX8_append 65 = .ok (.ifCond .eq 15, 3) := by decide +kernel
theorem dX8_append_68 : decode cX8_append 68 = .ok (.iload 5, 2) := by decide +kernel
theorem dX8_append_70 : decode cX8_append 70 = .ok (.aload_n 0, 1) := by decide +kernel
theorem dX8_append_71 : decode cX8_append 71 = .ok (.getfield 20, 3) := by decide +kernel
theorem dX8_append_74 : decode cX8_append 74 = .ok (.getfield 61, 3) := by decide +kernel
theorem dX8_append_77 : decode cX8_append 77 = .ok (.if_icmp .lt 13, 3) := by decide +kernel
theorem dX8_append_80 : decode cX8_append 80 = .ok (.new 54, 3) := by decide +kernel
theorem dX8_append_83 : decode cX8_append 83 = .ok (.dup, 1) := by decide +kernel
theorem dX8_append_84 : decode cX8_append 84 = .ok (.ldc 150, 2) := by decide +kernel
theorem dX8_append_86 : decode cX8_append 86 = .ok (.invokespecial 58, 3) := by decide +kernel
theorem dX8_append_89 : decode cX8_append 89 = .ok (.athrow, 1) := by decide +kernel
theorem dX8_append_90 : decode cX8_append 90 = .ok (.aload_n 0, 1) := by decide +kernel
theorem dX8_append_91 : decode cX8_append 91 = .ok (.getfield 20, 3) := by decide +kernel
theorem dX8_append_94 : decode cX8_append 94 = .ok (.getfield 136, 3) := by decide +kernel
theorem dX8_append_97 : decode cX8_append 97 = .ok (.bipush 40, 2) := by decide +kernel
theorem dX8_append_99 : decode cX8_append 99 = .ok (.if_icmp .lt 13, 3) := by decide +kernel
theorem dX8_append_102 : decode cX8_append 102 = .ok (.new 152, 3) := by decide +kernel
theorem dX8_append_105 : decode cX8_append 105 = .ok (.dup, 1) := by decide +kernel
theorem dX8_append_106 : decode cX8_append 106 = .ok (.ldc 154, 2) := by decide +kernel
theorem dX8_append_108 : decode cX8_append 108 = .ok (.invokespecial 156, 3) := by decide +kernel
theorem dX8_append_111 : decode cX8_append 111 = .ok (.athrow, 1) := by decide +kernel
theorem dX8_append_112 : decode cX8_append 112 = .ok (.aload_n 0, 1) := by decide +kernel
theorem dX8_append_113 : decode cX8_append 113 = .ok (.getfield 29, 3) := by decide +kernel
theorem dX8_append_116 : decode cX8_append 116 = .ok (.aload_n 0, 1) := by decide +kernel
theorem dX8_append_117 : decode cX8_append 117 = .ok (.getfield 20, 3) := by decide +kernel
theorem dX8_append_120 : decode cX8_append 120 = .ok (.invokevirtual 67, 3) := by decide +kernel
theorem dX8_append_123 : decode cX8_append 123 = .ok (.iload_n 2, 1) := by decide +kernel
theorem dX8_append_124 : decode cX8_append 124 = .ok (.ifCond .eq 7, 3) := by decide +kernel
theorem dX8_append_127 : decode cX8_append 127 = .ok (.iload_n 3, 1) := by decide +kernel
theorem dX8_append_128 : decode cX8_append 128 = .ok (.goto 7, 3) := by decide +kernel
theorem dX8_append_131 : decode cX8_append 131 = .ok (.iload_n 3, 1) := by decide +kernel
theorem dX8_append_132 : decode cX8_append 132 = .ok (.invokestatic 157, 3) := by decide +kernel
theorem dX8_append_135 : decode cX8_append 135 = .ok (.istore 6, 2) := by decide +kernel
theorem dX8_append_137 : decode cX8_append 137 = .ok (.iload 4, 2) := by decide +kernel
theorem dX8_append_139 : decode cX8_append 139 = .ok (.ifCond .eq 8, 3) := by decide +kernel
theorem dX8_append_142 : decode cX8_append 142 = .ok (.iload 5, 2) := by decide +kernel
theorem dX8_append_144 : decode cX8_append 144 = .ok (.goto 8, 3) := by decide +kernel
theorem dX8_append_147 : decode cX8_append 147 = .ok (.iload 5, 2) := by decide +kernel
theorem dX8_append_149 : decode cX8_append 149 = .ok (.invokestatic 157, 3) := by decide +kernel
theorem dX8_append_152 : decode cX8_append 152 = .ok (.istore 7, 2) := by decide +kernel
theorem dX8_append_154 : decode cX8_append 154 = .ok (.aload_n 0, 1) := by decide +kernel
theorem dX8_append_155 : decode cX8_append 155 = .ok (.getfield 20, 3) := by decide +kernel
theorem dX8_append_158 : decode cX8_append 158 = .ok (.aload_n 0, 1) := by decide +kernel
theorem dX8_append_159 : decode cX8_append 159 = .ok (.getfield 20, 3) := by decide +kernel
theorem dX8_append_162 : decode cX8_append 162 = .ok (.iload_n 1, 1) := by decide +kernel
theorem dX8_append_163 : decode cX8_append 163 = .ok (.iload 6, 2) := by decide +kernel
theorem dX8_append_165 : decode cX8_append 165 = .ok (.iload 7, 2) := by decide +kernel
theorem dX8_append_167 : decode cX8_append 167 = .ok (.invokevirtual 160, 3) := by decide +kernel
theorem dX8_append_170 : decode cX8_append 170 = .ok (.invokestatic 130, 3) := by decide +kernel
theorem dX8_append_173 : decode cX8_append 173 = .ok (.putfield 133, 3) := by decide +kernel
theorem dX8_append_176 : decode cX8_append 176 = .ok (.aload_n 0, 1) := by decide +kernel
theorem dX8_append_177 : decode cX8_append 177 = .ok (.getfield 20, 3) := by decide +kernel
theorem dX8_append_180 : decode cX8_append 180 = .ok (.getfield 136, 3) := by decide +kernel
theorem dX8_append_183 : decode cX8_append 183 = .ok (.ireturn, 1) := by decide +kernel
theorem dX8_setResult_0 : decode cX8_setResult 0 = .ok (.aload_n 0, 1) := by decide +kernel
theorem dX8_setResult_1 : decode cX8_setResult 1 = .ok (.iload_n 1, 1) := by decide +kernel
theorem dX8_setResult_2 : decode cX8_setResult 2 = .ok (.invokevirtual 163, 3) := by decide +kernel
theorem dX8_setResult_5 : decode cX8_setResult 5 = .ok (.aload_n 0, 1) := by decide +kernel
theorem dX8_setResult_6 : decode cX8_setResult 6 = .ok (.getfield 20, 3) := by decide +kernel
theorem dX8_setResult_9 : decode cX8_setResult 9 = .ok (.getfield 133, 3) := by decide +kernel
theorem dX8_setResult_12 : decode cX8_setResult 12 = .ok (.istore_n 2, 1) := by decide +kernel
theorem dX8_setResult_13 : decode cX8_setResult 13 = .ok (.aload_n 0, 1) := by decide +kernel
theorem dX8_setResult_14 : decode cX8_setResult 14 = .ok (.getfield 29, 3) := by decide +kernel
theorem dX8_setResult_17 : decode cX8_setResult 17 = .ok (.aload_n 0, 1) := by decide +kernel
theorem dX8_setResult_18 : decode cX8_setResult 18 = .ok (.getfield 20, 3) := by decide +kernel
theorem dX8_setResult_21 : decode cX8_setResult 21 = .ok (.invokevirtual 67, 3) := by decide +kernel
theorem dX8_setResult_24 : decode cX8_setResult 24 = .ok (.aload_n 0, 1) := by decide +kernel
theorem dX8_setResult_25 : decode cX8_setResult 25 = .ok (.getfield 20, 3) := by decide +kernel
theorem dX8_setResult_28 : decode cX8_setResult 28 = .ok (.iload_n 1, 1) := by decide +kernel
theorem dX8_setResult_29 : decode cX8_setResult 29 = .ok (.putfield 133, 3) := by decide +kernel
theorem dX8_setResult_32 : decode cX8_setResult 32 = .ok (.iload_n 2, 1) := by decide +kernel
theorem dX8_setResult_33 : decode cX8_setResult 33 = .ok (.ireturn, 1) := by decide +kernel
theorem dX8_drop_0 : decode cX8_drop 0 = .ok (.aload_n 0, 1) := by decide +kernel
theorem dX8_drop_1 : decode cX8_drop 1 = .ok (.getfield 20, 3) := by decide +kernel
theorem dX8_drop_4 : decode cX8_drop 4 = .ok (.getfield 136, 3) := by decide +kernel
theorem dX8_drop_7 : decode cX8_drop 7 = .ok (.ifCond .ne 13, 3) := by decide +kernel
theorem dX8_drop_10 : decode cX8_drop 10 = .ok (.new 152, 3) := by decide +kernel
theorem dX8_drop_13 : decode cX8_drop 13 = .ok (.dup, 1) := by decide +kernel
theorem dX8_drop_14 : decode cX8_drop 14 = .ok (.ldc 167, 2) := by decide +kernel
theorem dX8_drop_16 : decode cX8_drop 16 = .ok (.invokespecial 156, 3) := by decide +kernel
theorem dX8_drop_19 : decode cX8_drop 19 = .ok (.athrow, 1) := by decide +kernel
theorem dX8_drop_20 : decode cX8_drop 20 = .ok (.aload_n 0, 1) := by decide +kernel
theorem dX8_drop_21 : decode cX8_drop 21 = .ok (.getfield 29, 3) := by decide +kernel
theorem dX8_drop_24 : decode cX8_drop 24 = .ok (.aload_n 0, 1) := by decide +kernel
theorem dX8_drop_25 : decode cX8_drop 25 = .ok (.getfield 20, 3) := by decide +kernel
theorem dX8_drop_28 : decode cX8_drop 28 = .ok (.invokevirtual 67, 3) := by decide +kernel
theorem dX8_drop_31 : decode cX8_drop 31 = .ok (.aload_n 0, 1) := by decide +kernel
theorem dX8_drop_32 : decode cX8_drop 32 = .ok (.getfield 20, 3) := by decide +kernel
theorem dX8_drop_35 : decode cX8_drop 35 = .ok (.dup, 1) := by decide +kernel
theorem dX8_drop_36 : decode cX8_drop 36 = .ok (.getfield 136, 3) := by decide +kernel
theorem dX8_drop_39 : decode cX8_drop 39 = .ok (.iconst 1, 1) := by decide +kernel
theorem dX8_drop_40 : decode cX8_drop 40 = .ok (.isub, 1) := by decide +kernel
theorem dX8_drop_41 : decode cX8_drop 41 = .ok (.putfield 136, 3) := by decide +kernel
theorem dX8_drop_44 : decode cX8_drop 44 = .ok (.aload_n 0, 1) := by decide +kernel
theorem dX8_drop_45 : decode cX8_drop 45 = .ok (.getfield 20, 3) := by decide +kernel
theorem dX8_drop_48 : decode cX8_drop 48 = .ok (.aload_n 0, 1) := by decide +kernel
theorem dX8_drop_49 : decode cX8_drop 49 = .ok (.getfield 20, 3) := by decide +kernel
theorem dX8_drop_52 : decode cX8_drop 52 = .ok (.getfield 133, 3) := by decide +kernel
theorem dX8_drop_55 : decode cX8_drop 55 = .ok (.aload_n 0, 1) := by decide +kernel
theorem dX8_drop_56 : decode cX8_drop 56 = .ok (.getfield 20, 3) := by decide +kernel
theorem dX8_drop_59 : decode cX8_drop 59 = .ok (.getfield 136, 3) := by decide +kernel
theorem dX8_drop_62 : decode cX8_drop 62 = .ok (.invokestatic 169, 3) := by decide +kernel
theorem dX8_drop_65 : decode cX8_drop 65 = .ok (.putfield 133, 3) := by decide +kernel
theorem dX8_drop_68 : decode cX8_drop 68 = .ok (.aload_n 0, 1) := by decide +kernel
theorem dX8_drop_69 : decode cX8_drop 69 = .ok (.getfield 20, 3) := by decide +kernel
theorem dX8_drop_72 : decode cX8_drop 72 = .ok (.getfield 136, 3) := by decide +kernel
theorem dX8_drop_75 : decode cX8_drop 75 = .ok (.ireturn, 1) := by decide +kernel
theorem dX8_tidy_0 : decode cX8_tidy 0 = .ok (.aload_n 0, 1) := by decide +kernel
theorem dX8_tidy_1 : decode cX8_tidy 1 = .ok (.getfield 20, 3) := by decide +kernel
theorem dX8_tidy_4 : decode cX8_tidy 4 = .ok (.getfield 136, 3) := by decide +kernel
theorem dX8_tidy_7 : decode cX8_tidy 7 = .ok (.istore_n 1, 1) := by decide +kernel
theorem dX8_tidy_8 : decode cX8_tidy 8 = .ok (.aload_n 0, 1) := by decide +kernel
theorem dX8_tidy_9 : decode cX8_tidy 9 = .ok (.getfield 29, 3) := by decide +kernel
theorem dX8_tidy_12 : decode cX8_tidy 12 = .ok (.aload_n 0, 1) := by decide +kernel
theorem dX8_tidy_13 : decode cX8_tidy 13 = .ok (.getfield 20, 3) := by decide +kernel
theorem dX8_tidy_16 : decode cX8_tidy 16 = .ok (.invokevirtual 67, 3) := by decide +kernel
theorem dX8_tidy_19 : decode cX8_tidy 19 = .ok (.aload_n 0, 1) := by decide +kernel
theorem dX8_tidy_20 : decode cX8_tidy 20 = .ok (.getfield 43, 3) := by decide +kernel
theorem dX8_tidy_23 : decode cX8_tidy 23 = .ok (.aload_n 0, 1) := by decide +kernel
theorem dX8_tidy_24 : decode cX8_tidy 24 = .ok (.getfield 20, 3) := by decide +kernel
theorem dX8_tidy_27 : decode cX8_tidy 27 = .ok (.invokevirtual 174, 3) := by decide +kernel
theorem dX8_tidy_30 : decode cX8_tidy 30 = .ok (.aload_n 0, 1) := by decide +kernel
theorem dX8_tidy_31 : decode cX8_tidy 31 = .ok (.getfield 43, 3) := by decide +kernel
theorem dX8_tidy_34 : decode cX8_tidy 34 = .ok (.aload_n 0, 1) := by decide +kernel
theorem dX8_tidy_35 : decode cX8_tidy 35 = .ok (.getfield 20, 3) := by decide +kernel
theorem dX8_tidy_38 : decode cX8_tidy 38 = .ok (.invokevirtual 177, 3) := by decide +kernel
theorem dX8_tidy_41 : decode cX8_tidy 41 = .ok (.iload_n 1, 1) := by decide +kernel
theorem dX8_tidy_42 : decode cX8_tidy 42 = .ok (.aload_n 0, 1) := by decide +kernel
theorem dX8_tidy_43 : decode cX8_tidy 43 = .ok (.getfield 20, 3) := by decide +kernel
theorem dX8_tidy_46 : decode cX8_tidy 46 = .ok (.getfield 136, 3) := by decide +kernel
theorem dX8_tidy_49 : decode cX8_tidy 49 = .ok (.isub, 1) := by decide +kernel
theorem dX8_tidy_50 : decode cX8_tidy 50 = .ok (.ireturn, 1) := by decide +kernel
theorem dX8_undo_0 : decode cX8_undo 0 = .ok (.aload_n 0, 1) := by decide +kernel
theorem dX8_undo_1 : decode cX8_undo 1 = .ok (.getfield 29, 3) := by decide +kernel
theorem dX8_undo_4 : decode cX8_undo 4 = .ok (.getfield 180, 3) := by decide +kernel
theorem dX8_undo_7 : decode cX8_undo 7 = .ok (.ifCond .ne 13, 3) := by decide +kernel
theorem dX8_undo_10 : decode cX8_undo 10 = .ok (.new 152, 3) := by decide +kernel
theorem dX8_undo_13 : decode cX8_undo 13 = .ok (.dup, 1) := by decide +kernel
theorem dX8_undo_14 : decode cX8_undo 14 = .ok (.ldc 183, 2) := by decide +kernel
theorem dX8_undo_16 : decode cX8_undo 16 = .ok (.invokespecial 156, 3) := by decide +kernel
theorem dX8_undo_19 : decode cX8_undo 19 = .ok (.athrow, 1) := by decide +kernel
theorem dX8_undo_20 : decode cX8_undo 20 = .ok (.aload_n 0, 1) := by decide +kernel
theorem dX8_undo_21 : decode cX8_undo 21 = .ok (.getfield 29, 3) := by decide +kernel
theorem dX8_undo_24 : decode cX8_undo 24 = .ok (.aload_n 0, 1) := by decide +kernel
theorem dX8_undo_25 : decode cX8_undo 25 = .ok (.getfield 20, 3) := by decide +kernel
theorem dX8_undo_28 : decode cX8_undo 28 = .ok (.invokevirtual 185, 3) := by decide +kernel
theorem dX8_undo_31 : decode cX8_undo 31 = .ok (.aload_n 0, 1) := by decide +kernel
theorem dX8_undo_32 : decode cX8_undo 32 = .ok (.getfield 29, 3) := by decide +kernel
theorem dX8_undo_35 : decode cX8_undo 35 = .ok (.getfield 180, 3) := by decide +kernel
theorem dX8_undo_38 : decode cX8_undo 38 = .ok (.ireturn, 1) := by decide +kernel
theorem dX8_instructions_0 : decode cX8_instructions 0 = .ok (.aload_n 0, 1) := by decide +kernel
theorem dX8_instructions_1 : decode cX8_instructions 1 = .ok (.getfield 20, 3) := by decide +kernel
theorem dX8_instructions_4 : decode cX8_instructions 4 = .ok (.getfield 136, 3) := by decide +kernel
theorem dX8_instructions_7 : decode cX8_instructions 7 = .ok (.ireturn, 1) := by decide +kernel
theorem dX8_operation_0 : decode cX8_operation 0 = .ok (.aload_n 0, 1) := by decide +kernel
theorem dX8_operation_1 : decode cX8_operation 1 = .ok (.iload_n 1, 1) := by decide +kernel
theorem dX8_operation_2 : decode cX8_operation 2 = .ok (.invokevirtual 188, 3) := by decide +kernel
theorem dX8_operation_5 : decode cX8_operation 5 = .ok (.aload_n 0, 1) := by decide +kernel
theorem dX8_operation_6 : decode cX8_operation 6 = .ok (.getfield 20, 3) := by decide +kernel
theorem dX8_operation_9 : decode cX8_operation 9 = .ok (.getfield 191, 3) := by decide +kernel
theorem dX8_operation_12 : decode cX8_operation 12 = .ok (.iload_n 1, 1) := by decide +kernel
theorem dX8_operation_13 : decode cX8_operation 13 = .ok (.iaload, 1) := by decide +kernel
theorem dX8_operation_14 : decode cX8_operation 14 = .ok (.ireturn, 1) := by decide +kernel
