theorem dX9_areLike_0 : decode cX9_areLike 0 = .ok (.iconst 1, 1) := by decide +kernel
theorem dX9_areLike_1 : decode cX9_areLike 1 = .ok (.istore_n 3, 1) := by decide +kernel
theorem dX9_areLike_2 : decode cX9_areLike 2 = .ok (.iconst 0, 1) := by decide +kernel
theorem dX9_areLike_3 : decode cX9_areLike 3 = .ok (.istore 4, 2) := by decide +kernel
theorem dX9_areLike_5 : decode cX9_areLike 5 = .ok (.iload 4, 2) := by decide +kernel
theorem dX9_areLike_7 : decode cX9_areLike 7 = .ok (.iconst 5, 1) := by decide +kernel
theorem dX9_areLike_8 : decode cX9_areLike 8 = .ok (.if_icmp .ge 48, 3) := by decide +kernel
theorem dX9_areLike_11 : decode cX9_areLike 11 = .ok (.iload_n 3, 1) := by decide +kernel
theorem dX9_areLike_12 : decode cX9_areLike 12 = .ok (.ifCond .eq 36, 3) := by decide +kernel
theorem dX9_areLike_15 : decode cX9_areLike 15 = .ok (.aload_n 0, 1) := by decide +kernel
theorem dX9_areLike_16 : decode cX9_areLike 16 = .ok (.getfield 7, 3) := by decide +kernel
theorem dX9_areLike_19 : decode cX9_areLike 19 = .ok (.iconst 5, 1) := by decide +kernel
theorem dX9_areLike_20 : decode cX9_areLike 20 = .ok (.iconst 5, 1) := by decide +kernel
theorem dX9_areLike_21 : decode cX9_areLike 21 = .ok (.iload_n 1, 1) := by decide +kernel
theorem dX9_areLike_22 : decode cX9_areLike 22 = .ok (.imul, 1) := by decide +kernel
theorem dX9_areLike_23 : decode cX9_areLike 23 = .ok (.iadd, 1) := by decide +kernel
theorem dX9_areLike_24 : decode cX9_areLike 24 = .ok (.iload 4, 2) := by decide +kernel
theorem dX9_areLike_26 : decode cX9_areLike 26 = .ok (.iadd, 1) := by decide +kernel
theorem dX9_areLike_27 : decode cX9_areLike 27 = .ok (.iaload, 1) := by decide +kernel
theorem dX9_areLike_28 : decode cX9_areLike 28 = .ok (.aload_n 0, 1) := by decide +kernel
theorem dX9_areLike_29 : decode cX9_areLike 29 = .ok (.getfield 7, 3) := by decide +kernel
theorem dX9_areLike_32 : decode cX9_areLike 32 = .ok (.iconst 5, 1) := by decide +kernel
theorem dX9_areLike_33 : decode cX9_areLike 33 = .ok (.iconst 5, 1) := by decide +kernel
theorem dX9_areLike_34 : decode cX9_areLike 34 = .ok (.iload_n 2, 1) := by decide +kernel
theorem dX9_areLike_35 : decode cX9_areLike 35 = .ok (.imul, 1) := by decide +kernel
theorem dX9_areLike_36 : decode cX9_areLike 36 = .ok (.iadd, 1) := by decide +kernel
theorem dX9_areLike_37 : decode cX9_areLike 37 = .ok (.iload 4, 2) := by decide +kernel
theorem dX9_areLike_39 : decode cX9_areLike 39 = .ok (.iadd, 1) := by decide +kernel
theorem dX9_areLike_40 : decode cX9_areLike 40 = .ok (.iaload, 1) := by decide +kernel
theorem dX9_areLike_41 : decode cX9_areLike 41 = .ok (.if_icmp .ne 7, 3) := by decide +kernel
theorem dX9_areLike_44 : decode cX9_areLike 44 = .ok (.iconst 1, 1) := by decide +kernel
theorem dX9_areLike_45 : decode cX9_areLike 45 = .ok (.goto 4, 3) := by decide +kernel
theorem dX9_areLike_48 : decode cX9_areLike 48 = .ok (.iconst 0, 1) := by decide +kernel
theorem dX9_areLike_49 : decode cX9_areLike 49 = .ok (.istore_n 3, 1) := by decide +kernel
theorem dX9_areLike_50 : decode cX9_areLike 50 = .ok (.iinc 4 1, 3) := by decide +kernel
theorem dX9_areLike_53 : decode cX9_areLike 53 = .ok (.goto (-48), 3) := by decide +kernel
theorem dX9_areLike_56 : decode cX9_areLike 56 = .ok (.iload_n 3, 1) := by decide +kernel
theorem dX9_areLike_57 : decode cX9_areLike 57 = .ok (.ireturn, 1) := by decide +kernel
theorem dX9_replaces_0 : decode cX9_replaces 0 = .ok (.iconst 5, 1) := by decide +kernel
theorem dX9_replaces_1 : decode cX9_replaces 1 = .ok (.iconst 5, 1) := by decide +kernel
theorem dX9_replaces_2 : decode cX9_replaces 2 = .ok (.iload_n 1, 1) := by decide +kernel
theorem dX9_replaces_3 : decode cX9_replaces 3 = .ok (.imul, 1) := by decide +kernel
theorem dX9_replaces_4 : decode cX9_replaces 4 = .ok (.iadd, 1) := by decide +kernel
theorem dX9_replaces_5 : decode cX9_replaces 5 = .ok (.istore_n 2, 1) := by decide +kernel
theorem dX9_replaces_6 : decode cX9_replaces 6 = .ok (.aload_n 0, 1) := by decide +kernel
theorem dX9_replaces_7 : decode cX9_replaces 7 = .ok (.getfield 7, 3) := by decide +kernel
theorem dX9_replaces_10 : decode cX9_replaces 10 = .ok (.iload_n 2, 1) := by decide +kernel
theorem dX9_replaces_11 : decode cX9_replaces 11 = .ok (.iconst 2, 1) := by decide +kernel
theorem dX9_replaces_12 : decode cX9_replaces 12 = .ok (.iadd, 1) := by decide +kernel
theorem dX9_replaces_13 : decode cX9_replaces 13 = .ok (.aload_n 0, 1) := by decide +kernel
theorem dX9_replaces_14 : decode cX9_replaces 14 = .ok (.getfield 7, 3) := by decide +kernel
theorem dX9_replaces_17 : decode cX9_replaces 17 = .ok (.iload_n 2, 1) := by decide +kernel
theorem dX9_replaces_18 : decode cX9_replaces 18 = .ok (.iconst 1, 1) := by decide +kernel
theorem dX9_replaces_19 : decode cX9_replaces 19 = .ok (.iadd, 1) := by decide +kernel
theorem dX9_replaces_20 : decode cX9_replaces 20 = .ok (.iaload, 1) := by decide +kernel
theorem dX9_replaces_21 : decode cX9_replaces 21 = .ok (.iconst 1, 1) := by decide +kernel
theorem dX9_replaces_22 : decode cX9_replaces 22 = .ok (.if_icmp .ne 14, 3) := by decide +kernel
theorem dX9_replaces_25 : decode cX9_replaces 25 = .ok (.aload_n 0, 1) := by decide +kernel
theorem dX9_replaces_26 : decode cX9_replaces 26 = .ok (.getfield 7, 3) := by decide +kernel
theorem dX9_replaces_29 : decode cX9_replaces 29 = .ok (.iload_n 2, 1) := by decide +kernel
theorem dX9_replaces_30 : decode cX9_replaces 30 = .ok (.iconst 2, 1) := by decide +kernel
theorem dX9_replaces_31 : decode cX9_replaces 31 = .ok (.iadd, 1) := by decide +kernel
theorem dX9_replaces_32 : decode cX9_replaces 32 = .ok (.iaload, 1) := by decide +kernel
theorem dX9_replaces_33 : decode cX9_replaces 33 = .ok (.goto 16, 3) := by decide +kernel
theorem dX9_replaces_36 : decode cX9_replaces 36 = .ok (.aload_n 0, 1) := by decide +kernel
theorem dX9_replaces_37 : decode cX9_replaces 37 = .ok (.getfield 19, 3) := by decide +kernel
theorem dX9_replaces_40 : decode cX9_replaces 40 = .ok (.aload_n 0, 1) := by decide +kernel
theorem dX9_replaces_41 : decode cX9_replaces 41 = .ok (.getfield 7, 3) := by decide +kernel
theorem dX9_replaces_44 : decode cX9_replaces 44 = .ok (.iload_n 2, 1) := by decide +kernel
theorem dX9_replaces_45 : decode cX9_replaces 45 = .ok (.iconst 2, 1) := by decide +kernel
theorem dX9_replaces_46 : decode cX9_replaces 46 = .ok (.iadd, 1) := by decide +kernel
theorem dX9_replaces_47 : decode cX9_replaces 47 = .ok (.iaload, 1) := by decide +kernel
theorem dX9_replaces_48 : decode cX9_replaces 48 = .ok (.iaload, 1) := by decide +kernel
theorem dX9_replaces_49 : decode cX9_replaces 49 = .ok (.iastore, 1) := by decide +kernel
theorem dX9_replaces_50 : decode cX9_replaces 50 = .ok (.aload_n 0, 1) := by decide +kernel
theorem dX9_replaces_51 : decode cX9_replaces 51 = .ok (.getfield 7, 3) := by decide +kernel
theorem dX9_replaces_54 : decode cX9_replaces 54 = .ok (.iload_n 2, 1) := by decide +kernel
theorem dX9_replaces_55 : decode cX9_replaces 55 = .ok (.iconst 4, 1) := by decide +kernel
theorem dX9_replaces_56 : decode cX9_replaces 56 = .ok (.iadd, 1) := by decide +kernel
theorem dX9_replaces_57 : decode cX9_replaces 57 = .ok (.aload_n 0, 1) := by decide +kernel
theorem dX9_replaces_58 : decode cX9_replaces 58 = .ok (.getfield 7, 3) := by decide +kernel
theorem dX9_replaces_61 : decode cX9_replaces 61 = .ok (.iload_n 2, 1) := by decide +kernel
theorem dX9_replaces_62 : decode cX9_replaces 62 = .ok (.iconst 3, 1) := by decide +kernel
theorem dX9_replaces_63 : decode cX9_replaces 63 = .ok (.iadd, 1) := by decide +kernel
theorem dX9_replaces_64 : decode cX9_replaces 64 = .ok (.iaload, 1) := by decide +kernel
theorem dX9_replaces_65 : decode cX9_replaces 65 = .ok (.iconst 1, 1) := by decide +kernel
theorem dX9_replaces_66 : decode cX9_replaces 66 = .ok (.if_icmp .ne 14, 3) := by decide +kernel
theorem dX9_replaces_69 : decode cX9_replaces 69 = .ok (.aload_n 0, 1) := by decide +kernel
theorem dX9_replaces_70 : decode cX9_replaces 70 = .ok (.getfield 7, 3) := by decide +kernel
theorem dX9_replaces_73 : decode cX9_replaces 73 = .ok (.iload_n 2, 1) := by decide +kernel
theorem dX9_replaces_74 : decode cX9_replaces 74 = .ok (.iconst 4, 1) := by decide +kernel
theorem dX9_replaces_75 : decode cX9_replaces 75 = .ok (.iadd, 1) := by decide +kernel
theorem dX9_replaces_76 : decode cX9_replaces 76 = .ok (.iaload, 1) := by decide +kernel
theorem dX9_replaces_77 : decode cX9_replaces 77 = .ok (.goto 16, 3) := by decide +kernel
theorem dX9_replaces_80 : decode cX9_replaces 80 = .ok (.aload_n 0, 1) := by decide +kernel
theorem dX9_replaces_81 : decode cX9_replaces 81 = .ok (.getfield 19, 3) := by decide +kernel
theorem dX9_replaces_84 : decode cX9_replaces 84 = .ok (.aload_n 0, 1) := by decide +kernel
theorem dX9_replaces_85 : decode cX9_replaces 85 = .ok (.getfield 7, 3) := by decide +kernel
theorem dX9_replaces_88 : decode cX9_replaces 88 = .ok (.iload_n 2, 1) := by decide +kernel
theorem dX9_replaces_89 : decode cX9_replaces 89 = .ok (.iconst 4, 1) := by decide +kernel
theorem dX9_replaces_90 : decode cX9_replaces 90 = .ok (.iadd, 1) := by decide +kernel
theorem dX9_replaces_91 : decode cX9_replaces 91 = .ok (.iaload, 1) := by decide +kernel
theorem dX9_replaces_92 : decode cX9_replaces 92 = .ok (.iaload, 1) := by decide +kernel
theorem dX9_replaces_93 : decode cX9_replaces 93 = .ok (.iastore, 1) := by decide +kernel
theorem dX9_replaces_94 : decode cX9_replaces 94 = .ok (.return_, 1) := by decide +kernel
theorem dX9_joins_0 : decode cX9_joins 0 = .ok (.aload_n 0, 1) := by decide +kernel
theorem dX9_joins_1 : decode cX9_joins 1 = .ok (.getfield 19, 3) := by decide +kernel
theorem dX9_joins_4 : decode cX9_joins 4 = .ok (.iconst 0, 1) := by decide +kernel
theorem dX9_joins_5 : decode cX9_joins 5 = .ok (.iconst 0, 1) := by decide +kernel
theorem dX9_joins_6 : decode cX9_joins 6 = .ok (.iastore, 1) := by decide +kernel
theorem dX9_joins_7 : decode cX9_joins 7 = .ok (.iconst 0, 1) := by decide +kernel
theorem dX9_joins_8 : decode cX9_joins 8 = .ok (.istore_n 1, 1) := by decide +kernel
theorem dX9_joins_9 : decode cX9_joins 9 = .ok (.iload_n 1, 1) := by decide +kernel
theorem dX9_joins_10 : decode cX9_joins 10 = .ok (.aload_n 0, 1) := by decide +kernel
theorem dX9_joins_11 : decode cX9_joins 11 = .ok (.getfield 7, 3) := by decide +kernel
theorem dX9_joins_14 : decode cX9_joins 14 = .ok (.iconst 3, 1) := by decide +kernel
theorem dX9_joins_15 : decode cX9_joins 15 = .ok (.iaload, 1) := by decide +kernel
theorem dX9_joins_16 : decode cX9_joins 16 = .ok (.if_icmp .ge 84, 3) := by decide +kernel
theorem dX9_joins_19 : decode cX9_joins 19 = .ok (.aload_n 0, 1) := by decide +kernel
theorem dX9_joins_20 : decode cX9_joins 20 = .ok (.iload_n 1, 1) := by decide +kernel
theorem dX9_joins_21 : decode cX9_joins 21 = .ok (.invokevirtual 165, 3) := by decide +kernel
theorem dX9_joins_24 : decode cX9_joins 24 = .ok (.aload_n 0, 1) := by decide +kernel
theorem dX9_joins_25 : decode cX9_joins 25 = .ok (.getfield 19, 3) := by decide +kernel
theorem dX9_joins_28 : decode cX9_joins 28 = .ok (.iload_n 1, 1) := by decide +kernel
theorem dX9_joins_29 : decode cX9_joins 29 = .ok (.iconst 1, 1) := by decide +kernel
theorem dX9_joins_30 : decode cX9_joins 30 = .ok (.iadd, 1) := by decide +kernel
theorem dX9_joins_31 : decode cX9_joins 31 = .ok (.iload_n 1, 1) := by decide +kernel
theorem dX9_joins_32 : decode cX9_joins 32 = .ok (.iconst 1, 1) := by decide +kernel
theorem dX9_joins_33 : decode cX9_joins 33 = .ok (.iadd, 1) := by decide +kernel
theorem dX9_joins_34 : decode cX9_joins 34 = .ok (.iastore, 1) := by decide +kernel
theorem dX9_joins_35 : decode cX9_joins 35 = .ok (.iload_n 1, 1) := by decide +kernel
theorem dX9_joins_36 : decode cX9_joins 36 = .ok (.iconst 1, 1) := by decide +kernel
theorem dX9_joins_37 : decode cX9_joins 37 = .ok (.isub, 1) := by decide +kernel
theorem dX9_joins_38 : decode cX9_joins 38 = .ok (.istore_n 2, 1) := by decide +kernel
theorem dX9_joins_39 : decode cX9_joins 39 = .ok (.iload_n 2, 1) := by decide +kernel
theorem dX9_joins_40 : decode cX9_joins 40 = .ok (.ifCond .lt 54, 3) := by decide +kernel
theorem dX9_joins_43 : decode cX9_joins 43 = .ok (.aload_n 0, 1) := by decide +kernel
theorem dX9_joins_44 : decode cX9_joins 44 = .ok (.getfield 19, 3) := by decide +kernel
theorem dX9_joins_47 : decode cX9_joins 47 = .ok (.iload_n 1, 1) := by decide +kernel
theorem dX9_joins_48 : decode cX9_joins 48 = .ok (.iconst 1, 1) := by decide +kernel
theorem dX9_joins_49 : decode cX9_joins 49 = .ok (.iadd, 1) := by decide +kernel
theorem dX9_joins_50 : decode cX9_joins 50 = .ok (.aload_n 0, 1) := by decide +kernel
theorem dX9_joins_51 : decode cX9_joins 51 = .ok (.getfield 19, 3) := by decide +kernel
theorem dX9_joins_54 : decode cX9_joins 54 = .ok (.iload_n 2, 1) := by decide +kernel
theorem dX9_joins_55 : decode cX9_joins 55 = .ok (.iconst 1, 1) := by decide +kernel
theorem dX9_joins_56 : decode cX9_joins 56 = .ok (.iadd, 1) := by decide +kernel
theorem dX9_joins_57 : decode cX9_joins 57 = .ok (.iaload, 1) := by decide +kernel
theorem dX9_joins_58 : decode cX9_joins 58 = .ok (.iload_n 2, 1) := by decide +kernel
theorem dX9_joins_59 : decode cX9_joins 59 = .ok (.iconst 1, 1) := by decide +kernel
theorem dX9_joins_60 : decode cX9_joins 60 = .ok (.iadd, 1) := by decide +kernel
theorem dX9_joins_61 : decode cX9_joins 61 = .ok (.if_icmp .ne 18, 3) := by decide +kernel
theorem dX9_joins_64 : decode cX9_joins 64 = .ok (.aload_n 0, 1) := by decide +kernel
theorem dX9_joins_65 : decode cX9_joins 65 = .ok (.iload_n 1, 1) := by decide +kernel
theorem dX9_joins_66 : decode cX9_joins 66 = .ok (.iload_n 2, 1) := by decide +kernel
theorem dX9_joins_67 : decode cX9_joins 67 = .ok (.invokevirtual 169, 3) := by decide +kernel
theorem dX9_joins_70 : decode cX9_joins 70 = .ok (.ifCond .eq 9, 3) := by decide +kernel
theorem dX9_joins_73 : decode cX9_joins 73 = .ok (.iload_n 2, 1) := by decide +kernel
theorem dX9_joins_74 : decode cX9_joins 74 = .ok (.iconst 1, 1) := by decide +kernel
theorem dX9_joins_75 : decode cX9_joins 75 = .ok (.iadd, 1) := by decide +kernel
theorem dX9_joins_76 : decode cX9_joins 76 = .ok (.goto 11, 3) := by decide +kernel
theorem dX9_joins_79 : decode cX9_joins 79 = .ok (.aload_n 0, 1) := by decide +kernel
theorem dX9_joins_80 : decode cX9_joins 80 = .ok (.getfield 19, 3) := by decide +kernel
theorem dX9_joins_83 : decode cX9_joins 83 = .ok (.iload_n 1, 1) := by decide +kernel
theorem dX9_joins_84 : decode cX9_joins 84 = .ok (.iconst 1, 1) := by decide +kernel
theorem dX9_joins_85 : decode cX9_joins 85 = .ok (.iadd, 1) := by decide +kernel
theorem dX9_joins_86 : decode cX9_joins 86 = .ok (.iaload, 1) := by decide +kernel
theorem dX9_joins_87 : decode cX9_joins 87 = .ok (.iastore, 1) := by decide +kernel
theorem dX9_joins_88 : decode cX9_joins 88 = .ok (.iinc 2 (-1), 3) := by decide +kernel
theorem dX9_joins_91 : decode cX9_joins 91 = .ok (.goto (-52), 3) := by decide +kernel
theorem dX9_joins_94 : decode cX9_joins 94 = .ok (.iinc 1 1, 3) := by decide +kernel
theorem dX9_joins_97 : decode cX9_joins 97 = .ok (.goto (-88), 3) := by decide +kernel
theorem dX9_joins_100 : decode cX9_joins 100 = .ok (.aload_n 0, 1) := by decide +kernel
theorem dX9_joins_101 : decode cX9_joins 101 = .ok (.getfield 7, 3) := by decide +kernel
theorem dX9_joins_104 : decode cX9_joins 104 = .ok (.iconst 4, 1) := by decide +kernel
theorem dX9_joins_105 : decode cX9_joins 105 = .ok (.aload_n 0, 1) := by decide +kernel
theorem dX9_joins_106 : decode cX9_joins 106 = .ok (.getfield 19, 3) := by decide +kernel
theorem dX9_joins_109 : decode cX9_joins 109 = .ok (.aload_n 0, 1) := by decide +kernel
theorem dX9_joins_110 : decode cX9_joins 110 = .ok (.getfield 7, 3) := by decide +kernel
theorem dX9_joins_113 : decode cX9_joins 113 = .ok (.iconst 4, 1) := by decide +kernel
theorem dX9_joins_114 : decode cX9_joins 114 = .ok (.iaload, 1) := by decide +kernel
theorem dX9_joins_115 : decode cX9_joins 115 = .ok (.iaload, 1) := by decide +kernel
theorem dX9_joins_116 : decode cX9_joins 116 = .ok (.iastore, 1) := by decide +kernel
theorem dX9_joins_117 : decode cX9_joins 117 = .ok (.return_, 1) := by decide +kernel
theorem dX9_needs_0 : decode cX9_needs 0 = .ok (.iconst 0, 1) := by decide +kernel
theorem dX9_needs_1 : decode cX9_needs 1 = .ok (.istore_n 1, 1) := by decide +kernel
theorem dX9_needs_2 : decode cX9_needs 2 = .ok (.iload_n 1, 1) := by decide +kernel
theorem dX9_needs_3 : decode cX9_needs 3 = .ok (.bipush 40, 2) := by decide +kernel
theorem dX9_needs_5 : decode cX9_needs 5 = .ok (.if_icmp .gt 30, 3) := by decide +kernel
theorem dX9_needs_8 : decode cX9_needs 8 = .ok (.aload_n 0, 1) := by decide +kernel
theorem dX9_needs_9 : decode cX9_needs 9 = .ok (.getfield 22, 3) := by decide +kernel
theorem dX9_needs_12 : decode cX9_needs 12 = .ok (.iload_n 1, 1) := by decide +kernel
theorem dX9_needs_13 : decode cX9_needs 13 = .ok (.iload_n 1, 1) := by decide +kernel
theorem dX9_needs_14 : decode cX9_needs 14 = .ok (.aload_n 0, 1) := by decide +kernel
theorem dX9_needs_15 : decode cX9_needs 15 = .ok (.getfield 7, 3) := by decide +kernel
theorem dX9_needs_18 : decode cX9_needs 18 = .ok (.iconst 4, 1) := by decide +kernel
theorem dX9_needs_19 : decode cX9_needs 19 = .ok (.iaload, 1) := by decide +kernel
theorem dX9_needs_20 : decode cX9_needs 20 = .ok (.if_icmp .ne 7, 3) := by decide +kernel
theorem dX9_needs_23 : decode cX9_needs 23 = .ok (.iconst 1, 1) := by decide +kernel
theorem dX9_needs_24 : decode cX9_needs 24 = .ok (.goto 4, 3) := by decide +kernel
theorem dX9_needs_27 : decode cX9_needs 27 = .ok (.iconst 0, 1) := by decide +kernel
theorem dX9_needs_28 : decode cX9_needs 28 = .ok (.bastore, 1) := by decide +kernel
theorem dX9_needs_29 : decode cX9_needs 29 = .ok (.iinc 1 1, 3) := by decide +kernel
theorem dX9_needs_32 : decode cX9_needs 32 = .ok (.goto (-30), 3) := by decide +kernel
theorem dX9_needs_35 : decode cX9_needs 35 = .ok (.aload_n 0, 1) := by decide +kernel
theorem dX9_needs_36 : decode cX9_needs 36 = .ok (.getfield 7, 3) := by decide +kernel
theorem dX9_needs_39 : decode cX9_needs 39 = .ok (.iconst 3, 1) := by decide +kernel
theorem dX9_needs_40 : decode cX9_needs 40 = .ok (.iaload, 1) := by decide +kernel
theorem dX9_needs_41 : decode cX9_needs 41 = .ok (.iconst 1, 1) := by decide +kernel
theorem dX9_needs_42 : decode cX9_needs 42 = .ok (.isub, 1) := by decide +kernel
theorem dX9_needs_43 : decode cX9_needs 43 = .ok (.istore_n 1, 1) := by decide +kernel
theorem dX9_needs_44 : decode cX9_needs 44 = .ok (.iload_n 1, 1) := by decide +kernel
theorem dX9_needs_45 : decode cX9_needs 45 = .ok (.ifCond .lt 66, 3) := by decide +kernel
theorem dX9_needs_48 : decode cX9_needs 48 = .ok (.iconst 5, 1) := by decide +kernel
theorem dX9_needs_49 : decode cX9_needs 49 = .ok (.iconst 5, 1) := by decide +kernel
theorem dX9_needs_50 : decode cX9_needs 50 = .ok (.iload_n 1, 1) := by decide +kernel
theorem dX9_needs_51 : decode cX9_needs 51 = .ok (.imul, 1) := by decide +kernel
theorem dX9_needs_52 : decode cX9_needs 52 = .ok (.iadd, 1) := by decide +kernel
theorem dX9_needs_53 : decode cX9_needs 53 = .ok (.istore_n 2, 1) := by decide +kernel
theorem dX9_needs_54 : decode cX9_needs 54 = .ok (.iconst 1, 1) := by decide +kernel
theorem dX9_needs_55 : decode cX9_needs 55 = .ok (.istore_n 3, 1) := by decide +kernel
theorem dX9_needs_56 : decode cX9_needs 56 = .ok (.iload_n 3, 1) := by decide +kernel
theorem dX9_needs_57 : decode cX9_needs 57 = .ok (.iconst 5, 1) := by decide +kernel
theorem dX9_needs_58 : decode cX9_needs 58 = .ok (.if_icmp .ge 47, 3) := by decide +kernel
theorem dX9_needs_61 : decode cX9_needs 61 = .ok (.aload_n 0, 1) := by decide +kernel
theorem dX9_needs_62 : decode cX9_needs 62 = .ok (.getfield 22, 3) := by decide +kernel
theorem dX9_needs_65 : decode cX9_needs 65 = .ok (.iload_n 1, 1) := by decide +kernel
theorem dX9_needs_66 : decode cX9_needs 66 = .ok (.iconst 1, 1) := by decide +kernel
theorem dX9_needs_67 : decode cX9_needs 67 = .ok (.iadd, 1) := by decide +kernel
theorem dX9_needs_68 : decode cX9_needs 68 = .ok (.baload, 1) := by decide +kernel
theorem dX9_needs_69 : decode cX9_needs 69 = .ok (.ifCond .eq 36, 3) := by decide +kernel
theorem dX9_needs_72 : decode cX9_needs 72 = .ok (.aload_n 0, 1) := by decide +kernel
theorem dX9_needs_73 : decode cX9_needs 73 = .ok (.getfield 7, 3) := by decide +kernel
theorem dX9_needs_76 : decode cX9_needs 76 = .ok (.iload_n 2, 1) := by decide +kernel
theorem dX9_needs_77 : decode cX9_needs 77 = .ok (.iload_n 3, 1) := by decide +kernel
theorem dX9_needs_78 : decode cX9_needs 78 = .ok (.iadd, 1) := by decide +kernel
theorem dX9_needs_79 : decode cX9_needs 79 = .ok (.iaload, 1) := by decide +kernel
theorem dX9_needs_80 : decode cX9_needs 80 = .ok (.ifCond .ne 19, 3) := by decide +kernel
theorem dX9_needs_83 : decode cX9_needs 83 = .ok (.aload_n 0, 1) := by decide +kernel
theorem dX9_needs_84 : decode cX9_needs 84 = .ok (.getfield 22, 3) := by decide +kernel
theorem dX9_needs_87 : decode cX9_needs 87 = .ok (.aload_n 0, 1) := by decide +kernel
theorem dX9_needs_88 : decode cX9_needs 88 = .ok (.getfield 7, 3) := by decide +kernel
theorem dX9_needs_91 : decode cX9_needs 91 = .ok (.iload_n 2, 1) := by decide +kernel
theorem dX9_needs_92 : decode cX9_needs 92 = .ok (.iload_n 3, 1) := by decide +kernel
theorem dX9_needs_93 : decode cX9_needs 93 = .ok (.iadd, 1) := by decide +kernel
theorem dX9_needs_94 : decode cX9_needs 94 = .ok (.iconst 1, 1) := by decide +kernel
theorem dX9_needs_95 : decode cX9_needs 95 = .ok (.iadd, 1) := by decide +kernel
theorem dX9_needs_96 : decode cX9_needs 96 = .ok (.iaload, 1) := by decide +kernel
theorem dX9_needs_97 : decode cX9_needs 97 = .ok (.iconst 1, 1) := by decide +kernel
theorem dX9_needs_98 : decode cX9_needs 98 = .ok (.bastore, 1) := by decide +kernel
theorem dX9_needs_99 : decode cX9_needs 99 = .ok (.iinc 3 2, 3) := by decide +kernel
theorem dX9_needs_102 : decode cX9_needs 102 = .ok (.goto (-46), 3) := by decide +kernel
theorem dX9_needs_105 : decode cX9_needs 105 = .ok (.iinc 1 (-1), 3) := by decide +kernel
theorem dX9_needs_108 : decode cX9_needs 108 = .ok (.goto (-64), 3) := by decide +kernel
theorem dX9_needs_111 : decode cX9_needs 111 = .ok (.return_, 1) := by decide +kernel
theorem dX9_tidy_0 : decode cX9_tidy 0 = .ok (.aload_n 0, 1) := by decide +kernel
theorem dX9_tidy_1 : decode cX9_tidy 1 = .ok (.iconst 0, 1) := by decide +kernel
theorem dX9_tidy_2 : decode cX9_tidy 2 = .ok (.putfield 40, 3) := by decide +kernel
theorem dX9_tidy_5 : decode cX9_tidy 5 = .ok (.aload_n 0, 1) := by decide +kernel
theorem dX9_tidy_6 : decode cX9_tidy 6 = .ok (.invokevirtual 141, 3) := by decide +kernel
theorem dX9_tidy_9 : decode cX9_tidy 9 = .ok (.aload_n 0, 1) := by decide +kernel
theorem dX9_tidy_10 : decode cX9_tidy 10 = .ok (.invokevirtual 173, 3) := by decide +kernel
theorem dX9_tidy_13 : decode cX9_tidy 13 = .ok (.aload_n 0, 1) := by decide +kernel
theorem dX9_tidy_14 : decode cX9_tidy 14 = .ok (.invokevirtual 176, 3) := by decide +kernel
theorem dX9_tidy_17 : decode cX9_tidy 17 = .ok (.aload_n 0, 1) := by decide +kernel
theorem dX9_tidy_18 : decode cX9_tidy 18 = .ok (.getfield 7, 3) := by decide +kernel
theorem dX9_tidy_21 : decode cX9_tidy 21 = .ok (.iconst 3, 1) := by decide +kernel
theorem dX9_tidy_22 : decode cX9_tidy 22 = .ok (.iaload, 1) := by decide +kernel
theorem dX9_tidy_23 : decode cX9_tidy 23 = .ok (.istore_n 1, 1) := by decide +kernel
theorem dX9_tidy_24 : decode cX9_tidy 24 = .ok (.iconst 0, 1) := by decide +kernel
theorem dX9_tidy_25 : decode cX9_tidy 25 = .ok (.istore_n 2, 1) := by decide +kernel
theorem dX9_tidy_26 : decode cX9_tidy 26 = .ok (.aload_n 0, 1) := by decide +kernel
theorem dX9_tidy_27 : decode cX9_tidy 27 = .ok (.getfield 19, 3) := by decide +kernel
theorem dX9_tidy_30 : decode cX9_tidy 30 = .ok (.iconst 0, 1) := by decide +kernel
theorem dX9_tidy_31 : decode cX9_tidy 31 = .ok (.iconst 0, 1) := by decide +kernel
theorem dX9_tidy_32 : decode cX9_tidy 32 = .ok (.iastore, 1) := by decide +kernel
theorem dX9_tidy_33 : decode cX9_tidy 33 = .ok (.iconst 0, 1) := by decide +kernel
theorem dX9_tidy_34 : decode cX9_tidy 34 = .ok (.istore_n 3, 1) := by decide +kernel
theorem dX9_tidy_35 : decode cX9_tidy 35 = .ok (.iload_n 3, 1) := by decide +kernel
theorem dX9_tidy_36 : decode cX9_tidy 36 = .ok (.iload_n 1, 1) := by decide +kernel
theorem dX9_tidy_37 : decode cX9_tidy 37 = .ok (.if_icmp .ge 78, 3) := by decide +kernel
theorem dX9_tidy_40 : decode cX9_tidy 40 = .ok (.aload_n 0, 1) := by decide +kernel
theorem dX9_tidy_41 : decode cX9_tidy 41 = .ok (.getfield 22, 3) := by decide +kernel
theorem dX9_tidy_44 : decode cX9_tidy 44 = .ok (.iload_n 3, 1) := by decide +kernel
theorem dX9_tidy_45 : decode cX9_tidy 45 = .ok (.iconst 1, 1) := by decide +kernel
theorem dX9_tidy_46 : decode cX9_tidy 46 = .ok (.iadd, 1) := by decide +kernel
theorem dX9_tidy_47 : decode cX9_tidy 47 = .ok (.baload, 1) := by decide +kernel
theorem dX9_tidy_48 : decode cX9_tidy 48 = .ok (.ifCond .eq 61, 3) := by decide +kernel
theorem dX9_tidy_51 : decode cX9_tidy 51 = .ok (.aload_n 0, 1) := by decide +kernel
theorem dX9_tidy_52 : decode cX9_tidy 52 = .ok (.iload_n 3, 1) := by decide +kernel
theorem dX9_tidy_53 : decode cX9_tidy 53 = .ok (.invokevirtual 165, 3) := by decide +kernel
theorem dX9_tidy_56 : decode cX9_tidy 56 = .ok (.iconst 0, 1) := by decide +kernel
theorem dX9_tidy_57 : decode cX9_tidy 57 = .ok (.istore 4, 2) := by decide +kernel
theorem dX9_tidy_59 : decode cX9_tidy 59 = .ok (.iload 4, 2) := by decide +kernel
theorem dX9_tidy_61 : decode cX9_tidy 61 = .ok (.iconst 5, 1) := by decide +kernel
theorem dX9_tidy_62 : decode cX9_tidy 62 = .ok (.if_icmp .ge 35, 3) := by decide +kernel
theorem dX9_tidy_65 : decode cX9_tidy 65 = .ok (.aload_n 0, 1) := by decide +kernel
theorem dX9_tidy_66 : decode cX9_tidy 66 = .ok (.getfield 7, 3) := by decide +kernel
theorem dX9_tidy_69 : decode cX9_tidy 69 = .ok (.iconst 5, 1) := by decide +kernel
theorem dX9_tidy_70 : decode cX9_tidy 70 = .ok (.iconst 5, 1) := by decide +kernel
theorem dX9_tidy_71 : decode cX9_tidy 71 = .ok (.iload_n 2, 1) := by decide +kernel
theorem dX9_tidy_72 : decode cX9_tidy 72 = .ok (.imul, 1) := by decide +kernel
theorem dX9_tidy_73 : decode cX9_tidy 73 = .ok (.iadd, 1) := by decide +kernel
theorem dX9_tidy_74 : decode cX9_tidy 74 = .ok (.iload 4, 2) := by decide +kernel
theorem dX9_tidy_76 : decode cX9_tidy 76 = .ok (.iadd, 1) := by decide +kernel
theorem dX9_tidy_77 : decode cX9_tidy 77 = .ok (.aload_n 0, 1) := by decide +kernel
theorem dX9_tidy_78 : decode cX9_tidy 78 = .ok (.getfield 7, 3) := by decide +kernel
theorem dX9_tidy_81 : decode cX9_tidy 81 = .ok (.iconst 5, 1) := by decide +kernel
theorem dX9_tidy_82 : decode cX9_tidy 82 = .ok (.iconst 5, 1) := by decide +kernel
theorem dX9_tidy_83 : decode cX9_tidy 83 = .ok (.iload_n 3, 1) := by decide +kernel
theorem dX9_tidy_84 : decode cX9_tidy 84 = .ok (.imul, 1) := by decide +kernel
theorem dX9_tidy_85 : decode cX9_tidy 85 = .ok (.iadd, 1) := by decide +kernel
theorem dX9_tidy_86 : decode cX9_tidy 86 = .ok (.iload 4, 2) := by decide +kernel
theorem dX9_tidy_88 : decode cX9_tidy 88 = .ok (.iadd, 1) := by decide +kernel
theorem dX9_tidy_89 : decode cX9_tidy 89 = .ok (.iaload, 1) := by decide +kernel
theorem dX9_tidy_90 : decode cX9_tidy 90 = .ok (.iastore, 1) := by decide +kernel
theorem dX9_tidy_91 : decode cX9_tidy 91 = .ok (.iinc 4 1, 3) := by decide +kernel
theorem dX9_tidy_94 : decode cX9_tidy 94 = .ok (.goto (-35), 3) := by decide +kernel
theorem dX9_tidy_97 : decode cX9_tidy 97 = .ok (.iinc 2 1, 3) := by decide +kernel
theorem dX9_tidy_100 : decode cX9_tidy 100 = .ok (.aload_n 0, 1) := by decide +kernel
theorem dX9_tidy_101 : decode cX9_tidy 101 = .ok (.getfield 19, 3) := by decide +kernel
theorem dX9_tidy_104 : decode cX9_tidy 104 = .ok (.iload_n 3, 1) := by decide +kernel
theorem dX9_tidy_105 : decode cX9_tidy 105 = .ok (.iconst 1, 1) := by decide +kernel
theorem dX9_tidy_106 : decode cX9_tidy 106 = .ok (.iadd, 1) := by decide +kernel
theorem dX9_tidy_107 : decode cX9_tidy 107 = .ok (.iload_n 2, 1) := by decide +kernel
theorem dX9_tidy_108 : decode cX9_tidy 108 = .ok (.iastore, 1) := by decide +kernel
theorem dX9_tidy_109 : decode cX9_tidy 109 = .ok (.iinc 3 1, 3) := by decide +kernel
theorem dX9_tidy_112 : decode cX9_tidy 112 = .ok (.goto (-77), 3) := by decide +kernel
theorem dX9_tidy_115 : decode cX9_tidy 115 = .ok (.aload_n 0, 1) := by decide +kernel
theorem dX9_tidy_116 : decode cX9_tidy 116 = .ok (.getfield 7, 3) := by decide +kernel
theorem dX9_tidy_119 : decode cX9_tidy 119 = .ok (.iconst 3, 1) := by decide +kernel
theorem dX9_tidy_120 : decode cX9_tidy 120 = .ok (.iload_n 2, 1) := by decide +kernel
theorem dX9_tidy_121 : decode cX9_tidy 121 = .ok (.iastore, 1) := by decide +kernel
theorem dX9_tidy_122 : decode cX9_tidy 122 = .ok (.aload_n 0, 1) := by decide +kernel
theorem dX9_tidy_123 : decode cX9_tidy 123 = .ok (.getfield 7, 3) := by decide +kernel
theorem dX9_tidy_126 : decode cX9_tidy 126 = .ok (.iconst 4, 1) := by decide +kernel
theorem dX9_tidy_127 : decode cX9_tidy 127 = .ok (.aload_n 0, 1) := by decide +kernel
theorem dX9_tidy_128 : decode cX9_tidy 128 = .ok (.getfield 19, 3) := by decide +kernel
theorem dX9_tidy_131 : decode cX9_tidy 131 = .ok (.aload_n 0, 1) := by decide +kernel
theorem dX9_tidy_132 : decode cX9_tidy 132 = .ok (.getfield 7, 3) := by decide +kernel
theorem dX9_tidy_135 : decode cX9_tidy 135 = .ok (.iconst 4, 1) := by decide +kernel
theorem dX9_tidy_136 : decode cX9_tidy 136 = .ok (.iaload, 1) := by decide +kernel
theorem dX9_tidy_137 : decode cX9_tidy 137 = .ok (.iaload, 1) := by decide +kernel
theorem dX9_tidy_138 : decode cX9_tidy 138 = .ok (.iastore, 1) := by decide +kernel
theorem dX9_tidy_139 : decode cX9_tidy 139 = .ok (.iload_n 1, 1) := by decide +kernel
theorem dX9_tidy_140 : decode cX9_tidy 140 = .ok (.iload_n 2, 1) := by decide +kernel
theorem dX9_tidy_141 : decode cX9_tidy 141 = .ok (.isub, 1) := by decide +kernel
theorem dX9_tidy_142 : decode cX9_tidy 142 = .ok (.ireturn, 1) := by decide +kernel
theorem dX9_undo_0 : decode cX9_undo 0 = .ok (.aload_n 0, 1) := by decide +kernel
theorem dX9_undo_1 : decode cX9_undo 1 = .ok (.iconst 0, 1) := by decide +kernel
theorem dX9_undo_2 : decode cX9_undo 2 = .ok (.putfield 40, 3) := by decide +kernel
theorem dX9_undo_5 : decode cX9_undo 5 = .ok (.aload_n 0, 1) := by decide +kernel
theorem dX9_undo_6 : decode cX9_undo 6 = .ok (.getfield 44, 3) := by decide +kernel
theorem dX9_undo_9 : decode cX9_undo 9 = .ok (.ifCond .ne 9, 3) := by decide +kernel
theorem dX9_undo_12 : decode cX9_undo 12 = .ok (.aload_n 0, 1) := by decide +kernel
theorem dX9_undo_13 : decode cX9_undo 13 = .ok (.iconst 1, 1) := by decide +kernel
theorem dX9_undo_14 : decode cX9_undo 14 = .ok (.invokevirtual 138, 3) := by decide +kernel
theorem dX9_undo_17 : decode cX9_undo 17 = .ok (.ireturn, 1) := by decide +kernel
theorem dX9_undo_18 : decode cX9_undo 18 = .ok (.aload_n 0, 1) := by decide +kernel
theorem dX9_undo_19 : decode cX9_undo 19 = .ok (.dup, 1) := by decide +kernel
theorem dX9_undo_20 : decode cX9_undo 20 = .ok (.getfield 44, 3) := by decide +kernel
theorem dX9_undo_23 : decode cX9_undo 23 = .ok (.iconst 1, 1) := by decide +kernel
theorem dX9_undo_24 : decode cX9_undo 24 = .ok (.isub, 1) := by decide +kernel
theorem dX9_undo_25 : decode cX9_undo 25 = .ok (.putfield 44, 3) := by decide +kernel
theorem dX9_undo_28 : decode cX9_undo 28 = .ok (.iconst 0, 1) := by decide +kernel
theorem dX9_undo_29 : decode cX9_undo 29 = .ok (.istore_n 1, 1) := by decide +kernel
theorem dX9_undo_30 : decode cX9_undo 30 = .ok (.iload_n 1, 1) := by decide +kernel
theorem dX9_undo_31 : decode cX9_undo 31 = .ok (.sipush 206, 3) := by decide +kernel
theorem dX9_undo_34 : decode cX9_undo 34 = .ok (.if_icmp .ge 30, 3) := by decide +kernel
theorem dX9_undo_37 : decode cX9_undo 37 = .ok (.aload_n 0, 1) := by decide +kernel
theorem dX9_undo_38 : decode cX9_undo 38 = .ok (.getfield 7, 3) := by decide +kernel
theorem dX9_undo_41 : decode cX9_undo 41 = .ok (.iload_n 1, 1) := by decide +kernel
theorem dX9_undo_42 : decode cX9_undo 42 = .ok (.aload_n 0, 1) := by decide +kernel
theorem dX9_undo_43 : decode cX9_undo 43 = .ok (.getfield 13, 3) := by decide +kernel
theorem dX9_undo_46 : decode cX9_undo 46 = .ok (.sipush 206, 3) := by decide +kernel
theorem dX9_undo_49 : decode cX9_undo 49 = .ok (.aload_n 0, 1) := by decide +kernel
theorem dX9_undo_50 : decode cX9_undo 50 = .ok (.getfield 44, 3) := by decide +kernel
theorem dX9_undo_53 : decode cX9_undo 53 = .ok (.imul, 1) := by decide +kernel
theorem dX9_undo_54 : decode cX9_undo 54 = .ok (.iload_n 1, 1) := by decide +kernel
theorem dX9_undo_55 : decode cX9_undo 55 = .ok (.iadd, 1) := by decide +kernel
theorem dX9_undo_56 : decode cX9_undo 56 = .ok (.iaload, 1) := by decide +kernel
theorem dX9_undo_57 : decode cX9_undo 57 = .ok (.iastore, 1) := by decide +kernel
theorem dX9_undo_58 : decode cX9_undo 58 = .ok (.iinc 1 1, 3) := by decide +kernel
theorem dX9_undo_61 : decode cX9_undo 61 = .ok (.goto (-31), 3) := by decide +kernel
theorem dX9_undo_64 : decode cX9_undo 64 = .ok (.aload_n 0, 1) := by decide +kernel
theorem dX9_undo_65 : decode cX9_undo 65 = .ok (.getfield 44, 3) := by decide +kernel
theorem dX9_undo_68 : decode cX9_undo 68 = .ok (.ireturn, 1) := by decide +kernel
theorem dX9_instructions_0 : decode cX9_instructions 0 = .ok (.aload_n 0, 1) := by decide +kernel
theorem dX9_instructions_1 : decode cX9_instructions 1 = .ok (.iconst 0, 1) := by decide +kernel
theorem dX9_instructions_2 : decode cX9_instructions 2 = .ok (.putfield 40, 3) := by decide +kernel
theorem dX9_instructions_5 : decode cX9_instructions 5 = .ok (.aload_n 0, 1) := by decide +kernel
theorem dX9_instructions_6 : decode cX9_instructions 6 = .ok (.getfield 7, 3) := by decide +kernel
theorem dX9_instructions_9 : decode cX9_instructions 9 = .ok (.iconst 3, 1) := by decide +kernel
theorem dX9_instructions_10 : decode cX9_instructions 10 = .ok (.iaload, 1) := by decide +kernel
theorem dX9_instructions_11 : decode cX9_instructions 11 = .ok (.ireturn, 1) := by decide +kernel
theorem dX9_operation_0 : decode cX9_operation 0 = .ok (.aload_n 0, 1) := by decide +kernel
theorem dX9_operation_1 : decode cX9_operation 1 = .ok (.iconst 0, 1) := by decide +kernel
theorem dX9_operation_2 : decode cX9_operation 2 = .ok (.putfield 40, 3) := by decide +kernel
theorem dX9_operation_5 : decode cX9_operation 5 = .ok (.iload_n 1, 1) := by decide +kernel
theorem dX9_operation_6 : decode cX9_operation 6 = .ok (.i2l, 1) := by decide +kernel
theorem dX9_operation_7 : decode cX9_operation 7 = .ok (.lconst 0, 1) := by decide +kernel
theorem dX9_operation_8 : decode cX9_operation 8 = .ok (.aload_n 0, 1) := by decide +kernel
theorem dX9_operation_9 : decode cX9_operation 9 = .ok (.getfield 7, 3) := by decide +kernel
theorem dX9_operation_12 : decode cX9_operation 12 = .ok (.iconst 3, 1) := by decide +kernel
theorem dX9_operation_13 : decode cX9_operation 13 = .ok (.iaload, 1) := by decide +kernel
theorem dX9_operation_14 : decode cX9_operation 14 = .ok (.iconst 1, 1) := by decide +kernel
theorem dX9_operation_15 : decode cX9_operation 15 = .ok (.isub, 1) := by decide +kernel
theorem dX9_operation_16 : decode cX9_operation 16 = .ok (.i2l, 1) := by decide +kernel
theorem dX9_operation_17 : decode cX9_operation 17 = .ok (.invokestatic 130, 3) := by decide +kernel
theorem dX9_operation_20 : decode cX9_operation 20 = .ok (.ifCond .eq 16, 3) := by decide +kernel
theorem dX9_operation_23 : decode cX9_operation 23 = .ok (.aload_n 0, 1) := by decide +kernel
theorem dX9_operation_24 : decode cX9_operation 24 = .ok (.getfield 7, 3) := by decide +kernel
theorem dX9_operation_27 : decode cX9_operation 27 = .ok (.iconst 5, 1) := by decide +kernel
theorem dX9_operation_28 : decode cX9_operation 28 = .ok (.iconst 5, 1) := by decide +kernel
theorem dX9_operation_29 : decode cX9_operation 29 = .ok (.iload_n 1, 1) := by decide +kernel
theorem dX9_operation_30 : decode cX9_operation 30 = .ok (.imul, 1) := by decide +kernel
theorem dX9_operation_31 : decode cX9_operation 31 = .ok (.iadd, 1) := by decide +kernel
theorem dX9_operation_32 : decode cX9_operation 32 = .ok (.iaload, 1) := by decide +kernel
theorem dX9_operation_33 : decode cX9_operation 33 = .ok (.goto 8, 3) := by decide +kernel
theorem dX9_operation_36 : decode cX9_operation 36 = .ok (.aload_n 0, 1) := by decide +kernel
theorem dX9_operation_37 : decode cX9_operation 37 = .ok (.iconst 1, 1) := by decide +kernel
theorem dX9_operation_38 : decode cX9_operation 38 = .ok (.invokevirtual 138, 3) := by decide +kernel
theorem dX9_operation_41 : decode cX9_operation 41 = .ok (.ireturn, 1) := by decide +kernel
theorem dX9_operand_0 : decode cX9_operand 0 = .ok (.aload_n 0, 1) := by decide +kernel
theorem dX9_operand_1 : decode cX9_operand 1 = .ok (.iconst 0, 1) := by decide +kernel
theorem dX9_operand_2 : decode cX9_operand 2 = .ok (.putfield 40, 3) := by decide +kernel
theorem dX9_operand_5 : decode cX9_operand 5 = .ok (.iload_n 1, 1) := by decide +kernel
theorem dX9_operand_6 : decode cX9_operand 6 = .ok (.i2l, 1) := by decide +kernel
theorem dX9_operand_7 : decode cX9_operand 7 = .ok (.lconst 0, 1) := by decide +kernel
theorem dX9_operand_8 : decode cX9_operand 8 = .ok (.aload_n 0, 1) := by decide +kernel
theorem dX9_operand_9 : decode cX9_operand 9 = .ok (.getfield 7, 3) := by decide +kernel
theorem dX9_operand_12 : decode cX9_operand 12 = .ok (.iconst 3, 1) := by decide +kernel
theorem dX9_operand_13 : decode cX9_operand 13 = .ok (.iaload, 1) := by decide +kernel
theorem dX9_operand_14 : decode cX9_operand 14 = .ok (.iconst 1, 1) := by decide +kernel
theorem dX9_operand_15 : decode cX9_operand 15 = .ok (.isub, 1) := by decide +kernel
theorem dX9_operand_16 : decode cX9_operand 16 = .ok (.i2l, 1) := by decide +kernel
theorem dX9_operand_17 : decode cX9_operand 17 = .ok (.invokestatic 130, 3) := by decide +kernel
theorem dX9_operand_20 : decode cX9_operand 20 = .ok (.ifCond .eq 32, 3) := by decide +kernel
theorem dX9_operand_23 : decode cX9_operand 23 = .ok (.iload_n 2, 1) := by decide +kernel
theorem dX9_operand_24 : decode cX9_operand 24 = .ok (.i2l, 1) := by decide +kernel
theorem dX9_operand_25 : decode cX9_operand 25 = .ok (.lconst 0, 1) := by decide +kernel
theorem dX9_operand_26 : decode cX9_operand 26 = .ok (.lconst 1, 1) := by decide +kernel
theorem dX9_operand_27 : decode cX9_operand 27 = .ok (.invokestatic 130, 3) := by decide +kernel
theorem dX9_operand_30 : decode cX9_operand 30 = .ok (.ifCond .eq 22, 3) := by decide +kernel
theorem dX9_operand_33 : decode cX9_operand 33 = .ok (.aload_n 0, 1) := by decide +kernel
theorem dX9_operand_34 : decode cX9_operand 34 = .ok (.getfield 7, 3) := by decide +kernel
theorem dX9_operand_37 : decode cX9_operand 37 = .ok (.iconst 5, 1) := by decide +kernel
theorem dX9_operand_38 : decode cX9_operand 38 = .ok (.iconst 5, 1) := by decide +kernel
theorem dX9_operand_39 : decode cX9_operand 39 = .ok (.iload_n 1, 1) := by decide +kernel
theorem dX9_operand_40 : decode cX9_operand 40 = .ok (.imul, 1) := by decide +kernel
theorem dX9_operand_41 : decode cX9_operand 41 = .ok (.iadd, 1) := by decide +kernel
theorem dX9_operand_42 : decode cX9_operand 42 = .ok (.iconst 2, 1) := by decide +kernel
theorem dX9_operand_43 : decode cX9_operand 43 = .ok (.iadd, 1) := by decide +kernel
theorem dX9_operand_44 : decode cX9_operand 44 = .ok (.iconst 2, 1) := by decide +kernel
theorem dX9_operand_45 : decode cX9_operand 45 = .ok (.iload_n 2, 1) := by decide +kernel
theorem dX9_operand_46 : decode cX9_operand 46 = .ok (.imul, 1) := by decide +kernel
theorem dX9_operand_47 : decode cX9_operand 47 = .ok (.iadd, 1) := by decide +kernel
theorem dX9_operand_48 : decode cX9_operand 48 = .ok (.iaload, 1) := by decide +kernel
theorem dX9_operand_49 : decode cX9_operand 49 = .ok (.goto 8, 3) := by decide +kernel
theorem dX9_operand_52 : decode cX9_operand 52 = .ok (.aload_n 0, 1) := by decide +kernel
theorem dX9_operand_53 : decode cX9_operand 53 = .ok (.iconst 1, 1) := by decide +kernel
theorem dX9_operand_54 : decode cX9_operand 54 = .ok (.invokevirtual 138, 3) := by decide +kernel
theorem dX9_operand_57 : decode cX9_operand 57 = .ok (.ireturn, 1) := by decide +kernel
theorem dX9_isConstant_0 : decode cX9_isConstant 0 = .ok (.aload_n 0, 1) := by decide +kernel
theorem dX9_isConstant_1 : decode cX9_isConstant 1 = .ok (.iload_n 1, 1) := by decide +kernel
theorem dX9_isConstant_2 : decode cX9_isConstant 2 = .ok (.i2l, 1) := by decide +kernel
theorem dX9_isConstant_3 : decode cX9_isConstant 3 = .ok (.lconst 0, 1) := by decide +kernel
theorem dX9_isConstant_4 : decode cX9_isConstant 4 = .ok (.aload_n 0, 1) := by decide +kernel
theorem dX9_isConstant_5 : decode cX9_isConstant 5 = .ok (.getfield 7, 3) := by decide +kernel
theorem dX9_isConstant_8 : decode cX9_isConstant 8 = .ok (.iconst 3, 1) := by decide +kernel
theorem dX9_isConstant_9 : decode cX9_isConstant 9 = .ok (.iaload, 1) := by decide +kernel
theorem dX9_isConstant_10 : decode cX9_isConstant 10 = .ok (.iconst 1, 1) := by decide +kernel
theorem dX9_isConstant_11 : decode cX9_isConstant 11 = .ok (.isub, 1) := by decide +kernel
theorem dX9_isConstant_12 : decode cX9_isConstant 12 = .ok (.i2l, 1) := by decide +kernel
theorem dX9_isConstant_13 : decode cX9_isConstant 13 = .ok (.invokestatic 130, 3) := by decide +kernel
theorem dX9_isConstant_16 : decode cX9_isConstant 16 = .ok (.ifCond .eq 17, 3) := by decide +kernel
theorem dX9_isConstant_19 : decode cX9_isConstant 19 = .ok (.iload_n 2, 1) := by decide +kernel
theorem dX9_isConstant_20 : decode cX9_isConstant 20 = .ok (.i2l, 1) := by decide +kernel
theorem dX9_isConstant_21 : decode cX9_isConstant 21 = .ok (.lconst 0, 1) := by decide +kernel
theorem dX9_isConstant_22 : decode cX9_isConstant 22 = .ok (.lconst 1, 1) := by decide +kernel
theorem dX9_isConstant_23 : decode cX9_isConstant 23 = .ok (.invokestatic 130, 3) := by decide +kernel
theorem dX9_isConstant_26 : decode cX9_isConstant 26 = .ok (.ifCond .eq 7, 3) := by decide +kernel
theorem dX9_isConstant_29 : decode cX9_isConstant 29 = .ok (.iconst 0, 1) := by decide +kernel
theorem dX9_isConstant_30 : decode cX9_isConstant 30 = .ok (.goto 4, 3) := by decide +kernel
theorem dX9_isConstant_33 : decode cX9_isConstant 33 = .ok (.iconst 1, 1) := by decide +kernel
theorem dX9_isConstant_34 : decode cX9_isConstant 34 = .ok (.putfield 40, 3) := by decide +kernel
theorem dX9_isConstant_37 : decode cX9_isConstant 37 = .ok (.aload_n 0, 1) := by decide +kernel
theorem dX9_isConstant_38 : decode cX9_isConstant 38 = .ok (.getfield 40, 3) := by decide +kernel
theorem dX9_isConstant_41 : decode cX9_isConstant 41 = .ok (.ifCond .ne 27, 3) := by decide +kernel
theorem dX9_isConstant_44 : decode cX9_isConstant 44 = .ok (.aload_n 0, 1) := by decide +kernel
theorem dX9_isConstant_45 : decode cX9_isConstant 45 = .ok (.getfield 7, 3) := by decide +kernel
theorem dX9_isConstant_48 : decode cX9_isConstant 48 = .ok (.iconst 5, 1) := by decide +kernel
theorem dX9_isConstant_49 : decode cX9_isConstant 49 = .ok (.iconst 5, 1) := by decide +kernel
theorem dX9_isConstant_50 : decode cX9_isConstant 50 = .ok (.iload_n 1, 1) := by decide +kernel
theorem dX9_isConstant_51 : decode cX9_isConstant 51 = .ok (.imul, 1) := by decide +kernel
theorem dX9_isConstant_52 : decode cX9_isConstant 52 = .ok (.iadd, 1) := by decide +kernel
theorem dX9_isConstant_53 : decode cX9_isConstant 53 = .ok (.iconst 1, 1) := by decide +kernel
theorem dX9_isConstant_54 : decode cX9_isConstant 54 = .ok (.iadd, 1) := by decide +kernel
theorem dX9_isConstant_55 : decode cX9_isConstant 55 = .ok (.iconst 2, 1) := by decide +kernel
theorem dX9_isConstant_56 : decode cX9_isConstant 56 = .ok (.iload_n 2, 1) := by decide +kernel
theorem dX9_isConstant_57 : decode cX9_isConstant 57 = .ok (.imul, 1) := by decide +kernel
theorem dX9_isConstant_58 : decode cX9_isConstant 58 = .ok (.iadd, 1) := by decide +kernel
theorem dX9_isConstant_59 : decode cX9_isConstant 59 = .ok (.iaload, 1) := by decide +kernel
theorem dX9_isConstant_60 : decode cX9_isConstant 60 = .ok (.iconst 1, 1) := by decide +kernel
theorem dX9_isConstant_61 : decode cX9_isConstant 61 = .ok (.if_icmp .ne 7, 3) := by decide +kernel
theorem dX9_isConstant_64 : decode cX9_isConstant 64 = .ok (.iconst 1, 1) := by decide +kernel
theorem dX9_isConstant_65 : decode cX9_isConstant 65 = .ok (.goto 4, 3) := by decide +kernel
theorem dX9_isConstant_68 : decode cX9_isConstant 68 = .ok (.iconst 0, 1) := by decide +kernel
theorem dX9_isConstant_69 : decode cX9_isConstant 69 = .ok (.ireturn, 1) := by decide +kernel
theorem dX9_result_0 : decode cX9_result 0 = .ok (.aload_n 0, 1) := by decide +kernel
theorem dX9_result_1 : decode cX9_result 1 = .ok (.iconst 0, 1) := by decide +kernel
theorem dX9_result_2 : decode cX9_result 2 = .ok (.putfield 40, 3) := by decide +kernel
theorem dX9_result_5 : decode cX9_result 5 = .ok (.aload_n 0, 1) := by decide +kernel
theorem dX9_result_6 : decode cX9_result 6 = .ok (.getfield 7, 3) := by decide +kernel
theorem dX9_result_9 : decode cX9_result 9 = .ok (.iconst 4, 1) := by decide +kernel
theorem dX9_result_10 : decode cX9_result 10 = .ok (.iaload, 1) := by decide +kernel
theorem dX9_result_11 : decode cX9_result 11 = .ok (.ireturn, 1) := by decide +kernel
theorem dX9_cost_0 : decode cX9_cost 0 = .ok (.aload_n 0, 1) := by decide +kernel
theorem dX9_cost_1 : decode cX9_cost 1 = .ok (.iconst 0, 1) := by decide +kernel
theorem dX9_cost_2 : decode cX9_cost 2 = .ok (.putfield 40, 3) := by decide +kernel
theorem dX9_cost_5 : decode cX9_cost 5 = .ok (.iconst 0, 1) := by decide +kernel
theorem dX9_cost_6 : decode cX9_cost 6 = .ok (.istore_n 1, 1) := by decide +kernel
theorem dX9_cost_7 : decode cX9_cost 7 = .ok (.iconst 0, 1) := by decide +kernel
theorem dX9_cost_8 : decode cX9_cost 8 = .ok (.istore_n 2, 1) := by decide +kernel
theorem dX9_cost_9 : decode cX9_cost 9 = .ok (.iload_n 2, 1) := by decide +kernel
theorem dX9_cost_10 : decode cX9_cost 10 = .ok (.aload_n 0, 1) := by decide +kernel
theorem dX9_cost_11 : decode cX9_cost 11 = .ok (.getfield 7, 3) := by decide +kernel
theorem dX9_cost_14 : decode cX9_cost 14 = .ok (.iconst 3, 1) := by decide +kernel
theorem dX9_cost_15 : decode cX9_cost 15 = .ok (.iaload, 1) := by decide +kernel
theorem dX9_cost_16 : decode cX9_cost 16 = .ok (.if_icmp .ge 64, 3) := by decide +kernel
theorem dX9_cost_19 : decode cX9_cost 19 = .ok (.aload_n 0, 1) := by decide +kernel
theorem dX9_cost_20 : decode cX9_cost 20 = .ok (.getfield 7, 3) := by decide +kernel
theorem dX9_cost_23 : decode cX9_cost 23 = .ok (.iconst 5, 1) := by decide +kernel
theorem dX9_cost_24 : decode cX9_cost 24 = .ok (.iconst 5, 1) := by decide +kernel
theorem dX9_cost_25 : decode cX9_cost 25 = .ok (.iload_n 2, 1) := by decide +kernel
theorem dX9_cost_26 : decode cX9_cost 26 = .ok (.imul, 1) := by decide +kernel
theorem dX9_cost_27 : decode cX9_cost 27 = .ok (.iadd, 1) := by decide +kernel
theorem dX9_cost_28 : decode cX9_cost 28 = .ok (.iaload, 1) := by decide +kernel
theorem dX9_cost_29 : decode cX9_cost 29 = .ok (.istore_n 3, 1) := by decide +kernel
theorem dX9_cost_30 : decode cX9_cost 30 = .ok (.iload_n 1, 1) := by decide +kernel
theorem dX9_cost_31 : decode cX9_cost 31 = .ok (.iload_n 3, 1) := by decide +kernel
theorem dX9_cost_32 : decode cX9_cost 32 = .ok (.iconst 5, 1) := by decide +kernel
theorem dX9_cost_33 : decode cX9_cost 33 = .ok (.if_icmp .ne 12, 3) := by decide +kernel
theorem dX9_cost_36 : decode cX9_cost 36 = .ok (.aload_n 0, 1) := by decide +kernel
theorem dX9_cost_37 : decode cX9_cost 37 = .ok (.getfield 16, 3) := by decide +kernel
theorem dX9_cost_40 : decode cX9_cost 40 = .ok (.iconst 0, 1) := by decide +kernel
theorem dX9_cost_41 : decode cX9_cost 41 = .ok (.iaload, 1) := by decide +kernel
theorem dX9_cost_42 : decode cX9_cost 42 = .ok (.goto 30, 3) := by decide +kernel
theorem dX9_cost_45 : decode cX9_cost 45 = .ok (.iload_n 3, 1) := by decide +kernel
theorem dX9_cost_46 : decode cX9_cost 46 = .ok (.bipush 6, 2) := by decide +kernel
theorem dX9_cost_48 : decode cX9_cost 48 = .ok (.if_icmp .eq 9, 3) := by decide +kernel
theorem dX9_cost_51 : decode cX9_cost 51 = .ok (.iload_n 3, 1) := by decide +kernel
theorem dX9_cost_52 : decode cX9_cost 52 = .ok (.bipush 7, 2) := by decide +kernel
theorem dX9_cost_54 : decode cX9_cost 54 = .ok (.if_icmp .ne 12, 3) := by decide +kernel
theorem dX9_cost_57 : decode cX9_cost 57 = .ok (.aload_n 0, 1) := by decide +kernel
theorem dX9_cost_58 : decode cX9_cost 58 = .ok (.getfield 16, 3) := by decide +kernel
theorem dX9_cost_61 : decode cX9_cost 61 = .ok (.iconst 1, 1) := by decide +kernel
theorem dX9_cost_62 : decode cX9_cost 62 = .ok (.iaload, 1) := by decide +kernel
theorem dX9_cost_63 : decode cX9_cost 63 = .ok (.goto 9, 3) := by decide +kernel
theorem dX9_cost_66 : decode cX9_cost 66 = .ok (.aload_n 0, 1) := by decide +kernel
theorem dX9_cost_67 : decode cX9_cost 67 = .ok (.getfield 16, 3) := by decide +kernel
theorem dX9_cost_70 : decode cX9_cost 70 = .ok (.iconst 2, 1) := by decide +kernel
theorem dX9_cost_71 : decode cX9_cost 71 = .ok (.iaload, 1) := by decide +kernel
theorem dX9_cost_72 : decode cX9_cost 72 = .ok (.iadd, 1) := by decide +kernel
theorem dX9_cost_73 : decode cX9_cost 73 = .ok (.istore_n 1, 1) := by decide +kernel
theorem dX9_cost_74 : decode cX9_cost 74 = .ok (.iinc 2 1, 3) := by decide +kernel
theorem dX9_cost_77 : decode cX9_cost 77 = .ok (.goto (-68), 3) := by decide +kernel
theorem dX9_cost_80 : decode cX9_cost 80 = .ok (.iload_n 1, 1) := by decide +kernel
theorem dX9_cost_81 : decode cX9_cost 81 = .ok (.ireturn, 1) := by decide +kernel
theorem dX9_depth_0 : decode cX9_depth 0 = .ok (.aload_n 0, 1) := by decide +kernel
theorem dX9_depth_1 : decode cX9_depth 1 = .ok (.iconst 0, 1) := by decide +kernel
theorem dX9_depth_2 : decode cX9_depth 2 = .ok (.putfield 40, 3) := by decide +kernel
theorem dX9_depth_5 : decode cX9_depth 5 = .ok (.iconst 0, 1) := by decide +kernel
theorem dX9_depth_6 : decode cX9_depth 6 = .ok (.istore_n 1, 1) := by decide +kernel
theorem dX9_depth_7 : decode cX9_depth 7 = .ok (.iload_n 1, 1) := by decide +kernel
theorem dX9_depth_8 : decode cX9_depth 8 = .ok (.aload_n 0, 1) := by decide +kernel
theorem dX9_depth_9 : decode cX9_depth 9 = .ok (.getfield 7, 3) := by decide +kernel
theorem dX9_depth_12 : decode cX9_depth 12 = .ok (.iconst 3, 1) := by decide +kernel
theorem dX9_depth_13 : decode cX9_depth 13 = .ok (.iaload, 1) := by decide +kernel
theorem dX9_depth_14 : decode cX9_depth 14 = .ok (.if_icmp .ge 98, 3) := by decide +kernel
theorem dX9_depth_17 : decode cX9_depth 17 = .ok (.iconst 5, 1) := by decide +kernel
theorem dX9_depth_18 : decode cX9_depth 18 = .ok (.iconst 5, 1) := by decide +kernel
theorem dX9_depth_19 : decode cX9_depth 19 = .ok (.iload_n 1, 1) := by decide +kernel
theorem dX9_depth_20 : decode cX9_depth 20 = .ok (.imul, 1) := by decide +kernel
theorem dX9_depth_21 : decode cX9_depth 21 = .ok (.iadd, 1) := by decide +kernel
theorem dX9_depth_22 : decode cX9_depth 22 = .ok (.istore_n 2, 1) := by decide +kernel
theorem dX9_depth_23 : decode cX9_depth 23 = .ok (.aload_n 0, 1) := by decide +kernel
theorem dX9_depth_24 : decode cX9_depth 24 = .ok (.getfield 7, 3) := by decide +kernel
theorem dX9_depth_27 : decode cX9_depth 27 = .ok (.iload_n 2, 1) := by decide +kernel
theorem dX9_depth_28 : decode cX9_depth 28 = .ok (.iconst 1, 1) := by decide +kernel
theorem dX9_depth_29 : decode cX9_depth 29 = .ok (.iadd, 1) := by decide +kernel
theorem dX9_depth_30 : decode cX9_depth 30 = .ok (.iaload, 1) := by decide +kernel
theorem dX9_depth_31 : decode cX9_depth 31 = .ok (.iconst 1, 1) := by decide +kernel
theorem dX9_depth_32 : decode cX9_depth 32 = .ok (.if_icmp .ne 7, 3) := by decide +kernel
theorem dX9_depth_35 : decode cX9_depth 35 = .ok (.iconst 0, 1) := by decide +kernel
theorem dX9_depth_36 : decode cX9_depth 36 = .ok (.goto 16, 3) := by decide +kernel
theorem dX9_depth_39 : decode cX9_depth 39 = .ok (.aload_n 0, 1) := by decide +kernel
theorem dX9_depth_40 : decode cX9_depth 40 = .ok (.getfield 26, 3) := by decide +kernel
theorem dX9_depth_43 : decode cX9_depth 43 = .ok (.aload_n 0, 1) := by decide +kernel
theorem dX9_depth_44 : decode cX9_depth 44 = .ok (.getfield 7, 3) := by decide +kernel
theorem dX9_depth_47 : decode cX9_depth 47 = .ok (.iload_n 2, 1) := by decide +kernel
theorem dX9_depth_48 : decode cX9_depth 48 = .ok (.iconst 2, 1) := by decide +kernel
theorem dX9_depth_49 : decode cX9_depth 49 = .ok (.iadd, 1) := by decide +kernel
theorem dX9_depth_50 : decode cX9_depth 50 = .ok (.iaload, 1) := by decide +kernel
theorem dX9_depth_51 : decode cX9_depth 51 = .ok (.iaload, 1) := by decide +kernel
theorem dX9_depth_52 : decode cX9_depth 52 = .ok (.istore_n 3, 1) := by decide +kernel
theorem dX9_depth_53 : decode cX9_depth 53 = .ok (.aload_n 0, 1) := by decide +kernel
theorem dX9_depth_54 : decode cX9_depth 54 = .ok (.getfield 7, 3) := by decide +kernel
theorem dX9_depth_57 : decode cX9_depth 57 = .ok (.iload_n 2, 1) := by decide +kernel
theorem dX9_depth_58 : decode cX9_depth 58 = .ok (.iconst 3, 1) := by decide +kernel
theorem dX9_depth_59 : decode cX9_depth 59 = .ok (.iadd, 1) := by decide +kernel
theorem dX9_depth_60 : decode cX9_depth 60 = .ok (.iaload, 1) := by decide +kernel
theorem dX9_depth_61 : decode cX9_depth 61 = .ok (.iconst 1, 1) := by decide +kernel
theorem dX9_depth_62 : decode cX9_depth 62 = .ok (.if_icmp .ne 7, 3) := by decide +kernel
theorem dX9_depth_65 : decode cX9_depth 65 = .ok (.iconst 0, 1) := by decide +kernel
theorem dX9_depth_66 : decode cX9_depth 66 = .ok (.goto 16, 3) := by decide +kernel
theorem dX9_depth_69 : decode cX9_depth 69 = .ok (.aload_n 0, 1) := by decide +kernel
theorem dX9_depth_70 : decode cX9_depth 70 = .ok (.getfield 26, 3) := by decide +kernel
theorem dX9_depth_73 : decode cX9_depth 73 = .ok (.aload_n 0, 1) := by decide +kernel
theorem dX9_depth_74 : decode cX9_depth 74 = .ok (.getfield 7, 3) := by decide +kernel
theorem dX9_depth_77 : decode cX9_depth 77 = .ok (.iload_n 2, 1) := by decide +kernel
theorem dX9_depth_78 : decode cX9_depth 78 = .ok (.iconst 4, 1) := by decide +kernel
theorem dX9_depth_79 : decode cX9_depth 79 = .ok (.iadd, 1) := by decide +kernel
theorem dX9_depth_80 : decode cX9_depth 80 = .ok (.iaload, 1) := by decide +kernel
theorem dX9_depth_81 : decode cX9_depth 81 = .ok (.iaload, 1) := by decide +kernel
theorem dX9_depth_82 : decode cX9_depth 82 = .ok (.istore 4, 2) := by decide +kernel
theorem dX9_depth_84 : decode cX9_depth 84 = .ok (.aload_n 0, 1) := by decide +kernel
theorem dX9_depth_85 : decode cX9_depth 85 = .ok (.getfield 26, 3) := by decide +kernel
theorem dX9_depth_88 : decode cX9_depth 88 = .ok (.iload_n 1, 1) := by decide +kernel
theorem dX9_depth_89 : decode cX9_depth 89 = .ok (.iconst 1, 1) := by decide +kernel
theorem dX9_depth_90 : decode cX9_depth 90 = .ok (.iadd, 1) := by decide +kernel
theorem dX9_depth_91 : decode cX9_depth 91 = .ok (.iconst 1, 1) := by decide +kernel
theorem dX9_depth_92 : decode cX9_depth 92 = .ok (.iload_n 3, 1) := by decide +kernel
theorem dX9_depth_93 : decode cX9_depth 93 = .ok (.iload 4, 2) := by decide +kernel
theorem dX9_depth_95 : decode cX9_depth 95 = .ok (.if_icmp .le 7, 3) := by decide +kernel
theorem dX9_depth_98 : decode cX9_depth 98 = .ok (.iload_n 3, 1) := by decide +kernel
theorem dX9_depth_99 : decode cX9_depth 99 = .ok (.goto 5, 3) := by decide +kernel
theorem dX9_depth_102 : decode cX9_depth 102 = .ok (.iload 4, 2) := by decide +kernel
theorem dX9_depth_104 : decode cX9_depth 104 = .ok (.iadd, 1) := by decide +kernel
theorem dX9_depth_105 : decode cX9_depth 105 = .ok (.iastore, 1) := by decide +kernel
theorem dX9_depth_106 : decode cX9_depth 106 = .ok (.iinc 1 1, 3) := by decide +kernel
theorem dX9_depth_109 : decode cX9_depth 109 = .ok (.goto (-102), 3) := by decide +kernel
theorem dX9_depth_112 : decode cX9_depth 112 = .ok (.aload_n 0, 1) := by decide +kernel
theorem dX9_depth_113 : decode cX9_depth 113 = .ok (.getfield 26, 3) := by decide +kernel
theorem dX9_depth_116 : decode cX9_depth 116 = .ok (.aload_n 0, 1) := by decide +kernel
theorem dX9_depth_117 : decode cX9_depth 117 = .ok (.getfield 7, 3) := by decide +kernel
theorem dX9_depth_120 : decode cX9_depth 120 = .ok (.iconst 4, 1) := by decide +kernel
theorem dX9_depth_121 : decode cX9_depth 121 = .ok (.iaload, 1) := by decide +kernel
theorem dX9_depth_122 : decode cX9_depth 122 = .ok (.iaload, 1) := by decide +kernel
theorem dX9_depth_123 : decode cX9_depth 123 = .ok (.ireturn, 1) := by decide +kernel
theorem dX9_tells_0 : decode cX9_tells 0 = .ok (.aload_n 0, 1) := by decide +kernel
theorem dX9_tells_1 : decode cX9_tells 1 = .ok (.getfield 33, 3) := by decide +kernel
theorem dX9_tells_4 : decode cX9_tells 4 = .ok (.aload_n 0, 1) := by decide +kernel
theorem dX9_tells_5 : decode cX9_tells 5 = .ok (.getfield 179, 3) := by decide +kernel
theorem dX9_tells_8 : decode cX9_tells 8 = .ok (.iload_n 1, 1) := by decide +kernel
theorem dX9_tells_9 : decode cX9_tells 9 = .ok (.iastore, 1) := by decide +kernel
theorem dX9_tells_10 : decode cX9_tells 10 = .ok (.aload_n 0, 1) := by decide +kernel
theorem dX9_tells_11 : decode cX9_tells 11 = .ok (.dup, 1) := by decide +kernel
theorem dX9_tells_12 : decode cX9_tells 12 = .ok (.getfield 179, 3) := by decide +kernel
theorem dX9_tells_15 : decode cX9_tells 15 = .ok (.iconst 1, 1) := by decide +kernel
theorem dX9_tells_16 : decode cX9_tells 16 = .ok (.iadd, 1) := by decide +kernel
theorem dX9_tells_17 : decode cX9_tells 17 = .ok (.putfield 179, 3) := by decide +kernel
theorem dX9_tells_20 : decode cX9_tells 20 = .ok (.return_, 1) := by decide +kernel
theorem dX9_tellsWord_0 : decode cX9_tellsWord 0 = .ok (.iconst 0, 1) := by decide +kernel
theorem dX9_tellsWord_1 : decode cX9_tellsWord 1 = .ok (.istore_n 2, 1) := by decide +kernel
theorem dX9_tellsWord_2 : decode cX9_tellsWord 2 = .ok (.iconst 0, 1) := by decide +kernel
theorem dX9_tellsWord_3 : decode cX9_tellsWord 3 = .ok (.istore_n 3, 1) := by decide +kernel
theorem dX9_tellsWord_4 : decode cX9_tellsWord 4 = .ok (.iload_n 3, 1) := by decide +kernel
theorem dX9_tellsWord_5 : decode cX9_tellsWord 5 = .ok (.aload_n 0, 1) := by decide +kernel
theorem dX9_tellsWord_6 : decode cX9_tellsWord 6 = .ok (.getfield 29, 3) := by decide +kernel
theorem dX9_tellsWord_9 : decode cX9_tellsWord 9 = .ok (.arraylength, 1) := by decide +kernel
theorem dX9_tellsWord_10 : decode cX9_tellsWord 10 = .ok (.if_icmp .ge 41, 3) := by decide +kernel
theorem dX9_tellsWord_13 : decode cX9_tellsWord 13 = .ok (.aload_n 0, 1) := by decide +kernel
theorem dX9_tellsWord_14 : decode cX9_tellsWord 14 = .ok (.getfield 29, 3) := by decide +kernel
theorem dX9_tellsWord_17 : decode cX9_tellsWord 17 = .ok (.iload_n 3, 1) := by decide +kernel
theorem dX9_tellsWord_18 : decode cX9_tellsWord 18 = .ok (.caload, 1) := by decide +kernel
theorem dX9_tellsWord_19 : decode cX9_tellsWord 19 = .ok (.bipush 59, 2) := by decide +kernel
theorem dX9_tellsWord_21 : decode cX9_tellsWord 21 = .ok (.if_icmp .ne 9, 3) := by decide +kernel
theorem dX9_tellsWord_24 : decode cX9_tellsWord 24 = .ok (.iinc 2 1, 3) := by decide +kernel
theorem dX9_tellsWord_27 : decode cX9_tellsWord 27 = .ok (.goto 18, 3) := by decide +kernel
theorem dX9_tellsWord_30 : decode cX9_tellsWord 30 = .ok (.iload_n 2, 1) := by decide +kernel
theorem dX9_tellsWord_31 : decode cX9_tellsWord 31 = .ok (.iload_n 1, 1) := by decide +kernel
theorem dX9_tellsWord_32 : decode cX9_tellsWord 32 = .ok (.if_icmp .ne 13, 3) := by decide +kernel
theorem dX9_tellsWord_35 : decode cX9_tellsWord 35 = .ok (.aload_n 0, 1) := by decide +kernel
theorem dX9_tellsWord_36 : decode cX9_tellsWord 36 = .ok (.aload_n 0, 1) := by decide +kernel
theorem dX9_tellsWord_37 : decode cX9_tellsWord 37 = .ok (.getfield 29, 3) := by decide +kernel
theorem dX9_tellsWord_40 : decode cX9_tellsWord 40 = .ok (.iload_n 3, 1) := by decide +kernel
theorem dX9_tellsWord_41 : decode cX9_tellsWord 41 = .ok (.caload, 1) := by decide +kernel
theorem dX9_tellsWord_42 : decode cX9_tellsWord 42 = .ok (.invokevirtual 182, 3) := by decide +kernel
theorem dX9_tellsWord_45 : decode cX9_tellsWord 45 = .ok (.iinc 3 1, 3) := by decide +kernel
theorem dX9_tellsWord_48 : decode cX9_tellsWord 48 = .ok (.goto (-44), 3) := by decide +kernel
theorem dX9_tellsWord_51 : decode cX9_tellsWord 51 = .ok (.return_, 1) := by decide +kernel
theorem dX9_tellsNumber_0 : decode cX9_tellsNumber 0 = .ok (.iconst 1, 1) := by decide +kernel
theorem dX9_tellsNumber_1 : decode cX9_tellsNumber 1 = .ok (.istore_n 2, 1) := by decide +kernel
theorem dX9_tellsNumber_2 : decode cX9_tellsNumber 2 = .ok (.iload_n 1, 1) := by decide +kernel
theorem dX9_tellsNumber_3 : decode cX9_tellsNumber 3 = .ok (.iload_n 2, 1) := by decide +kernel
theorem dX9_tellsNumber_4 : decode cX9_tellsNumber 4 = .ok (.idiv, 1) := by decide +kernel
theorem dX9_tellsNumber_5 : decode cX9_tellsNumber 5 = .ok (.bipush 10, 2) := by decide +kernel
theorem dX9_tellsNumber_7 : decode cX9_tellsNumber 7 = .ok (.if_icmp .lt 11, 3) := by decide +kernel
theorem dX9_tellsNumber_10 : decode cX9_tellsNumber 10 = .ok (.iload_n 2, 1) := by decide +kernel
theorem dX9_tellsNumber_11 : decode cX9_tellsNumber 11 = .ok (.bipush 10, 2) := by decide +kernel
theorem dX9_tellsNumber_13 : decode cX9_tellsNumber 13 = .ok (.imul, 1) := by decide +kernel
theorem dX9_tellsNumber_14 : decode cX9_tellsNumber 14 = .ok (.istore_n 2, 1) := by decide +kernel
theorem dX9_tellsNumber_15 : decode cX9_tellsNumber 15 = .ok (.goto (-13), 3) := by decide +kernel
theorem dX9_tellsNumber_18 : decode cX9_tellsNumber 18 = .ok (.iload_n 2, 1) := by decide +kernel
theorem dX9_tellsNumber_19 : decode cX9_tellsNumber 19 = .ok (.ifCond .le 24, 3) := by decide +kernel
theorem dX9_tellsNumber_22 : decode cX9_tellsNumber 22 = .ok (.aload_n 0, 1) := by decide +kernel
theorem dX9_tellsNumber_23 : decode cX9_tellsNumber 23 = .ok (.bipush 48, 2) := by decide +kernel
theorem dX9_tellsNumber_25 : decode cX9_tellsNumber 25 = .ok (.iload_n 1, 1) := by decide +kernel
theorem dX9_tellsNumber_26 : decode cX9_tellsNumber 26 = .ok (.iload_n 2, 1) := by decide +kernel
theorem dX9_tellsNumber_27 : decode cX9_tellsNumber 27 = .ok (.idiv, 1) := by decide +kernel
theorem dX9_tellsNumber_28 : decode cX9_tellsNumber 28 = .ok (.bipush 10, 2) := by decide +kernel
theorem dX9_tellsNumber_30 : decode cX9_tellsNumber 30 = .ok (.irem, 1) := by decide +kernel
theorem dX9_tellsNumber_31 : decode cX9_tellsNumber 31 = .ok (.iadd, 1) := by decide +kernel
theorem dX9_tellsNumber_32 : decode cX9_tellsNumber 32 = .ok (.invokevirtual 182, 3) := by decide +kernel
theorem dX9_tellsNumber_35 : decode cX9_tellsNumber 35 = .ok (.iload_n 2, 1) := by decide +kernel
theorem dX9_tellsNumber_36 : decode cX9_tellsNumber 36 = .ok (.bipush 10, 2) := by decide +kernel
theorem dX9_tellsNumber_38 : decode cX9_tellsNumber 38 = .ok (.idiv, 1) := by decide +kernel
theorem dX9_tellsNumber_39 : decode cX9_tellsNumber 39 = .ok (.istore_n 2, 1) := by decide +kernel
theorem dX9_tellsNumber_40 : decode cX9_tellsNumber 40 = .ok (.goto (-22), 3) := by decide +kernel
theorem dX9_tellsNumber_43 : decode cX9_tellsNumber 43 = .ok (.return_, 1) := by decide +kernel
theorem dX9_tellsOperand_0 : decode cX9_tellsOperand 0 = .ok (.iload_n 1, 1) := by decide +kernel
theorem dX9_tellsOperand_1 : decode cX9_tellsOperand 1 = .ok (.ifCond .ne 9, 3) := by decide +kernel
theorem dX9_tellsOperand_4 : decode cX9_tellsOperand 4 = .ok (.aload_n 0, 1) := by decide +kernel
theorem dX9_tellsOperand_5 : decode cX9_tellsOperand 5 = .ok (.bipush 118, 2) := by decide +kernel
theorem dX9_tellsOperand_7 : decode cX9_tellsOperand 7 = .ok (.invokevirtual 182, 3) := by decide +kernel
theorem dX9_tellsOperand_10 : decode cX9_tellsOperand 10 = .ok (.aload_n 0, 1) := by decide +kernel
theorem dX9_tellsOperand_11 : decode cX9_tellsOperand 11 = .ok (.iload_n 2, 1) := by decide +kernel
theorem dX9_tellsOperand_12 : decode cX9_tellsOperand 12 = .ok (.invokevirtual 185, 3) := by decide +kernel
theorem dX9_tellsOperand_15 : decode cX9_tellsOperand 15 = .ok (.return_, 1) := by decide +kernel
theorem dX9_listingChar_0 : decode cX9_listingChar 0 = .ok (.aload_n 0, 1) := by decide +kernel
theorem dX9_listingChar_1 : decode cX9_listingChar 1 = .ok (.iconst 0, 1) := by decide +kernel
theorem dX9_listingChar_2 : decode cX9_listingChar 2 = .ok (.putfield 40, 3) := by decide +kernel
theorem dX9_listingChar_5 : decode cX9_listingChar 5 = .ok (.iload_n 1, 1) := by decide +kernel
theorem dX9_listingChar_6 : decode cX9_listingChar 6 = .ok (.ifCond .ge 9, 3) := by decide +kernel
theorem dX9_listingChar_9 : decode cX9_listingChar 9 = .ok (.aload_n 0, 1) := by decide +kernel
theorem dX9_listingChar_10 : decode cX9_listingChar 10 = .ok (.iconst 1, 1) := by decide +kernel
theorem dX9_listingChar_11 : decode cX9_listingChar 11 = .ok (.invokevirtual 138, 3) := by decide +kernel
theorem dX9_listingChar_14 : decode cX9_listingChar 14 = .ok (.ireturn, 1) := by decide +kernel
theorem dX9_listingChar_15 : decode cX9_listingChar 15 = .ok (.aload_n 0, 1) := by decide +kernel
theorem dX9_listingChar_16 : decode cX9_listingChar 16 = .ok (.iconst 0, 1) := by decide +kernel
theorem dX9_listingChar_17 : decode cX9_listingChar 17 = .ok (.putfield 179, 3) := by decide +kernel
theorem dX9_listingChar_20 : decode cX9_listingChar 20 = .ok (.iconst 0, 1) := by decide +kernel
theorem dX9_listingChar_21 : decode cX9_listingChar 21 = .ok (.istore_n 2, 1) := by decide +kernel
theorem dX9_listingChar_22 : decode cX9_listingChar 22 = .ok (.iload_n 2, 1) := by decide +kernel
theorem dX9_listingChar_23 : decode cX9_listingChar 23 = .ok (.aload_n 0, 1) := by decide +kernel
theorem dX9_listingChar_24 : decode cX9_listingChar 24 = .ok (.getfield 7, 3) := by decide +kernel
theorem dX9_listingChar_27 : decode cX9_listingChar 27 = .ok (.iconst 3, 1) := by decide +kernel
theorem dX9_listingChar_28 : decode cX9_listingChar 28 = .ok (.iaload, 1) := by decide +kernel
theorem dX9_listingChar_29 : decode cX9_listingChar 29 = .ok (.if_icmp .ge 97, 3) := by decide +kernel
theorem dX9_listingChar_32 : decode cX9_listingChar 32 = .ok (.iconst 5, 1) := by decide +kernel
theorem dX9_listingChar_33 : decode cX9_listingChar 33 = .ok (.iconst 5, 1) := by decide +kernel
theorem dX9_listingChar_34 : decode cX9_listingChar 34 = .ok (.iload_n 2, 1) := by decide +kernel
theorem dX9_listingChar_35 : decode cX9_listingChar 35 = .ok (.imul, 1) := by decide +kernel
theorem dX9_listingChar_36 : decode cX9_listingChar 36 = .ok (.iadd, 1) := by decide +kernel
theorem dX9_listingChar_37 : decode cX9_listingChar 37 = .ok (.istore_n 3, 1) := by decide +kernel
theorem dX9_listingChar_38 : decode cX9_listingChar 38 = .ok (.aload_n 0, 1) := by decide +kernel
theorem dX9_listingChar_39 : decode cX9_listingChar 39 = .ok (.iconst 0, 1) := by decide +kernel
theorem dX9_listingChar_40 : decode cX9_listingChar 40 = .ok (.iload_n 2, 1) := by decide +kernel
theorem dX9_listingChar_41 : decode cX9_listingChar 41 = .ok (.iconst 1, 1) := by decide +kernel
theorem dX9_listingChar_42 : decode cX9_listingChar 42 = .ok (.iadd, 1) := by decide +kernel
theorem dX9_listingChar_43 : decode cX9_listingChar 43 = .ok (.invokevirtual 188, 3) := by decide +kernel
theorem dX9_listingChar_46 : decode cX9_listingChar 46 = .ok (.aload_n 0, 1) := by decide +kernel
theorem dX9_listingChar_47 : decode cX9_listingChar 47 = .ok (.bipush 12, 2) := by decide +kernel
theorem dX9_listingChar_49 : decode cX9_listingChar 49 = .ok (.invokevirtual 192, 3) := by decide +kernel
theorem dX9_listingChar_52 : decode cX9_listingChar 52 = .ok (.aload_n 0, 1) := by decide +kernel
theorem dX9_listingChar_53 : decode cX9_listingChar 53 = .ok (.aload_n 0, 1) := by decide +kernel
theorem dX9_listingChar_54 : decode cX9_listingChar 54 = .ok (.getfield 7, 3) := by decide +kernel
theorem dX9_listingChar_57 : decode cX9_listingChar 57 = .ok (.iload_n 3, 1) := by decide +kernel
theorem dX9_listingChar_58 : decode cX9_listingChar 58 = .ok (.iaload, 1) := by decide +kernel
theorem dX9_listingChar_59 : decode cX9_listingChar 59 = .ok (.invokevirtual 192, 3) := by decide +kernel
theorem dX9_listingChar_62 : decode cX9_listingChar 62 = .ok (.aload_n 0, 1) := by decide +kernel
theorem dX9_listingChar_63 : decode cX9_listingChar 63 = .ok (.bipush 32, 2) := by decide +kernel
theorem dX9_listingChar_65 : decode cX9_listingChar 65 = .ok (.invokevirtual 182, 3) := by decide +kernel
theorem dX9_listingChar_68 : decode cX9_listingChar 68 = .ok (.aload_n 0, 1) := by decide +kernel
theorem dX9_listingChar_69 : decode cX9_listingChar 69 = .ok (.aload_n 0, 1) := by decide +kernel
theorem dX9_listingChar_70 : decode cX9_listingChar 70 = .ok (.getfield 7, 3) := by decide +kernel
theorem dX9_listingChar_73 : decode cX9_listingChar 73 = .ok (.iload_n 3, 1) := by decide +kernel
theorem dX9_listingChar_74 : decode cX9_listingChar 74 = .ok (.iconst 1, 1) := by decide +kernel
theorem dX9_listingChar_75 : decode cX9_listingChar 75 = .ok (.iadd, 1) := by decide +kernel
theorem dX9_listingChar_76 : decode cX9_listingChar 76 = .ok (.iaload, 1) := by decide +kernel
theorem dX9_listingChar_77 : decode cX9_listingChar 77 = .ok (.aload_n 0, 1) := by decide +kernel
theorem dX9_listingChar_78 : decode cX9_listingChar 78 = .ok (.getfield 7, 3) := by decide +kernel
theorem dX9_listingChar_81 : decode cX9_listingChar 81 = .ok (.iload_n 3, 1) := by decide +kernel
theorem dX9_listingChar_82 : decode cX9_listingChar 82 = .ok (.iconst 2, 1) := by decide +kernel
theorem dX9_listingChar_83 : decode cX9_listingChar 83 = .ok (.iadd, 1) := by decide +kernel
theorem dX9_listingChar_84 : decode cX9_listingChar 84 = .ok (.iaload, 1) := by decide +kernel
theorem dX9_listingChar_85 : decode cX9_listingChar 85 = .ok (.invokevirtual 188, 3) := by decide +kernel
theorem dX9_listingChar_88 : decode cX9_listingChar 88 = .ok (.aload_n 0, 1) := by decide +kernel
theorem dX9_listingChar_89 : decode cX9_listingChar 89 = .ok (.bipush 13, 2) := by decide +kernel
theorem dX9_listingChar_91 : decode cX9_listingChar 91 = .ok (.invokevirtual 192, 3) := by decide +kernel
theorem dX9_listingChar_94 : decode cX9_listingChar 94 = .ok (.aload_n 0, 1) := by decide +kernel
theorem dX9_listingChar_95 : decode cX9_listingChar 95 = .ok (.aload_n 0, 1) := by decide +kernel
theorem dX9_listingChar_96 : decode cX9_listingChar 96 = .ok (.getfield 7, 3) := by decide +kernel
theorem dX9_listingChar_99 : decode cX9_listingChar 99 = .ok (.iload_n 3, 1) := by decide +kernel
theorem dX9_listingChar_100 : decode cX9_listingChar 100 = .ok (.iconst 3, 1) := by decide +kernel
theorem dX9_listingChar_101 : decode cX9_listingChar 101 = .ok (.iadd, 1) := by decide +kernel
theorem dX9_listingChar_102 : decode cX9_listingChar 102 = .ok (.iaload, 1) := by decide +kernel
theorem dX9_listingChar_103 : decode cX9_listingChar 103 = .ok (.aload_n 0, 1) := by decide +kernel
theorem dX9_listingChar_104 : decode cX9_listingChar 104 = .ok (.getfield 7, 3) := by decide +kernel
theorem dX9_listingChar_107 : decode cX9_listingChar 107 = .ok (.iload_n 3, 1) := by decide +kernel
theorem dX9_listingChar_108 : decode cX9_listingChar 108 = .ok (.iconst 4, 1) := by decide +kernel
theorem dX9_listingChar_109 : decode cX9_listingChar 109 = .ok (.iadd, 1) := by decide +kernel
theorem dX9_listingChar_110 : decode cX9_listingChar 110 = .ok (.iaload, 1) := by decide +kernel
theorem dX9_listingChar_111 : decode cX9_listingChar 111 = .ok (.invokevirtual 188, 3) := by decide +kernel
theorem dX9_listingChar_114 : decode cX9_listingChar 114 = .ok (.aload_n 0, 1) := by decide +kernel
theorem dX9_listingChar_115 : decode cX9_listingChar 115 = .ok (.bipush 10, 2) := by decide +kernel
theorem dX9_listingChar_117 : decode cX9_listingChar 117 = .ok (.invokevirtual 182, 3) := by decide +kernel
theorem dX9_listingChar_120 : decode cX9_listingChar 120 = .ok (.iinc 2 1, 3) := by decide +kernel
theorem dX9_listingChar_123 : decode cX9_listingChar 123 = .ok (.goto (-101), 3) := by decide +kernel
theorem dX9_listingChar_126 : decode cX9_listingChar 126 = .ok (.aload_n 0, 1) := by decide +kernel
theorem dX9_listingChar_127 : decode cX9_listingChar 127 = .ok (.bipush 14, 2) := by decide +kernel
theorem dX9_listingChar_129 : decode cX9_listingChar 129 = .ok (.invokevirtual 192, 3) := by decide +kernel
theorem dX9_listingChar_132 : decode cX9_listingChar 132 = .ok (.aload_n 0, 1) := by decide +kernel
theorem dX9_listingChar_133 : decode cX9_listingChar 133 = .ok (.aload_n 0, 1) := by decide +kernel
theorem dX9_listingChar_134 : decode cX9_listingChar 134 = .ok (.getfield 7, 3) := by decide +kernel
theorem dX9_listingChar_137 : decode cX9_listingChar 137 = .ok (.iconst 4, 1) := by decide +kernel
theorem dX9_listingChar_138 : decode cX9_listingChar 138 = .ok (.iaload, 1) := by decide +kernel
theorem dX9_listingChar_139 : decode cX9_listingChar 139 = .ok (.invokevirtual 185, 3) := by decide +kernel
theorem dX9_listingChar_142 : decode cX9_listingChar 142 = .ok (.aload_n 0, 1) := by decide +kernel
theorem dX9_listingChar_143 : decode cX9_listingChar 143 = .ok (.bipush 10, 2) := by decide +kernel
theorem dX9_listingChar_145 : decode cX9_listingChar 145 = .ok (.invokevirtual 182, 3) := by decide +kernel
theorem dX9_listingChar_148 : decode cX9_listingChar 148 = .ok (.iload_n 1, 1) := by decide +kernel
theorem dX9_listingChar_149 : decode cX9_listingChar 149 = .ok (.aload_n 0, 1) := by decide +kernel
theorem dX9_listingChar_150 : decode cX9_listingChar 150 = .ok (.getfield 179, 3) := by decide +kernel
theorem dX9_listingChar_153 : decode cX9_listingChar 153 = .ok (.if_icmp .ge 12, 3) := by decide +kernel
theorem dX9_listingChar_156 : decode cX9_listingChar 156 = .ok (.aload_n 0, 1) := by decide +kernel
theorem dX9_listingChar_157 : decode cX9_listingChar 157 = .ok (.getfield 33, 3) := by decide +kernel
theorem dX9_listingChar_160 : decode cX9_listingChar 160 = .ok (.iload_n 1, 1) := by decide +kernel
theorem dX9_listingChar_161 : decode cX9_listingChar 161 = .ok (.iaload, 1) := by decide +kernel
theorem dX9_listingChar_162 : decode cX9_listingChar 162 = .ok (.goto 4, 3) := by decide +kernel
theorem dX9_listingChar_165 : decode cX9_listingChar 165 = .ok (.iconst (-1), 1) := by decide +kernel
theorem dX9_listingChar_166 : decode cX9_listingChar 166 = .ok (.ireturn, 1) := by decide +kernel
theorem dX9_shifted_0 : decode cX9_shifted 0 = .ok (.iload_n 1, 1) := by decide +kernel
theorem dX9_shifted_1 : decode cX9_shifted 1 = .ok (.ifCond .ne 15, 3) := by decide +kernel
theorem dX9_shifted_4 : decode cX9_shifted 4 = .ok (.aload_n 0, 1) := by decide +kernel
theorem dX9_shifted_5 : decode cX9_shifted 5 = .ok (.lload_n 2, 1) := by decide +kernel
theorem dX9_shifted_6 : decode cX9_shifted 6 = .ok (.iload 4, 2) := by decide +kernel
theorem dX9_shifted_8 : decode cX9_shifted 8 = .ok (.invokestatic 47, 3) := by decide +kernel
theorem dX9_shifted_11 : decode cX9_shifted 11 = .ok (.lmul, 1) := by decide +kernel
theorem dX9_shifted_12 : decode cX9_shifted 12 = .ok (.invokevirtual 65, 3) := by decide +kernel
theorem dX9_shifted_15 : decode cX9_shifted 15 = .ok (.lreturn, 1) := by decide +kernel
theorem dX9_shifted_16 : decode cX9_shifted 16 = .ok (.iload_n 1, 1) := by decide +kernel
theorem dX9_shifted_17 : decode cX9_shifted 17 = .ok (.iconst 1, 1) := by decide +kernel
theorem dX9_shifted_18 : decode cX9_shifted 18 = .ok (.if_icmp .ne 11, 3) := by decide +kernel
theorem dX9_shifted_21 : decode cX9_shifted 21 = .ok (.lload_n 2, 1) := by decide +kernel
theorem dX9_shifted_22 : decode cX9_shifted 22 = .ok (.iload 4, 2) := by decide +kernel
theorem dX9_shifted_24 : decode cX9_shifted 24 = .ok (.invokestatic 47, 3) := by decide +kernel
theorem dX9_shifted_27 : decode cX9_shifted 27 = .ok (.ldiv, 1) := by decide +kernel
theorem dX9_shifted_28 : decode cX9_shifted 28 = .ok (.lreturn, 1) := by decide +kernel
theorem dX9_shifted_29 : decode cX9_shifted 29 = .ok (.iload_n 1, 1) := by decide +kernel
theorem dX9_shifted_30 : decode cX9_shifted 30 = .ok (.iconst 2, 1) := by decide +kernel
theorem dX9_shifted_31 : decode cX9_shifted 31 = .ok (.if_icmp .ne 21, 3) := by decide +kernel
theorem dX9_shifted_34 : decode cX9_shifted 34 = .ok (.aload_n 0, 1) := by decide +kernel
theorem dX9_shifted_35 : decode cX9_shifted 35 = .ok (.aload_n 0, 1) := by decide +kernel
theorem dX9_shifted_36 : decode cX9_shifted 36 = .ok (.lload_n 2, 1) := by decide +kernel
theorem dX9_shifted_37 : decode cX9_shifted 37 = .ok (.invokevirtual 195, 3) := by decide +kernel
theorem dX9_shifted_40 : decode cX9_shifted 40 = .ok (.iload 4, 2) := by decide +kernel
theorem dX9_shifted_42 : decode cX9_shifted 42 = .ok (.invokestatic 47, 3) := by decide +kernel
theorem dX9_shifted_45 : decode cX9_shifted 45 = .ok (.invokestatic 55, 3) := by decide +kernel
theorem dX9_shifted_48 : decode cX9_shifted 48 = .ok (.invokevirtual 65, 3) := by decide +kernel
theorem dX9_shifted_51 : decode cX9_shifted 51 = .ok (.lreturn, 1) := by decide +kernel
theorem dX9_shifted_52 : decode cX9_shifted 52 = .ok (.lload_n 2, 1) := by decide +kernel
theorem dX9_shifted_53 : decode cX9_shifted 53 = .ok (.iload 4, 2) := by decide +kernel
theorem dX9_shifted_55 : decode cX9_shifted 55 = .ok (.invokestatic 47, 3) := by decide +kernel
theorem dX9_shifted_58 : decode cX9_shifted 58 = .ok (.ldiv, 1) := by decide +kernel
theorem dX9_shifted_59 : decode cX9_shifted 59 = .ok (.lload_n 2, 1) := by decide +kernel
theorem dX9_shifted_60 : decode cX9_shifted 60 = .ok (.iload 4, 2) := by decide +kernel
theorem dX9_shifted_62 : decode cX9_shifted 62 = .ok (.invokestatic 47, 3) := by decide +kernel
theorem dX9_shifted_65 : decode cX9_shifted 65 = .ok (.lrem, 1) := by decide +kernel
theorem dX9_shifted_66 : decode cX9_shifted 66 = .ok (.aload_n 0, 1) := by decide +kernel
theorem dX9_shifted_67 : decode cX9_shifted 67 = .ok (.getfield 7, 3) := by decide +kernel
theorem dX9_shifted_70 : decode cX9_shifted 70 = .ok (.iconst 0, 1) := by decide +kernel
theorem dX9_shifted_71 : decode cX9_shifted 71 = .ok (.iaload, 1) := by decide +kernel
theorem dX9_shifted_72 : decode cX9_shifted 72 = .ok (.iload 4, 2) := by decide +kernel
theorem dX9_shifted_74 : decode cX9_shifted 74 = .ok (.isub, 1) := by decide +kernel
theorem dX9_shifted_75 : decode cX9_shifted 75 = .ok (.invokestatic 47, 3) := by decide +kernel
theorem dX9_shifted_78 : decode cX9_shifted 78 = .ok (.lmul, 1) := by decide +kernel
theorem dX9_shifted_79 : decode cX9_shifted 79 = .ok (.ladd, 1) := by decide +kernel
theorem dX9_shifted_80 : decode cX9_shifted 80 = .ok (.lreturn, 1) := by decide +kernel
theorem dX9_bits_0 : decode cX9_bits 0 = .ok (.lconst 0, 1) := by decide +kernel
theorem dX9_bits_1 : decode cX9_bits 1 = .ok (.lstore 5, 2) := by decide +kernel
theorem dX9_bits_3 : decode cX9_bits 3 = .ok (.iconst 0, 1) := by decide +kernel
theorem dX9_bits_4 : decode cX9_bits 4 = .ok (.istore 7, 2) := by decide +kernel
theorem dX9_bits_6 : decode cX9_bits 6 = .ok (.iload 7, 2) := by decide +kernel
theorem dX9_bits_8 : decode cX9_bits 8 = .ok (.bipush 16, 2) := by decide +kernel
theorem dX9_bits_10 : decode cX9_bits 10 = .ok (.if_icmp .ge 59, 3) := by decide +kernel
theorem dX9_bits_13 : decode cX9_bits 13 = .ok (.lload_n 1, 1) := by decide +kernel
theorem dX9_bits_14 : decode cX9_bits 14 = .ok (.iload 7, 2) := by decide +kernel
theorem dX9_bits_16 : decode cX9_bits 16 = .ok (.lshr, 1) := by decide +kernel
theorem dX9_bits_17 : decode cX9_bits 17 = .ok (.lconst 1, 1) := by decide +kernel
theorem dX9_bits_18 : decode cX9_bits 18 = .ok (.land, 1) := by decide +kernel
theorem dX9_bits_19 : decode cX9_bits 19 = .ok (.lstore 8, 2) := by decide +kernel
theorem dX9_bits_21 : decode cX9_bits 21 = .ok (.lload_n 3, 1) := by decide +kernel
theorem dX9_bits_22 : decode cX9_bits 22 = .ok (.iload 7, 2) := by decide +kernel
theorem dX9_bits_24 : decode cX9_bits 24 = .ok (.lshr, 1) := by decide +kernel
theorem dX9_bits_25 : decode cX9_bits 25 = .ok (.lconst 1, 1) := by decide +kernel
theorem dX9_bits_26 : decode cX9_bits 26 = .ok (.land, 1) := by decide +kernel
theorem dX9_bits_27 : decode cX9_bits 27 = .ok (.lstore 10, 2) := by decide +kernel
theorem dX9_bits_29 : decode cX9_bits 29 = .ok (.lload 5, 2) := by decide +kernel
theorem dX9_bits_31 : decode cX9_bits 31 = .ok (.iload_n 0, 1) := by decide +kernel
theorem dX9_bits_32 : decode cX9_bits 32 = .ok (.bipush 8, 2) := by decide +kernel
theorem dX9_bits_34 : decode cX9_bits 34 = .ok (.if_icmp .ne 14, 3) := by decide +kernel
theorem dX9_bits_37 : decode cX9_bits 37 = .ok (.lload 8, 2) := by decide +kernel
theorem dX9_bits_39 : decode cX9_bits 39 = .ok (.lload 10, 2) := by decide +kernel
theorem dX9_bits_41 : decode cX9_bits 41 = .ok (.lmul, 1) := by decide +kernel
theorem dX9_bits_42 : decode cX9_bits 42 = .ok (.iload 7, 2) := by decide +kernel
theorem dX9_bits_44 : decode cX9_bits 44 = .ok (.lshl, 1) := by decide +kernel
theorem dX9_bits_45 : decode cX9_bits 45 = .ok (.goto 15, 3) := by decide +kernel
theorem dX9_bits_48 : decode cX9_bits 48 = .ok (.lload 8, 2) := by decide +kernel
theorem dX9_bits_50 : decode cX9_bits 50 = .ok (.lload 10, 2) := by decide +kernel
theorem dX9_bits_52 : decode cX9_bits 52 = .ok (.ladd, 1) := by decide +kernel
theorem dX9_bits_53 : decode cX9_bits 53 = .ok (.ldc2_w 69, 3) := by decide +kernel
theorem dX9_bits_56 : decode cX9_bits 56 = .ok (.lrem, 1) := by decide +kernel
theorem dX9_bits_57 : decode cX9_bits 57 = .ok (.iload 7, 2) := by decide +kernel
theorem dX9_bits_59 : decode cX9_bits 59 = .ok (.lshl, 1) := by decide +kernel
theorem dX9_bits_60 : decode cX9_bits 60 = .ok (.ladd, 1) := by decide +kernel
theorem dX9_bits_61 : decode cX9_bits 61 = .ok (.lstore 5, 2) := by decide +kernel
theorem dX9_bits_63 : decode cX9_bits 63 = .ok (.iinc 7 1, 3) := by decide +kernel
theorem dX9_bits_66 : decode cX9_bits 66 = .ok (.goto (-60), 3) := by decide +kernel
theorem dX9_bits_69 : decode cX9_bits 69 = .ok (.lload 5, 2) := by decide +kernel
theorem dX9_bits_71 : decode cX9_bits 71 = .ok (.lreturn, 1) := by decide +kernel
theorem dX9_worked_0 : decode cX9_worked 0 = .ok (.iload_n 1, 1) := by decide +kernel
theorem dX9_worked_1 : decode cX9_worked 1 = .ok (.tableswitch 141 3 11 #[51, 60, 69, 78, 88, 112, 120, 141, 128], 51) := by decide +kernel
theorem dX9_worked_52 : decode cX9_worked 52 = .ok (.aload_n 0, 1) := by decide +kernel
theorem dX9_worked_53 : decode cX9_worked 53 = .ok (.lload_n 2, 1) := by decide +kernel
theorem dX9_worked_54 : decode cX9_worked 54 = .ok (.lload 4, 2) := by decide +kernel
theorem dX9_worked_56 : decode cX9_worked 56 = .ok (.ladd, 1) := by decide +kernel
theorem dX9_worked_57 : decode cX9_worked 57 = .ok (.invokevirtual 65, 3) := by decide +kernel
theorem dX9_worked_60 : decode cX9_worked 60 = .ok (.lreturn, 1) := by decide +kernel
theorem dX9_worked_61 : decode cX9_worked 61 = .ok (.aload_n 0, 1) := by decide +kernel
theorem dX9_worked_62 : decode cX9_worked 62 = .ok (.lload_n 2, 1) := by decide +kernel
theorem dX9_worked_63 : decode cX9_worked 63 = .ok (.lload 4, 2) := by decide +kernel
theorem dX9_worked_65 : decode cX9_worked 65 = .ok (.lsub, 1) := by decide +kernel
theorem dX9_worked_66 : decode cX9_worked 66 = .ok (.invokevirtual 65, 3) := by decide +kernel
theorem dX9_worked_69 : decode cX9_worked 69 = .ok (.lreturn, 1) := by decide +kernel
theorem dX9_worked_70 : decode cX9_worked 70 = .ok (.aload_n 0, 1) := by decide +kernel
theorem dX9_worked_71 : decode cX9_worked 71 = .ok (.lload_n 2, 1) := by decide +kernel
theorem dX9_worked_72 : decode cX9_worked 72 = .ok (.lload 4, 2) := by decide +kernel
theorem dX9_worked_74 : decode cX9_worked 74 = .ok (.lmul, 1) := by decide +kernel
theorem dX9_worked_75 : decode cX9_worked 75 = .ok (.invokevirtual 65, 3) := by decide +kernel
theorem dX9_worked_78 : decode cX9_worked 78 = .ok (.lreturn, 1) := by decide +kernel
theorem dX9_worked_79 : decode cX9_worked 79 = .ok (.lload_n 2, 1) := by decide +kernel
theorem dX9_worked_80 : decode cX9_worked 80 = .ok (.lload 4, 2) := by decide +kernel
theorem dX9_worked_82 : decode cX9_worked 82 = .ok (.lmul, 1) := by decide +kernel
theorem dX9_worked_83 : decode cX9_worked 83 = .ok (.aload_n 0, 1) := by decide +kernel
theorem dX9_worked_84 : decode cX9_worked 84 = .ok (.invokevirtual 51, 3) := by decide +kernel
theorem dX9_worked_87 : decode cX9_worked 87 = .ok (.ldiv, 1) := by decide +kernel
theorem dX9_worked_88 : decode cX9_worked 88 = .ok (.lreturn, 1) := by decide +kernel
theorem dX9_worked_89 : decode cX9_worked 89 = .ok (.aload_n 0, 1) := by decide +kernel
theorem dX9_worked_90 : decode cX9_worked 90 = .ok (.aload_n 0, 1) := by decide +kernel
theorem dX9_worked_91 : decode cX9_worked 91 = .ok (.lload_n 2, 1) := by decide +kernel
theorem dX9_worked_92 : decode cX9_worked 92 = .ok (.invokevirtual 195, 3) := by decide +kernel
theorem dX9_worked_95 : decode cX9_worked 95 = .ok (.aload_n 0, 1) := by decide +kernel
theorem dX9_worked_96 : decode cX9_worked 96 = .ok (.lload 4, 2) := by decide +kernel
theorem dX9_worked_98 : decode cX9_worked 98 = .ok (.invokevirtual 195, 3) := by decide +kernel
theorem dX9_worked_101 : decode cX9_worked 101 = .ok (.lmul, 1) := by decide +kernel
theorem dX9_worked_102 : decode cX9_worked 102 = .ok (.aload_n 0, 1) := by decide +kernel
theorem dX9_worked_103 : decode cX9_worked 103 = .ok (.invokevirtual 51, 3) := by decide +kernel
theorem dX9_worked_106 : decode cX9_worked 106 = .ok (.invokestatic 55, 3) := by decide +kernel
theorem dX9_worked_109 : decode cX9_worked 109 = .ok (.invokevirtual 65, 3) := by decide +kernel
theorem dX9_worked_112 : decode cX9_worked 112 = .ok (.lreturn, 1) := by decide +kernel
theorem dX9_worked_113 : decode cX9_worked 113 = .ok (.iload_n 1, 1) := by decide +kernel
theorem dX9_worked_114 : decode cX9_worked 114 = .ok (.lload_n 2, 1) := by decide +kernel
theorem dX9_worked_115 : decode cX9_worked 115 = .ok (.lload 4, 2) := by decide +kernel
theorem dX9_worked_117 : decode cX9_worked 117 = .ok (.invokestatic 198, 3) := by decide +kernel
theorem dX9_worked_120 : decode cX9_worked 120 = .ok (.lreturn, 1) := by decide +kernel
theorem dX9_worked_121 : decode cX9_worked 121 = .ok (.iload_n 1, 1) := by decide +kernel
theorem dX9_worked_122 : decode cX9_worked 122 = .ok (.lload_n 2, 1) := by decide +kernel
theorem dX9_worked_123 : decode cX9_worked 123 = .ok (.lload 4, 2) := by decide +kernel
theorem dX9_worked_125 : decode cX9_worked 125 = .ok (.invokestatic 198, 3) := by decide +kernel
theorem dX9_worked_128 : decode cX9_worked 128 = .ok (.lreturn, 1) := by decide +kernel
theorem dX9_worked_129 : decode cX9_worked 129 = .ok (.lload_n 2, 1) := by decide +kernel
theorem dX9_worked_130 : decode cX9_worked 130 = .ok (.lload 4, 2) := by decide +kernel
theorem dX9_worked_132 : decode cX9_worked 132 = .ok (.lcmp, 1) := by decide +kernel
theorem dX9_worked_133 : decode cX9_worked 133 = .ok (.ifCond .gt 7, 3) := by decide +kernel
theorem dX9_worked_136 : decode cX9_worked 136 = .ok (.lconst 1, 1) := by decide +kernel
theorem dX9_worked_137 : decode cX9_worked 137 = .ok (.goto 4, 3) := by decide +kernel
theorem dX9_worked_140 : decode cX9_worked 140 = .ok (.lconst 0, 1) := by decide +kernel
theorem dX9_worked_141 : decode cX9_worked 141 = .ok (.lreturn, 1) := by decide +kernel
theorem dX9_worked_142 : decode cX9_worked 142 = .ok (.aload_n 0, 1) := by decide +kernel
theorem dX9_worked_143 : decode cX9_worked 143 = .ok (.iload_n 1, 1) := by decide +kernel
theorem dX9_worked_144 : decode cX9_worked 144 = .ok (.lload_n 2, 1) := by decide +kernel
theorem dX9_worked_145 : decode cX9_worked 145 = .ok (.lload 4, 2) := by decide +kernel
theorem dX9_worked_147 : decode cX9_worked 147 = .ok (.l2i, 1) := by decide +kernel
theorem dX9_worked_148 : decode cX9_worked 148 = .ok (.invokevirtual 202, 3) := by decide +kernel
theorem dX9_worked_151 : decode cX9_worked 151 = .ok (.lreturn, 1) := by decide +kernel
theorem dX9_runs_0 : decode cX9_runs 0 = .ok (.aload_n 0, 1) := by decide +kernel
theorem dX9_runs_1 : decode cX9_runs 1 = .ok (.getfield 36, 3) := by decide +kernel
theorem dX9_runs_4 : decode cX9_runs 4 = .ok (.iconst 0, 1) := by decide +kernel
theorem dX9_runs_5 : decode cX9_runs 5 = .ok (.lload_n 1, 1) := by decide +kernel
theorem dX9_runs_6 : decode cX9_runs 6 = .ok (.lastore, 1) := by decide +kernel
theorem dX9_runs_7 : decode cX9_runs 7 = .ok (.iconst 0, 1) := by decide +kernel
theorem dX9_runs_8 : decode cX9_runs 8 = .ok (.istore_n 3, 1) := by decide +kernel
theorem dX9_runs_9 : decode cX9_runs 9 = .ok (.iload_n 3, 1) := by decide +kernel
theorem dX9_runs_10 : decode cX9_runs 10 = .ok (.aload_n 0, 1) := by decide +kernel
theorem dX9_runs_11 : decode cX9_runs 11 = .ok (.getfield 7, 3) := by decide +kernel
theorem dX9_runs_14 : decode cX9_runs 14 = .ok (.iconst 3, 1) := by decide +kernel
theorem dX9_runs_15 : decode cX9_runs 15 = .ok (.iaload, 1) := by decide +kernel
theorem dX9_runs_16 : decode cX9_runs 16 = .ok (.if_icmp .ge 123, 3) := by decide +kernel
theorem dX9_runs_19 : decode cX9_runs 19 = .ok (.iconst 5, 1) := by decide +kernel
theorem dX9_runs_20 : decode cX9_runs 20 = .ok (.iconst 5, 1) := by decide +kernel
theorem dX9_runs_21 : decode cX9_runs 21 = .ok (.iload_n 3, 1) := by decide +kernel
theorem dX9_runs_22 : decode cX9_runs 22 = .ok (.imul, 1) := by decide +kernel
theorem dX9_runs_23 : decode cX9_runs 23 = .ok (.iadd, 1) := by decide +kernel
theorem dX9_runs_24 : decode cX9_runs 24 = .ok (.istore 4, 2) := by decide +kernel
theorem dX9_runs_26 : decode cX9_runs 26 = .ok (.aload_n 0, 1) := by decide +kernel
theorem dX9_runs_27 : decode cX9_runs 27 = .ok (.getfield 7, 3) := by decide +kernel
theorem dX9_runs_30 : decode cX9_runs 30 = .ok (.iload 4, 2) := by decide +kernel
theorem dX9_runs_32 : decode cX9_runs 32 = .ok (.iconst 1, 1) := by decide +kernel
theorem dX9_runs_33 : decode cX9_runs 33 = .ok (.iadd, 1) := by decide +kernel
theorem dX9_runs_34 : decode cX9_runs 34 = .ok (.iaload, 1) := by decide +kernel
theorem dX9_runs_35 : decode cX9_runs 35 = .ok (.iconst 1, 1) := by decide +kernel
theorem dX9_runs_36 : decode cX9_runs 36 = .ok (.if_icmp .ne 16, 3) := by decide +kernel
theorem dX9_runs_39 : decode cX9_runs 39 = .ok (.aload_n 0, 1) := by decide +kernel
theorem dX9_runs_40 : decode cX9_runs 40 = .ok (.getfield 7, 3) := by decide +kernel
theorem dX9_runs_43 : decode cX9_runs 43 = .ok (.iload 4, 2) := by decide +kernel
theorem dX9_runs_45 : decode cX9_runs 45 = .ok (.iconst 2, 1) := by decide +kernel
theorem dX9_runs_46 : decode cX9_runs 46 = .ok (.iadd, 1) := by decide +kernel
theorem dX9_runs_47 : decode cX9_runs 47 = .ok (.iaload, 1) := by decide +kernel
theorem dX9_runs_48 : decode cX9_runs 48 = .ok (.i2l, 1) := by decide +kernel
theorem dX9_runs_49 : decode cX9_runs 49 = .ok (.goto 17, 3) := by decide +kernel
theorem dX9_runs_52 : decode cX9_runs 52 = .ok (.aload_n 0, 1) := by decide +kernel
theorem dX9_runs_53 : decode cX9_runs 53 = .ok (.getfield 36, 3) := by decide +kernel
theorem dX9_runs_56 : decode cX9_runs 56 = .ok (.aload_n 0, 1) := by decide +kernel
theorem dX9_runs_57 : decode cX9_runs 57 = .ok (.getfield 7, 3) := by decide +kernel
theorem dX9_runs_60 : decode cX9_runs 60 = .ok (.iload 4, 2) := by decide +kernel
theorem dX9_runs_62 : decode cX9_runs 62 = .ok (.iconst 2, 1) := by decide +kernel
theorem dX9_runs_63 : decode cX9_runs 63 = .ok (.iadd, 1) := by decide +kernel
theorem dX9_runs_64 : decode cX9_runs 64 = .ok (.iaload, 1) := by decide +kernel
theorem dX9_runs_65 : decode cX9_runs 65 = .ok (.laload, 1) := by decide +kernel
theorem dX9_runs_66 : decode cX9_runs 66 = .ok (.lstore 5, 2) := by decide +kernel
theorem dX9_runs_68 : decode cX9_runs 68 = .ok (.aload_n 0, 1) := by decide +kernel
theorem dX9_runs_69 : decode cX9_runs 69 = .ok (.getfield 7, 3) := by decide +kernel
theorem dX9_runs_72 : decode cX9_runs 72 = .ok (.iload 4, 2) := by decide +kernel
theorem dX9_runs_74 : decode cX9_runs 74 = .ok (.iconst 3, 1) := by decide +kernel
theorem dX9_runs_75 : decode cX9_runs 75 = .ok (.iadd, 1) := by decide +kernel
theorem dX9_runs_76 : decode cX9_runs 76 = .ok (.iaload, 1) := by decide +kernel
theorem dX9_runs_77 : decode cX9_runs 77 = .ok (.iconst 1, 1) := by decide +kernel
theorem dX9_runs_78 : decode cX9_runs 78 = .ok (.if_icmp .ne 16, 3) := by decide +kernel
theorem dX9_runs_81 : decode cX9_runs 81 = .ok (.aload_n 0, 1) := by decide +kernel
theorem dX9_runs_82 : decode cX9_runs 82 = .ok (.getfield 7, 3) := by decide +kernel
theorem dX9_runs_85 : decode cX9_runs 85 = .ok (.iload 4, 2) := by decide +kernel
theorem dX9_runs_87 : decode cX9_runs 87 = .ok (.iconst 4, 1) := by decide +kernel
theorem dX9_runs_88 : decode cX9_runs 88 = .ok (.iadd, 1) := by decide +kernel
theorem dX9_runs_89 : decode cX9_runs 89 = .ok (.iaload, 1) := by decide +kernel
theorem dX9_runs_90 : decode cX9_runs 90 = .ok (.i2l, 1) := by decide +kernel
theorem dX9_runs_91 : decode cX9_runs 91 = .ok (.goto 17, 3) := by decide +kernel
theorem dX9_runs_94 : decode cX9_runs 94 = .ok (.aload_n 0, 1) := by decide +kernel
theorem dX9_runs_95 : decode cX9_runs 95 = .ok (.getfield 36, 3) := by decide +kernel
theorem dX9_runs_98 : decode cX9_runs 98 = .ok (.aload_n 0, 1) := by decide +kernel
theorem dX9_runs_99 : decode cX9_runs 99 = .ok (.getfield 7, 3) := by decide +kernel
theorem dX9_runs_102 : decode cX9_runs 102 = .ok (.iload 4, 2) := by decide +kernel
theorem dX9_runs_104 : decode cX9_runs 104 = .ok (.iconst 4, 1) := by decide +kernel
theorem dX9_runs_105 : decode cX9_runs 105 = .ok (.iadd, 1) := by decide +kernel
theorem dX9_runs_106 : decode cX9_runs 106 = .ok (.iaload, 1) := by decide +kernel
theorem dX9_runs_107 : decode cX9_runs 107 = .ok (.laload, 1) := by decide +kernel
theorem dX9_runs_108 : decode cX9_runs 108 = .ok (.lstore 7, 2) := by decide +kernel
theorem dX9_runs_110 : decode cX9_runs 110 = .ok (.aload_n 0, 1) := by decide +kernel
theorem dX9_runs_111 : decode cX9_runs 111 = .ok (.getfield 36, 3) := by decide +kernel
theorem dX9_runs_114 : decode cX9_runs 114 = .ok (.iload_n 3, 1) := by decide +kernel
theorem dX9_runs_115 : decode cX9_runs 115 = .ok (.iconst 1, 1) := by decide +kernel
theorem dX9_runs_116 : decode cX9_runs 116 = .ok (.iadd, 1) := by decide +kernel
theorem dX9_runs_117 : decode cX9_runs 117 = .ok (.aload_n 0, 1) := by decide +kernel
theorem dX9_runs_118 : decode cX9_runs 118 = .ok (.aload_n 0, 1) := by decide +kernel
theorem dX9_runs_119 : decode cX9_runs 119 = .ok (.getfield 7, 3) := by decide +kernel
theorem dX9_runs_122 : decode cX9_runs 122 = .ok (.iload 4, 2) := by decide +kernel
theorem dX9_runs_124 : decode cX9_runs 124 = .ok (.iaload, 1) := by decide +kernel
theorem dX9_runs_125 : decode cX9_runs 125 = .ok (.lload 5, 2) := by decide +kernel
theorem dX9_runs_127 : decode cX9_runs 127 = .ok (.lload 7, 2) := by decide +kernel
theorem dX9_runs_129 : decode cX9_runs 129 = .ok (.invokevirtual 206, 3) := by decide +kernel
theorem dX9_runs_132 : decode cX9_runs 132 = .ok (.lastore, 1) := by decide +kernel
theorem dX9_runs_133 : decode cX9_runs 133 = .ok (.iinc 3 1, 3) := by decide +kernel
theorem dX9_runs_136 : decode cX9_runs 136 = .ok (.goto (-127), 3) := by decide +kernel
theorem dX9_runs_139 : decode cX9_runs 139 = .ok (.return_, 1) := by decide +kernel
theorem dX9_isInput_0 : decode cX9_isInput 0 = .ok (.iload_n 1, 1) := by decide +kernel
theorem dX9_isInput_1 : decode cX9_isInput 1 = .ok (.i2l, 1) := by decide +kernel
theorem dX9_isInput_2 : decode cX9_isInput 2 = .ok (.lconst 0, 1) := by decide +kernel
theorem dX9_isInput_3 : decode cX9_isInput 3 = .ok (.aload_n 0, 1) := by decide +kernel
theorem dX9_isInput_4 : decode cX9_isInput 4 = .ok (.invokevirtual 51, 3) := by decide +kernel
theorem dX9_isInput_7 : decode cX9_isInput 7 = .ok (.lconst 1, 1) := by decide +kernel
theorem dX9_isInput_8 : decode cX9_isInput 8 = .ok (.lsub, 1) := by decide +kernel
theorem dX9_isInput_9 : decode cX9_isInput 9 = .ok (.invokestatic 130, 3) := by decide +kernel
theorem dX9_isInput_12 : decode cX9_isInput 12 = .ok (.ireturn, 1) := by decide +kernel
theorem dX9_run_0 : decode cX9_run 0 = .ok (.aload_n 0, 1) := by decide +kernel
theorem dX9_run_1 : decode cX9_run 1 = .ok (.iconst 0, 1) := by decide +kernel
theorem dX9_run_2 : decode cX9_run 2 = .ok (.putfield 40, 3) := by decide +kernel
theorem dX9_run_5 : decode cX9_run 5 = .ok (.aload_n 0, 1) := by decide +kernel
theorem dX9_run_6 : decode cX9_run 6 = .ok (.iload_n 1, 1) := by decide +kernel
theorem dX9_run_7 : decode cX9_run 7 = .ok (.invokevirtual 209, 3) := by decide +kernel
theorem dX9_run_10 : decode cX9_run 10 = .ok (.ifCond .ne 9, 3) := by decide +kernel
theorem dX9_run_13 : decode cX9_run 13 = .ok (.aload_n 0, 1) := by decide +kernel
theorem dX9_run_14 : decode cX9_run 14 = .ok (.iconst 1, 1) := by decide +kernel
theorem dX9_run_15 : decode cX9_run 15 = .ok (.invokevirtual 138, 3) := by decide +kernel
theorem dX9_run_18 : decode cX9_run 18 = .ok (.ireturn, 1) := by decide +kernel
theorem dX9_run_19 : decode cX9_run 19 = .ok (.aload_n 0, 1) := by decide +kernel
theorem dX9_run_20 : decode cX9_run 20 = .ok (.iload_n 1, 1) := by decide +kernel
theorem dX9_run_21 : decode cX9_run 21 = .ok (.i2l, 1) := by decide +kernel
theorem dX9_run_22 : decode cX9_run 22 = .ok (.invokevirtual 212, 3) := by decide +kernel
theorem dX9_run_25 : decode cX9_run 25 = .ok (.aload_n 0, 1) := by decide +kernel
theorem dX9_run_26 : decode cX9_run 26 = .ok (.getfield 36, 3) := by decide +kernel
theorem dX9_run_29 : decode cX9_run 29 = .ok (.aload_n 0, 1) := by decide +kernel
theorem dX9_run_30 : decode cX9_run 30 = .ok (.getfield 7, 3) := by decide +kernel
theorem dX9_run_33 : decode cX9_run 33 = .ok (.iconst 4, 1) := by decide +kernel
theorem dX9_run_34 : decode cX9_run 34 = .ok (.iaload, 1) := by decide +kernel
theorem dX9_run_35 : decode cX9_run 35 = .ok (.laload, 1) := by decide +kernel
theorem dX9_run_36 : decode cX9_run 36 = .ok (.l2i, 1) := by decide +kernel
theorem dX9_run_37 : decode cX9_run 37 = .ok (.ireturn, 1) := by decide +kernel
theorem dX9_valueOf_0 : decode cX9_valueOf 0 = .ok (.aload_n 0, 1) := by decide +kernel
theorem dX9_valueOf_1 : decode cX9_valueOf 1 = .ok (.iconst 0, 1) := by decide +kernel
theorem dX9_valueOf_2 : decode cX9_valueOf 2 = .ok (.putfield 40, 3) := by decide +kernel
theorem dX9_valueOf_5 : decode cX9_valueOf 5 = .ok (.aload_n 0, 1) := by decide +kernel
theorem dX9_valueOf_6 : decode cX9_valueOf 6 = .ok (.iload_n 1, 1) := by decide +kernel
theorem dX9_valueOf_7 : decode cX9_valueOf 7 = .ok (.invokevirtual 209, 3) := by decide +kernel
theorem dX9_valueOf_10 : decode cX9_valueOf 10 = .ok (.ifCond .ne 9, 3) := by decide +kernel
theorem dX9_valueOf_13 : decode cX9_valueOf 13 = .ok (.aload_n 0, 1) := by decide +kernel
theorem dX9_valueOf_14 : decode cX9_valueOf 14 = .ok (.iconst 1, 1) := by decide +kernel
theorem dX9_valueOf_15 : decode cX9_valueOf 15 = .ok (.invokevirtual 138, 3) := by decide +kernel
theorem dX9_valueOf_18 : decode cX9_valueOf 18 = .ok (.ireturn, 1) := by decide +kernel
theorem dX9_valueOf_19 : decode cX9_valueOf 19 = .ok (.iload_n 2, 1) := by decide +kernel
theorem dX9_valueOf_20 : decode cX9_valueOf 20 = .ok (.i2l, 1) := by decide +kernel
theorem dX9_valueOf_21 : decode cX9_valueOf 21 = .ok (.lconst 0, 1) := by decide +kernel
theorem dX9_valueOf_22 : decode cX9_valueOf 22 = .ok (.aload_n 0, 1) := by decide +kernel
theorem dX9_valueOf_23 : decode cX9_valueOf 23 = .ok (.getfield 7, 3) := by decide +kernel
theorem dX9_valueOf_26 : decode cX9_valueOf 26 = .ok (.iconst 3, 1) := by decide +kernel
theorem dX9_valueOf_27 : decode cX9_valueOf 27 = .ok (.iaload, 1) := by decide +kernel
theorem dX9_valueOf_28 : decode cX9_valueOf 28 = .ok (.i2l, 1) := by decide +kernel
theorem dX9_valueOf_29 : decode cX9_valueOf 29 = .ok (.invokestatic 130, 3) := by decide +kernel
theorem dX9_valueOf_32 : decode cX9_valueOf 32 = .ok (.ifCond .ne 9, 3) := by decide +kernel
theorem dX9_valueOf_35 : decode cX9_valueOf 35 = .ok (.aload_n 0, 1) := by decide +kernel
theorem dX9_valueOf_36 : decode cX9_valueOf 36 = .ok (.iconst 2, 1) := by decide +kernel
theorem dX9_valueOf_37 : decode cX9_valueOf 37 = .ok (.invokevirtual 138, 3) := by decide +kernel
theorem dX9_valueOf_40 : decode cX9_valueOf 40 = .ok (.ireturn, 1) := by decide +kernel
theorem dX9_valueOf_41 : decode cX9_valueOf 41 = .ok (.aload_n 0, 1) := by decide +kernel
theorem dX9_valueOf_42 : decode cX9_valueOf 42 = .ok (.iload_n 1, 1) := by decide +kernel
theorem dX9_valueOf_43 : decode cX9_valueOf 43 = .ok (.i2l, 1) := by decide +kernel
theorem dX9_valueOf_44 : decode cX9_valueOf 44 = .ok (.invokevirtual 212, 3) := by decide +kernel
theorem dX9_valueOf_47 : decode cX9_valueOf 47 = .ok (.aload_n 0, 1) := by decide +kernel
theorem dX9_valueOf_48 : decode cX9_valueOf 48 = .ok (.getfield 36, 3) := by decide +kernel
theorem dX9_valueOf_51 : decode cX9_valueOf 51 = .ok (.iload_n 2, 1) := by decide +kernel
theorem dX9_valueOf_52 : decode cX9_valueOf 52 = .ok (.laload, 1) := by decide +kernel
theorem dX9_valueOf_53 : decode cX9_valueOf 53 = .ok (.l2i, 1) := by decide +kernel
theorem dX9_valueOf_54 : decode cX9_valueOf 54 = .ok (.ireturn, 1) := by decide +kernel
theorem dX9_asked_0 : decode cX9_asked 0 = .ok (.aload_n 0, 1) := by decide +kernel
theorem dX9_asked_1 : decode cX9_asked 1 = .ok (.getfield 7, 3) := by decide +kernel
theorem dX9_asked_4 : decode cX9_asked 4 = .ok (.iconst 2, 1) := by decide +kernel
theorem dX9_asked_5 : decode cX9_asked 5 = .ok (.iaload, 1) := by decide +kernel
theorem dX9_asked_6 : decode cX9_asked 6 = .ok (.i2l, 1) := by decide +kernel
theorem dX9_asked_7 : decode cX9_asked 7 = .ok (.lstore_n 3, 1) := by decide +kernel
theorem dX9_asked_8 : decode cX9_asked 8 = .ok (.aload_n 0, 1) := by decide +kernel
theorem dX9_asked_9 : decode cX9_asked 9 = .ok (.lload_n 1, 1) := by decide +kernel
theorem dX9_asked_10 : decode cX9_asked 10 = .ok (.invokevirtual 195, 3) := by decide +kernel
theorem dX9_asked_13 : decode cX9_asked 13 = .ok (.lstore 5, 2) := by decide +kernel
theorem dX9_asked_15 : decode cX9_asked 15 = .ok (.aload_n 0, 1) := by decide +kernel
theorem dX9_asked_16 : decode cX9_asked 16 = .ok (.getfield 7, 3) := by decide +kernel
theorem dX9_asked_19 : decode cX9_asked 19 = .ok (.iconst 1, 1) := by decide +kernel
theorem dX9_asked_20 : decode cX9_asked 20 = .ok (.iaload, 1) := by decide +kernel
theorem dX9_asked_21 : decode cX9_asked 21 = .ok (.tableswitch 112 0 6 #[43, 47, 51, 60, 69, 80, 98], 43) := by decide +kernel
theorem dX9_asked_64 : decode cX9_asked 64 = .ok (.lload_n 1, 1) := by decide +kernel
theorem dX9_asked_65 : decode cX9_asked 65 = .ok (.lload_n 3, 1) := by decide +kernel
theorem dX9_asked_66 : decode cX9_asked 66 = .ok (.ldiv, 1) := by decide +kernel
theorem dX9_asked_67 : decode cX9_asked 67 = .ok (.lreturn, 1) := by decide +kernel
theorem dX9_asked_68 : decode cX9_asked 68 = .ok (.lload_n 1, 1) := by decide +kernel
theorem dX9_asked_69 : decode cX9_asked 69 = .ok (.lload_n 3, 1) := by decide +kernel
theorem dX9_asked_70 : decode cX9_asked 70 = .ok (.lrem, 1) := by decide +kernel
theorem dX9_asked_71 : decode cX9_asked 71 = .ok (.lreturn, 1) := by decide +kernel
theorem dX9_asked_72 : decode cX9_asked 72 = .ok (.aload_n 0, 1) := by decide +kernel
theorem dX9_asked_73 : decode cX9_asked 73 = .ok (.lload 5, 2) := by decide +kernel
theorem dX9_asked_75 : decode cX9_asked 75 = .ok (.lload_n 3, 1) := by decide +kernel
theorem dX9_asked_76 : decode cX9_asked 76 = .ok (.ldiv, 1) := by decide +kernel
theorem dX9_asked_77 : decode cX9_asked 77 = .ok (.invokevirtual 65, 3) := by decide +kernel
theorem dX9_asked_80 : decode cX9_asked 80 = .ok (.lreturn, 1) := by decide +kernel
theorem dX9_asked_81 : decode cX9_asked 81 = .ok (.aload_n 0, 1) := by decide +kernel
theorem dX9_asked_82 : decode cX9_asked 82 = .ok (.lload 5, 2) := by decide +kernel
theorem dX9_asked_84 : decode cX9_asked 84 = .ok (.lload_n 3, 1) := by decide +kernel
theorem dX9_asked_85 : decode cX9_asked 85 = .ok (.lrem, 1) := by decide +kernel
theorem dX9_asked_86 : decode cX9_asked 86 = .ok (.invokevirtual 65, 3) := by decide +kernel
theorem dX9_asked_89 : decode cX9_asked 89 = .ok (.lreturn, 1) := by decide +kernel
theorem dX9_asked_90 : decode cX9_asked 90 = .ok (.aload_n 0, 1) := by decide +kernel
theorem dX9_asked_91 : decode cX9_asked 91 = .ok (.lload 5, 2) := by decide +kernel
theorem dX9_asked_93 : decode cX9_asked 93 = .ok (.lload_n 3, 1) := by decide +kernel
theorem dX9_asked_94 : decode cX9_asked 94 = .ok (.invokestatic 55, 3) := by decide +kernel
theorem dX9_asked_97 : decode cX9_asked 97 = .ok (.invokevirtual 65, 3) := by decide +kernel
theorem dX9_asked_100 : decode cX9_asked 100 = .ok (.lreturn, 1) := by decide +kernel
theorem dX9_asked_101 : decode cX9_asked 101 = .ok (.lload_n 1, 1) := by decide +kernel
theorem dX9_asked_102 : decode cX9_asked 102 = .ok (.lload_n 3, 1) := by decide +kernel
theorem dX9_asked_103 : decode cX9_asked 103 = .ok (.lrem, 1) := by decide +kernel
theorem dX9_asked_104 : decode cX9_asked 104 = .ok (.lconst 0, 1) := by decide +kernel
theorem dX9_asked_105 : decode cX9_asked 105 = .ok (.lcmp, 1) := by decide +kernel
theorem dX9_asked_106 : decode cX9_asked 106 = .ok (.ifCond .ne 9, 3) := by decide +kernel
theorem dX9_asked_109 : decode cX9_asked 109 = .ok (.lload_n 1, 1) := by decide +kernel
theorem dX9_asked_110 : decode cX9_asked 110 = .ok (.lload_n 3, 1) := by decide +kernel
theorem dX9_asked_111 : decode cX9_asked 111 = .ok (.ldiv, 1) := by decide +kernel
theorem dX9_asked_112 : decode cX9_asked 112 = .ok (.goto 6, 3) := by decide +kernel
theorem dX9_asked_115 : decode cX9_asked 115 = .ok (.ldc2_w 216, 3) := by decide +kernel
theorem dX9_asked_118 : decode cX9_asked 118 = .ok (.lreturn, 1) := by decide +kernel
theorem dX9_asked_119 : decode cX9_asked 119 = .ok (.lload_n 1, 1) := by decide +kernel
theorem dX9_asked_120 : decode cX9_asked 120 = .ok (.lload_n 3, 1) := by decide +kernel
theorem dX9_asked_121 : decode cX9_asked 121 = .ok (.lrem, 1) := by decide +kernel
theorem dX9_asked_122 : decode cX9_asked 122 = .ok (.lconst 0, 1) := by decide +kernel
theorem dX9_asked_123 : decode cX9_asked 123 = .ok (.lcmp, 1) := by decide +kernel
theorem dX9_asked_124 : decode cX9_asked 124 = .ok (.ifCond .ne 7, 3) := by decide +kernel
theorem dX9_asked_127 : decode cX9_asked 127 = .ok (.lconst 1, 1) := by decide +kernel
theorem dX9_asked_128 : decode cX9_asked 128 = .ok (.goto 4, 3) := by decide +kernel
theorem dX9_asked_131 : decode cX9_asked 131 = .ok (.lconst 0, 1) := by decide +kernel
theorem dX9_asked_132 : decode cX9_asked 132 = .ok (.lreturn, 1) := by decide +kernel
theorem dX9_asked_133 : decode cX9_asked 133 = .ok (.aload_n 0, 1) := by decide +kernel
theorem dX9_asked_134 : decode cX9_asked 134 = .ok (.lload_n 1, 1) := by decide +kernel
theorem dX9_asked_135 : decode cX9_asked 135 = .ok (.lload_n 3, 1) := by decide +kernel
theorem dX9_asked_136 : decode cX9_asked 136 = .ok (.lmul, 1) := by decide +kernel
theorem dX9_asked_137 : decode cX9_asked 137 = .ok (.invokevirtual 65, 3) := by decide +kernel
theorem dX9_asked_140 : decode cX9_asked 140 = .ok (.lreturn, 1) := by decide +kernel
theorem dX9_expected_0 : decode cX9_expected 0 = .ok (.aload_n 0, 1) := by decide +kernel
theorem dX9_expected_1 : decode cX9_expected 1 = .ok (.iconst 0, 1) := by decide +kernel
theorem dX9_expected_2 : decode cX9_expected 2 = .ok (.putfield 40, 3) := by decide +kernel
theorem dX9_expected_5 : decode cX9_expected 5 = .ok (.aload_n 0, 1) := by decide +kernel
theorem dX9_expected_6 : decode cX9_expected 6 = .ok (.iload_n 1, 1) := by decide +kernel
theorem dX9_expected_7 : decode cX9_expected 7 = .ok (.invokevirtual 209, 3) := by decide +kernel
theorem dX9_expected_10 : decode cX9_expected 10 = .ok (.ifCond .ne 9, 3) := by decide +kernel
theorem dX9_expected_13 : decode cX9_expected 13 = .ok (.aload_n 0, 1) := by decide +kernel
theorem dX9_expected_14 : decode cX9_expected 14 = .ok (.iconst 1, 1) := by decide +kernel
theorem dX9_expected_15 : decode cX9_expected 15 = .ok (.invokevirtual 138, 3) := by decide +kernel
theorem dX9_expected_18 : decode cX9_expected 18 = .ok (.ireturn, 1) := by decide +kernel
theorem dX9_expected_19 : decode cX9_expected 19 = .ok (.aload_n 0, 1) := by decide +kernel
theorem dX9_expected_20 : decode cX9_expected 20 = .ok (.getfield 7, 3) := by decide +kernel
theorem dX9_expected_23 : decode cX9_expected 23 = .ok (.iconst 1, 1) := by decide +kernel
theorem dX9_expected_24 : decode cX9_expected 24 = .ok (.iaload, 1) := by decide +kernel
theorem dX9_expected_25 : decode cX9_expected 25 = .ok (.ifCond .ge 11, 3) := by decide +kernel
theorem dX9_expected_28 : decode cX9_expected 28 = .ok (.aload_n 0, 1) := by decide +kernel
theorem dX9_expected_29 : decode cX9_expected 29 = .ok (.iconst 2, 1) := by decide +kernel
theorem dX9_expected_30 : decode cX9_expected 30 = .ok (.invokevirtual 138, 3) := by decide +kernel
theorem dX9_expected_33 : decode cX9_expected 33 = .ok (.goto 10, 3) := by decide +kernel
theorem dX9_expected_36 : decode cX9_expected 36 = .ok (.aload_n 0, 1) := by decide +kernel
theorem dX9_expected_37 : decode cX9_expected 37 = .ok (.iload_n 1, 1) := by decide +kernel
theorem dX9_expected_38 : decode cX9_expected 38 = .ok (.i2l, 1) := by decide +kernel
theorem dX9_expected_39 : decode cX9_expected 39 = .ok (.invokevirtual 218, 3) := by decide +kernel
theorem dX9_expected_42 : decode cX9_expected 42 = .ok (.l2i, 1) := by decide +kernel
theorem dX9_expected_43 : decode cX9_expected 43 = .ok (.ireturn, 1) := by decide +kernel
theorem dX9_isRight_0 : decode cX9_isRight 0 = .ok (.aload_n 0, 1) := by decide +kernel
theorem dX9_isRight_1 : decode cX9_isRight 1 = .ok (.lload_n 1, 1) := by decide +kernel
theorem dX9_isRight_2 : decode cX9_isRight 2 = .ok (.invokevirtual 212, 3) := by decide +kernel
theorem dX9_isRight_5 : decode cX9_isRight 5 = .ok (.aload_n 0, 1) := by decide +kernel
theorem dX9_isRight_6 : decode cX9_isRight 6 = .ok (.lload_n 1, 1) := by decide +kernel
theorem dX9_isRight_7 : decode cX9_isRight 7 = .ok (.invokevirtual 218, 3) := by decide +kernel
theorem dX9_isRight_10 : decode cX9_isRight 10 = .ok (.lstore_n 3, 1) := by decide +kernel
theorem dX9_isRight_11 : decode cX9_isRight 11 = .ok (.lload_n 3, 1) := by decide +kernel
theorem dX9_isRight_12 : decode cX9_isRight 12 = .ok (.lconst 0, 1) := by decide +kernel
theorem dX9_isRight_13 : decode cX9_isRight 13 = .ok (.lcmp, 1) := by decide +kernel
theorem dX9_isRight_14 : decode cX9_isRight 14 = .ok (.ifCond .lt 19, 3) := by decide +kernel
theorem dX9_isRight_17 : decode cX9_isRight 17 = .ok (.aload_n 0, 1) := by decide +kernel
theorem dX9_isRight_18 : decode cX9_isRight 18 = .ok (.getfield 36, 3) := by decide +kernel
theorem dX9_isRight_21 : decode cX9_isRight 21 = .ok (.aload_n 0, 1) := by decide +kernel
theorem dX9_isRight_22 : decode cX9_isRight 22 = .ok (.getfield 7, 3) := by decide +kernel
theorem dX9_isRight_25 : decode cX9_isRight 25 = .ok (.iconst 4, 1) := by decide +kernel
theorem dX9_isRight_26 : decode cX9_isRight 26 = .ok (.iaload, 1) := by decide +kernel
theorem dX9_isRight_27 : decode cX9_isRight 27 = .ok (.laload, 1) := by decide +kernel
theorem dX9_isRight_28 : decode cX9_isRight 28 = .ok (.lload_n 3, 1) := by decide +kernel
theorem dX9_isRight_29 : decode cX9_isRight 29 = .ok (.lcmp, 1) := by decide +kernel
theorem dX9_isRight_30 : decode cX9_isRight 30 = .ok (.ifCond .ne 7, 3) := by decide +kernel
theorem dX9_isRight_33 : decode cX9_isRight 33 = .ok (.iconst 1, 1) := by decide +kernel
theorem dX9_isRight_34 : decode cX9_isRight 34 = .ok (.goto 4, 3) := by decide +kernel
theorem dX9_isRight_37 : decode cX9_isRight 37 = .ok (.iconst 0, 1) := by decide +kernel
theorem dX9_isRight_38 : decode cX9_isRight 38 = .ok (.ireturn, 1) := by decide +kernel
theorem dX9_firstWrong_0 : decode cX9_firstWrong 0 = .ok (.aload_n 0, 1) := by decide +kernel
theorem dX9_firstWrong_1 : decode cX9_firstWrong 1 = .ok (.iconst 0, 1) := by decide +kernel
theorem dX9_firstWrong_2 : decode cX9_firstWrong 2 = .ok (.putfield 40, 3) := by decide +kernel
theorem dX9_firstWrong_5 : decode cX9_firstWrong 5 = .ok (.aload_n 0, 1) := by decide +kernel
theorem dX9_firstWrong_6 : decode cX9_firstWrong 6 = .ok (.iload_n 1, 1) := by decide +kernel
theorem dX9_firstWrong_7 : decode cX9_firstWrong 7 = .ok (.invokevirtual 209, 3) := by decide +kernel
theorem dX9_firstWrong_10 : decode cX9_firstWrong 10 = .ok (.ifCond .ne 9, 3) := by decide +kernel
theorem dX9_firstWrong_13 : decode cX9_firstWrong 13 = .ok (.aload_n 0, 1) := by decide +kernel
theorem dX9_firstWrong_14 : decode cX9_firstWrong 14 = .ok (.iconst 1, 1) := by decide +kernel
theorem dX9_firstWrong_15 : decode cX9_firstWrong 15 = .ok (.invokevirtual 138, 3) := by decide +kernel
theorem dX9_firstWrong_18 : decode cX9_firstWrong 18 = .ok (.ireturn, 1) := by decide +kernel
theorem dX9_firstWrong_19 : decode cX9_firstWrong 19 = .ok (.aload_n 0, 1) := by decide +kernel
theorem dX9_firstWrong_20 : decode cX9_firstWrong 20 = .ok (.getfield 7, 3) := by decide +kernel
theorem dX9_firstWrong_23 : decode cX9_firstWrong 23 = .ok (.iconst 1, 1) := by decide +kernel
theorem dX9_firstWrong_24 : decode cX9_firstWrong 24 = .ok (.iaload, 1) := by decide +kernel
theorem dX9_firstWrong_25 : decode cX9_firstWrong 25 = .ok (.ifCond .ge 9, 3) := by decide +kernel
theorem dX9_firstWrong_28 : decode cX9_firstWrong 28 = .ok (.aload_n 0, 1) := by decide +kernel
theorem dX9_firstWrong_29 : decode cX9_firstWrong 29 = .ok (.iconst 2, 1) := by decide +kernel
theorem dX9_firstWrong_30 : decode cX9_firstWrong 30 = .ok (.invokevirtual 138, 3) := by decide +kernel
theorem dX9_firstWrong_33 : decode cX9_firstWrong 33 = .ok (.ireturn, 1) := by decide +kernel
theorem dX9_firstWrong_34 : decode cX9_firstWrong 34 = .ok (.iload_n 1, 1) := by decide +kernel
theorem dX9_firstWrong_35 : decode cX9_firstWrong 35 = .ok (.istore_n 2, 1) := by decide +kernel
theorem dX9_firstWrong_36 : decode cX9_firstWrong 36 = .ok (.iload_n 2, 1) := by decide +kernel
theorem dX9_firstWrong_37 : decode cX9_firstWrong 37 = .ok (.i2l, 1) := by decide +kernel
theorem dX9_firstWrong_38 : decode cX9_firstWrong 38 = .ok (.aload_n 0, 1) := by decide +kernel
theorem dX9_firstWrong_39 : decode cX9_firstWrong 39 = .ok (.invokevirtual 51, 3) := by decide +kernel
theorem dX9_firstWrong_42 : decode cX9_firstWrong 42 = .ok (.lcmp, 1) := by decide +kernel
theorem dX9_firstWrong_43 : decode cX9_firstWrong 43 = .ok (.ifCond .ge 20, 3) := by decide +kernel
theorem dX9_firstWrong_46 : decode cX9_firstWrong 46 = .ok (.aload_n 0, 1) := by decide +kernel
theorem dX9_firstWrong_47 : decode cX9_firstWrong 47 = .ok (.iload_n 2, 1) := by decide +kernel
theorem dX9_firstWrong_48 : decode cX9_firstWrong 48 = .ok (.i2l, 1) := by decide +kernel
theorem dX9_firstWrong_49 : decode cX9_firstWrong 49 = .ok (.invokevirtual 221, 3) := by decide +kernel
theorem dX9_firstWrong_52 : decode cX9_firstWrong 52 = .ok (.ifCond .ne 5, 3) := by decide +kernel
theorem dX9_firstWrong_55 : decode cX9_firstWrong 55 = .ok (.iload_n 2, 1) := by decide +kernel
theorem dX9_firstWrong_56 : decode cX9_firstWrong 56 = .ok (.ireturn, 1) := by decide +kernel
theorem dX9_firstWrong_57 : decode cX9_firstWrong 57 = .ok (.iinc 2 1, 3) := by decide +kernel
theorem dX9_firstWrong_60 : decode cX9_firstWrong 60 = .ok (.goto (-24), 3) := by decide +kernel
theorem dX9_firstWrong_63 : decode cX9_firstWrong 63 = .ok (.iconst (-1), 1) := by decide +kernel
theorem dX9_firstWrong_64 : decode cX9_firstWrong 64 = .ok (.ireturn, 1) := by decide +kernel
theorem dX9_wrong_0 : decode cX9_wrong 0 = .ok (.aload_n 0, 1) := by decide +kernel
theorem dX9_wrong_1 : decode cX9_wrong 1 = .ok (.iconst 0, 1) := by decide +kernel
theorem dX9_wrong_2 : decode cX9_wrong 2 = .ok (.putfield 40, 3) := by decide +kernel
theorem dX9_wrong_5 : decode cX9_wrong 5 = .ok (.aload_n 0, 1) := by decide +kernel
theorem dX9_wrong_6 : decode cX9_wrong 6 = .ok (.getfield 7, 3) := by decide +kernel
theorem dX9_wrong_9 : decode cX9_wrong 9 = .ok (.iconst 1, 1) := by decide +kernel
theorem dX9_wrong_10 : decode cX9_wrong 10 = .ok (.iaload, 1) := by decide +kernel
theorem dX9_wrong_11 : decode cX9_wrong 11 = .ok (.ifCond .ge 9, 3) := by decide +kernel
theorem dX9_wrong_14 : decode cX9_wrong 14 = .ok (.aload_n 0, 1) := by decide +kernel
theorem dX9_wrong_15 : decode cX9_wrong 15 = .ok (.iconst 1, 1) := by decide +kernel
theorem dX9_wrong_16 : decode cX9_wrong 16 = .ok (.invokevirtual 138, 3) := by decide +kernel
theorem dX9_wrong_19 : decode cX9_wrong 19 = .ok (.ireturn, 1) := by decide +kernel
theorem dX9_wrong_20 : decode cX9_wrong 20 = .ok (.iconst 0, 1) := by decide +kernel
theorem dX9_wrong_21 : decode cX9_wrong 21 = .ok (.istore_n 1, 1) := by decide +kernel
theorem dX9_wrong_22 : decode cX9_wrong 22 = .ok (.iconst 0, 1) := by decide +kernel
theorem dX9_wrong_23 : decode cX9_wrong 23 = .ok (.istore_n 2, 1) := by decide +kernel
theorem dX9_wrong_24 : decode cX9_wrong 24 = .ok (.iload_n 2, 1) := by decide +kernel
theorem dX9_wrong_25 : decode cX9_wrong 25 = .ok (.i2l, 1) := by decide +kernel
theorem dX9_wrong_26 : decode cX9_wrong 26 = .ok (.aload_n 0, 1) := by decide +kernel
theorem dX9_wrong_27 : decode cX9_wrong 27 = .ok (.invokevirtual 51, 3) := by decide +kernel
theorem dX9_wrong_30 : decode cX9_wrong 30 = .ok (.lcmp, 1) := by decide +kernel
theorem dX9_wrong_31 : decode cX9_wrong 31 = .ok (.ifCond .ge 26, 3) := by decide +kernel
theorem dX9_wrong_34 : decode cX9_wrong 34 = .ok (.iload_n 1, 1) := by decide +kernel
theorem dX9_wrong_35 : decode cX9_wrong 35 = .ok (.aload_n 0, 1) := by decide +kernel
theorem dX9_wrong_36 : decode cX9_wrong 36 = .ok (.iload_n 2, 1) := by decide +kernel
theorem dX9_wrong_37 : decode cX9_wrong 37 = .ok (.i2l, 1) := by decide +kernel
theorem dX9_wrong_38 : decode cX9_wrong 38 = .ok (.invokevirtual 221, 3) := by decide +kernel
theorem dX9_wrong_41 : decode cX9_wrong 41 = .ok (.ifCond .eq 7, 3) := by decide +kernel
theorem dX9_wrong_44 : decode cX9_wrong 44 = .ok (.iconst 0, 1) := by decide +kernel
theorem dX9_wrong_45 : decode cX9_wrong 45 = .ok (.goto 4, 3) := by decide +kernel
theorem dX9_wrong_48 : decode cX9_wrong 48 = .ok (.iconst 1, 1) := by decide +kernel
theorem dX9_wrong_49 : decode cX9_wrong 49 = .ok (.iadd, 1) := by decide +kernel
theorem dX9_wrong_50 : decode cX9_wrong 50 = .ok (.istore_n 1, 1) := by decide +kernel
theorem dX9_wrong_51 : decode cX9_wrong 51 = .ok (.iinc 2 1, 3) := by decide +kernel
theorem dX9_wrong_54 : decode cX9_wrong 54 = .ok (.goto (-30), 3) := by decide +kernel
theorem dX9_wrong_57 : decode cX9_wrong 57 = .ok (.iload_n 1, 1) := by decide +kernel
theorem dX9_wrong_58 : decode cX9_wrong 58 = .ok (.ireturn, 1) := by decide +kernel
theorem dX9_reach_0 : decode cX9_reach 0 = .ok (.aload_n 0, 1) := by decide +kernel
theorem dX9_reach_1 : decode cX9_reach 1 = .ok (.iconst 0, 1) := by decide +kernel
theorem dX9_reach_2 : decode cX9_reach 2 = .ok (.putfield 40, 3) := by decide +kernel
theorem dX9_reach_5 : decode cX9_reach 5 = .ok (.iload_n 1, 1) := by decide +kernel
theorem dX9_reach_6 : decode cX9_reach 6 = .ok (.i2l, 1) := by decide +kernel
theorem dX9_reach_7 : decode cX9_reach 7 = .ok (.lconst 0, 1) := by decide +kernel
theorem dX9_reach_8 : decode cX9_reach 8 = .ok (.ldc2_w 224, 3) := by decide +kernel
theorem dX9_reach_11 : decode cX9_reach 11 = .ok (.invokestatic 130, 3) := by decide +kernel
theorem dX9_reach_14 : decode cX9_reach 14 = .ok (.ifCond .eq 27, 3) := by decide +kernel
theorem dX9_reach_17 : decode cX9_reach 17 = .ok (.iload_n 2, 1) := by decide +kernel
theorem dX9_reach_18 : decode cX9_reach 18 = .ok (.i2l, 1) := by decide +kernel
theorem dX9_reach_19 : decode cX9_reach 19 = .ok (.lconst 0, 1) := by decide +kernel
theorem dX9_reach_20 : decode cX9_reach 20 = .ok (.ldc2_w 226, 3) := by decide +kernel
theorem dX9_reach_23 : decode cX9_reach 23 = .ok (.invokestatic 130, 3) := by decide +kernel
theorem dX9_reach_26 : decode cX9_reach 26 = .ok (.ifCond .eq 15, 3) := by decide +kernel
theorem dX9_reach_29 : decode cX9_reach 29 = .ok (.iload_n 3, 1) := by decide +kernel
theorem dX9_reach_30 : decode cX9_reach 30 = .ok (.i2l, 1) := by decide +kernel
theorem dX9_reach_31 : decode cX9_reach 31 = .ok (.lconst 1, 1) := by decide +kernel
theorem dX9_reach_32 : decode cX9_reach 32 = .ok (.ldc2_w 228, 3) := by decide +kernel
theorem dX9_reach_35 : decode cX9_reach 35 = .ok (.invokestatic 130, 3) := by decide +kernel
theorem dX9_reach_38 : decode cX9_reach 38 = .ok (.ifCond .ne 9, 3) := by decide +kernel
theorem dX9_reach_41 : decode cX9_reach 41 = .ok (.aload_n 0, 1) := by decide +kernel
theorem dX9_reach_42 : decode cX9_reach 42 = .ok (.iconst 1, 1) := by decide +kernel
theorem dX9_reach_43 : decode cX9_reach 43 = .ok (.invokevirtual 138, 3) := by decide +kernel
theorem dX9_reach_46 : decode cX9_reach 46 = .ok (.ireturn, 1) := by decide +kernel
theorem dX9_reach_47 : decode cX9_reach 47 = .ok (.lconst 0, 1) := by decide +kernel
theorem dX9_reach_48 : decode cX9_reach 48 = .ok (.lstore 4, 2) := by decide +kernel
theorem dX9_reach_50 : decode cX9_reach 50 = .ok (.lload 4, 2) := by decide +kernel
theorem dX9_reach_52 : decode cX9_reach 52 = .ok (.ldc2_w 224, 3) := by decide +kernel
theorem dX9_reach_55 : decode cX9_reach 55 = .ok (.lcmp, 1) := by decide +kernel
theorem dX9_reach_56 : decode cX9_reach 56 = .ok (.ifCond .gt 35, 3) := by decide +kernel
theorem dX9_reach_59 : decode cX9_reach 59 = .ok (.lload 4, 2) := by decide +kernel
theorem dX9_reach_61 : decode cX9_reach 61 = .ok (.iload_n 1, 1) := by decide +kernel
theorem dX9_reach_62 : decode cX9_reach 62 = .ok (.i2l, 1) := by decide +kernel
theorem dX9_reach_63 : decode cX9_reach 63 = .ok (.lmul, 1) := by decide +kernel
theorem dX9_reach_64 : decode cX9_reach 64 = .ok (.iload_n 2, 1) := by decide +kernel
theorem dX9_reach_65 : decode cX9_reach 65 = .ok (.invokestatic 47, 3) := by decide +kernel
theorem dX9_reach_68 : decode cX9_reach 68 = .ok (.ldiv, 1) := by decide +kernel
theorem dX9_reach_69 : decode cX9_reach 69 = .ok (.lload 4, 2) := by decide +kernel
theorem dX9_reach_71 : decode cX9_reach 71 = .ok (.iload_n 3, 1) := by decide +kernel
theorem dX9_reach_72 : decode cX9_reach 72 = .ok (.i2l, 1) := by decide +kernel
theorem dX9_reach_73 : decode cX9_reach 73 = .ok (.ldiv, 1) := by decide +kernel
theorem dX9_reach_74 : decode cX9_reach 74 = .ok (.lcmp, 1) := by decide +kernel
theorem dX9_reach_75 : decode cX9_reach 75 = .ok (.ifCond .eq 7, 3) := by decide +kernel
theorem dX9_reach_78 : decode cX9_reach 78 = .ok (.lload 4, 2) := by decide +kernel
theorem dX9_reach_80 : decode cX9_reach 80 = .ok (.l2i, 1) := by decide +kernel
theorem dX9_reach_81 : decode cX9_reach 81 = .ok (.ireturn, 1) := by decide +kernel
theorem dX9_reach_82 : decode cX9_reach 82 = .ok (.lload 4, 2) := by decide +kernel
theorem dX9_reach_84 : decode cX9_reach 84 = .ok (.lconst 1, 1) := by decide +kernel
theorem dX9_reach_85 : decode cX9_reach 85 = .ok (.ladd, 1) := by decide +kernel
theorem dX9_reach_86 : decode cX9_reach 86 = .ok (.lstore 4, 2) := by decide +kernel
theorem dX9_reach_88 : decode cX9_reach 88 = .ok (.goto (-38), 3) := by decide +kernel
theorem dX9_reach_91 : decode cX9_reach 91 = .ok (.iconst (-1), 1) := by decide +kernel
theorem dX9_reach_92 : decode cX9_reach 92 = .ok (.ireturn, 1) := by decide +kernel
theorem dX9_logUp_0 : decode cX9_logUp 0 = .ok (.iconst 0, 1) := by decide +kernel
theorem dX9_logUp_1 : decode cX9_logUp 1 = .ok (.istore_n 1, 1) := by decide +kernel
theorem dX9_logUp_2 : decode cX9_logUp 2 = .ok (.iload_n 1, 1) := by decide +kernel
theorem dX9_logUp_3 : decode cX9_logUp 3 = .ok (.invokestatic 47, 3) := by decide +kernel
theorem dX9_logUp_6 : decode cX9_logUp 6 = .ok (.iload_n 0, 1) := by decide +kernel
theorem dX9_logUp_7 : decode cX9_logUp 7 = .ok (.i2l, 1) := by decide +kernel
theorem dX9_logUp_8 : decode cX9_logUp 8 = .ok (.lcmp, 1) := by decide +kernel
theorem dX9_logUp_9 : decode cX9_logUp 9 = .ok (.ifCond .ge 9, 3) := by decide +kernel
theorem dX9_logUp_12 : decode cX9_logUp 12 = .ok (.iinc 1 1, 3) := by decide +kernel
theorem dX9_logUp_15 : decode cX9_logUp 15 = .ok (.goto (-13), 3) := by decide +kernel
theorem dX9_logUp_18 : decode cX9_logUp 18 = .ok (.iload_n 1, 1) := by decide +kernel
theorem dX9_logUp_19 : decode cX9_logUp 19 = .ok (.ireturn, 1) := by decide +kernel
theorem dX9_reciprocal_0 : decode cX9_reciprocal 0 = .ok (.lconst 0, 1) := by decide +kernel
theorem dX9_reciprocal_1 : decode cX9_reciprocal 1 = .ok (.lstore_n 2, 1) := by decide +kernel
theorem dX9_reciprocal_2 : decode cX9_reciprocal 2 = .ok (.lconst 1, 1) := by decide +kernel
theorem dX9_reciprocal_3 : decode cX9_reciprocal 3 = .ok (.iload_n 1, 1) := by decide +kernel
theorem dX9_reciprocal_4 : decode cX9_reciprocal 4 = .ok (.i2l, 1) := by decide +kernel
theorem dX9_reciprocal_5 : decode cX9_reciprocal 5 = .ok (.lrem, 1) := by decide +kernel
theorem dX9_reciprocal_6 : decode cX9_reciprocal 6 = .ok (.lstore 4, 2) := by decide +kernel
theorem dX9_reciprocal_8 : decode cX9_reciprocal 8 = .ok (.lconst 1, 1) := by decide +kernel
theorem dX9_reciprocal_9 : decode cX9_reciprocal 9 = .ok (.iload_n 1, 1) := by decide +kernel
theorem dX9_reciprocal_10 : decode cX9_reciprocal 10 = .ok (.i2l, 1) := by decide +kernel
theorem dX9_reciprocal_11 : decode cX9_reciprocal 11 = .ok (.ldiv, 1) := by decide +kernel
theorem dX9_reciprocal_12 : decode cX9_reciprocal 12 = .ok (.lstore_n 2, 1) := by decide +kernel
theorem dX9_reciprocal_13 : decode cX9_reciprocal 13 = .ok (.iconst 0, 1) := by decide +kernel
theorem dX9_reciprocal_14 : decode cX9_reciprocal 14 = .ok (.istore 6, 2) := by decide +kernel
theorem dX9_reciprocal_16 : decode cX9_reciprocal 16 = .ok (.iload 6, 2) := by decide +kernel
theorem dX9_reciprocal_18 : decode cX9_reciprocal 18 = .ok (.iload_n 0, 1) := by decide +kernel
theorem dX9_reciprocal_19 : decode cX9_reciprocal 19 = .ok (.if_icmp .ge 36, 3) := by decide +kernel
theorem dX9_reciprocal_22 : decode cX9_reciprocal 22 = .ok (.lload 4, 2) := by decide +kernel
theorem dX9_reciprocal_24 : decode cX9_reciprocal 24 = .ok (.ldc2_w 69, 3) := by decide +kernel
theorem dX9_reciprocal_27 : decode cX9_reciprocal 27 = .ok (.lmul, 1) := by decide +kernel
theorem dX9_reciprocal_28 : decode cX9_reciprocal 28 = .ok (.lstore 4, 2) := by decide +kernel
theorem dX9_reciprocal_30 : decode cX9_reciprocal 30 = .ok (.ldc2_w 69, 3) := by decide +kernel
theorem dX9_reciprocal_33 : decode cX9_reciprocal 33 = .ok (.lload_n 2, 1) := by decide +kernel
theorem dX9_reciprocal_34 : decode cX9_reciprocal 34 = .ok (.lmul, 1) := by decide +kernel
theorem dX9_reciprocal_35 : decode cX9_reciprocal 35 = .ok (.lload 4, 2) := by decide +kernel
theorem dX9_reciprocal_37 : decode cX9_reciprocal 37 = .ok (.iload_n 1, 1) := by decide +kernel
theorem dX9_reciprocal_38 : decode cX9_reciprocal 38 = .ok (.i2l, 1) := by decide +kernel
theorem dX9_reciprocal_39 : decode cX9_reciprocal 39 = .ok (.ldiv, 1) := by decide +kernel
theorem dX9_reciprocal_40 : decode cX9_reciprocal 40 = .ok (.ladd, 1) := by decide +kernel
theorem dX9_reciprocal_41 : decode cX9_reciprocal 41 = .ok (.lstore_n 2, 1) := by decide +kernel
theorem dX9_reciprocal_42 : decode cX9_reciprocal 42 = .ok (.lload 4, 2) := by decide +kernel
theorem dX9_reciprocal_44 : decode cX9_reciprocal 44 = .ok (.iload_n 1, 1) := by decide +kernel
theorem dX9_reciprocal_45 : decode cX9_reciprocal 45 = .ok (.i2l, 1) := by decide +kernel
theorem dX9_reciprocal_46 : decode cX9_reciprocal 46 = .ok (.lrem, 1) := by decide +kernel
theorem dX9_reciprocal_47 : decode cX9_reciprocal 47 = .ok (.lstore 4, 2) := by decide +kernel
theorem dX9_reciprocal_49 : decode cX9_reciprocal 49 = .ok (.iinc 6 1, 3) := by decide +kernel
theorem dX9_reciprocal_52 : decode cX9_reciprocal 52 = .ok (.goto (-36), 3) := by decide +kernel
theorem dX9_reciprocal_55 : decode cX9_reciprocal 55 = .ok (.ldc2_w 69, 3) := by decide +kernel
theorem dX9_reciprocal_58 : decode cX9_reciprocal 58 = .ok (.lload 4, 2) := by decide +kernel
theorem dX9_reciprocal_60 : decode cX9_reciprocal 60 = .ok (.lmul, 1) := by decide +kernel
theorem dX9_reciprocal_61 : decode cX9_reciprocal 61 = .ok (.iload_n 1, 1) := by decide +kernel
theorem dX9_reciprocal_62 : decode cX9_reciprocal 62 = .ok (.i2l, 1) := by decide +kernel
theorem dX9_reciprocal_63 : decode cX9_reciprocal 63 = .ok (.lcmp, 1) := by decide +kernel
theorem dX9_reciprocal_64 : decode cX9_reciprocal 64 = .ok (.ifCond .gt 25, 3) := by decide +kernel
theorem dX9_reciprocal_67 : decode cX9_reciprocal 67 = .ok (.ldc2_w 69, 3) := by decide +kernel
theorem dX9_reciprocal_70 : decode cX9_reciprocal 70 = .ok (.lload 4, 2) := by decide +kernel
theorem dX9_reciprocal_72 : decode cX9_reciprocal 72 = .ok (.lmul, 1) := by decide +kernel
theorem dX9_reciprocal_73 : decode cX9_reciprocal 73 = .ok (.iload_n 1, 1) := by decide +kernel
theorem dX9_reciprocal_74 : decode cX9_reciprocal 74 = .ok (.i2l, 1) := by decide +kernel
theorem dX9_reciprocal_75 : decode cX9_reciprocal 75 = .ok (.lcmp, 1) := by decide +kernel
theorem dX9_reciprocal_76 : decode cX9_reciprocal 76 = .ok (.ifCond .ne 19, 3) := by decide +kernel
theorem dX9_reciprocal_79 : decode cX9_reciprocal 79 = .ok (.lload_n 2, 1) := by decide +kernel
theorem dX9_reciprocal_80 : decode cX9_reciprocal 80 = .ok (.ldc2_w 69, 3) := by decide +kernel
theorem dX9_reciprocal_83 : decode cX9_reciprocal 83 = .ok (.lrem, 1) := by decide +kernel
theorem dX9_reciprocal_84 : decode cX9_reciprocal 84 = .ok (.lconst 1, 1) := by decide +kernel
theorem dX9_reciprocal_85 : decode cX9_reciprocal 85 = .ok (.lcmp, 1) := by decide +kernel
theorem dX9_reciprocal_86 : decode cX9_reciprocal 86 = .ok (.ifCond .ne 9, 3) := by decide +kernel
theorem dX9_reciprocal_89 : decode cX9_reciprocal 89 = .ok (.lload_n 2, 1) := by decide +kernel
theorem dX9_reciprocal_90 : decode cX9_reciprocal 90 = .ok (.lconst 1, 1) := by decide +kernel
theorem dX9_reciprocal_91 : decode cX9_reciprocal 91 = .ok (.ladd, 1) := by decide +kernel
theorem dX9_reciprocal_92 : decode cX9_reciprocal 92 = .ok (.goto 4, 3) := by decide +kernel
theorem dX9_reciprocal_95 : decode cX9_reciprocal 95 = .ok (.lload_n 2, 1) := by decide +kernel
theorem dX9_reciprocal_96 : decode cX9_reciprocal 96 = .ok (.lreturn, 1) := by decide +kernel
theorem dX9_roundedFloat_0 : decode cX9_roundedFloat 0 = .ok (.iconst 0, 1) := by decide +kernel
theorem dX9_roundedFloat_1 : decode cX9_roundedFloat 1 = .ok (.istore_n 2, 1) := by decide +kernel
theorem dX9_roundedFloat_2 : decode cX9_roundedFloat 2 = .ok (.lload_n 0, 1) := by decide +kernel
theorem dX9_roundedFloat_3 : decode cX9_roundedFloat 3 = .ok (.iload_n 2, 1) := by decide +kernel
theorem dX9_roundedFloat_4 : decode cX9_roundedFloat 4 = .ok (.lshr, 1) := by decide +kernel
theorem dX9_roundedFloat_5 : decode cX9_roundedFloat 5 = .ok (.ldc2_w 230, 3) := by decide +kernel
theorem dX9_roundedFloat_8 : decode cX9_roundedFloat 8 = .ok (.lcmp, 1) := by decide +kernel
theorem dX9_roundedFloat_9 : decode cX9_roundedFloat 9 = .ok (.ifCond .lt 9, 3) := by decide +kernel
theorem dX9_roundedFloat_12 : decode cX9_roundedFloat 12 = .ok (.iinc 2 1, 3) := by decide +kernel
theorem dX9_roundedFloat_15 : decode cX9_roundedFloat 15 = .ok (.goto (-13), 3) := by decide +kernel
theorem dX9_roundedFloat_18 : decode cX9_roundedFloat 18 = .ok (.iload_n 2, 1) := by decide +kernel
theorem dX9_roundedFloat_19 : decode cX9_roundedFloat 19 = .ok (.ifCond .ne 5, 3) := by decide +kernel
theorem dX9_roundedFloat_22 : decode cX9_roundedFloat 22 = .ok (.lload_n 0, 1) := by decide +kernel
theorem dX9_roundedFloat_23 : decode cX9_roundedFloat 23 = .ok (.lreturn, 1) := by decide +kernel
theorem dX9_roundedFloat_24 : decode cX9_roundedFloat 24 = .ok (.lload_n 0, 1) := by decide +kernel
theorem dX9_roundedFloat_25 : decode cX9_roundedFloat 25 = .ok (.iload_n 2, 1) := by decide +kernel
theorem dX9_roundedFloat_26 : decode cX9_roundedFloat 26 = .ok (.lshr, 1) := by decide +kernel
theorem dX9_roundedFloat_27 : decode cX9_roundedFloat 27 = .ok (.lstore_n 3, 1) := by decide +kernel
theorem dX9_roundedFloat_28 : decode cX9_roundedFloat 28 = .ok (.lload_n 0, 1) := by decide +kernel
theorem dX9_roundedFloat_29 : decode cX9_roundedFloat 29 = .ok (.lload_n 3, 1) := by decide +kernel
theorem dX9_roundedFloat_30 : decode cX9_roundedFloat 30 = .ok (.iload_n 2, 1) := by decide +kernel
theorem dX9_roundedFloat_31 : decode cX9_roundedFloat 31 = .ok (.lshl, 1) := by decide +kernel
theorem dX9_roundedFloat_32 : decode cX9_roundedFloat 32 = .ok (.lsub, 1) := by decide +kernel
theorem dX9_roundedFloat_33 : decode cX9_roundedFloat 33 = .ok (.lstore 5, 2) := by decide +kernel
theorem dX9_roundedFloat_35 : decode cX9_roundedFloat 35 = .ok (.iload_n 2, 1) := by decide +kernel
theorem dX9_roundedFloat_36 : decode cX9_roundedFloat 36 = .ok (.iconst 1, 1) := by decide +kernel
theorem dX9_roundedFloat_37 : decode cX9_roundedFloat 37 = .ok (.isub, 1) := by decide +kernel
theorem dX9_roundedFloat_38 : decode cX9_roundedFloat 38 = .ok (.invokestatic 47, 3) := by decide +kernel
theorem dX9_roundedFloat_41 : decode cX9_roundedFloat 41 = .ok (.lstore 7, 2) := by decide +kernel
theorem dX9_roundedFloat_43 : decode cX9_roundedFloat 43 = .ok (.lload_n 3, 1) := by decide +kernel
theorem dX9_roundedFloat_44 : decode cX9_roundedFloat 44 = .ok (.lload 5, 2) := by decide +kernel
theorem dX9_roundedFloat_46 : decode cX9_roundedFloat 46 = .ok (.lload 7, 2) := by decide +kernel
theorem dX9_roundedFloat_48 : decode cX9_roundedFloat 48 = .ok (.lcmp, 1) := by decide +kernel
theorem dX9_roundedFloat_49 : decode cX9_roundedFloat 49 = .ok (.ifCond .gt 21, 3) := by decide +kernel
theorem dX9_roundedFloat_52 : decode cX9_roundedFloat 52 = .ok (.lload 5, 2) := by decide +kernel
theorem dX9_roundedFloat_54 : decode cX9_roundedFloat 54 = .ok (.lload 7, 2) := by decide +kernel
theorem dX9_roundedFloat_56 : decode cX9_roundedFloat 56 = .ok (.lcmp, 1) := by decide +kernel
theorem dX9_roundedFloat_57 : decode cX9_roundedFloat 57 = .ok (.ifCond .ne 17, 3) := by decide +kernel
theorem dX9_roundedFloat_60 : decode cX9_roundedFloat 60 = .ok (.lload_n 3, 1) := by decide +kernel
theorem dX9_roundedFloat_61 : decode cX9_roundedFloat 61 = .ok (.ldc2_w 69, 3) := by decide +kernel
theorem dX9_roundedFloat_64 : decode cX9_roundedFloat 64 = .ok (.lrem, 1) := by decide +kernel
theorem dX9_roundedFloat_65 : decode cX9_roundedFloat 65 = .ok (.lconst 1, 1) := by decide +kernel
theorem dX9_roundedFloat_66 : decode cX9_roundedFloat 66 = .ok (.lcmp, 1) := by decide +kernel
theorem dX9_roundedFloat_67 : decode cX9_roundedFloat 67 = .ok (.ifCond .ne 7, 3) := by decide +kernel
theorem dX9_roundedFloat_70 : decode cX9_roundedFloat 70 = .ok (.lconst 1, 1) := by decide +kernel
theorem dX9_roundedFloat_71 : decode cX9_roundedFloat 71 = .ok (.goto 4, 3) := by decide +kernel
theorem dX9_roundedFloat_74 : decode cX9_roundedFloat 74 = .ok (.lconst 0, 1) := by decide +kernel
theorem dX9_roundedFloat_75 : decode cX9_roundedFloat 75 = .ok (.ladd, 1) := by decide +kernel
theorem dX9_roundedFloat_76 : decode cX9_roundedFloat 76 = .ok (.iload_n 2, 1) := by decide +kernel
theorem dX9_roundedFloat_77 : decode cX9_roundedFloat 77 = .ok (.lshl, 1) := by decide +kernel
theorem dX9_roundedFloat_78 : decode cX9_roundedFloat 78 = .ok (.lreturn, 1) := by decide +kernel
theorem dX9_floatReciprocal_0 : decode cX9_floatReciprocal 0 = .ok (.aload_n 0, 1) := by decide +kernel
theorem dX9_floatReciprocal_1 : decode cX9_floatReciprocal 1 = .ok (.iconst 0, 1) := by decide +kernel
theorem dX9_floatReciprocal_2 : decode cX9_floatReciprocal 2 = .ok (.putfield 40, 3) := by decide +kernel
theorem dX9_floatReciprocal_5 : decode cX9_floatReciprocal 5 = .ok (.iload_n 1, 1) := by decide +kernel
theorem dX9_floatReciprocal_6 : decode cX9_floatReciprocal 6 = .ok (.i2l, 1) := by decide +kernel
theorem dX9_floatReciprocal_7 : decode cX9_floatReciprocal 7 = .ok (.lconst 1, 1) := by decide +kernel
theorem dX9_floatReciprocal_8 : decode cX9_floatReciprocal 8 = .ok (.ldc2_w 228, 3) := by decide +kernel
theorem dX9_floatReciprocal_11 : decode cX9_floatReciprocal 11 = .ok (.invokestatic 130, 3) := by decide +kernel
theorem dX9_floatReciprocal_14 : decode cX9_floatReciprocal 14 = .ok (.ifCond .ne 9, 3) := by decide +kernel
theorem dX9_floatReciprocal_17 : decode cX9_floatReciprocal 17 = .ok (.aload_n 0, 1) := by decide +kernel
theorem dX9_floatReciprocal_18 : decode cX9_floatReciprocal 18 = .ok (.iconst 1, 1) := by decide +kernel
theorem dX9_floatReciprocal_19 : decode cX9_floatReciprocal 19 = .ok (.invokevirtual 138, 3) := by decide +kernel
theorem dX9_floatReciprocal_22 : decode cX9_floatReciprocal 22 = .ok (.ireturn, 1) := by decide +kernel
theorem dX9_floatReciprocal_23 : decode cX9_floatReciprocal 23 = .ok (.bipush 23, 2) := by decide +kernel
theorem dX9_floatReciprocal_25 : decode cX9_floatReciprocal 25 = .ok (.iload_n 1, 1) := by decide +kernel
theorem dX9_floatReciprocal_26 : decode cX9_floatReciprocal 26 = .ok (.invokestatic 232, 3) := by decide +kernel
theorem dX9_floatReciprocal_29 : decode cX9_floatReciprocal 29 = .ok (.iadd, 1) := by decide +kernel
theorem dX9_floatReciprocal_30 : decode cX9_floatReciprocal 30 = .ok (.iload_n 1, 1) := by decide +kernel
theorem dX9_floatReciprocal_31 : decode cX9_floatReciprocal 31 = .ok (.invokestatic 235, 3) := by decide +kernel
theorem dX9_floatReciprocal_34 : decode cX9_floatReciprocal 34 = .ok (.lstore_n 2, 1) := by decide +kernel
theorem dX9_floatReciprocal_35 : decode cX9_floatReciprocal 35 = .ok (.ldc2_w 239, 3) := by decide +kernel
theorem dX9_floatReciprocal_38 : decode cX9_floatReciprocal 38 = .ok (.iload_n 1, 1) := by decide +kernel
theorem dX9_floatReciprocal_39 : decode cX9_floatReciprocal 39 = .ok (.invokestatic 232, 3) := by decide +kernel
theorem dX9_floatReciprocal_42 : decode cX9_floatReciprocal 42 = .ok (.i2l, 1) := by decide +kernel
theorem dX9_floatReciprocal_43 : decode cX9_floatReciprocal 43 = .ok (.lsub, 1) := by decide +kernel
theorem dX9_floatReciprocal_44 : decode cX9_floatReciprocal 44 = .ok (.bipush 23, 2) := by decide +kernel
theorem dX9_floatReciprocal_46 : decode cX9_floatReciprocal 46 = .ok (.lshl, 1) := by decide +kernel
theorem dX9_floatReciprocal_47 : decode cX9_floatReciprocal 47 = .ok (.lload_n 2, 1) := by decide +kernel
theorem dX9_floatReciprocal_48 : decode cX9_floatReciprocal 48 = .ok (.ladd, 1) := by decide +kernel
theorem dX9_floatReciprocal_49 : decode cX9_floatReciprocal 49 = .ok (.ldc2_w 241, 3) := by decide +kernel
theorem dX9_floatReciprocal_52 : decode cX9_floatReciprocal 52 = .ok (.lsub, 1) := by decide +kernel
theorem dX9_floatReciprocal_53 : decode cX9_floatReciprocal 53 = .ok (.l2i, 1) := by decide +kernel
theorem dX9_floatReciprocal_54 : decode cX9_floatReciprocal 54 = .ok (.ireturn, 1) := by decide +kernel
theorem dX9_doubleReciprocal_0 : decode cX9_doubleReciprocal 0 = .ok (.aload_n 0, 1) := by decide +kernel
theorem dX9_doubleReciprocal_1 : decode cX9_doubleReciprocal 1 = .ok (.iconst 0, 1) := by decide +kernel
theorem dX9_doubleReciprocal_2 : decode cX9_doubleReciprocal 2 = .ok (.putfield 40, 3) := by decide +kernel
theorem dX9_doubleReciprocal_5 : decode cX9_doubleReciprocal 5 = .ok (.iload_n 1, 1) := by decide +kernel
theorem dX9_doubleReciprocal_6 : decode cX9_doubleReciprocal 6 = .ok (.i2l, 1) := by decide +kernel
theorem dX9_doubleReciprocal_7 : decode cX9_doubleReciprocal 7 = .ok (.lconst 1, 1) := by decide +kernel
theorem dX9_doubleReciprocal_8 : decode cX9_doubleReciprocal 8 = .ok (.ldc2_w 228, 3) := by decide +kernel
theorem dX9_doubleReciprocal_11 : decode cX9_doubleReciprocal 11 = .ok (.invokestatic 130, 3) := by decide +kernel
theorem dX9_doubleReciprocal_14 : decode cX9_doubleReciprocal 14 = .ok (.ifCond .ne 10, 3) := by decide +kernel
theorem dX9_doubleReciprocal_17 : decode cX9_doubleReciprocal 17 = .ok (.aload_n 0, 1) := by decide +kernel
theorem dX9_doubleReciprocal_18 : decode cX9_doubleReciprocal 18 = .ok (.iconst 1, 1) := by decide +kernel
theorem dX9_doubleReciprocal_19 : decode cX9_doubleReciprocal 19 = .ok (.invokevirtual 138, 3) := by decide +kernel
theorem dX9_doubleReciprocal_22 : decode cX9_doubleReciprocal 22 = .ok (.i2l, 1) := by decide +kernel
theorem dX9_doubleReciprocal_23 : decode cX9_doubleReciprocal 23 = .ok (.lreturn, 1) := by decide +kernel
theorem dX9_doubleReciprocal_24 : decode cX9_doubleReciprocal 24 = .ok (.bipush 52, 2) := by decide +kernel
theorem dX9_doubleReciprocal_26 : decode cX9_doubleReciprocal 26 = .ok (.iload_n 1, 1) := by decide +kernel
theorem dX9_doubleReciprocal_27 : decode cX9_doubleReciprocal 27 = .ok (.invokestatic 232, 3) := by decide +kernel
theorem dX9_doubleReciprocal_30 : decode cX9_doubleReciprocal 30 = .ok (.iadd, 1) := by decide +kernel
theorem dX9_doubleReciprocal_31 : decode cX9_doubleReciprocal 31 = .ok (.iload_n 1, 1) := by decide +kernel
theorem dX9_doubleReciprocal_32 : decode cX9_doubleReciprocal 32 = .ok (.invokestatic 235, 3) := by decide +kernel
theorem dX9_doubleReciprocal_35 : decode cX9_doubleReciprocal 35 = .ok (.lstore_n 2, 1) := by decide +kernel
theorem dX9_doubleReciprocal_36 : decode cX9_doubleReciprocal 36 = .ok (.ldc2_w 243, 3) := by decide +kernel
theorem dX9_doubleReciprocal_39 : decode cX9_doubleReciprocal 39 = .ok (.iload_n 1, 1) := by decide +kernel
theorem dX9_doubleReciprocal_40 : decode cX9_doubleReciprocal 40 = .ok (.invokestatic 232, 3) := by decide +kernel
theorem dX9_doubleReciprocal_43 : decode cX9_doubleReciprocal 43 = .ok (.i2l, 1) := by decide +kernel
theorem dX9_doubleReciprocal_44 : decode cX9_doubleReciprocal 44 = .ok (.lsub, 1) := by decide +kernel
theorem dX9_doubleReciprocal_45 : decode cX9_doubleReciprocal 45 = .ok (.bipush 52, 2) := by decide +kernel
theorem dX9_doubleReciprocal_47 : decode cX9_doubleReciprocal 47 = .ok (.lshl, 1) := by decide +kernel
theorem dX9_doubleReciprocal_48 : decode cX9_doubleReciprocal 48 = .ok (.lload_n 2, 1) := by decide +kernel
theorem dX9_doubleReciprocal_49 : decode cX9_doubleReciprocal 49 = .ok (.ladd, 1) := by decide +kernel
theorem dX9_doubleReciprocal_50 : decode cX9_doubleReciprocal 50 = .ok (.bipush 52, 2) := by decide +kernel
theorem dX9_doubleReciprocal_52 : decode cX9_doubleReciprocal 52 = .ok (.invokestatic 47, 3) := by decide +kernel
theorem dX9_doubleReciprocal_55 : decode cX9_doubleReciprocal 55 = .ok (.lsub, 1) := by decide +kernel
theorem dX9_doubleReciprocal_56 : decode cX9_doubleReciprocal 56 = .ok (.lreturn, 1) := by decide +kernel
theorem dX9_firstFloatError_0 : decode cX9_firstFloatError 0 = .ok (.aload_n 0, 1) := by decide +kernel
theorem dX9_firstFloatError_1 : decode cX9_firstFloatError 1 = .ok (.iconst 0, 1) := by decide +kernel
theorem dX9_firstFloatError_2 : decode cX9_firstFloatError 2 = .ok (.putfield 40, 3) := by decide +kernel
theorem dX9_firstFloatError_5 : decode cX9_firstFloatError 5 = .ok (.iload_n 1, 1) := by decide +kernel
theorem dX9_firstFloatError_6 : decode cX9_firstFloatError 6 = .ok (.i2l, 1) := by decide +kernel
theorem dX9_firstFloatError_7 : decode cX9_firstFloatError 7 = .ok (.lconst 1, 1) := by decide +kernel
theorem dX9_firstFloatError_8 : decode cX9_firstFloatError 8 = .ok (.ldc2_w 228, 3) := by decide +kernel
theorem dX9_firstFloatError_11 : decode cX9_firstFloatError 11 = .ok (.invokestatic 130, 3) := by decide +kernel
theorem dX9_firstFloatError_14 : decode cX9_firstFloatError 14 = .ok (.ifCond .ne 9, 3) := by decide +kernel
theorem dX9_firstFloatError_17 : decode cX9_firstFloatError 17 = .ok (.aload_n 0, 1) := by decide +kernel
theorem dX9_firstFloatError_18 : decode cX9_firstFloatError 18 = .ok (.iconst 1, 1) := by decide +kernel
theorem dX9_firstFloatError_19 : decode cX9_firstFloatError 19 = .ok (.invokevirtual 138, 3) := by decide +kernel
theorem dX9_firstFloatError_22 : decode cX9_firstFloatError 22 = .ok (.ireturn, 1) := by decide +kernel
theorem dX9_firstFloatError_23 : decode cX9_firstFloatError 23 = .ok (.bipush 23, 2) := by decide +kernel
theorem dX9_firstFloatError_25 : decode cX9_firstFloatError 25 = .ok (.iload_n 1, 1) := by decide +kernel
theorem dX9_firstFloatError_26 : decode cX9_firstFloatError 26 = .ok (.invokestatic 232, 3) := by decide +kernel
theorem dX9_firstFloatError_29 : decode cX9_firstFloatError 29 = .ok (.iadd, 1) := by decide +kernel
theorem dX9_firstFloatError_30 : decode cX9_firstFloatError 30 = .ok (.istore_n 2, 1) := by decide +kernel
theorem dX9_firstFloatError_31 : decode cX9_firstFloatError 31 = .ok (.iload_n 2, 1) := by decide +kernel
theorem dX9_firstFloatError_32 : decode cX9_firstFloatError 32 = .ok (.iload_n 1, 1) := by decide +kernel
theorem dX9_firstFloatError_33 : decode cX9_firstFloatError 33 = .ok (.invokestatic 235, 3) := by decide +kernel
theorem dX9_firstFloatError_36 : decode cX9_firstFloatError 36 = .ok (.lstore_n 3, 1) := by decide +kernel
theorem dX9_firstFloatError_37 : decode cX9_firstFloatError 37 = .ok (.lconst 0, 1) := by decide +kernel
theorem dX9_firstFloatError_38 : decode cX9_firstFloatError 38 = .ok (.lstore 5, 2) := by decide +kernel
theorem dX9_firstFloatError_40 : decode cX9_firstFloatError 40 = .ok (.lload 5, 2) := by decide +kernel
theorem dX9_firstFloatError_42 : decode cX9_firstFloatError 42 = .ok (.ldc2_w 245, 3) := by decide +kernel
theorem dX9_firstFloatError_45 : decode cX9_firstFloatError 45 = .ok (.lcmp, 1) := by decide +kernel
theorem dX9_firstFloatError_46 : decode cX9_firstFloatError 46 = .ok (.ifCond .gt 34, 3) := by decide +kernel
theorem dX9_firstFloatError_49 : decode cX9_firstFloatError 49 = .ok (.lload 5, 2) := by decide +kernel
theorem dX9_firstFloatError_51 : decode cX9_firstFloatError 51 = .ok (.lload_n 3, 1) := by decide +kernel
theorem dX9_firstFloatError_52 : decode cX9_firstFloatError 52 = .ok (.lmul, 1) := by decide +kernel
theorem dX9_firstFloatError_53 : decode cX9_firstFloatError 53 = .ok (.invokestatic 247, 3) := by decide +kernel
theorem dX9_firstFloatError_56 : decode cX9_firstFloatError 56 = .ok (.iload_n 2, 1) := by decide +kernel
theorem dX9_firstFloatError_57 : decode cX9_firstFloatError 57 = .ok (.lshr, 1) := by decide +kernel
theorem dX9_firstFloatError_58 : decode cX9_firstFloatError 58 = .ok (.lload 5, 2) := by decide +kernel
theorem dX9_firstFloatError_60 : decode cX9_firstFloatError 60 = .ok (.iload_n 1, 1) := by decide +kernel
theorem dX9_firstFloatError_61 : decode cX9_firstFloatError 61 = .ok (.i2l, 1) := by decide +kernel
theorem dX9_firstFloatError_62 : decode cX9_firstFloatError 62 = .ok (.ldiv, 1) := by decide +kernel
theorem dX9_firstFloatError_63 : decode cX9_firstFloatError 63 = .ok (.lcmp, 1) := by decide +kernel
theorem dX9_firstFloatError_64 : decode cX9_firstFloatError 64 = .ok (.ifCond .eq 7, 3) := by decide +kernel
theorem dX9_firstFloatError_67 : decode cX9_firstFloatError 67 = .ok (.lload 5, 2) := by decide +kernel
theorem dX9_firstFloatError_69 : decode cX9_firstFloatError 69 = .ok (.l2i, 1) := by decide +kernel
theorem dX9_firstFloatError_70 : decode cX9_firstFloatError 70 = .ok (.ireturn, 1) := by decide +kernel
theorem dX9_firstFloatError_71 : decode cX9_firstFloatError 71 = .ok (.lload 5, 2) := by decide +kernel
theorem dX9_firstFloatError_73 : decode cX9_firstFloatError 73 = .ok (.lconst 1, 1) := by decide +kernel
theorem dX9_firstFloatError_74 : decode cX9_firstFloatError 74 = .ok (.ladd, 1) := by decide +kernel
theorem dX9_firstFloatError_75 : decode cX9_firstFloatError 75 = .ok (.lstore 5, 2) := by decide +kernel
theorem dX9_firstFloatError_77 : decode cX9_firstFloatError 77 = .ok (.goto (-37), 3) := by decide +kernel
theorem dX9_firstFloatError_80 : decode cX9_firstFloatError 80 = .ok (.iconst (-1), 1) := by decide +kernel
theorem dX9_firstFloatError_81 : decode cX9_firstFloatError 81 = .ok (.ireturn, 1) := by decide +kernel
theorem dX9_doubleQuotient_0 : decode cX9_doubleQuotient 0 = .ok (.lload_n 0, 1) := by decide +kernel
theorem dX9_doubleQuotient_1 : decode cX9_doubleQuotient 1 = .ok (.lload_n 2, 1) := by decide +kernel
theorem dX9_doubleQuotient_2 : decode cX9_doubleQuotient 2 = .ok (.bipush 26, 2) := by decide +kernel
theorem dX9_doubleQuotient_4 : decode cX9_doubleQuotient 4 = .ok (.lshr, 1) := by decide +kernel
theorem dX9_doubleQuotient_5 : decode cX9_doubleQuotient 5 = .ok (.lmul, 1) := by decide +kernel
theorem dX9_doubleQuotient_6 : decode cX9_doubleQuotient 6 = .ok (.lload_n 0, 1) := by decide +kernel
theorem dX9_doubleQuotient_7 : decode cX9_doubleQuotient 7 = .ok (.lload_n 2, 1) := by decide +kernel
theorem dX9_doubleQuotient_8 : decode cX9_doubleQuotient 8 = .ok (.ldc2_w 250, 3) := by decide +kernel
theorem dX9_doubleQuotient_11 : decode cX9_doubleQuotient 11 = .ok (.land, 1) := by decide +kernel
theorem dX9_doubleQuotient_12 : decode cX9_doubleQuotient 12 = .ok (.lmul, 1) := by decide +kernel
theorem dX9_doubleQuotient_13 : decode cX9_doubleQuotient 13 = .ok (.bipush 26, 2) := by decide +kernel
theorem dX9_doubleQuotient_15 : decode cX9_doubleQuotient 15 = .ok (.lshr, 1) := by decide +kernel
theorem dX9_doubleQuotient_16 : decode cX9_doubleQuotient 16 = .ok (.ladd, 1) := by decide +kernel
theorem dX9_doubleQuotient_17 : decode cX9_doubleQuotient 17 = .ok (.lstore 5, 2) := by decide +kernel
theorem dX9_doubleQuotient_19 : decode cX9_doubleQuotient 19 = .ok (.lload_n 0, 1) := by decide +kernel
theorem dX9_doubleQuotient_20 : decode cX9_doubleQuotient 20 = .ok (.lload_n 2, 1) := by decide +kernel
theorem dX9_doubleQuotient_21 : decode cX9_doubleQuotient 21 = .ok (.ldc2_w 250, 3) := by decide +kernel
theorem dX9_doubleQuotient_24 : decode cX9_doubleQuotient 24 = .ok (.land, 1) := by decide +kernel
theorem dX9_doubleQuotient_25 : decode cX9_doubleQuotient 25 = .ok (.lmul, 1) := by decide +kernel
theorem dX9_doubleQuotient_26 : decode cX9_doubleQuotient 26 = .ok (.ldc2_w 250, 3) := by decide +kernel
theorem dX9_doubleQuotient_29 : decode cX9_doubleQuotient 29 = .ok (.land, 1) := by decide +kernel
theorem dX9_doubleQuotient_30 : decode cX9_doubleQuotient 30 = .ok (.lstore 7, 2) := by decide +kernel
theorem dX9_doubleQuotient_32 : decode cX9_doubleQuotient 32 = .ok (.iconst 0, 1) := by decide +kernel
theorem dX9_doubleQuotient_33 : decode cX9_doubleQuotient 33 = .ok (.istore 9, 2) := by decide +kernel
theorem dX9_doubleQuotient_35 : decode cX9_doubleQuotient 35 = .ok (.lload 5, 2) := by decide +kernel
theorem dX9_doubleQuotient_37 : decode cX9_doubleQuotient 37 = .ok (.iload 9, 2) := by decide +kernel
theorem dX9_doubleQuotient_39 : decode cX9_doubleQuotient 39 = .ok (.lshr, 1) := by decide +kernel
theorem dX9_doubleQuotient_40 : decode cX9_doubleQuotient 40 = .ok (.ldc2_w 252, 3) := by decide +kernel
theorem dX9_doubleQuotient_43 : decode cX9_doubleQuotient 43 = .ok (.lcmp, 1) := by decide +kernel
theorem dX9_doubleQuotient_44 : decode cX9_doubleQuotient 44 = .ok (.ifCond .lt 9, 3) := by decide +kernel
theorem dX9_doubleQuotient_47 : decode cX9_doubleQuotient 47 = .ok (.iinc 9 1, 3) := by decide +kernel
theorem dX9_doubleQuotient_50 : decode cX9_doubleQuotient 50 = .ok (.goto (-15), 3) := by decide +kernel
theorem dX9_doubleQuotient_53 : decode cX9_doubleQuotient 53 = .ok (.iload 9, 2) := by decide +kernel
theorem dX9_doubleQuotient_55 : decode cX9_doubleQuotient 55 = .ok (.ifCond .le 104, 3) := by decide +kernel
theorem dX9_doubleQuotient_58 : decode cX9_doubleQuotient 58 = .ok (.lload 7, 2) := by decide +kernel
theorem dX9_doubleQuotient_60 : decode cX9_doubleQuotient 60 = .ok (.iload 9, 2) := by decide +kernel
theorem dX9_doubleQuotient_62 : decode cX9_doubleQuotient 62 = .ok (.invokestatic 47, 3) := by decide +kernel
theorem dX9_doubleQuotient_65 : decode cX9_doubleQuotient 65 = .ok (.lconst 1, 1) := by decide +kernel
theorem dX9_doubleQuotient_66 : decode cX9_doubleQuotient 66 = .ok (.lsub, 1) := by decide +kernel
theorem dX9_doubleQuotient_67 : decode cX9_doubleQuotient 67 = .ok (.land, 1) := by decide +kernel
theorem dX9_doubleQuotient_68 : decode cX9_doubleQuotient 68 = .ok (.lstore 10, 2) := by decide +kernel
theorem dX9_doubleQuotient_70 : decode cX9_doubleQuotient 70 = .ok (.lload 7, 2) := by decide +kernel
theorem dX9_doubleQuotient_72 : decode cX9_doubleQuotient 72 = .ok (.iload 9, 2) := by decide +kernel
theorem dX9_doubleQuotient_74 : decode cX9_doubleQuotient 74 = .ok (.lshr, 1) := by decide +kernel
theorem dX9_doubleQuotient_75 : decode cX9_doubleQuotient 75 = .ok (.lconst 1, 1) := by decide +kernel
theorem dX9_doubleQuotient_76 : decode cX9_doubleQuotient 76 = .ok (.land, 1) := by decide +kernel
theorem dX9_doubleQuotient_77 : decode cX9_doubleQuotient 77 = .ok (.lconst 1, 1) := by decide +kernel
theorem dX9_doubleQuotient_78 : decode cX9_doubleQuotient 78 = .ok (.lcmp, 1) := by decide +kernel
theorem dX9_doubleQuotient_79 : decode cX9_doubleQuotient 79 = .ok (.ifCond .ne 7, 3) := by decide +kernel
theorem dX9_doubleQuotient_82 : decode cX9_doubleQuotient 82 = .ok (.iconst 1, 1) := by decide +kernel
theorem dX9_doubleQuotient_83 : decode cX9_doubleQuotient 83 = .ok (.goto 4, 3) := by decide +kernel
theorem dX9_doubleQuotient_86 : decode cX9_doubleQuotient 86 = .ok (.iconst 0, 1) := by decide +kernel
theorem dX9_doubleQuotient_87 : decode cX9_doubleQuotient 87 = .ok (.istore 12, 2) := by decide +kernel
theorem dX9_doubleQuotient_89 : decode cX9_doubleQuotient 89 = .ok (.lload 10, 2) := by decide +kernel
theorem dX9_doubleQuotient_91 : decode cX9_doubleQuotient 91 = .ok (.iload 9, 2) := by decide +kernel
theorem dX9_doubleQuotient_93 : decode cX9_doubleQuotient 93 = .ok (.iconst 1, 1) := by decide +kernel
theorem dX9_doubleQuotient_94 : decode cX9_doubleQuotient 94 = .ok (.isub, 1) := by decide +kernel
theorem dX9_doubleQuotient_95 : decode cX9_doubleQuotient 95 = .ok (.invokestatic 47, 3) := by decide +kernel
theorem dX9_doubleQuotient_98 : decode cX9_doubleQuotient 98 = .ok (.lcmp, 1) := by decide +kernel
theorem dX9_doubleQuotient_99 : decode cX9_doubleQuotient 99 = .ok (.ifCond .gt 21, 3) := by decide +kernel
theorem dX9_doubleQuotient_102 : decode cX9_doubleQuotient 102 = .ok (.lload 10, 2) := by decide +kernel
theorem dX9_doubleQuotient_104 : decode cX9_doubleQuotient 104 = .ok (.iload 9, 2) := by decide +kernel
theorem dX9_doubleQuotient_106 : decode cX9_doubleQuotient 106 = .ok (.iconst 1, 1) := by decide +kernel
theorem dX9_doubleQuotient_107 : decode cX9_doubleQuotient 107 = .ok (.isub, 1) := by decide +kernel
theorem dX9_doubleQuotient_108 : decode cX9_doubleQuotient 108 = .ok (.invokestatic 47, 3) := by decide +kernel
theorem dX9_doubleQuotient_111 : decode cX9_doubleQuotient 111 = .ok (.lcmp, 1) := by decide +kernel
theorem dX9_doubleQuotient_112 : decode cX9_doubleQuotient 112 = .ok (.ifCond .ne 12, 3) := by decide +kernel
theorem dX9_doubleQuotient_115 : decode cX9_doubleQuotient 115 = .ok (.iload 12, 2) := by decide +kernel
theorem dX9_doubleQuotient_117 : decode cX9_doubleQuotient 117 = .ok (.ifCond .eq 7, 3) := by decide +kernel
theorem dX9_doubleQuotient_120 : decode cX9_doubleQuotient 120 = .ok (.iconst 1, 1) := by decide +kernel
theorem dX9_doubleQuotient_121 : decode cX9_doubleQuotient 121 = .ok (.goto 4, 3) := by decide +kernel
theorem dX9_doubleQuotient_124 : decode cX9_doubleQuotient 124 = .ok (.iconst 0, 1) := by decide +kernel
theorem dX9_doubleQuotient_125 : decode cX9_doubleQuotient 125 = .ok (.istore 13, 2) := by decide +kernel
theorem dX9_doubleQuotient_127 : decode cX9_doubleQuotient 127 = .ok (.lload 7, 2) := by decide +kernel
theorem dX9_doubleQuotient_129 : decode cX9_doubleQuotient 129 = .ok (.iload 13, 2) := by decide +kernel
theorem dX9_doubleQuotient_131 : decode cX9_doubleQuotient 131 = .ok (.ifCond .eq 11, 3) := by decide +kernel
theorem dX9_doubleQuotient_134 : decode cX9_doubleQuotient 134 = .ok (.iload 9, 2) := by decide +kernel
theorem dX9_doubleQuotient_136 : decode cX9_doubleQuotient 136 = .ok (.invokestatic 47, 3) := by decide +kernel
theorem dX9_doubleQuotient_139 : decode cX9_doubleQuotient 139 = .ok (.goto 4, 3) := by decide +kernel
theorem dX9_doubleQuotient_142 : decode cX9_doubleQuotient 142 = .ok (.lconst 0, 1) := by decide +kernel
theorem dX9_doubleQuotient_143 : decode cX9_doubleQuotient 143 = .ok (.lload 10, 2) := by decide +kernel
theorem dX9_doubleQuotient_145 : decode cX9_doubleQuotient 145 = .ok (.lsub, 1) := by decide +kernel
theorem dX9_doubleQuotient_146 : decode cX9_doubleQuotient 146 = .ok (.ladd, 1) := by decide +kernel
theorem dX9_doubleQuotient_147 : decode cX9_doubleQuotient 147 = .ok (.lstore 7, 2) := by decide +kernel
theorem dX9_doubleQuotient_149 : decode cX9_doubleQuotient 149 = .ok (.lload 5, 2) := by decide +kernel
theorem dX9_doubleQuotient_151 : decode cX9_doubleQuotient 151 = .ok (.lload 7, 2) := by decide +kernel
theorem dX9_doubleQuotient_153 : decode cX9_doubleQuotient 153 = .ok (.bipush 26, 2) := by decide +kernel
theorem dX9_doubleQuotient_155 : decode cX9_doubleQuotient 155 = .ok (.lshr, 1) := by decide +kernel
theorem dX9_doubleQuotient_156 : decode cX9_doubleQuotient 156 = .ok (.ladd, 1) := by decide +kernel
theorem dX9_doubleQuotient_157 : decode cX9_doubleQuotient 157 = .ok (.lstore 5, 2) := by decide +kernel
theorem dX9_doubleQuotient_159 : decode cX9_doubleQuotient 159 = .ok (.lload 5, 2) := by decide +kernel
theorem dX9_doubleQuotient_161 : decode cX9_doubleQuotient 161 = .ok (.iload 4, 2) := by decide +kernel
theorem dX9_doubleQuotient_163 : decode cX9_doubleQuotient 163 = .ok (.bipush 26, 2) := by decide +kernel
theorem dX9_doubleQuotient_165 : decode cX9_doubleQuotient 165 = .ok (.isub, 1) := by decide +kernel
theorem dX9_doubleQuotient_166 : decode cX9_doubleQuotient 166 = .ok (.lshr, 1) := by decide +kernel
theorem dX9_doubleQuotient_167 : decode cX9_doubleQuotient 167 = .ok (.lreturn, 1) := by decide +kernel
theorem dX9_firstDoubleError_0 : decode cX9_firstDoubleError 0 = .ok (.aload_n 0, 1) := by decide +kernel
theorem dX9_firstDoubleError_1 : decode cX9_firstDoubleError 1 = .ok (.iconst 0, 1) := by decide +kernel
theorem dX9_firstDoubleError_2 : decode cX9_firstDoubleError 2 = .ok (.putfield 40, 3) := by decide +kernel
theorem dX9_firstDoubleError_5 : decode cX9_firstDoubleError 5 = .ok (.iload_n 1, 1) := by decide +kernel
theorem dX9_firstDoubleError_6 : decode cX9_firstDoubleError 6 = .ok (.i2l, 1) := by decide +kernel
theorem dX9_firstDoubleError_7 : decode cX9_firstDoubleError 7 = .ok (.lconst 1, 1) := by decide +kernel
theorem dX9_firstDoubleError_8 : decode cX9_firstDoubleError 8 = .ok (.ldc2_w 228, 3) := by decide +kernel
theorem dX9_firstDoubleError_11 : decode cX9_firstDoubleError 11 = .ok (.invokestatic 130, 3) := by decide +kernel
theorem dX9_firstDoubleError_14 : decode cX9_firstDoubleError 14 = .ok (.ifCond .ne 9, 3) := by decide +kernel
theorem dX9_firstDoubleError_17 : decode cX9_firstDoubleError 17 = .ok (.aload_n 0, 1) := by decide +kernel
theorem dX9_firstDoubleError_18 : decode cX9_firstDoubleError 18 = .ok (.iconst 1, 1) := by decide +kernel
theorem dX9_firstDoubleError_19 : decode cX9_firstDoubleError 19 = .ok (.invokevirtual 138, 3) := by decide +kernel
theorem dX9_firstDoubleError_22 : decode cX9_firstDoubleError 22 = .ok (.ireturn, 1) := by decide +kernel
theorem dX9_firstDoubleError_23 : decode cX9_firstDoubleError 23 = .ok (.bipush 52, 2) := by decide +kernel
theorem dX9_firstDoubleError_25 : decode cX9_firstDoubleError 25 = .ok (.iload_n 1, 1) := by decide +kernel
theorem dX9_firstDoubleError_26 : decode cX9_firstDoubleError 26 = .ok (.invokestatic 232, 3) := by decide +kernel
theorem dX9_firstDoubleError_29 : decode cX9_firstDoubleError 29 = .ok (.iadd, 1) := by decide +kernel
theorem dX9_firstDoubleError_30 : decode cX9_firstDoubleError 30 = .ok (.istore_n 2, 1) := by decide +kernel
theorem dX9_firstDoubleError_31 : decode cX9_firstDoubleError 31 = .ok (.iload_n 2, 1) := by decide +kernel
theorem dX9_firstDoubleError_32 : decode cX9_firstDoubleError 32 = .ok (.iload_n 1, 1) := by decide +kernel
theorem dX9_firstDoubleError_33 : decode cX9_firstDoubleError 33 = .ok (.invokestatic 235, 3) := by decide +kernel
theorem dX9_firstDoubleError_36 : decode cX9_firstDoubleError 36 = .ok (.lstore_n 3, 1) := by decide +kernel
theorem dX9_firstDoubleError_37 : decode cX9_firstDoubleError 37 = .ok (.lconst 0, 1) := by decide +kernel
theorem dX9_firstDoubleError_38 : decode cX9_firstDoubleError 38 = .ok (.lstore 5, 2) := by decide +kernel
theorem dX9_firstDoubleError_40 : decode cX9_firstDoubleError 40 = .ok (.lload 5, 2) := by decide +kernel
theorem dX9_firstDoubleError_42 : decode cX9_firstDoubleError 42 = .ok (.ldc2_w 245, 3) := by decide +kernel
theorem dX9_firstDoubleError_45 : decode cX9_firstDoubleError 45 = .ok (.lcmp, 1) := by decide +kernel
theorem dX9_firstDoubleError_46 : decode cX9_firstDoubleError 46 = .ok (.ifCond .gt 32, 3) := by decide +kernel
theorem dX9_firstDoubleError_49 : decode cX9_firstDoubleError 49 = .ok (.lload 5, 2) := by decide +kernel
theorem dX9_firstDoubleError_51 : decode cX9_firstDoubleError 51 = .ok (.lload_n 3, 1) := by decide +kernel
theorem dX9_firstDoubleError_52 : decode cX9_firstDoubleError 52 = .ok (.iload_n 2, 1) := by decide +kernel
theorem dX9_firstDoubleError_53 : decode cX9_firstDoubleError 53 = .ok (.invokestatic 254, 3) := by decide +kernel
theorem dX9_firstDoubleError_56 : decode cX9_firstDoubleError 56 = .ok (.lload 5, 2) := by decide +kernel
theorem dX9_firstDoubleError_58 : decode cX9_firstDoubleError 58 = .ok (.iload_n 1, 1) := by decide +kernel
theorem dX9_firstDoubleError_59 : decode cX9_firstDoubleError 59 = .ok (.i2l, 1) := by decide +kernel
theorem dX9_firstDoubleError_60 : decode cX9_firstDoubleError 60 = .ok (.ldiv, 1) := by decide +kernel
theorem dX9_firstDoubleError_61 : decode cX9_firstDoubleError 61 = .ok (.lcmp, 1) := by decide +kernel
theorem dX9_firstDoubleError_62 : decode cX9_firstDoubleError 62 = .ok (.ifCond .eq 7, 3) := by decide +kernel
theorem dX9_firstDoubleError_65 : decode cX9_firstDoubleError 65 = .ok (.lload 5, 2) := by decide +kernel
theorem dX9_firstDoubleError_67 : decode cX9_firstDoubleError 67 = .ok (.l2i, 1) := by decide +kernel
theorem dX9_firstDoubleError_68 : decode cX9_firstDoubleError 68 = .ok (.ireturn, 1) := by decide +kernel
theorem dX9_firstDoubleError_69 : decode cX9_firstDoubleError 69 = .ok (.lload 5, 2) := by decide +kernel
theorem dX9_firstDoubleError_71 : decode cX9_firstDoubleError 71 = .ok (.lconst 1, 1) := by decide +kernel
theorem dX9_firstDoubleError_72 : decode cX9_firstDoubleError 72 = .ok (.ladd, 1) := by decide +kernel
theorem dX9_firstDoubleError_73 : decode cX9_firstDoubleError 73 = .ok (.lstore 5, 2) := by decide +kernel
theorem dX9_firstDoubleError_75 : decode cX9_firstDoubleError 75 = .ok (.goto (-35), 3) := by decide +kernel
theorem dX9_firstDoubleError_78 : decode cX9_firstDoubleError 78 = .ok (.iconst (-1), 1) := by decide +kernel
theorem dX9_firstDoubleError_79 : decode cX9_firstDoubleError 79 = .ok (.ireturn, 1) := by decide +kernel
theorem dX9_leastRaise_0 : decode cX9_leastRaise 0 = .ok (.aload_n 0, 1) := by decide +kernel
theorem dX9_leastRaise_1 : decode cX9_leastRaise 1 = .ok (.iconst 0, 1) := by decide +kernel
theorem dX9_leastRaise_2 : decode cX9_leastRaise 2 = .ok (.putfield 40, 3) := by decide +kernel
theorem dX9_leastRaise_5 : decode cX9_leastRaise 5 = .ok (.iload_n 1, 1) := by decide +kernel
theorem dX9_leastRaise_6 : decode cX9_leastRaise 6 = .ok (.i2l, 1) := by decide +kernel
theorem dX9_leastRaise_7 : decode cX9_leastRaise 7 = .ok (.lconst 1, 1) := by decide +kernel
theorem dX9_leastRaise_8 : decode cX9_leastRaise 8 = .ok (.ldc2_w 228, 3) := by decide +kernel
theorem dX9_leastRaise_11 : decode cX9_leastRaise 11 = .ok (.invokestatic 130, 3) := by decide +kernel
theorem dX9_leastRaise_14 : decode cX9_leastRaise 14 = .ok (.ifCond .ne 9, 3) := by decide +kernel
theorem dX9_leastRaise_17 : decode cX9_leastRaise 17 = .ok (.aload_n 0, 1) := by decide +kernel
theorem dX9_leastRaise_18 : decode cX9_leastRaise 18 = .ok (.iconst 1, 1) := by decide +kernel
theorem dX9_leastRaise_19 : decode cX9_leastRaise 19 = .ok (.invokevirtual 138, 3) := by decide +kernel
theorem dX9_leastRaise_22 : decode cX9_leastRaise 22 = .ok (.ireturn, 1) := by decide +kernel
theorem dX9_leastRaise_23 : decode cX9_leastRaise 23 = .ok (.bipush 23, 2) := by decide +kernel
theorem dX9_leastRaise_25 : decode cX9_leastRaise 25 = .ok (.iload_n 1, 1) := by decide +kernel
theorem dX9_leastRaise_26 : decode cX9_leastRaise 26 = .ok (.invokestatic 232, 3) := by decide +kernel
theorem dX9_leastRaise_29 : decode cX9_leastRaise 29 = .ok (.iadd, 1) := by decide +kernel
theorem dX9_leastRaise_30 : decode cX9_leastRaise 30 = .ok (.istore_n 2, 1) := by decide +kernel
theorem dX9_leastRaise_31 : decode cX9_leastRaise 31 = .ok (.iload_n 2, 1) := by decide +kernel
theorem dX9_leastRaise_32 : decode cX9_leastRaise 32 = .ok (.iload_n 1, 1) := by decide +kernel
theorem dX9_leastRaise_33 : decode cX9_leastRaise 33 = .ok (.invokestatic 235, 3) := by decide +kernel
theorem dX9_leastRaise_36 : decode cX9_leastRaise 36 = .ok (.lstore_n 3, 1) := by decide +kernel
theorem dX9_leastRaise_37 : decode cX9_leastRaise 37 = .ok (.iconst 0, 1) := by decide +kernel
theorem dX9_leastRaise_38 : decode cX9_leastRaise 38 = .ok (.istore 5, 2) := by decide +kernel
theorem dX9_leastRaise_40 : decode cX9_leastRaise 40 = .ok (.iload 5, 2) := by decide +kernel
theorem dX9_leastRaise_42 : decode cX9_leastRaise 42 = .ok (.bipush 20, 2) := by decide +kernel
theorem dX9_leastRaise_44 : decode cX9_leastRaise 44 = .ok (.if_icmp .gt 121, 3) := by decide +kernel
theorem dX9_leastRaise_47 : decode cX9_leastRaise 47 = .ok (.lload_n 3, 1) := by decide +kernel
theorem dX9_leastRaise_48 : decode cX9_leastRaise 48 = .ok (.ldc2_w 241, 3) := by decide +kernel
theorem dX9_leastRaise_51 : decode cX9_leastRaise 51 = .ok (.iload 5, 2) := by decide +kernel
theorem dX9_leastRaise_53 : decode cX9_leastRaise 53 = .ok (.i2l, 1) := by decide +kernel
theorem dX9_leastRaise_54 : decode cX9_leastRaise 54 = .ok (.ladd, 1) := by decide +kernel
theorem dX9_leastRaise_55 : decode cX9_leastRaise 55 = .ok (.lmul, 1) := by decide +kernel
theorem dX9_leastRaise_56 : decode cX9_leastRaise 56 = .ok (.invokestatic 247, 3) := by decide +kernel
theorem dX9_leastRaise_59 : decode cX9_leastRaise 59 = .ok (.lstore 6, 2) := by decide +kernel
theorem dX9_leastRaise_61 : decode cX9_leastRaise 61 = .ok (.iload_n 2, 1) := by decide +kernel
theorem dX9_leastRaise_62 : decode cX9_leastRaise 62 = .ok (.bipush 23, 2) := by decide +kernel
theorem dX9_leastRaise_64 : decode cX9_leastRaise 64 = .ok (.iadd, 1) := by decide +kernel
theorem dX9_leastRaise_65 : decode cX9_leastRaise 65 = .ok (.istore 8, 2) := by decide +kernel
theorem dX9_leastRaise_67 : decode cX9_leastRaise 67 = .ok (.lload 6, 2) := by decide +kernel
theorem dX9_leastRaise_69 : decode cX9_leastRaise 69 = .ok (.ldc2_w 69, 3) := by decide +kernel
theorem dX9_leastRaise_72 : decode cX9_leastRaise 72 = .ok (.lrem, 1) := by decide +kernel
theorem dX9_leastRaise_73 : decode cX9_leastRaise 73 = .ok (.lconst 0, 1) := by decide +kernel
theorem dX9_leastRaise_74 : decode cX9_leastRaise 74 = .ok (.lcmp, 1) := by decide +kernel
theorem dX9_leastRaise_75 : decode cX9_leastRaise 75 = .ok (.ifCond .ne 17, 3) := by decide +kernel
theorem dX9_leastRaise_78 : decode cX9_leastRaise 78 = .ok (.lload 6, 2) := by decide +kernel
theorem dX9_leastRaise_80 : decode cX9_leastRaise 80 = .ok (.ldc2_w 69, 3) := by decide +kernel
theorem dX9_leastRaise_83 : decode cX9_leastRaise 83 = .ok (.ldiv, 1) := by decide +kernel
theorem dX9_leastRaise_84 : decode cX9_leastRaise 84 = .ok (.lstore 6, 2) := by decide +kernel
theorem dX9_leastRaise_86 : decode cX9_leastRaise 86 = .ok (.iinc 8 (-1), 3) := by decide +kernel
theorem dX9_leastRaise_89 : decode cX9_leastRaise 89 = .ok (.goto (-22), 3) := by decide +kernel
theorem dX9_leastRaise_92 : decode cX9_leastRaise 92 = .ok (.iconst 1, 1) := by decide +kernel
theorem dX9_leastRaise_93 : decode cX9_leastRaise 93 = .ok (.istore 9, 2) := by decide +kernel
theorem dX9_leastRaise_95 : decode cX9_leastRaise 95 = .ok (.lconst 0, 1) := by decide +kernel
theorem dX9_leastRaise_96 : decode cX9_leastRaise 96 = .ok (.lstore 10, 2) := by decide +kernel
theorem dX9_leastRaise_98 : decode cX9_leastRaise 98 = .ok (.lload 10, 2) := by decide +kernel
theorem dX9_leastRaise_100 : decode cX9_leastRaise 100 = .ok (.aload_n 0, 1) := by decide +kernel
theorem dX9_leastRaise_101 : decode cX9_leastRaise 101 = .ok (.invokevirtual 51, 3) := by decide +kernel
theorem dX9_leastRaise_104 : decode cX9_leastRaise 104 = .ok (.lcmp, 1) := by decide +kernel
theorem dX9_leastRaise_105 : decode cX9_leastRaise 105 = .ok (.ifCond .ge 46, 3) := by decide +kernel
theorem dX9_leastRaise_108 : decode cX9_leastRaise 108 = .ok (.iload 9, 2) := by decide +kernel
theorem dX9_leastRaise_110 : decode cX9_leastRaise 110 = .ok (.ifCond .eq 41, 3) := by decide +kernel
theorem dX9_leastRaise_113 : decode cX9_leastRaise 113 = .ok (.lload 10, 2) := by decide +kernel
theorem dX9_leastRaise_115 : decode cX9_leastRaise 115 = .ok (.lload 6, 2) := by decide +kernel
theorem dX9_leastRaise_117 : decode cX9_leastRaise 117 = .ok (.lmul, 1) := by decide +kernel
theorem dX9_leastRaise_118 : decode cX9_leastRaise 118 = .ok (.invokestatic 247, 3) := by decide +kernel
theorem dX9_leastRaise_121 : decode cX9_leastRaise 121 = .ok (.iload 8, 2) := by decide +kernel
theorem dX9_leastRaise_123 : decode cX9_leastRaise 123 = .ok (.invokestatic 258, 3) := by decide +kernel
theorem dX9_leastRaise_126 : decode cX9_leastRaise 126 = .ok (.lload 10, 2) := by decide +kernel
theorem dX9_leastRaise_128 : decode cX9_leastRaise 128 = .ok (.iload_n 1, 1) := by decide +kernel
theorem dX9_leastRaise_129 : decode cX9_leastRaise 129 = .ok (.i2l, 1) := by decide +kernel
theorem dX9_leastRaise_130 : decode cX9_leastRaise 130 = .ok (.ldiv, 1) := by decide +kernel
theorem dX9_leastRaise_131 : decode cX9_leastRaise 131 = .ok (.lcmp, 1) := by decide +kernel
theorem dX9_leastRaise_132 : decode cX9_leastRaise 132 = .ok (.ifCond .ne 7, 3) := by decide +kernel
theorem dX9_leastRaise_135 : decode cX9_leastRaise 135 = .ok (.iconst 1, 1) := by decide +kernel
theorem dX9_leastRaise_136 : decode cX9_leastRaise 136 = .ok (.goto 4, 3) := by decide +kernel
theorem dX9_leastRaise_139 : decode cX9_leastRaise 139 = .ok (.iconst 0, 1) := by decide +kernel
theorem dX9_leastRaise_140 : decode cX9_leastRaise 140 = .ok (.istore 9, 2) := by decide +kernel
theorem dX9_leastRaise_142 : decode cX9_leastRaise 142 = .ok (.lload 10, 2) := by decide +kernel
theorem dX9_leastRaise_144 : decode cX9_leastRaise 144 = .ok (.lconst 1, 1) := by decide +kernel
theorem dX9_leastRaise_145 : decode cX9_leastRaise 145 = .ok (.ladd, 1) := by decide +kernel
theorem dX9_leastRaise_146 : decode cX9_leastRaise 146 = .ok (.lstore 10, 2) := by decide +kernel
theorem dX9_leastRaise_148 : decode cX9_leastRaise 148 = .ok (.goto (-50), 3) := by decide +kernel
theorem dX9_leastRaise_151 : decode cX9_leastRaise 151 = .ok (.iload 9, 2) := by decide +kernel
theorem dX9_leastRaise_153 : decode cX9_leastRaise 153 = .ok (.ifCond .eq 6, 3) := by decide +kernel
theorem dX9_leastRaise_156 : decode cX9_leastRaise 156 = .ok (.iload 5, 2) := by decide +kernel
theorem dX9_leastRaise_158 : decode cX9_leastRaise 158 = .ok (.ireturn, 1) := by decide +kernel
theorem dX9_leastRaise_159 : decode cX9_leastRaise 159 = .ok (.iinc 5 1, 3) := by decide +kernel
theorem dX9_leastRaise_162 : decode cX9_leastRaise 162 = .ok (.goto (-122), 3) := by decide +kernel
theorem dX9_leastRaise_165 : decode cX9_leastRaise 165 = .ok (.iconst (-1), 1) := by decide +kernel
theorem dX9_leastRaise_166 : decode cX9_leastRaise 166 = .ok (.ireturn, 1) := by decide +kernel
theorem dX9_whole_0 : decode cX9_whole 0 = .ok (.iload_n 2, 1) := by decide +kernel
theorem dX9_whole_1 : decode cX9_whole 1 = .ok (.ifCond .lt 9, 3) := by decide +kernel
theorem dX9_whole_4 : decode cX9_whole 4 = .ok (.lload_n 0, 1) := by decide +kernel
theorem dX9_whole_5 : decode cX9_whole 5 = .ok (.iload_n 2, 1) := by decide +kernel
theorem dX9_whole_6 : decode cX9_whole 6 = .ok (.lshr, 1) := by decide +kernel
theorem dX9_whole_7 : decode cX9_whole 7 = .ok (.goto 7, 3) := by decide +kernel
theorem dX9_whole_10 : decode cX9_whole 10 = .ok (.lload_n 0, 1) := by decide +kernel
theorem dX9_whole_11 : decode cX9_whole 11 = .ok (.iload_n 2, 1) := by decide +kernel
theorem dX9_whole_12 : decode cX9_whole 12 = .ok (.ineg, 1) := by decide +kernel
theorem dX9_whole_13 : decode cX9_whole 13 = .ok (.lshl, 1) := by decide +kernel
theorem dX9_whole_14 : decode cX9_whole 14 = .ok (.lreturn, 1) := by decide +kernel
theorem dJ6_numberOfTrailingZeros_0f7a4_0 : decode cJ6_numberOfTrailingZeros_0f7a4 0 = .ok (.iload_n 0, 1) := by decide +kernel
theorem dJ6_numberOfTrailingZeros_0f7a4_1 : decode cJ6_numberOfTrailingZeros_0f7a4 1 = .ok (.iconst (-1), 1) := by decide +kernel
theorem dJ6_numberOfTrailingZeros_0f7a4_2 : decode cJ6_numberOfTrailingZeros_0f7a4 2 = .ok (.ixor, 1) := by decide +kernel
theorem dJ6_numberOfTrailingZeros_0f7a4_3 : decode cJ6_numberOfTrailingZeros_0f7a4 3 = .ok (.iload_n 0, 1) := by decide +kernel
theorem dJ6_numberOfTrailingZeros_0f7a4_4 : decode cJ6_numberOfTrailingZeros_0f7a4 4 = .ok (.iconst 1, 1) := by decide +kernel
theorem dJ6_numberOfTrailingZeros_0f7a4_5 : decode cJ6_numberOfTrailingZeros_0f7a4 5 = .ok (.isub, 1) := by decide +kernel
theorem dJ6_numberOfTrailingZeros_0f7a4_6 : decode cJ6_numberOfTrailingZeros_0f7a4 6 = .ok (.iand, 1) := by decide +kernel
theorem dJ6_numberOfTrailingZeros_0f7a4_7 : decode cJ6_numberOfTrailingZeros_0f7a4 7 = .ok (.istore_n 0, 1) := by decide +kernel
theorem dJ6_numberOfTrailingZeros_0f7a4_8 : decode cJ6_numberOfTrailingZeros_0f7a4 8 = .ok (.iload_n 0, 1) := by decide +kernel
theorem dJ6_numberOfTrailingZeros_0f7a4_9 : decode cJ6_numberOfTrailingZeros_0f7a4 9 = .ok (.ifCond .gt 8, 3) := by decide +kernel
theorem dJ6_numberOfTrailingZeros_0f7a4_12 : decode cJ6_numberOfTrailingZeros_0f7a4 12 = .ok (.iload_n 0, 1) := by decide +kernel
theorem dJ6_numberOfTrailingZeros_0f7a4_13 : decode cJ6_numberOfTrailingZeros_0f7a4 13 = .ok (.bipush 32, 2) := by decide +kernel
theorem dJ6_numberOfTrailingZeros_0f7a4_15 : decode cJ6_numberOfTrailingZeros_0f7a4 15 = .ok (.iand, 1) := by decide +kernel
theorem dJ6_numberOfTrailingZeros_0f7a4_16 : decode cJ6_numberOfTrailingZeros_0f7a4 16 = .ok (.ireturn, 1) := by decide +kernel
theorem dJ6_numberOfTrailingZeros_0f7a4_17 : decode cJ6_numberOfTrailingZeros_0f7a4 17 = .ok (.iconst 1, 1) := by decide +kernel
theorem dJ6_numberOfTrailingZeros_0f7a4_18 : decode cJ6_numberOfTrailingZeros_0f7a4 18 = .ok (.istore_n 1, 1) := by decide +kernel
theorem dJ6_numberOfTrailingZeros_0f7a4_19 : decode cJ6_numberOfTrailingZeros_0f7a4 19 = .ok (.iload_n 0, 1) := by decide +kernel
theorem dJ6_numberOfTrailingZeros_0f7a4_20 : decode cJ6_numberOfTrailingZeros_0f7a4 20 = .ok (.ldc_w 264, 3) := by decide +kernel
theorem dJ6_numberOfTrailingZeros_0f7a4_23 : decode cJ6_numberOfTrailingZeros_0f7a4 23 = .ok (.if_icmp .le 11, 3) := by decide +kernel
theorem dJ6_numberOfTrailingZeros_0f7a4_26 : decode cJ6_numberOfTrailingZeros_0f7a4 26 = .ok (.iinc 1 16, 3) := by decide +kernel
theorem dJ6_numberOfTrailingZeros_0f7a4_29 : decode cJ6_numberOfTrailingZeros_0f7a4 29 = .ok (.iload_n 0, 1) := by decide +kernel
theorem dJ6_numberOfTrailingZeros_0f7a4_30 : decode cJ6_numberOfTrailingZeros_0f7a4 30 = .ok (.bipush 16, 2) := by decide +kernel
theorem dJ6_numberOfTrailingZeros_0f7a4_32 : decode cJ6_numberOfTrailingZeros_0f7a4 32 = .ok (.iushr, 1) := by decide +kernel
theorem dJ6_numberOfTrailingZeros_0f7a4_33 : decode cJ6_numberOfTrailingZeros_0f7a4 33 = .ok (.istore_n 0, 1) := by decide +kernel
theorem dJ6_numberOfTrailingZeros_0f7a4_34 : decode cJ6_numberOfTrailingZeros_0f7a4 34 = .ok (.iload_n 0, 1) := by decide +kernel
theorem dJ6_numberOfTrailingZeros_0f7a4_35 : decode cJ6_numberOfTrailingZeros_0f7a4 35 = .ok (.sipush 256, 3) := by decide +kernel
theorem dJ6_numberOfTrailingZeros_0f7a4_38 : decode cJ6_numberOfTrailingZeros_0f7a4 38 = .ok (.if_icmp .le 11, 3) := by decide +kernel
theorem dJ6_numberOfTrailingZeros_0f7a4_41 : decode cJ6_numberOfTrailingZeros_0f7a4 41 = .ok (.iinc 1 8, 3) := by decide +kernel
theorem dJ6_numberOfTrailingZeros_0f7a4_44 : decode cJ6_numberOfTrailingZeros_0f7a4 44 = .ok (.iload_n 0, 1) := by decide +kernel
theorem dJ6_numberOfTrailingZeros_0f7a4_45 : decode cJ6_numberOfTrailingZeros_0f7a4 45 = .ok (.bipush 8, 2) := by decide +kernel
theorem dJ6_numberOfTrailingZeros_0f7a4_47 : decode cJ6_numberOfTrailingZeros_0f7a4 47 = .ok (.iushr, 1) := by decide +kernel
theorem dJ6_numberOfTrailingZeros_0f7a4_48 : decode cJ6_numberOfTrailingZeros_0f7a4 48 = .ok (.istore_n 0, 1) := by decide +kernel
theorem dJ6_numberOfTrailingZeros_0f7a4_49 : decode cJ6_numberOfTrailingZeros_0f7a4 49 = .ok (.iload_n 0, 1) := by decide +kernel
theorem dJ6_numberOfTrailingZeros_0f7a4_50 : decode cJ6_numberOfTrailingZeros_0f7a4 50 = .ok (.bipush 16, 2) := by decide +kernel
theorem dJ6_numberOfTrailingZeros_0f7a4_52 : decode cJ6_numberOfTrailingZeros_0f7a4 52 = .ok (.if_icmp .le 10, 3) := by decide +kernel
theorem dJ6_numberOfTrailingZeros_0f7a4_55 : decode cJ6_numberOfTrailingZeros_0f7a4 55 = .ok (.iinc 1 4, 3) := by decide +kernel
theorem dJ6_numberOfTrailingZeros_0f7a4_58 : decode cJ6_numberOfTrailingZeros_0f7a4 58 = .ok (.iload_n 0, 1) := by decide +kernel
theorem dJ6_numberOfTrailingZeros_0f7a4_59 : decode cJ6_numberOfTrailingZeros_0f7a4 59 = .ok (.iconst 4, 1) := by decide +kernel
theorem dJ6_numberOfTrailingZeros_0f7a4_60 : decode cJ6_numberOfTrailingZeros_0f7a4 60 = .ok (.iushr, 1) := by decide +kernel
theorem dJ6_numberOfTrailingZeros_0f7a4_61 : decode cJ6_numberOfTrailingZeros_0f7a4 61 = .ok (.istore_n 0, 1) := by decide +kernel
theorem dJ6_numberOfTrailingZeros_0f7a4_62 : decode cJ6_numberOfTrailingZeros_0f7a4 62 = .ok (.iload_n 0, 1) := by decide +kernel
theorem dJ6_numberOfTrailingZeros_0f7a4_63 : decode cJ6_numberOfTrailingZeros_0f7a4 63 = .ok (.iconst 4, 1) := by decide +kernel
theorem dJ6_numberOfTrailingZeros_0f7a4_64 : decode cJ6_numberOfTrailingZeros_0f7a4 64 = .ok (.if_icmp .le 10, 3) := by decide +kernel
theorem dJ6_numberOfTrailingZeros_0f7a4_67 : decode cJ6_numberOfTrailingZeros_0f7a4 67 = .ok (.iinc 1 2, 3) := by decide +kernel
theorem dJ6_numberOfTrailingZeros_0f7a4_70 : decode cJ6_numberOfTrailingZeros_0f7a4 70 = .ok (.iload_n 0, 1) := by decide +kernel
theorem dJ6_numberOfTrailingZeros_0f7a4_71 : decode cJ6_numberOfTrailingZeros_0f7a4 71 = .ok (.iconst 2, 1) := by decide +kernel
theorem dJ6_numberOfTrailingZeros_0f7a4_72 : decode cJ6_numberOfTrailingZeros_0f7a4 72 = .ok (.iushr, 1) := by decide +kernel
theorem dJ6_numberOfTrailingZeros_0f7a4_73 : decode cJ6_numberOfTrailingZeros_0f7a4 73 = .ok (.istore_n 0, 1) := by decide +kernel
theorem dJ6_numberOfTrailingZeros_0f7a4_74 : decode cJ6_numberOfTrailingZeros_0f7a4 74 = .ok (.iload_n 1, 1) := by decide +kernel
theorem dJ6_numberOfTrailingZeros_0f7a4_75 : decode cJ6_numberOfTrailingZeros_0f7a4 75 = .ok (.iload_n 0, 1) := by decide +kernel
theorem dJ6_numberOfTrailingZeros_0f7a4_76 : decode cJ6_numberOfTrailingZeros_0f7a4 76 = .ok (.iconst 1, 1) := by decide +kernel
theorem dJ6_numberOfTrailingZeros_0f7a4_77 : decode cJ6_numberOfTrailingZeros_0f7a4 77 = .ok (.iushr, 1) := by decide +kernel
theorem dJ6_numberOfTrailingZeros_0f7a4_78 : decode cJ6_numberOfTrailingZeros_0f7a4 78 = .ok (.iadd, 1) := by decide +kernel
theorem dJ6_numberOfTrailingZeros_0f7a4_79 : decode cJ6_numberOfTrailingZeros_0f7a4 79 = .ok (.ireturn, 1) := by decide +kernel
theorem dJ9_floorDiv_7cf53_0 : decode cJ9_floorDiv_7cf53 0 = .ok (.iload_n 0, 1) := by decide +kernel
theorem dJ9_floorDiv_7cf53_1 : decode cJ9_floorDiv_7cf53 1 = .ok (.iload_n 1, 1) := by decide +kernel
theorem dJ9_floorDiv_7cf53_2 : decode cJ9_floorDiv_7cf53 2 = .ok (.idiv, 1) := by decide +kernel
theorem dJ9_floorDiv_7cf53_3 : decode cJ9_floorDiv_7cf53 3 = .ok (.istore_n 2, 1) := by decide +kernel
theorem dJ9_floorDiv_7cf53_4 : decode cJ9_floorDiv_7cf53 4 = .ok (.iload_n 0, 1) := by decide +kernel
theorem dJ9_floorDiv_7cf53_5 : decode cJ9_floorDiv_7cf53 5 = .ok (.iload_n 1, 1) := by decide +kernel
theorem dJ9_floorDiv_7cf53_6 : decode cJ9_floorDiv_7cf53 6 = .ok (.ixor, 1) := by decide +kernel
theorem dJ9_floorDiv_7cf53_7 : decode cJ9_floorDiv_7cf53 7 = .ok (.ifCond .ge 14, 3) := by decide +kernel
theorem dJ9_floorDiv_7cf53_10 : decode cJ9_floorDiv_7cf53 10 = .ok (.iload_n 2, 1) := by decide +kernel
theorem dJ9_floorDiv_7cf53_11 : decode cJ9_floorDiv_7cf53 11 = .ok (.iload_n 1, 1) := by decide +kernel
theorem dJ9_floorDiv_7cf53_12 : decode cJ9_floorDiv_7cf53 12 = .ok (.imul, 1) := by decide +kernel
theorem dJ9_floorDiv_7cf53_13 : decode cJ9_floorDiv_7cf53 13 = .ok (.iload_n 0, 1) := by decide +kernel
theorem dJ9_floorDiv_7cf53_14 : decode cJ9_floorDiv_7cf53 14 = .ok (.if_icmp .eq 7, 3) := by decide +kernel
theorem dJ9_floorDiv_7cf53_17 : decode cJ9_floorDiv_7cf53 17 = .ok (.iload_n 2, 1) := by decide +kernel
theorem dJ9_floorDiv_7cf53_18 : decode cJ9_floorDiv_7cf53 18 = .ok (.iconst 1, 1) := by decide +kernel
theorem dJ9_floorDiv_7cf53_19 : decode cJ9_floorDiv_7cf53 19 = .ok (.isub, 1) := by decide +kernel
theorem dJ9_floorDiv_7cf53_20 : decode cJ9_floorDiv_7cf53 20 = .ok (.ireturn, 1) := by decide +kernel
theorem dJ9_floorDiv_7cf53_21 : decode cJ9_floorDiv_7cf53 21 = .ok (.iload_n 2, 1) := by decide +kernel
theorem dJ9_floorDiv_7cf53_22 : decode cJ9_floorDiv_7cf53 22 = .ok (.ireturn, 1) := by decide +kernel
theorem dJ9_abs_0f7a4_0 : decode cJ9_abs_0f7a4 0 = .ok (.iload_n 0, 1) := by decide +kernel
theorem dJ9_abs_0f7a4_1 : decode cJ9_abs_0f7a4 1 = .ok (.ifCond .ge 8, 3) := by decide +kernel
theorem dJ9_abs_0f7a4_4 : decode cJ9_abs_0f7a4 4 = .ok (.iload_n 0, 1) := by decide +kernel
theorem dJ9_abs_0f7a4_5 : decode cJ9_abs_0f7a4 5 = .ok (.ineg, 1) := by decide +kernel
theorem dJ9_abs_0f7a4_6 : decode cJ9_abs_0f7a4 6 = .ok (.goto 4, 3) := by decide +kernel
theorem dJ9_abs_0f7a4_9 : decode cJ9_abs_0f7a4 9 = .ok (.iload_n 0, 1) := by decide +kernel
theorem dJ9_abs_0f7a4_10 : decode cJ9_abs_0f7a4 10 = .ok (.ireturn, 1) := by decide +kernel
theorem dJ9_max_7cf53_0 : decode cJ9_max_7cf53 0 = .ok (.iload_n 0, 1) := by decide +kernel
theorem dJ9_max_7cf53_1 : decode cJ9_max_7cf53 1 = .ok (.iload_n 1, 1) := by decide +kernel
theorem dJ9_max_7cf53_2 : decode cJ9_max_7cf53 2 = .ok (.if_icmp .lt 7, 3) := by decide +kernel
theorem dJ9_max_7cf53_5 : decode cJ9_max_7cf53 5 = .ok (.iload_n 0, 1) := by decide +kernel
theorem dJ9_max_7cf53_6 : decode cJ9_max_7cf53 6 = .ok (.goto 4, 3) := by decide +kernel
theorem dJ9_max_7cf53_9 : decode cJ9_max_7cf53 9 = .ok (.iload_n 1, 1) := by decide +kernel
theorem dJ9_max_7cf53_10 : decode cJ9_max_7cf53 10 = .ok (.ireturn, 1) := by decide +kernel
theorem dJ9_min_7cf53_0 : decode cJ9_min_7cf53 0 = .ok (.iload_n 0, 1) := by decide +kernel
theorem dJ9_min_7cf53_1 : decode cJ9_min_7cf53 1 = .ok (.iload_n 1, 1) := by decide +kernel
theorem dJ9_min_7cf53_2 : decode cJ9_min_7cf53 2 = .ok (.if_icmp .gt 7, 3) := by decide +kernel
theorem dJ9_min_7cf53_5 : decode cJ9_min_7cf53 5 = .ok (.iload_n 0, 1) := by decide +kernel
theorem dJ9_min_7cf53_6 : decode cJ9_min_7cf53 6 = .ok (.goto 4, 3) := by decide +kernel
theorem dJ9_min_7cf53_9 : decode cJ9_min_7cf53 9 = .ok (.iload_n 1, 1) := by decide +kernel
theorem dJ9_min_7cf53_10 : decode cJ9_min_7cf53 10 = .ok (.ireturn, 1) := by decide +kernel
theorem dJ0_length_8abf5_0 : decode cJ0_length_8abf5 0 = .ok (.aload_n 0, 1) := by decide +kernel
theorem dJ0_length_8abf5_1 : decode cJ0_length_8abf5 1 = .ok (.getfield 9, 3) := by decide +kernel
theorem dJ0_length_8abf5_4 : decode cJ0_length_8abf5 4 = .ok (.arraylength, 1) := by decide +kernel
theorem dJ0_length_8abf5_5 : decode cJ0_length_8abf5 5 = .ok (.aload_n 0, 1) := by decide +kernel
theorem dJ0_length_8abf5_6 : decode cJ0_length_8abf5 6 = .ok (.invokevirtual 335, 3) := by decide +kernel
theorem dJ0_length_8abf5_9 : decode cJ0_length_8abf5 9 = .ok (.ishr, 1) := by decide +kernel
theorem dJ0_length_8abf5_10 : decode cJ0_length_8abf5 10 = .ok (.ireturn, 1) := by decide +kernel
theorem dJ0_charAt_5068e_0 : decode cJ0_charAt_5068e 0 = .ok (.aload_n 0, 1) := by decide +kernel
theorem dJ0_charAt_5068e_1 : decode cJ0_charAt_5068e 1 = .ok (.invokevirtual 492, 3) := by decide +kernel
theorem dJ0_charAt_5068e_4 : decode cJ0_charAt_5068e 4 = .ok (.ifCond .eq 12, 3) := by decide +kernel
theorem dJ0_charAt_5068e_7 : decode cJ0_charAt_5068e 7 = .ok (.aload_n 0, 1) := by decide +kernel
theorem dJ0_charAt_5068e_8 : decode cJ0_charAt_5068e 8 = .ok (.getfield 9, 3) := by decide +kernel
theorem dJ0_charAt_5068e_11 : decode cJ0_charAt_5068e 11 = .ok (.iload_n 1, 1) := by decide +kernel
theorem dJ0_charAt_5068e_12 : decode cJ0_charAt_5068e 12 = .ok (.invokestatic 495, 3) := by decide +kernel
theorem dJ0_charAt_5068e_15 : decode cJ0_charAt_5068e 15 = .ok (.ireturn, 1) := by decide +kernel
theorem dJ0_charAt_5068e_16 : decode cJ0_charAt_5068e 16 = .ok (.aload_n 0, 1) := by decide +kernel
theorem dJ0_charAt_5068e_17 : decode cJ0_charAt_5068e 17 = .ok (.getfield 9, 3) := by decide +kernel
theorem dJ0_charAt_5068e_20 : decode cJ0_charAt_5068e 20 = .ok (.iload_n 1, 1) := by decide +kernel
theorem dJ0_charAt_5068e_21 : decode cJ0_charAt_5068e 21 = .ok (.invokestatic 498, 3) := by decide +kernel
theorem dJ0_charAt_5068e_24 : decode cJ0_charAt_5068e 24 = .ok (.ireturn, 1) := by decide +kernel
theorem dJ0_coder_7d493_0 : decode cJ0_coder_7d493 0 = .ok (.getstatic 38, 3) := by decide +kernel
theorem dJ0_coder_7d493_3 : decode cJ0_coder_7d493 3 = .ok (.ifCond .eq 10, 3) := by decide +kernel
theorem dJ0_coder_7d493_6 : decode cJ0_coder_7d493 6 = .ok (.aload_n 0, 1) := by decide +kernel
theorem dJ0_coder_7d493_7 : decode cJ0_coder_7d493 7 = .ok (.getfield 15, 3) := by decide +kernel
theorem dJ0_coder_7d493_10 : decode cJ0_coder_7d493 10 = .ok (.goto 4, 3) := by decide +kernel
theorem dJ0_coder_7d493_13 : decode cJ0_coder_7d493 13 = .ok (.iconst 1, 1) := by decide +kernel
theorem dJ0_coder_7d493_14 : decode cJ0_coder_7d493 14 = .ok (.ireturn, 1) := by decide +kernel
theorem dJ0_isLatin1_aae02_0 : decode cJ0_isLatin1_aae02 0 = .ok (.getstatic 38, 3) := by decide +kernel
theorem dJ0_isLatin1_aae02_3 : decode cJ0_isLatin1_aae02 3 = .ok (.ifCond .eq 14, 3) := by decide +kernel
theorem dJ0_isLatin1_aae02_6 : decode cJ0_isLatin1_aae02 6 = .ok (.aload_n 0, 1) := by decide +kernel
theorem dJ0_isLatin1_aae02_7 : decode cJ0_isLatin1_aae02 7 = .ok (.getfield 15, 3) := by decide +kernel
theorem dJ0_isLatin1_aae02_10 : decode cJ0_isLatin1_aae02 10 = .ok (.ifCond .ne 7, 3) := by decide +kernel
theorem dJ0_isLatin1_aae02_13 : decode cJ0_isLatin1_aae02 13 = .ok (.iconst 1, 1) := by decide +kernel
theorem dJ0_isLatin1_aae02_14 : decode cJ0_isLatin1_aae02 14 = .ok (.goto 4, 3) := by decide +kernel
theorem dJ0_isLatin1_aae02_17 : decode cJ0_isLatin1_aae02 17 = .ok (.iconst 0, 1) := by decide +kernel
theorem dJ0_isLatin1_aae02_18 : decode cJ0_isLatin1_aae02 18 = .ok (.ireturn, 1) := by decide +kernel
theorem dJ0_checkIndex_df160_0 : decode cJ0_checkIndex_df160 0 = .ok (.iload_n 0, 1) := by decide +kernel
theorem dJ0_checkIndex_df160_1 : decode cJ0_checkIndex_df160 1 = .ok (.iload_n 1, 1) := by decide +kernel
theorem dJ0_checkIndex_df160_2 : decode cJ0_checkIndex_df160 2 = .ok (.getstatic 1053, 3) := by decide +kernel
theorem dJ0_checkIndex_df160_5 : decode cJ0_checkIndex_df160 5 = .ok (.invokestatic 1059, 3) := by decide +kernel
theorem dJ0_checkIndex_df160_8 : decode cJ0_checkIndex_df160 8 = .ok (.pop, 1) := by decide +kernel
theorem dJ0_checkIndex_df160_9 : decode cJ0_checkIndex_df160 9 = .ok (.return_, 1) := by decide +kernel
theorem dJ1_charAt_3b067_0 : decode cJ1_charAt_3b067 0 = .ok (.iload_n 1, 1) := by decide +kernel
theorem dJ1_charAt_3b067_1 : decode cJ1_charAt_3b067 1 = .ok (.aload_n 0, 1) := by decide +kernel
theorem dJ1_charAt_3b067_2 : decode cJ1_charAt_3b067 2 = .ok (.arraylength, 1) := by decide +kernel
theorem dJ1_charAt_3b067_3 : decode cJ1_charAt_3b067 3 = .ok (.invokestatic 9, 3) := by decide +kernel
theorem dJ1_charAt_3b067_6 : decode cJ1_charAt_3b067 6 = .ok (.aload_n 0, 1) := by decide +kernel
theorem dJ1_charAt_3b067_7 : decode cJ1_charAt_3b067 7 = .ok (.iload_n 1, 1) := by decide +kernel
theorem dJ1_charAt_3b067_8 : decode cJ1_charAt_3b067 8 = .ok (.baload, 1) := by decide +kernel
theorem dJ1_charAt_3b067_9 : decode cJ1_charAt_3b067 9 = .ok (.sipush 255, 3) := by decide +kernel
theorem dJ1_charAt_3b067_12 : decode cJ1_charAt_3b067 12 = .ok (.iand, 1) := by decide +kernel
theorem dJ1_charAt_3b067_13 : decode cJ1_charAt_3b067 13 = .ok (.i2c, 1) := by decide +kernel
theorem dJ1_charAt_3b067_14 : decode cJ1_charAt_3b067 14 = .ok (.ireturn, 1) := by decide +kernel
theorem dJ2_getChar_3b067_0 : decode cJ2_getChar_3b067 0 = .ok (.getstatic 44, 3) := by decide +kernel
theorem dJ2_getChar_3b067_3 : decode cJ2_getChar_3b067 3 = .ok (.ifCond .ne 25, 3) := by decide +kernel
theorem dJ2_getChar_3b067_6 : decode cJ2_getChar_3b067 6 = .ok (.iload_n 1, 1) := by decide +kernel
theorem dJ2_getChar_3b067_7 : decode cJ2_getChar_3b067 7 = .ok (.ifCond .lt 11, 3) := by decide +kernel
theorem dJ2_getChar_3b067_10 : decode cJ2_getChar_3b067 10 = .ok (.iload_n 1, 1) := by decide +kernel
theorem dJ2_getChar_3b067_11 : decode cJ2_getChar_3b067 11 = .ok (.aload_n 0, 1) := by decide +kernel
theorem dJ2_getChar_3b067_12 : decode cJ2_getChar_3b067 12 = .ok (.invokestatic 48, 3) := by decide +kernel
theorem dJ2_getChar_3b067_15 : decode cJ2_getChar_3b067 15 = .ok (.if_icmp .lt 13, 3) := by decide +kernel
theorem dJ2_getChar_3b067_18 : decode cJ2_getChar_3b067 18 = .ok (.new 52, 3) := by decide +kernel
theorem dJ2_getChar_3b067_21 : decode cJ2_getChar_3b067 21 = .ok (.dup, 1) := by decide +kernel
theorem dJ2_getChar_3b067_22 : decode cJ2_getChar_3b067 22 = .ok (.ldc 54, 2) := by decide +kernel
theorem dJ2_getChar_3b067_24 : decode cJ2_getChar_3b067 24 = .ok (.invokespecial 56, 3) := by decide +kernel
theorem dJ2_getChar_3b067_27 : decode cJ2_getChar_3b067 27 = .ok (.athrow, 1) := by decide +kernel
theorem dJ2_getChar_3b067_28 : decode cJ2_getChar_3b067 28 = .ok (.iload_n 1, 1) := by decide +kernel
theorem dJ2_getChar_3b067_29 : decode cJ2_getChar_3b067 29 = .ok (.iconst 1, 1) := by decide +kernel
theorem dJ2_getChar_3b067_30 : decode cJ2_getChar_3b067 30 = .ok (.ishl, 1) := by decide +kernel
theorem dJ2_getChar_3b067_31 : decode cJ2_getChar_3b067 31 = .ok (.istore_n 1, 1) := by decide +kernel
theorem dJ2_getChar_3b067_32 : decode cJ2_getChar_3b067 32 = .ok (.aload_n 0, 1) := by decide +kernel
theorem dJ2_getChar_3b067_33 : decode cJ2_getChar_3b067 33 = .ok (.iload_n 1, 1) := by decide +kernel
theorem dJ2_getChar_3b067_34 : decode cJ2_getChar_3b067 34 = .ok (.iinc 1 1, 3) := by decide +kernel
theorem dJ2_getChar_3b067_37 : decode cJ2_getChar_3b067 37 = .ok (.baload, 1) := by decide +kernel
theorem dJ2_getChar_3b067_38 : decode cJ2_getChar_3b067 38 = .ok (.sipush 255, 3) := by decide +kernel
theorem dJ2_getChar_3b067_41 : decode cJ2_getChar_3b067 41 = .ok (.iand, 1) := by decide +kernel
theorem dJ2_getChar_3b067_42 : decode cJ2_getChar_3b067 42 = .ok (.getstatic 59, 3) := by decide +kernel
theorem dJ2_getChar_3b067_45 : decode cJ2_getChar_3b067 45 = .ok (.ishl, 1) := by decide +kernel
theorem dJ2_getChar_3b067_46 : decode cJ2_getChar_3b067 46 = .ok (.aload_n 0, 1) := by decide +kernel
theorem dJ2_getChar_3b067_47 : decode cJ2_getChar_3b067 47 = .ok (.iload_n 1, 1) := by decide +kernel
theorem dJ2_getChar_3b067_48 : decode cJ2_getChar_3b067 48 = .ok (.baload, 1) := by decide +kernel
theorem dJ2_getChar_3b067_49 : decode cJ2_getChar_3b067 49 = .ok (.sipush 255, 3) := by decide +kernel
theorem dJ2_getChar_3b067_52 : decode cJ2_getChar_3b067 52 = .ok (.iand, 1) := by decide +kernel
theorem dJ2_getChar_3b067_53 : decode cJ2_getChar_3b067 53 = .ok (.getstatic 63, 3) := by decide +kernel
theorem dJ2_getChar_3b067_56 : decode cJ2_getChar_3b067 56 = .ok (.ishl, 1) := by decide +kernel
theorem dJ2_getChar_3b067_57 : decode cJ2_getChar_3b067 57 = .ok (.ior, 1) := by decide +kernel
theorem dJ2_getChar_3b067_58 : decode cJ2_getChar_3b067 58 = .ok (.i2c, 1) := by decide +kernel
theorem dJ2_getChar_3b067_59 : decode cJ2_getChar_3b067 59 = .ok (.ireturn, 1) := by decide +kernel
theorem dJ2_length_9d52b_0 : decode cJ2_length_9d52b 0 = .ok (.aload_n 0, 1) := by decide +kernel
theorem dJ2_length_9d52b_1 : decode cJ2_length_9d52b 1 = .ok (.arraylength, 1) := by decide +kernel
theorem dJ2_length_9d52b_2 : decode cJ2_length_9d52b 2 = .ok (.iconst 1, 1) := by decide +kernel
theorem dJ2_length_9d52b_3 : decode cJ2_length_9d52b 3 = .ok (.ishr, 1) := by decide +kernel
theorem dJ2_length_9d52b_4 : decode cJ2_length_9d52b 4 = .ok (.ireturn, 1) := by decide +kernel
theorem dJ2_charAt_3b067_0 : decode cJ2_charAt_3b067 0 = .ok (.iload_n 1, 1) := by decide +kernel
theorem dJ2_charAt_3b067_1 : decode cJ2_charAt_3b067 1 = .ok (.aload_n 0, 1) := by decide +kernel
theorem dJ2_charAt_3b067_2 : decode cJ2_charAt_3b067 2 = .ok (.invokestatic 67, 3) := by decide +kernel
theorem dJ2_charAt_3b067_5 : decode cJ2_charAt_3b067 5 = .ok (.aload_n 0, 1) := by decide +kernel
theorem dJ2_charAt_3b067_6 : decode cJ2_charAt_3b067 6 = .ok (.iload_n 1, 1) := by decide +kernel
theorem dJ2_charAt_3b067_7 : decode cJ2_charAt_3b067 7 = .ok (.invokestatic 71, 3) := by decide +kernel
theorem dJ2_charAt_3b067_10 : decode cJ2_charAt_3b067 10 = .ok (.ireturn, 1) := by decide +kernel
theorem dJ2_checkIndex_2214a_0 : decode cJ2_checkIndex_2214a 0 = .ok (.iload_n 0, 1) := by decide +kernel
theorem dJ2_checkIndex_2214a_1 : decode cJ2_checkIndex_2214a 1 = .ok (.aload_n 1, 1) := by decide +kernel
theorem dJ2_checkIndex_2214a_2 : decode cJ2_checkIndex_2214a 2 = .ok (.invokestatic 48, 3) := by decide +kernel
theorem dJ2_checkIndex_2214a_5 : decode cJ2_checkIndex_2214a 5 = .ok (.invokestatic 414, 3) := by decide +kernel
theorem dJ2_checkIndex_2214a_8 : decode cJ2_checkIndex_2214a 8 = .ok (.return_, 1) := by decide +kernel
theorem dJ3_checkIndex_8e157_0 : decode cJ3_checkIndex_8e157 0 = .ok (.iload_n 0, 1) := by decide +kernel
theorem dJ3_checkIndex_8e157_1 : decode cJ3_checkIndex_8e157 1 = .ok (.ifCond .lt 8, 3) := by decide +kernel
theorem dJ3_checkIndex_8e157_4 : decode cJ3_checkIndex_8e157 4 = .ok (.iload_n 0, 1) := by decide +kernel
theorem dJ3_checkIndex_8e157_5 : decode cJ3_checkIndex_8e157 5 = .ok (.iload_n 1, 1) := by decide +kernel
theorem dJ3_checkIndex_8e157_6 : decode cJ3_checkIndex_8e157 6 = .ok (.if_icmp .lt 10, 3) := by decide +kernel
theorem dJ3_checkIndex_8e157_9 : decode cJ3_checkIndex_8e157 9 = .ok (.aload_n 2, 1) := by decide +kernel
theorem dJ3_checkIndex_8e157_10 : decode cJ3_checkIndex_8e157 10 = .ok (.iload_n 0, 1) := by decide +kernel
theorem dJ3_checkIndex_8e157_11 : decode cJ3_checkIndex_8e157 11 = .ok (.iload_n 1, 1) := by decide +kernel
theorem dJ3_checkIndex_8e157_12 : decode cJ3_checkIndex_8e157 12 = .ok (.invokestatic 95, 3) := by decide +kernel
theorem dJ3_checkIndex_8e157_15 : decode cJ3_checkIndex_8e157 15 = .ok (.athrow, 1) := by decide +kernel
theorem dJ3_checkIndex_8e157_16 : decode cJ3_checkIndex_8e157 16 = .ok (.iload_n 0, 1) := by decide +kernel
theorem dJ3_checkIndex_8e157_17 : decode cJ3_checkIndex_8e157 17 = .ok (.ireturn, 1) := by decide +kernel
theorem dL_setWidth_0 : decode cL_setWidth 0 = .ok (.aload_n 2, 1) := by decide +kernel
theorem dL_setWidth_1 : decode cL_setWidth 1 = .ok (.iconst 0, 1) := by decide +kernel
theorem dL_setWidth_2 : decode cL_setWidth 2 = .ok (.aload_n 0, 1) := by decide +kernel
theorem dL_setWidth_3 : decode cL_setWidth 3 = .ok (.iload_n 1, 1) := by decide +kernel
theorem dL_setWidth_4 : decode cL_setWidth 4 = .ok (.invokevirtual 7, 3) := by decide +kernel
theorem dL_setWidth_7 : decode cL_setWidth 7 = .ok (.i2l, 1) := by decide +kernel
theorem dL_setWidth_8 : decode cL_setWidth 8 = .ok (.lastore, 1) := by decide +kernel
theorem dL_setWidth_9 : decode cL_setWidth 9 = .ok (.goto 6, 3) := by decide +kernel
theorem dL_setWidth_12 : decode cL_setWidth 12 = .ok (.astore_n 3, 1) := by decide +kernel
theorem dL_setWidth_13 : decode cL_setWidth 13 = .ok (.iconst 1, 1) := by decide +kernel
theorem dL_setWidth_14 : decode cL_setWidth 14 = .ok (.ireturn, 1) := by decide +kernel
theorem dL_setWidth_15 : decode cL_setWidth 15 = .ok (.iconst 0, 1) := by decide +kernel
theorem dL_setWidth_16 : decode cL_setWidth 16 = .ok (.ireturn, 1) := by decide +kernel
theorem dL_setCost_0 : decode cL_setCost 0 = .ok (.aload_n 3, 1) := by decide +kernel
theorem dL_setCost_1 : decode cL_setCost 1 = .ok (.iconst 0, 1) := by decide +kernel
theorem dL_setCost_2 : decode cL_setCost 2 = .ok (.aload_n 0, 1) := by decide +kernel
theorem dL_setCost_3 : decode cL_setCost 3 = .ok (.iload_n 1, 1) := by decide +kernel
theorem dL_setCost_4 : decode cL_setCost 4 = .ok (.iload_n 2, 1) := by decide +kernel
theorem dL_setCost_5 : decode cL_setCost 5 = .ok (.invokevirtual 15, 3) := by decide +kernel
theorem dL_setCost_8 : decode cL_setCost 8 = .ok (.i2l, 1) := by decide +kernel
theorem dL_setCost_9 : decode cL_setCost 9 = .ok (.lastore, 1) := by decide +kernel
theorem dL_setCost_10 : decode cL_setCost 10 = .ok (.goto 11, 3) := by decide +kernel
theorem dL_setCost_13 : decode cL_setCost 13 = .ok (.astore 4, 2) := by decide +kernel
theorem dL_setCost_15 : decode cL_setCost 15 = .ok (.iconst 1, 1) := by decide +kernel
theorem dL_setCost_16 : decode cL_setCost 16 = .ok (.ireturn, 1) := by decide +kernel
theorem dL_setCost_17 : decode cL_setCost 17 = .ok (.astore 4, 2) := by decide +kernel
theorem dL_setCost_19 : decode cL_setCost 19 = .ok (.iconst 2, 1) := by decide +kernel
theorem dL_setCost_20 : decode cL_setCost 20 = .ok (.ireturn, 1) := by decide +kernel
theorem dL_setCost_21 : decode cL_setCost 21 = .ok (.iconst 0, 1) := by decide +kernel
theorem dL_setCost_22 : decode cL_setCost 22 = .ok (.ireturn, 1) := by decide +kernel
theorem dL_multiplier_0 : decode cL_multiplier 0 = .ok (.aload_n 2, 1) := by decide +kernel
theorem dL_multiplier_1 : decode cL_multiplier 1 = .ok (.iconst 0, 1) := by decide +kernel
theorem dL_multiplier_2 : decode cL_multiplier 2 = .ok (.aload_n 0, 1) := by decide +kernel
theorem dL_multiplier_3 : decode cL_multiplier 3 = .ok (.iload_n 1, 1) := by decide +kernel
theorem dL_multiplier_4 : decode cL_multiplier 4 = .ok (.invokevirtual 21, 3) := by decide +kernel
theorem dL_multiplier_7 : decode cL_multiplier 7 = .ok (.i2l, 1) := by decide +kernel
theorem dL_multiplier_8 : decode cL_multiplier 8 = .ok (.lastore, 1) := by decide +kernel
theorem dL_multiplier_9 : decode cL_multiplier 9 = .ok (.goto 6, 3) := by decide +kernel
theorem dL_multiplier_12 : decode cL_multiplier 12 = .ok (.astore_n 3, 1) := by decide +kernel
theorem dL_multiplier_13 : decode cL_multiplier 13 = .ok (.iconst 1, 1) := by decide +kernel
theorem dL_multiplier_14 : decode cL_multiplier 14 = .ok (.ireturn, 1) := by decide +kernel
theorem dL_multiplier_15 : decode cL_multiplier 15 = .ok (.iconst 0, 1) := by decide +kernel
theorem dL_multiplier_16 : decode cL_multiplier 16 = .ok (.ireturn, 1) := by decide +kernel
theorem dL_shift_0 : decode cL_shift 0 = .ok (.aload_n 2, 1) := by decide +kernel
theorem dL_shift_1 : decode cL_shift 1 = .ok (.iconst 0, 1) := by decide +kernel
theorem dL_shift_2 : decode cL_shift 2 = .ok (.aload_n 0, 1) := by decide +kernel
theorem dL_shift_3 : decode cL_shift 3 = .ok (.iload_n 1, 1) := by decide +kernel
theorem dL_shift_4 : decode cL_shift 4 = .ok (.invokevirtual 24, 3) := by decide +kernel
theorem dL_shift_7 : decode cL_shift 7 = .ok (.i2l, 1) := by decide +kernel
theorem dL_shift_8 : decode cL_shift 8 = .ok (.lastore, 1) := by decide +kernel
theorem dL_shift_9 : decode cL_shift 9 = .ok (.goto 6, 3) := by decide +kernel
theorem dL_shift_12 : decode cL_shift 12 = .ok (.astore_n 3, 1) := by decide +kernel
theorem dL_shift_13 : decode cL_shift 13 = .ok (.iconst 1, 1) := by decide +kernel
theorem dL_shift_14 : decode cL_shift 14 = .ok (.ireturn, 1) := by decide +kernel
theorem dL_shift_15 : decode cL_shift 15 = .ok (.iconst 0, 1) := by decide +kernel
theorem dL_shift_16 : decode cL_shift 16 = .ok (.ireturn, 1) := by decide +kernel
theorem dL_signedMultiplier_0 : decode cL_signedMultiplier 0 = .ok (.aload_n 2, 1) := by decide +kernel
theorem dL_signedMultiplier_1 : decode cL_signedMultiplier 1 = .ok (.iconst 0, 1) := by decide +kernel
theorem dL_signedMultiplier_2 : decode cL_signedMultiplier 2 = .ok (.aload_n 0, 1) := by decide +kernel
theorem dL_signedMultiplier_3 : decode cL_signedMultiplier 3 = .ok (.iload_n 1, 1) := by decide +kernel
theorem dL_signedMultiplier_4 : decode cL_signedMultiplier 4 = .ok (.invokevirtual 27, 3) := by decide +kernel
theorem dL_signedMultiplier_7 : decode cL_signedMultiplier 7 = .ok (.i2l, 1) := by decide +kernel
theorem dL_signedMultiplier_8 : decode cL_signedMultiplier 8 = .ok (.lastore, 1) := by decide +kernel
theorem dL_signedMultiplier_9 : decode cL_signedMultiplier 9 = .ok (.goto 6, 3) := by decide +kernel
theorem dL_signedMultiplier_12 : decode cL_signedMultiplier 12 = .ok (.astore_n 3, 1) := by decide +kernel
theorem dL_signedMultiplier_13 : decode cL_signedMultiplier 13 = .ok (.iconst 1, 1) := by decide +kernel
theorem dL_signedMultiplier_14 : decode cL_signedMultiplier 14 = .ok (.ireturn, 1) := by decide +kernel
theorem dL_signedMultiplier_15 : decode cL_signedMultiplier 15 = .ok (.iconst 0, 1) := by decide +kernel
theorem dL_signedMultiplier_16 : decode cL_signedMultiplier 16 = .ok (.ireturn, 1) := by decide +kernel
theorem dL_inverse_0 : decode cL_inverse 0 = .ok (.aload_n 2, 1) := by decide +kernel
theorem dL_inverse_1 : decode cL_inverse 1 = .ok (.iconst 0, 1) := by decide +kernel
theorem dL_inverse_2 : decode cL_inverse 2 = .ok (.aload_n 0, 1) := by decide +kernel
theorem dL_inverse_3 : decode cL_inverse 3 = .ok (.iload_n 1, 1) := by decide +kernel
theorem dL_inverse_4 : decode cL_inverse 4 = .ok (.invokevirtual 30, 3) := by decide +kernel
theorem dL_inverse_7 : decode cL_inverse 7 = .ok (.i2l, 1) := by decide +kernel
theorem dL_inverse_8 : decode cL_inverse 8 = .ok (.lastore, 1) := by decide +kernel
theorem dL_inverse_9 : decode cL_inverse 9 = .ok (.goto 6, 3) := by decide +kernel
theorem dL_inverse_12 : decode cL_inverse 12 = .ok (.astore_n 3, 1) := by decide +kernel
theorem dL_inverse_13 : decode cL_inverse 13 = .ok (.iconst 1, 1) := by decide +kernel
theorem dL_inverse_14 : decode cL_inverse 14 = .ok (.ireturn, 1) := by decide +kernel
theorem dL_inverse_15 : decode cL_inverse 15 = .ok (.iconst 0, 1) := by decide +kernel
theorem dL_inverse_16 : decode cL_inverse 16 = .ok (.ireturn, 1) := by decide +kernel
theorem dL_digits_0 : decode cL_digits 0 = .ok (.aload_n 2, 1) := by decide +kernel
theorem dL_digits_1 : decode cL_digits 1 = .ok (.iconst 0, 1) := by decide +kernel
theorem dL_digits_2 : decode cL_digits 2 = .ok (.aload_n 0, 1) := by decide +kernel
theorem dL_digits_3 : decode cL_digits 3 = .ok (.iload_n 1, 1) := by decide +kernel
theorem dL_digits_4 : decode cL_digits 4 = .ok (.invokevirtual 33, 3) := by decide +kernel
theorem dL_digits_7 : decode cL_digits 7 = .ok (.i2l, 1) := by decide +kernel
theorem dL_digits_8 : decode cL_digits 8 = .ok (.lastore, 1) := by decide +kernel
theorem dL_digits_9 : decode cL_digits 9 = .ok (.goto 6, 3) := by decide +kernel
theorem dL_digits_12 : decode cL_digits 12 = .ok (.astore_n 3, 1) := by decide +kernel
theorem dL_digits_13 : decode cL_digits 13 = .ok (.iconst 1, 1) := by decide +kernel
theorem dL_digits_14 : decode cL_digits 14 = .ok (.ireturn, 1) := by decide +kernel
theorem dL_digits_15 : decode cL_digits 15 = .ok (.iconst 0, 1) := by decide +kernel
theorem dL_digits_16 : decode cL_digits 16 = .ok (.ireturn, 1) := by decide +kernel
theorem dL_build_0 : decode cL_build 0 = .ok (.aload_n 3, 1) := by decide +kernel
theorem dL_build_1 : decode cL_build 1 = .ok (.iconst 0, 1) := by decide +kernel
theorem dL_build_2 : decode cL_build 2 = .ok (.aload_n 0, 1) := by decide +kernel
theorem dL_build_3 : decode cL_build 3 = .ok (.iload_n 1, 1) := by decide +kernel
theorem dL_build_4 : decode cL_build 4 = .ok (.iload_n 2, 1) := by decide +kernel
theorem dL_build_5 : decode cL_build 5 = .ok (.invokevirtual 36, 3) := by decide +kernel
theorem dL_build_8 : decode cL_build 8 = .ok (.i2l, 1) := by decide +kernel
theorem dL_build_9 : decode cL_build 9 = .ok (.lastore, 1) := by decide +kernel
theorem dL_build_10 : decode cL_build 10 = .ok (.goto 7, 3) := by decide +kernel
theorem dL_build_13 : decode cL_build 13 = .ok (.astore 4, 2) := by decide +kernel
theorem dL_build_15 : decode cL_build 15 = .ok (.iconst 1, 1) := by decide +kernel
theorem dL_build_16 : decode cL_build 16 = .ok (.ireturn, 1) := by decide +kernel
theorem dL_build_17 : decode cL_build 17 = .ok (.iconst 0, 1) := by decide +kernel
theorem dL_build_18 : decode cL_build 18 = .ok (.ireturn, 1) := by decide +kernel
