theorem dL_below_0 : decode cL_below 0 = .ok (.iload_n 0, 1) := by decide +kernel
theorem dL_below_1 : decode cL_below 1 = .ok (.ldc 7, 2) := by decide +kernel
theorem dL_below_3 : decode cL_below 3 = .ok (.iand, 1) := by decide +kernel
theorem dL_below_4 : decode cL_below 4 = .ok (.iload_n 1, 1) := by decide +kernel
theorem dL_below_5 : decode cL_below 5 = .ok (.irem, 1) := by decide +kernel
theorem dL_below_6 : decode cL_below 6 = .ok (.ireturn, 1) := by decide +kernel
theorem dL_cell_0 : decode cL_cell 0 = .ok (.iload_n 1, 1) := by decide +kernel
theorem dL_cell_1 : decode cL_cell 1 = .ok (.aload_n 0, 1) := by decide +kernel
theorem dL_cell_2 : decode cL_cell 2 = .ok (.arraylength, 1) := by decide +kernel
theorem dL_cell_3 : decode cL_cell 3 = .ok (.if_icmp .ge 9, 3) := by decide +kernel
theorem dL_cell_6 : decode cL_cell 6 = .ok (.aload_n 0, 1) := by decide +kernel
theorem dL_cell_7 : decode cL_cell 7 = .ok (.iload_n 1, 1) := by decide +kernel
theorem dL_cell_8 : decode cL_cell 8 = .ok (.iaload, 1) := by decide +kernel
theorem dL_cell_9 : decode cL_cell 9 = .ok (.goto 9, 3) := by decide +kernel
theorem dL_cell_12 : decode cL_cell 12 = .ok (.ldc 8, 2) := by decide +kernel
theorem dL_cell_14 : decode cL_cell 14 = .ok (.iload_n 1, 1) := by decide +kernel
theorem dL_cell_15 : decode cL_cell 15 = .ok (.iconst 3, 1) := by decide +kernel
theorem dL_cell_16 : decode cL_cell 16 = .ok (.iadd, 1) := by decide +kernel
theorem dL_cell_17 : decode cL_cell 17 = .ok (.imul, 1) := by decide +kernel
theorem dL_cell_18 : decode cL_cell 18 = .ok (.ireturn, 1) := by decide +kernel
theorem dL_isBuilt_0 : decode cL_isBuilt 0 = .ok (.aload_n 0, 1) := by decide +kernel
theorem dL_isBuilt_1 : decode cL_isBuilt 1 = .ok (.iconst 3, 1) := by decide +kernel
theorem dL_isBuilt_2 : decode cL_isBuilt 2 = .ok (.invokevirtual 34, 3) := by decide +kernel
theorem dL_isBuilt_5 : decode cL_isBuilt 5 = .ok (.istore_n 2, 1) := by decide +kernel
theorem dL_isBuilt_6 : decode cL_isBuilt 6 = .ok (.aload_n 0, 1) := by decide +kernel
theorem dL_isBuilt_7 : decode cL_isBuilt 7 = .ok (.iconst 1, 1) := by decide +kernel
theorem dL_isBuilt_8 : decode cL_isBuilt 8 = .ok (.invokevirtual 34, 3) := by decide +kernel
theorem dL_isBuilt_11 : decode cL_isBuilt 11 = .ok (.istore_n 3, 1) := by decide +kernel
theorem dL_isBuilt_12 : decode cL_isBuilt 12 = .ok (.aload_n 0, 1) := by decide +kernel
theorem dL_isBuilt_13 : decode cL_isBuilt 13 = .ok (.iload_n 1, 1) := by decide +kernel
theorem dL_isBuilt_14 : decode cL_isBuilt 14 = .ok (.invokevirtual 107, 3) := by decide +kernel
theorem dL_isBuilt_17 : decode cL_isBuilt 17 = .ok (.istore 4, 2) := by decide +kernel
theorem dL_isBuilt_19 : decode cL_isBuilt 19 = .ok (.aload_n 0, 1) := by decide +kernel
theorem dL_isBuilt_20 : decode cL_isBuilt 20 = .ok (.iconst 3, 1) := by decide +kernel
theorem dL_isBuilt_21 : decode cL_isBuilt 21 = .ok (.invokevirtual 34, 3) := by decide +kernel
theorem dL_isBuilt_24 : decode cL_isBuilt 24 = .ok (.iload_n 2, 1) := by decide +kernel
theorem dL_isBuilt_25 : decode cL_isBuilt 25 = .ok (.iload 4, 2) := by decide +kernel
theorem dL_isBuilt_27 : decode cL_isBuilt 27 = .ok (.isub, 1) := by decide +kernel
theorem dL_isBuilt_28 : decode cL_isBuilt 28 = .ok (.if_icmp .ne 36, 3) := by decide +kernel
theorem dL_isBuilt_31 : decode cL_isBuilt 31 = .ok (.aload_n 0, 1) := by decide +kernel
theorem dL_isBuilt_32 : decode cL_isBuilt 32 = .ok (.iconst 1, 1) := by decide +kernel
theorem dL_isBuilt_33 : decode cL_isBuilt 33 = .ok (.invokevirtual 34, 3) := by decide +kernel
theorem dL_isBuilt_36 : decode cL_isBuilt 36 = .ok (.iload_n 3, 1) := by decide +kernel
theorem dL_isBuilt_37 : decode cL_isBuilt 37 = .ok (.if_icmp .lt 27, 3) := by decide +kernel
theorem dL_isBuilt_40 : decode cL_isBuilt 40 = .ok (.aload_n 0, 1) := by decide +kernel
theorem dL_isBuilt_41 : decode cL_isBuilt 41 = .ok (.iconst 1, 1) := by decide +kernel
theorem dL_isBuilt_42 : decode cL_isBuilt 42 = .ok (.invokevirtual 34, 3) := by decide +kernel
theorem dL_isBuilt_45 : decode cL_isBuilt 45 = .ok (.iload_n 3, 1) := by decide +kernel
theorem dL_isBuilt_46 : decode cL_isBuilt 46 = .ok (.iload 4, 2) := by decide +kernel
theorem dL_isBuilt_48 : decode cL_isBuilt 48 = .ok (.iadd, 1) := by decide +kernel
theorem dL_isBuilt_49 : decode cL_isBuilt 49 = .ok (.if_icmp .gt 15, 3) := by decide +kernel
theorem dL_isBuilt_52 : decode cL_isBuilt 52 = .ok (.aload_n 0, 1) := by decide +kernel
theorem dL_isBuilt_53 : decode cL_isBuilt 53 = .ok (.iload_n 1, 1) := by decide +kernel
theorem dL_isBuilt_54 : decode cL_isBuilt 54 = .ok (.invokevirtual 107, 3) := by decide +kernel
theorem dL_isBuilt_57 : decode cL_isBuilt 57 = .ok (.ifCond .ne 7, 3) := by decide +kernel
theorem dL_isBuilt_60 : decode cL_isBuilt 60 = .ok (.iconst 1, 1) := by decide +kernel
theorem dL_isBuilt_61 : decode cL_isBuilt 61 = .ok (.goto 4, 3) := by decide +kernel
theorem dL_isBuilt_64 : decode cL_isBuilt 64 = .ok (.iconst 0, 1) := by decide +kernel
theorem dL_isBuilt_65 : decode cL_isBuilt 65 = .ok (.ireturn, 1) := by decide +kernel
theorem dL_follows_0 : decode cL_follows 0 = .ok (.aload_n 0, 1) := by decide +kernel
theorem dL_follows_1 : decode cL_follows 1 = .ok (.iload_n 3, 1) := by decide +kernel
theorem dL_follows_2 : decode cL_follows 2 = .ok (.iconst 4, 1) := by decide +kernel
theorem dL_follows_3 : decode cL_follows 3 = .ok (.invokevirtual 84, 3) := by decide +kernel
theorem dL_follows_6 : decode cL_follows 6 = .ok (.aload_n 1, 1) := by decide +kernel
theorem dL_follows_7 : decode cL_follows 7 = .ok (.aload_n 0, 1) := by decide +kernel
theorem dL_follows_8 : decode cL_follows 8 = .ok (.iload_n 3, 1) := by decide +kernel
theorem dL_follows_9 : decode cL_follows 9 = .ok (.iconst 2, 1) := by decide +kernel
theorem dL_follows_10 : decode cL_follows 10 = .ok (.invokevirtual 84, 3) := by decide +kernel
theorem dL_follows_13 : decode cL_follows 13 = .ok (.iaload, 1) := by decide +kernel
theorem dL_follows_14 : decode cL_follows 14 = .ok (.aload_n 1, 1) := by decide +kernel
theorem dL_follows_15 : decode cL_follows 15 = .ok (.aload_n 0, 1) := by decide +kernel
theorem dL_follows_16 : decode cL_follows 16 = .ok (.iload_n 2, 1) := by decide +kernel
theorem dL_follows_17 : decode cL_follows 17 = .ok (.iconst 1, 1) := by decide +kernel
theorem dL_follows_18 : decode cL_follows 18 = .ok (.invokevirtual 84, 3) := by decide +kernel
theorem dL_follows_21 : decode cL_follows 21 = .ok (.iaload, 1) := by decide +kernel
theorem dL_follows_22 : decode cL_follows 22 = .ok (.isub, 1) := by decide +kernel
theorem dL_follows_23 : decode cL_follows 23 = .ok (.invokestatic 110, 3) := by decide +kernel
theorem dL_follows_26 : decode cL_follows 26 = .ok (.iadd, 1) := by decide +kernel
theorem dL_follows_27 : decode cL_follows 27 = .ok (.iconst 4, 1) := by decide +kernel
theorem dL_follows_28 : decode cL_follows 28 = .ok (.iadd, 1) := by decide +kernel
theorem dL_follows_29 : decode cL_follows 29 = .ok (.aload_n 0, 1) := by decide +kernel
theorem dL_follows_30 : decode cL_follows 30 = .ok (.iload_n 2, 1) := by decide +kernel
theorem dL_follows_31 : decode cL_follows 31 = .ok (.iconst 3, 1) := by decide +kernel
theorem dL_follows_32 : decode cL_follows 32 = .ok (.invokevirtual 84, 3) := by decide +kernel
theorem dL_follows_35 : decode cL_follows 35 = .ok (.if_icmp .gt 7, 3) := by decide +kernel
theorem dL_follows_38 : decode cL_follows 38 = .ok (.iconst 1, 1) := by decide +kernel
theorem dL_follows_39 : decode cL_follows 39 = .ok (.goto 4, 3) := by decide +kernel
theorem dL_follows_42 : decode cL_follows 42 = .ok (.iconst 0, 1) := by decide +kernel
theorem dL_follows_43 : decode cL_follows 43 = .ok (.ireturn, 1) := by decide +kernel
theorem dL_isAppended_0 : decode cL_isAppended 0 = .ok (.aload_n 0, 1) := by decide +kernel
theorem dL_isAppended_1 : decode cL_isAppended 1 = .ok (.iload_n 2, 1) := by decide +kernel
theorem dL_isAppended_2 : decode cL_isAppended 2 = .ok (.iconst 1, 1) := by decide +kernel
theorem dL_isAppended_3 : decode cL_isAppended 3 = .ok (.invokevirtual 49, 3) := by decide +kernel
theorem dL_isAppended_6 : decode cL_isAppended 6 = .ok (.istore 4, 2) := by decide +kernel
theorem dL_isAppended_8 : decode cL_isAppended 8 = .ok (.aload_n 0, 1) := by decide +kernel
theorem dL_isAppended_9 : decode cL_isAppended 9 = .ok (.iload_n 3, 1) := by decide +kernel
theorem dL_isAppended_10 : decode cL_isAppended 10 = .ok (.bipush 6, 2) := by decide +kernel
theorem dL_isAppended_12 : decode cL_isAppended 12 = .ok (.invokevirtual 84, 3) := by decide +kernel
theorem dL_isAppended_15 : decode cL_isAppended 15 = .ok (.ifCond .ge 30, 3) := by decide +kernel
theorem dL_isAppended_18 : decode cL_isAppended 18 = .ok (.iload 4, 2) := by decide +kernel
theorem dL_isAppended_20 : decode cL_isAppended 20 = .ok (.ifCond .eq 21, 3) := by decide +kernel
theorem dL_isAppended_23 : decode cL_isAppended 23 = .ok (.aload_n 0, 1) := by decide +kernel
theorem dL_isAppended_24 : decode cL_isAppended 24 = .ok (.aload_n 1, 1) := by decide +kernel
theorem dL_isAppended_25 : decode cL_isAppended 25 = .ok (.iload_n 3, 1) := by decide +kernel
theorem dL_isAppended_26 : decode cL_isAppended 26 = .ok (.aload_n 0, 1) := by decide +kernel
theorem dL_isAppended_27 : decode cL_isAppended 27 = .ok (.iload_n 2, 1) := by decide +kernel
theorem dL_isAppended_28 : decode cL_isAppended 28 = .ok (.iload 4, 2) := by decide +kernel
theorem dL_isAppended_30 : decode cL_isAppended 30 = .ok (.iconst 1, 1) := by decide +kernel
theorem dL_isAppended_31 : decode cL_isAppended 31 = .ok (.isub, 1) := by decide +kernel
theorem dL_isAppended_32 : decode cL_isAppended 32 = .ok (.invokevirtual 115, 3) := by decide +kernel
theorem dL_isAppended_35 : decode cL_isAppended 35 = .ok (.invokestatic 118, 3) := by decide +kernel
theorem dL_isAppended_38 : decode cL_isAppended 38 = .ok (.ifCond .eq 7, 3) := by decide +kernel
theorem dL_isAppended_41 : decode cL_isAppended 41 = .ok (.iconst 1, 1) := by decide +kernel
theorem dL_isAppended_42 : decode cL_isAppended 42 = .ok (.goto 4, 3) := by decide +kernel
theorem dL_isAppended_45 : decode cL_isAppended 45 = .ok (.iconst 0, 1) := by decide +kernel
theorem dL_isAppended_46 : decode cL_isAppended 46 = .ok (.istore 5, 2) := by decide +kernel
theorem dL_isAppended_48 : decode cL_isAppended 48 = .ok (.aload_n 0, 1) := by decide +kernel
theorem dL_isAppended_49 : decode cL_isAppended 49 = .ok (.iload_n 2, 1) := by decide +kernel
theorem dL_isAppended_50 : decode cL_isAppended 50 = .ok (.iload_n 3, 1) := by decide +kernel
theorem dL_isAppended_51 : decode cL_isAppended 51 = .ok (.invokevirtual 121, 3) := by decide +kernel
theorem dL_isAppended_54 : decode cL_isAppended 54 = .ok (.iload 4, 2) := by decide +kernel
theorem dL_isAppended_56 : decode cL_isAppended 56 = .ok (.iconst 1, 1) := by decide +kernel
theorem dL_isAppended_57 : decode cL_isAppended 57 = .ok (.iadd, 1) := by decide +kernel
theorem dL_isAppended_58 : decode cL_isAppended 58 = .ok (.if_icmp .ne 34, 3) := by decide +kernel
theorem dL_isAppended_61 : decode cL_isAppended 61 = .ok (.iload 5, 2) := by decide +kernel
theorem dL_isAppended_63 : decode cL_isAppended 63 = .ok (.ifCond .eq 29, 3) := by decide +kernel
theorem dL_isAppended_66 : decode cL_isAppended 66 = .ok (.aload_n 0, 1) := by decide +kernel
theorem dL_isAppended_67 : decode cL_isAppended 67 = .ok (.iload_n 2, 1) := by decide +kernel
theorem dL_isAppended_68 : decode cL_isAppended 68 = .ok (.iload 4, 2) := by decide +kernel
theorem dL_isAppended_70 : decode cL_isAppended 70 = .ok (.invokevirtual 115, 3) := by decide +kernel
theorem dL_isAppended_73 : decode cL_isAppended 73 = .ok (.iload_n 3, 1) := by decide +kernel
theorem dL_isAppended_74 : decode cL_isAppended 74 = .ok (.if_icmp .ne 18, 3) := by decide +kernel
theorem dL_isAppended_77 : decode cL_isAppended 77 = .ok (.aload_n 0, 1) := by decide +kernel
theorem dL_isAppended_78 : decode cL_isAppended 78 = .ok (.iload_n 3, 1) := by decide +kernel
theorem dL_isAppended_79 : decode cL_isAppended 79 = .ok (.bipush 7, 2) := by decide +kernel
theorem dL_isAppended_81 : decode cL_isAppended 81 = .ok (.invokevirtual 84, 3) := by decide +kernel
theorem dL_isAppended_84 : decode cL_isAppended 84 = .ok (.iconst (-1), 1) := by decide +kernel
theorem dL_isAppended_85 : decode cL_isAppended 85 = .ok (.if_icmp .ne 7, 3) := by decide +kernel
theorem dL_isAppended_88 : decode cL_isAppended 88 = .ok (.iconst 1, 1) := by decide +kernel
theorem dL_isAppended_89 : decode cL_isAppended 89 = .ok (.goto 4, 3) := by decide +kernel
theorem dL_isAppended_92 : decode cL_isAppended 92 = .ok (.iconst 0, 1) := by decide +kernel
theorem dL_isAppended_93 : decode cL_isAppended 93 = .ok (.ireturn, 1) := by decide +kernel
theorem dL_isAppended_94 : decode cL_isAppended 94 = .ok (.astore 6, 2) := by decide +kernel
theorem dL_isAppended_96 : decode cL_isAppended 96 = .ok (.iload 5, 2) := by decide +kernel
theorem dL_isAppended_98 : decode cL_isAppended 98 = .ok (.ifCond .ne 18, 3) := by decide +kernel
theorem dL_isAppended_101 : decode cL_isAppended 101 = .ok (.aload_n 0, 1) := by decide +kernel
theorem dL_isAppended_102 : decode cL_isAppended 102 = .ok (.iload_n 2, 1) := by decide +kernel
theorem dL_isAppended_103 : decode cL_isAppended 103 = .ok (.iconst 1, 1) := by decide +kernel
theorem dL_isAppended_104 : decode cL_isAppended 104 = .ok (.invokevirtual 49, 3) := by decide +kernel
theorem dL_isAppended_107 : decode cL_isAppended 107 = .ok (.iload 4, 2) := by decide +kernel
theorem dL_isAppended_109 : decode cL_isAppended 109 = .ok (.if_icmp .ne 7, 3) := by decide +kernel
theorem dL_isAppended_112 : decode cL_isAppended 112 = .ok (.iconst 1, 1) := by decide +kernel
theorem dL_isAppended_113 : decode cL_isAppended 113 = .ok (.goto 4, 3) := by decide +kernel
theorem dL_isAppended_116 : decode cL_isAppended 116 = .ok (.iconst 0, 1) := by decide +kernel
theorem dL_isAppended_117 : decode cL_isAppended 117 = .ok (.ireturn, 1) := by decide +kernel
theorem dL_isSwapped_0 : decode cL_isSwapped 0 = .ok (.aload_n 0, 1) := by decide +kernel
theorem dL_isSwapped_1 : decode cL_isSwapped 1 = .ok (.bipush 7, 2) := by decide +kernel
theorem dL_isSwapped_3 : decode cL_isSwapped 3 = .ok (.invokevirtual 34, 3) := by decide +kernel
theorem dL_isSwapped_6 : decode cL_isSwapped 6 = .ok (.istore 5, 2) := by decide +kernel
theorem dL_isSwapped_8 : decode cL_isSwapped 8 = .ok (.iconst 2, 1) := by decide +kernel
theorem dL_isSwapped_9 : decode cL_isSwapped 9 = .ok (.newarray .int, 2) := by decide +kernel
theorem dL_isSwapped_11 : decode cL_isSwapped 11 = .ok (.dup, 1) := by decide +kernel
theorem dL_isSwapped_12 : decode cL_isSwapped 12 = .ok (.iconst 0, 1) := by decide +kernel
theorem dL_isSwapped_13 : decode cL_isSwapped 13 = .ok (.aload_n 0, 1) := by decide +kernel
theorem dL_isSwapped_14 : decode cL_isSwapped 14 = .ok (.iload_n 1, 1) := by decide +kernel
theorem dL_isSwapped_15 : decode cL_isSwapped 15 = .ok (.iconst 1, 1) := by decide +kernel
theorem dL_isSwapped_16 : decode cL_isSwapped 16 = .ok (.invokevirtual 49, 3) := by decide +kernel
theorem dL_isSwapped_19 : decode cL_isSwapped 19 = .ok (.iastore, 1) := by decide +kernel
theorem dL_isSwapped_20 : decode cL_isSwapped 20 = .ok (.dup, 1) := by decide +kernel
theorem dL_isSwapped_21 : decode cL_isSwapped 21 = .ok (.iconst 1, 1) := by decide +kernel
theorem dL_isSwapped_22 : decode cL_isSwapped 22 = .ok (.aload_n 0, 1) := by decide +kernel
theorem dL_isSwapped_23 : decode cL_isSwapped 23 = .ok (.iload_n 2, 1) := by decide +kernel
theorem dL_isSwapped_24 : decode cL_isSwapped 24 = .ok (.iconst 1, 1) := by decide +kernel
theorem dL_isSwapped_25 : decode cL_isSwapped 25 = .ok (.invokevirtual 49, 3) := by decide +kernel
theorem dL_isSwapped_28 : decode cL_isSwapped 28 = .ok (.iastore, 1) := by decide +kernel
theorem dL_isSwapped_29 : decode cL_isSwapped 29 = .ok (.astore 6, 2) := by decide +kernel
theorem dL_isSwapped_31 : decode cL_isSwapped 31 = .ok (.iload_n 3, 1) := by decide +kernel
theorem dL_isSwapped_32 : decode cL_isSwapped 32 = .ok (.aload 6, 2) := by decide +kernel
theorem dL_isSwapped_34 : decode cL_isSwapped 34 = .ok (.iconst 0, 1) := by decide +kernel
theorem dL_isSwapped_35 : decode cL_isSwapped 35 = .ok (.iaload, 1) := by decide +kernel
theorem dL_isSwapped_36 : decode cL_isSwapped 36 = .ok (.if_icmp .ge 12, 3) := by decide +kernel
theorem dL_isSwapped_39 : decode cL_isSwapped 39 = .ok (.aload_n 0, 1) := by decide +kernel
theorem dL_isSwapped_40 : decode cL_isSwapped 40 = .ok (.iload_n 1, 1) := by decide +kernel
theorem dL_isSwapped_41 : decode cL_isSwapped 41 = .ok (.iload_n 3, 1) := by decide +kernel
theorem dL_isSwapped_42 : decode cL_isSwapped 42 = .ok (.invokevirtual 115, 3) := by decide +kernel
theorem dL_isSwapped_45 : decode cL_isSwapped 45 = .ok (.goto 4, 3) := by decide +kernel
theorem dL_isSwapped_48 : decode cL_isSwapped 48 = .ok (.iconst (-1), 1) := by decide +kernel
theorem dL_isSwapped_49 : decode cL_isSwapped 49 = .ok (.istore 7, 2) := by decide +kernel
theorem dL_isSwapped_51 : decode cL_isSwapped 51 = .ok (.aload_n 0, 1) := by decide +kernel
theorem dL_isSwapped_52 : decode cL_isSwapped 52 = .ok (.iload_n 1, 1) := by decide +kernel
theorem dL_isSwapped_53 : decode cL_isSwapped 53 = .ok (.iload_n 3, 1) := by decide +kernel
theorem dL_isSwapped_54 : decode cL_isSwapped 54 = .ok (.iload_n 2, 1) := by decide +kernel
theorem dL_isSwapped_55 : decode cL_isSwapped 55 = .ok (.iload 4, 2) := by decide +kernel
theorem dL_isSwapped_57 : decode cL_isSwapped 57 = .ok (.invokevirtual 126, 3) := by decide +kernel
theorem dL_isSwapped_60 : decode cL_isSwapped 60 = .ok (.istore 8, 2) := by decide +kernel
theorem dL_isSwapped_62 : decode cL_isSwapped 62 = .ok (.iload 8, 2) := by decide +kernel
theorem dL_isSwapped_64 : decode cL_isSwapped 64 = .ok (.aload 6, 2) := by decide +kernel
theorem dL_isSwapped_66 : decode cL_isSwapped 66 = .ok (.iconst 0, 1) := by decide +kernel
theorem dL_isSwapped_67 : decode cL_isSwapped 67 = .ok (.iaload, 1) := by decide +kernel
theorem dL_isSwapped_68 : decode cL_isSwapped 68 = .ok (.iload_n 3, 1) := by decide +kernel
theorem dL_isSwapped_69 : decode cL_isSwapped 69 = .ok (.isub, 1) := by decide +kernel
theorem dL_isSwapped_70 : decode cL_isSwapped 70 = .ok (.aload 6, 2) := by decide +kernel
theorem dL_isSwapped_72 : decode cL_isSwapped 72 = .ok (.iconst 1, 1) := by decide +kernel
theorem dL_isSwapped_73 : decode cL_isSwapped 73 = .ok (.iaload, 1) := by decide +kernel
theorem dL_isSwapped_74 : decode cL_isSwapped 74 = .ok (.iadd, 1) := by decide +kernel
theorem dL_isSwapped_75 : decode cL_isSwapped 75 = .ok (.iload 4, 2) := by decide +kernel
theorem dL_isSwapped_77 : decode cL_isSwapped 77 = .ok (.isub, 1) := by decide +kernel
theorem dL_isSwapped_78 : decode cL_isSwapped 78 = .ok (.if_icmp .ne 56, 3) := by decide +kernel
theorem dL_isSwapped_81 : decode cL_isSwapped 81 = .ok (.aload_n 0, 1) := by decide +kernel
theorem dL_isSwapped_82 : decode cL_isSwapped 82 = .ok (.iload_n 1, 1) := by decide +kernel
theorem dL_isSwapped_83 : decode cL_isSwapped 83 = .ok (.iconst 1, 1) := by decide +kernel
theorem dL_isSwapped_84 : decode cL_isSwapped 84 = .ok (.invokevirtual 49, 3) := by decide +kernel
theorem dL_isSwapped_87 : decode cL_isSwapped 87 = .ok (.iload_n 3, 1) := by decide +kernel
theorem dL_isSwapped_88 : decode cL_isSwapped 88 = .ok (.aload 6, 2) := by decide +kernel
theorem dL_isSwapped_90 : decode cL_isSwapped 90 = .ok (.iconst 1, 1) := by decide +kernel
theorem dL_isSwapped_91 : decode cL_isSwapped 91 = .ok (.iaload, 1) := by decide +kernel
theorem dL_isSwapped_92 : decode cL_isSwapped 92 = .ok (.iadd, 1) := by decide +kernel
theorem dL_isSwapped_93 : decode cL_isSwapped 93 = .ok (.iload 4, 2) := by decide +kernel
theorem dL_isSwapped_95 : decode cL_isSwapped 95 = .ok (.isub, 1) := by decide +kernel
theorem dL_isSwapped_96 : decode cL_isSwapped 96 = .ok (.if_icmp .ne 38, 3) := by decide +kernel
theorem dL_isSwapped_99 : decode cL_isSwapped 99 = .ok (.aload_n 0, 1) := by decide +kernel
theorem dL_isSwapped_100 : decode cL_isSwapped 100 = .ok (.iload_n 2, 1) := by decide +kernel
theorem dL_isSwapped_101 : decode cL_isSwapped 101 = .ok (.iconst 1, 1) := by decide +kernel
theorem dL_isSwapped_102 : decode cL_isSwapped 102 = .ok (.invokevirtual 49, 3) := by decide +kernel
theorem dL_isSwapped_105 : decode cL_isSwapped 105 = .ok (.iload 4, 2) := by decide +kernel
theorem dL_isSwapped_107 : decode cL_isSwapped 107 = .ok (.aload 6, 2) := by decide +kernel
theorem dL_isSwapped_109 : decode cL_isSwapped 109 = .ok (.iconst 0, 1) := by decide +kernel
theorem dL_isSwapped_110 : decode cL_isSwapped 110 = .ok (.iaload, 1) := by decide +kernel
theorem dL_isSwapped_111 : decode cL_isSwapped 111 = .ok (.iadd, 1) := by decide +kernel
theorem dL_isSwapped_112 : decode cL_isSwapped 112 = .ok (.iload_n 3, 1) := by decide +kernel
theorem dL_isSwapped_113 : decode cL_isSwapped 113 = .ok (.isub, 1) := by decide +kernel
theorem dL_isSwapped_114 : decode cL_isSwapped 114 = .ok (.if_icmp .ne 20, 3) := by decide +kernel
theorem dL_isSwapped_117 : decode cL_isSwapped 117 = .ok (.iload 7, 2) := by decide +kernel
theorem dL_isSwapped_119 : decode cL_isSwapped 119 = .ok (.ifCond .lt 17, 3) := by decide +kernel
theorem dL_isSwapped_122 : decode cL_isSwapped 122 = .ok (.aload_n 0, 1) := by decide +kernel
theorem dL_isSwapped_123 : decode cL_isSwapped 123 = .ok (.iload 7, 2) := by decide +kernel
theorem dL_isSwapped_125 : decode cL_isSwapped 125 = .ok (.bipush 6, 2) := by decide +kernel
theorem dL_isSwapped_127 : decode cL_isSwapped 127 = .ok (.invokevirtual 84, 3) := by decide +kernel
theorem dL_isSwapped_130 : decode cL_isSwapped 130 = .ok (.iload_n 2, 1) := by decide +kernel
theorem dL_isSwapped_131 : decode cL_isSwapped 131 = .ok (.if_icmp .eq 5, 3) := by decide +kernel
theorem dL_isSwapped_134 : decode cL_isSwapped 134 = .ok (.iconst 0, 1) := by decide +kernel
theorem dL_isSwapped_135 : decode cL_isSwapped 135 = .ok (.ireturn, 1) := by decide +kernel
theorem dL_isSwapped_136 : decode cL_isSwapped 136 = .ok (.aload_n 0, 1) := by decide +kernel
theorem dL_isSwapped_137 : decode cL_isSwapped 137 = .ok (.iload_n 1, 1) := by decide +kernel
theorem dL_isSwapped_138 : decode cL_isSwapped 138 = .ok (.iload_n 3, 1) := by decide +kernel
theorem dL_isSwapped_139 : decode cL_isSwapped 139 = .ok (.iload_n 2, 1) := by decide +kernel
theorem dL_isSwapped_140 : decode cL_isSwapped 140 = .ok (.iload 4, 2) := by decide +kernel
theorem dL_isSwapped_142 : decode cL_isSwapped 142 = .ok (.invokevirtual 126, 3) := by decide +kernel
theorem dL_isSwapped_145 : decode cL_isSwapped 145 = .ok (.iload 8, 2) := by decide +kernel
theorem dL_isSwapped_147 : decode cL_isSwapped 147 = .ok (.if_icmp .ne 47, 3) := by decide +kernel
theorem dL_isSwapped_150 : decode cL_isSwapped 150 = .ok (.aload_n 0, 1) := by decide +kernel
theorem dL_isSwapped_151 : decode cL_isSwapped 151 = .ok (.bipush 7, 2) := by decide +kernel
theorem dL_isSwapped_153 : decode cL_isSwapped 153 = .ok (.invokevirtual 34, 3) := by decide +kernel
theorem dL_isSwapped_156 : decode cL_isSwapped 156 = .ok (.iload 5, 2) := by decide +kernel
theorem dL_isSwapped_158 : decode cL_isSwapped 158 = .ok (.if_icmp .ne 36, 3) := by decide +kernel
theorem dL_isSwapped_161 : decode cL_isSwapped 161 = .ok (.aload_n 0, 1) := by decide +kernel
theorem dL_isSwapped_162 : decode cL_isSwapped 162 = .ok (.iload_n 1, 1) := by decide +kernel
theorem dL_isSwapped_163 : decode cL_isSwapped 163 = .ok (.iconst 1, 1) := by decide +kernel
theorem dL_isSwapped_164 : decode cL_isSwapped 164 = .ok (.invokevirtual 49, 3) := by decide +kernel
theorem dL_isSwapped_167 : decode cL_isSwapped 167 = .ok (.aload 6, 2) := by decide +kernel
theorem dL_isSwapped_169 : decode cL_isSwapped 169 = .ok (.iconst 0, 1) := by decide +kernel
theorem dL_isSwapped_170 : decode cL_isSwapped 170 = .ok (.iaload, 1) := by decide +kernel
theorem dL_isSwapped_171 : decode cL_isSwapped 171 = .ok (.if_icmp .ne 23, 3) := by decide +kernel
theorem dL_isSwapped_174 : decode cL_isSwapped 174 = .ok (.aload_n 0, 1) := by decide +kernel
theorem dL_isSwapped_175 : decode cL_isSwapped 175 = .ok (.iload_n 1, 1) := by decide +kernel
theorem dL_isSwapped_176 : decode cL_isSwapped 176 = .ok (.iconst 3, 1) := by decide +kernel
theorem dL_isSwapped_177 : decode cL_isSwapped 177 = .ok (.invokevirtual 49, 3) := by decide +kernel
theorem dL_isSwapped_180 : decode cL_isSwapped 180 = .ok (.aload_n 0, 1) := by decide +kernel
theorem dL_isSwapped_181 : decode cL_isSwapped 181 = .ok (.iload_n 2, 1) := by decide +kernel
theorem dL_isSwapped_182 : decode cL_isSwapped 182 = .ok (.iconst 3, 1) := by decide +kernel
theorem dL_isSwapped_183 : decode cL_isSwapped 183 = .ok (.invokevirtual 49, 3) := by decide +kernel
theorem dL_isSwapped_186 : decode cL_isSwapped 186 = .ok (.iadd, 1) := by decide +kernel
theorem dL_isSwapped_187 : decode cL_isSwapped 187 = .ok (.ifCond .ne 7, 3) := by decide +kernel
theorem dL_isSwapped_190 : decode cL_isSwapped 190 = .ok (.iconst 1, 1) := by decide +kernel
theorem dL_isSwapped_191 : decode cL_isSwapped 191 = .ok (.goto 4, 3) := by decide +kernel
theorem dL_isSwapped_194 : decode cL_isSwapped 194 = .ok (.iconst 0, 1) := by decide +kernel
theorem dL_isSwapped_195 : decode cL_isSwapped 195 = .ok (.ireturn, 1) := by decide +kernel
theorem dL_isSwapped_196 : decode cL_isSwapped 196 = .ok (.astore 8, 2) := by decide +kernel
theorem dL_isSwapped_198 : decode cL_isSwapped 198 = .ok (.aload_n 0, 1) := by decide +kernel
theorem dL_isSwapped_199 : decode cL_isSwapped 199 = .ok (.iload_n 1, 1) := by decide +kernel
theorem dL_isSwapped_200 : decode cL_isSwapped 200 = .ok (.iconst 1, 1) := by decide +kernel
theorem dL_isSwapped_201 : decode cL_isSwapped 201 = .ok (.invokevirtual 49, 3) := by decide +kernel
theorem dL_isSwapped_204 : decode cL_isSwapped 204 = .ok (.aload 6, 2) := by decide +kernel
theorem dL_isSwapped_206 : decode cL_isSwapped 206 = .ok (.iconst 0, 1) := by decide +kernel
theorem dL_isSwapped_207 : decode cL_isSwapped 207 = .ok (.iaload, 1) := by decide +kernel
theorem dL_isSwapped_208 : decode cL_isSwapped 208 = .ok (.if_icmp .ne 18, 3) := by decide +kernel
theorem dL_isSwapped_211 : decode cL_isSwapped 211 = .ok (.aload_n 0, 1) := by decide +kernel
theorem dL_isSwapped_212 : decode cL_isSwapped 212 = .ok (.bipush 7, 2) := by decide +kernel
theorem dL_isSwapped_214 : decode cL_isSwapped 214 = .ok (.invokevirtual 34, 3) := by decide +kernel
theorem dL_isSwapped_217 : decode cL_isSwapped 217 = .ok (.iload 5, 2) := by decide +kernel
theorem dL_isSwapped_219 : decode cL_isSwapped 219 = .ok (.if_icmp .ne 7, 3) := by decide +kernel
theorem dL_isSwapped_222 : decode cL_isSwapped 222 = .ok (.iconst 1, 1) := by decide +kernel
theorem dL_isSwapped_223 : decode cL_isSwapped 223 = .ok (.goto 4, 3) := by decide +kernel
theorem dL_isSwapped_226 : decode cL_isSwapped 226 = .ok (.iconst 0, 1) := by decide +kernel
theorem dL_isSwapped_227 : decode cL_isSwapped 227 = .ok (.ireturn, 1) := by decide +kernel
theorem dL_isCut_0 : decode cL_isCut 0 = .ok (.aload_n 0, 1) := by decide +kernel
theorem dL_isCut_1 : decode cL_isCut 1 = .ok (.iload_n 1, 1) := by decide +kernel
theorem dL_isCut_2 : decode cL_isCut 2 = .ok (.iconst 3, 1) := by decide +kernel
theorem dL_isCut_3 : decode cL_isCut 3 = .ok (.invokevirtual 49, 3) := by decide +kernel
theorem dL_isCut_6 : decode cL_isCut 6 = .ok (.istore_n 2, 1) := by decide +kernel
theorem dL_isCut_7 : decode cL_isCut 7 = .ok (.aload_n 0, 1) := by decide +kernel
theorem dL_isCut_8 : decode cL_isCut 8 = .ok (.iload_n 1, 1) := by decide +kernel
theorem dL_isCut_9 : decode cL_isCut 9 = .ok (.invokevirtual 130, 3) := by decide +kernel
theorem dL_isCut_12 : decode cL_isCut 12 = .ok (.istore_n 3, 1) := by decide +kernel
theorem dL_isCut_13 : decode cL_isCut 13 = .ok (.iload_n 3, 1) := by decide +kernel
theorem dL_isCut_14 : decode cL_isCut 14 = .ok (.aload_n 0, 1) := by decide +kernel
theorem dL_isCut_15 : decode cL_isCut 15 = .ok (.iload_n 1, 1) := by decide +kernel
theorem dL_isCut_16 : decode cL_isCut 16 = .ok (.iconst 3, 1) := by decide +kernel
theorem dL_isCut_17 : decode cL_isCut 17 = .ok (.invokevirtual 49, 3) := by decide +kernel
theorem dL_isCut_20 : decode cL_isCut 20 = .ok (.if_icmp .ne 20, 3) := by decide +kernel
theorem dL_isCut_23 : decode cL_isCut 23 = .ok (.aload_n 0, 1) := by decide +kernel
theorem dL_isCut_24 : decode cL_isCut 24 = .ok (.iload_n 1, 1) := by decide +kernel
theorem dL_isCut_25 : decode cL_isCut 25 = .ok (.iload_n 3, 1) := by decide +kernel
theorem dL_isCut_26 : decode cL_isCut 26 = .ok (.iconst 1, 1) := by decide +kernel
theorem dL_isCut_27 : decode cL_isCut 27 = .ok (.isub, 1) := by decide +kernel
theorem dL_isCut_28 : decode cL_isCut 28 = .ok (.iconst 4, 1) := by decide +kernel
theorem dL_isCut_29 : decode cL_isCut 29 = .ok (.invokevirtual 133, 3) := by decide +kernel
theorem dL_isCut_32 : decode cL_isCut 32 = .ok (.iconst (-1), 1) := by decide +kernel
theorem dL_isCut_33 : decode cL_isCut 33 = .ok (.if_icmp .ne 7, 3) := by decide +kernel
theorem dL_isCut_36 : decode cL_isCut 36 = .ok (.iconst 1, 1) := by decide +kernel
theorem dL_isCut_37 : decode cL_isCut 37 = .ok (.goto 4, 3) := by decide +kernel
theorem dL_isCut_40 : decode cL_isCut 40 = .ok (.iconst 0, 1) := by decide +kernel
theorem dL_isCut_41 : decode cL_isCut 41 = .ok (.ireturn, 1) := by decide +kernel
theorem dL_isCut_42 : decode cL_isCut 42 = .ok (.astore_n 3, 1) := by decide +kernel
theorem dL_isCut_43 : decode cL_isCut 43 = .ok (.aload_n 0, 1) := by decide +kernel
theorem dL_isCut_44 : decode cL_isCut 44 = .ok (.iload_n 1, 1) := by decide +kernel
theorem dL_isCut_45 : decode cL_isCut 45 = .ok (.iconst 3, 1) := by decide +kernel
theorem dL_isCut_46 : decode cL_isCut 46 = .ok (.invokevirtual 49, 3) := by decide +kernel
theorem dL_isCut_49 : decode cL_isCut 49 = .ok (.iload_n 2, 1) := by decide +kernel
theorem dL_isCut_50 : decode cL_isCut 50 = .ok (.if_icmp .ne 7, 3) := by decide +kernel
theorem dL_isCut_53 : decode cL_isCut 53 = .ok (.iconst 1, 1) := by decide +kernel
theorem dL_isCut_54 : decode cL_isCut 54 = .ok (.goto 4, 3) := by decide +kernel
theorem dL_isCut_57 : decode cL_isCut 57 = .ok (.iconst 0, 1) := by decide +kernel
theorem dL_isCut_58 : decode cL_isCut 58 = .ok (.ireturn, 1) := by decide +kernel
theorem dL_isGiven_0 : decode cL_isGiven 0 = .ok (.aload_n 0, 1) := by decide +kernel
theorem dL_isGiven_1 : decode cL_isGiven 1 = .ok (.iload_n 1, 1) := by decide +kernel
theorem dL_isGiven_2 : decode cL_isGiven 2 = .ok (.iload_n 2, 1) := by decide +kernel
theorem dL_isGiven_3 : decode cL_isGiven 3 = .ok (.iconst 4, 1) := by decide +kernel
theorem dL_isGiven_4 : decode cL_isGiven 4 = .ok (.invokevirtual 133, 3) := by decide +kernel
theorem dL_isGiven_7 : decode cL_isGiven 7 = .ok (.istore 4, 2) := by decide +kernel
theorem dL_isGiven_9 : decode cL_isGiven 9 = .ok (.aload_n 0, 1) := by decide +kernel
theorem dL_isGiven_10 : decode cL_isGiven 10 = .ok (.iload_n 1, 1) := by decide +kernel
theorem dL_isGiven_11 : decode cL_isGiven 11 = .ok (.iload_n 2, 1) := by decide +kernel
theorem dL_isGiven_12 : decode cL_isGiven 12 = .ok (.iload_n 3, 1) := by decide +kernel
theorem dL_isGiven_13 : decode cL_isGiven 13 = .ok (.invokevirtual 137, 3) := by decide +kernel
theorem dL_isGiven_16 : decode cL_isGiven 16 = .ok (.istore 5, 2) := by decide +kernel
theorem dL_isGiven_18 : decode cL_isGiven 18 = .ok (.iload 4, 2) := by decide +kernel
theorem dL_isGiven_20 : decode cL_isGiven 20 = .ok (.iconst (-1), 1) := by decide +kernel
theorem dL_isGiven_21 : decode cL_isGiven 21 = .ok (.if_icmp .ne 29, 3) := by decide +kernel
theorem dL_isGiven_24 : decode cL_isGiven 24 = .ok (.aload_n 0, 1) := by decide +kernel
theorem dL_isGiven_25 : decode cL_isGiven 25 = .ok (.iload_n 1, 1) := by decide +kernel
theorem dL_isGiven_26 : decode cL_isGiven 26 = .ok (.iload_n 2, 1) := by decide +kernel
theorem dL_isGiven_27 : decode cL_isGiven 27 = .ok (.iconst 4, 1) := by decide +kernel
theorem dL_isGiven_28 : decode cL_isGiven 28 = .ok (.invokevirtual 133, 3) := by decide +kernel
theorem dL_isGiven_31 : decode cL_isGiven 31 = .ok (.iload_n 3, 1) := by decide +kernel
theorem dL_isGiven_32 : decode cL_isGiven 32 = .ok (.if_icmp .ne 18, 3) := by decide +kernel
theorem dL_isGiven_35 : decode cL_isGiven 35 = .ok (.aload_n 0, 1) := by decide +kernel
theorem dL_isGiven_36 : decode cL_isGiven 36 = .ok (.iload_n 3, 1) := by decide +kernel
theorem dL_isGiven_37 : decode cL_isGiven 37 = .ok (.iconst 1, 1) := by decide +kernel
theorem dL_isGiven_38 : decode cL_isGiven 38 = .ok (.invokevirtual 69, 3) := by decide +kernel
theorem dL_isGiven_41 : decode cL_isGiven 41 = .ok (.iload 5, 2) := by decide +kernel
theorem dL_isGiven_43 : decode cL_isGiven 43 = .ok (.if_icmp .ne 7, 3) := by decide +kernel
theorem dL_isGiven_46 : decode cL_isGiven 46 = .ok (.iconst 1, 1) := by decide +kernel
theorem dL_isGiven_47 : decode cL_isGiven 47 = .ok (.goto 4, 3) := by decide +kernel
theorem dL_isGiven_50 : decode cL_isGiven 50 = .ok (.iconst 0, 1) := by decide +kernel
theorem dL_isGiven_51 : decode cL_isGiven 51 = .ok (.ireturn, 1) := by decide +kernel
theorem dL_isGiven_52 : decode cL_isGiven 52 = .ok (.astore 5, 2) := by decide +kernel
theorem dL_isGiven_54 : decode cL_isGiven 54 = .ok (.aload_n 0, 1) := by decide +kernel
theorem dL_isGiven_55 : decode cL_isGiven 55 = .ok (.iload_n 1, 1) := by decide +kernel
theorem dL_isGiven_56 : decode cL_isGiven 56 = .ok (.iload_n 2, 1) := by decide +kernel
theorem dL_isGiven_57 : decode cL_isGiven 57 = .ok (.iconst 4, 1) := by decide +kernel
theorem dL_isGiven_58 : decode cL_isGiven 58 = .ok (.invokevirtual 133, 3) := by decide +kernel
theorem dL_isGiven_61 : decode cL_isGiven 61 = .ok (.iload 4, 2) := by decide +kernel
theorem dL_isGiven_63 : decode cL_isGiven 63 = .ok (.if_icmp .ne 7, 3) := by decide +kernel
theorem dL_isGiven_66 : decode cL_isGiven 66 = .ok (.iconst 1, 1) := by decide +kernel
theorem dL_isGiven_67 : decode cL_isGiven 67 = .ok (.goto 4, 3) := by decide +kernel
theorem dL_isGiven_70 : decode cL_isGiven 70 = .ok (.iconst 0, 1) := by decide +kernel
theorem dL_isGiven_71 : decode cL_isGiven 71 = .ok (.ireturn, 1) := by decide +kernel
theorem dL_isBroken_0 : decode cL_isBroken 0 = .ok (.aload_n 0, 1) := by decide +kernel
theorem dL_isBroken_1 : decode cL_isBroken 1 = .ok (.iconst 4, 1) := by decide +kernel
theorem dL_isBroken_2 : decode cL_isBroken 2 = .ok (.invokevirtual 34, 3) := by decide +kernel
theorem dL_isBroken_5 : decode cL_isBroken 5 = .ok (.istore_n 3, 1) := by decide +kernel
theorem dL_isBroken_6 : decode cL_isBroken 6 = .ok (.aload_n 0, 1) := by decide +kernel
theorem dL_isBroken_7 : decode cL_isBroken 7 = .ok (.iload_n 1, 1) := by decide +kernel
theorem dL_isBroken_8 : decode cL_isBroken 8 = .ok (.iload_n 2, 1) := by decide +kernel
theorem dL_isBroken_9 : decode cL_isBroken 9 = .ok (.invokevirtual 140, 3) := by decide +kernel
theorem dL_isBroken_12 : decode cL_isBroken 12 = .ok (.istore 4, 2) := by decide +kernel
theorem dL_isBroken_14 : decode cL_isBroken 14 = .ok (.aload_n 0, 1) := by decide +kernel
theorem dL_isBroken_15 : decode cL_isBroken 15 = .ok (.iload_n 1, 1) := by decide +kernel
theorem dL_isBroken_16 : decode cL_isBroken 16 = .ok (.iload_n 2, 1) := by decide +kernel
theorem dL_isBroken_17 : decode cL_isBroken 17 = .ok (.invokevirtual 143, 3) := by decide +kernel
theorem dL_isBroken_20 : decode cL_isBroken 20 = .ok (.istore 5, 2) := by decide +kernel
theorem dL_isBroken_22 : decode cL_isBroken 22 = .ok (.aload_n 0, 1) := by decide +kernel
theorem dL_isBroken_23 : decode cL_isBroken 23 = .ok (.iconst 4, 1) := by decide +kernel
theorem dL_isBroken_24 : decode cL_isBroken 24 = .ok (.invokevirtual 34, 3) := by decide +kernel
theorem dL_isBroken_27 : decode cL_isBroken 27 = .ok (.iload_n 3, 1) := by decide +kernel
theorem dL_isBroken_28 : decode cL_isBroken 28 = .ok (.iload 4, 2) := by decide +kernel
theorem dL_isBroken_30 : decode cL_isBroken 30 = .ok (.isub, 1) := by decide +kernel
theorem dL_isBroken_31 : decode cL_isBroken 31 = .ok (.if_icmp .ne 44, 3) := by decide +kernel
theorem dL_isBroken_34 : decode cL_isBroken 34 = .ok (.aload_n 0, 1) := by decide +kernel
theorem dL_isBroken_35 : decode cL_isBroken 35 = .ok (.iload_n 1, 1) := by decide +kernel
theorem dL_isBroken_36 : decode cL_isBroken 36 = .ok (.iload 5, 2) := by decide +kernel
theorem dL_isBroken_38 : decode cL_isBroken 38 = .ok (.invokevirtual 143, 3) := by decide +kernel
theorem dL_isBroken_41 : decode cL_isBroken 41 = .ok (.iload_n 2, 1) := by decide +kernel
theorem dL_isBroken_42 : decode cL_isBroken 42 = .ok (.if_icmp .ne 33, 3) := by decide +kernel
theorem dL_isBroken_45 : decode cL_isBroken 45 = .ok (.aload_n 0, 1) := by decide +kernel
theorem dL_isBroken_46 : decode cL_isBroken 46 = .ok (.iconst 4, 1) := by decide +kernel
theorem dL_isBroken_47 : decode cL_isBroken 47 = .ok (.invokevirtual 34, 3) := by decide +kernel
theorem dL_isBroken_50 : decode cL_isBroken 50 = .ok (.iload_n 3, 1) := by decide +kernel
theorem dL_isBroken_51 : decode cL_isBroken 51 = .ok (.if_icmp .ne 24, 3) := by decide +kernel
theorem dL_isBroken_54 : decode cL_isBroken 54 = .ok (.iload_n 2, 1) := by decide +kernel
theorem dL_isBroken_55 : decode cL_isBroken 55 = .ok (.iconst 3, 1) := by decide +kernel
theorem dL_isBroken_56 : decode cL_isBroken 56 = .ok (.irem, 1) := by decide +kernel
theorem dL_isBroken_57 : decode cL_isBroken 57 = .ok (.ifCond .gt 14, 3) := by decide +kernel
theorem dL_isBroken_60 : decode cL_isBroken 60 = .ok (.aload_n 0, 1) := by decide +kernel
theorem dL_isBroken_61 : decode cL_isBroken 61 = .ok (.iload_n 1, 1) := by decide +kernel
theorem dL_isBroken_62 : decode cL_isBroken 62 = .ok (.iload_n 2, 1) := by decide +kernel
theorem dL_isBroken_63 : decode cL_isBroken 63 = .ok (.invokevirtual 143, 3) := by decide +kernel
theorem dL_isBroken_66 : decode cL_isBroken 66 = .ok (.iload 5, 2) := by decide +kernel
theorem dL_isBroken_68 : decode cL_isBroken 68 = .ok (.if_icmp .ne 7, 3) := by decide +kernel
theorem dL_isBroken_71 : decode cL_isBroken 71 = .ok (.iconst 1, 1) := by decide +kernel
theorem dL_isBroken_72 : decode cL_isBroken 72 = .ok (.goto 4, 3) := by decide +kernel
theorem dL_isBroken_75 : decode cL_isBroken 75 = .ok (.iconst 0, 1) := by decide +kernel
theorem dL_isBroken_76 : decode cL_isBroken 76 = .ok (.ireturn, 1) := by decide +kernel
theorem dL_isSound_0 : decode cL_isSound 0 = .ok (.iconst 0, 1) := by decide +kernel
theorem dL_isSound_1 : decode cL_isSound 1 = .ok (.istore 6, 2) := by decide +kernel
theorem dL_isSound_3 : decode cL_isSound 3 = .ok (.bipush 7, 2) := by decide +kernel
theorem dL_isSound_5 : decode cL_isSound 5 = .ok (.newarray .int, 2) := by decide +kernel
theorem dL_isSound_7 : decode cL_isSound 7 = .ok (.astore 7, 2) := by decide +kernel
theorem dL_isSound_9 : decode cL_isSound 9 = .ok (.iconst 0, 1) := by decide +kernel
theorem dL_isSound_10 : decode cL_isSound 10 = .ok (.istore 8, 2) := by decide +kernel
theorem dL_isSound_12 : decode cL_isSound 12 = .ok (.iconst 0, 1) := by decide +kernel
theorem dL_isSound_13 : decode cL_isSound 13 = .ok (.istore 9, 2) := by decide +kernel
theorem dL_isSound_15 : decode cL_isSound 15 = .ok (.iload 9, 2) := by decide +kernel
theorem dL_isSound_17 : decode cL_isSound 17 = .ok (.iload_n 3, 1) := by decide +kernel
theorem dL_isSound_18 : decode cL_isSound 18 = .ok (.if_icmp .ge 241, 3) := by decide +kernel
theorem dL_isSound_21 : decode cL_isSound 21 = .ok (.aload_n 0, 1) := by decide +kernel
theorem dL_isSound_22 : decode cL_isSound 22 = .ok (.iload 9, 2) := by decide +kernel
theorem dL_isSound_24 : decode cL_isSound 24 = .ok (.bipush 6, 2) := by decide +kernel
theorem dL_isSound_26 : decode cL_isSound 26 = .ok (.invokevirtual 84, 3) := by decide +kernel
theorem dL_isSound_29 : decode cL_isSound 29 = .ok (.istore 10, 2) := by decide +kernel
theorem dL_isSound_31 : decode cL_isSound 31 = .ok (.aload_n 0, 1) := by decide +kernel
theorem dL_isSound_32 : decode cL_isSound 32 = .ok (.iload 9, 2) := by decide +kernel
theorem dL_isSound_34 : decode cL_isSound 34 = .ok (.bipush 8, 2) := by decide +kernel
theorem dL_isSound_36 : decode cL_isSound 36 = .ok (.invokevirtual 84, 3) := by decide +kernel
theorem dL_isSound_39 : decode cL_isSound 39 = .ok (.istore 11, 2) := by decide +kernel
theorem dL_isSound_41 : decode cL_isSound 41 = .ok (.aload_n 0, 1) := by decide +kernel
theorem dL_isSound_42 : decode cL_isSound 42 = .ok (.iload 9, 2) := by decide +kernel
theorem dL_isSound_44 : decode cL_isSound 44 = .ok (.bipush 9, 2) := by decide +kernel
theorem dL_isSound_46 : decode cL_isSound 46 = .ok (.invokevirtual 84, 3) := by decide +kernel
theorem dL_isSound_49 : decode cL_isSound 49 = .ok (.istore 12, 2) := by decide +kernel
theorem dL_isSound_51 : decode cL_isSound 51 = .ok (.aload 7, 2) := by decide +kernel
theorem dL_isSound_53 : decode cL_isSound 53 = .ok (.iload 11, 2) := by decide +kernel
theorem dL_isSound_55 : decode cL_isSound 55 = .ok (.dup2, 1) := by decide +kernel
theorem dL_isSound_56 : decode cL_isSound 56 = .ok (.iaload, 1) := by decide +kernel
theorem dL_isSound_57 : decode cL_isSound 57 = .ok (.iconst 1, 1) := by decide +kernel
theorem dL_isSound_58 : decode cL_isSound 58 = .ok (.iadd, 1) := by decide +kernel
theorem dL_isSound_59 : decode cL_isSound 59 = .ok (.iastore, 1) := by decide +kernel
theorem dL_isSound_60 : decode cL_isSound 60 = .ok (.iload 8, 2) := by decide +kernel
theorem dL_isSound_62 : decode cL_isSound 62 = .ok (.iload 10, 2) := by decide +kernel
theorem dL_isSound_64 : decode cL_isSound 64 = .ok (.ifCond .ge 7, 3) := by decide +kernel
theorem dL_isSound_67 : decode cL_isSound 67 = .ok (.iconst 1, 1) := by decide +kernel
theorem dL_isSound_68 : decode cL_isSound 68 = .ok (.goto 4, 3) := by decide +kernel
theorem dL_isSound_71 : decode cL_isSound 71 = .ok (.iconst 0, 1) := by decide +kernel
theorem dL_isSound_72 : decode cL_isSound 72 = .ok (.iadd, 1) := by decide +kernel
theorem dL_isSound_73 : decode cL_isSound 73 = .ok (.istore 8, 2) := by decide +kernel
theorem dL_isSound_75 : decode cL_isSound 75 = .ok (.iload 10, 2) := by decide +kernel
theorem dL_isSound_77 : decode cL_isSound 77 = .ok (.ifCond .ge 7, 3) := by decide +kernel
theorem dL_isSound_80 : decode cL_isSound 80 = .ok (.iconst 1, 1) := by decide +kernel
theorem dL_isSound_81 : decode cL_isSound 81 = .ok (.goto 4, 3) := by decide +kernel
theorem dL_isSound_84 : decode cL_isSound 84 = .ok (.iconst 0, 1) := by decide +kernel
theorem dL_isSound_85 : decode cL_isSound 85 = .ok (.iload 11, 2) := by decide +kernel
theorem dL_isSound_87 : decode cL_isSound 87 = .ok (.iconst 1, 1) := by decide +kernel
theorem dL_isSound_88 : decode cL_isSound 88 = .ok (.if_icmp .ne 7, 3) := by decide +kernel
theorem dL_isSound_91 : decode cL_isSound 91 = .ok (.iconst 1, 1) := by decide +kernel
theorem dL_isSound_92 : decode cL_isSound 92 = .ok (.goto 4, 3) := by decide +kernel
theorem dL_isSound_95 : decode cL_isSound 95 = .ok (.iconst 0, 1) := by decide +kernel
theorem dL_isSound_96 : decode cL_isSound 96 = .ok (.if_icmp .ne 78, 3) := by decide +kernel
theorem dL_isSound_99 : decode cL_isSound 99 = .ok (.iload 11, 2) := by decide +kernel
theorem dL_isSound_101 : decode cL_isSound 101 = .ok (.ifCond .le 7, 3) := by decide +kernel
theorem dL_isSound_104 : decode cL_isSound 104 = .ok (.iconst 1, 1) := by decide +kernel
theorem dL_isSound_105 : decode cL_isSound 105 = .ok (.goto 4, 3) := by decide +kernel
theorem dL_isSound_108 : decode cL_isSound 108 = .ok (.iconst 0, 1) := by decide +kernel
theorem dL_isSound_109 : decode cL_isSound 109 = .ok (.iload 12, 2) := by decide +kernel
theorem dL_isSound_111 : decode cL_isSound 111 = .ok (.ifCond .ge 7, 3) := by decide +kernel
theorem dL_isSound_114 : decode cL_isSound 114 = .ok (.iconst 1, 1) := by decide +kernel
theorem dL_isSound_115 : decode cL_isSound 115 = .ok (.goto 4, 3) := by decide +kernel
theorem dL_isSound_118 : decode cL_isSound 118 = .ok (.iconst 0, 1) := by decide +kernel
theorem dL_isSound_119 : decode cL_isSound 119 = .ok (.if_icmp .ne 55, 3) := by decide +kernel
theorem dL_isSound_122 : decode cL_isSound 122 = .ok (.iload 12, 2) := by decide +kernel
theorem dL_isSound_124 : decode cL_isSound 124 = .ok (.ifCond .ge 7, 3) := by decide +kernel
theorem dL_isSound_127 : decode cL_isSound 127 = .ok (.iconst 1, 1) := by decide +kernel
theorem dL_isSound_128 : decode cL_isSound 128 = .ok (.goto 4, 3) := by decide +kernel
theorem dL_isSound_131 : decode cL_isSound 131 = .ok (.iconst 0, 1) := by decide +kernel
theorem dL_isSound_132 : decode cL_isSound 132 = .ok (.aload_n 0, 1) := by decide +kernel
theorem dL_isSound_133 : decode cL_isSound 133 = .ok (.iload 9, 2) := by decide +kernel
theorem dL_isSound_135 : decode cL_isSound 135 = .ok (.bipush 10, 2) := by decide +kernel
theorem dL_isSound_137 : decode cL_isSound 137 = .ok (.invokevirtual 84, 3) := by decide +kernel
theorem dL_isSound_140 : decode cL_isSound 140 = .ok (.ifCond .ge 7, 3) := by decide +kernel
theorem dL_isSound_143 : decode cL_isSound 143 = .ok (.iconst 1, 1) := by decide +kernel
theorem dL_isSound_144 : decode cL_isSound 144 = .ok (.goto 4, 3) := by decide +kernel
theorem dL_isSound_147 : decode cL_isSound 147 = .ok (.iconst 0, 1) := by decide +kernel
theorem dL_isSound_148 : decode cL_isSound 148 = .ok (.if_icmp .ne 26, 3) := by decide +kernel
theorem dL_isSound_151 : decode cL_isSound 151 = .ok (.iload 12, 2) := by decide +kernel
theorem dL_isSound_153 : decode cL_isSound 153 = .ok (.bipush 30, 2) := by decide +kernel
theorem dL_isSound_155 : decode cL_isSound 155 = .ok (.if_icmp .gt 19, 3) := by decide +kernel
theorem dL_isSound_158 : decode cL_isSound 158 = .ok (.iload 10, 2) := by decide +kernel
theorem dL_isSound_160 : decode cL_isSound 160 = .ok (.ifCond .ge 16, 3) := by decide +kernel
theorem dL_isSound_163 : decode cL_isSound 163 = .ok (.aload_n 0, 1) := by decide +kernel
theorem dL_isSound_164 : decode cL_isSound 164 = .ok (.iload 9, 2) := by decide +kernel
theorem dL_isSound_166 : decode cL_isSound 166 = .ok (.bipush 7, 2) := by decide +kernel
theorem dL_isSound_168 : decode cL_isSound 168 = .ok (.invokevirtual 84, 3) := by decide +kernel
theorem dL_isSound_171 : decode cL_isSound 171 = .ok (.ifCond .lt 5, 3) := by decide +kernel
theorem dL_isSound_174 : decode cL_isSound 174 = .ok (.iconst 0, 1) := by decide +kernel
theorem dL_isSound_175 : decode cL_isSound 175 = .ok (.ireturn, 1) := by decide +kernel
theorem dL_isSound_176 : decode cL_isSound 176 = .ok (.iload 6, 2) := by decide +kernel
theorem dL_isSound_178 : decode cL_isSound 178 = .ok (.iload 11, 2) := by decide +kernel
theorem dL_isSound_180 : decode cL_isSound 180 = .ok (.ifCond .ne 21, 3) := by decide +kernel
theorem dL_isSound_183 : decode cL_isSound 183 = .ok (.aload 4, 2) := by decide +kernel
theorem dL_isSound_185 : decode cL_isSound 185 = .ok (.aload_n 0, 1) := by decide +kernel
theorem dL_isSound_186 : decode cL_isSound 186 = .ok (.iload 9, 2) := by decide +kernel
theorem dL_isSound_188 : decode cL_isSound 188 = .ok (.iconst 0, 1) := by decide +kernel
theorem dL_isSound_189 : decode cL_isSound 189 = .ok (.invokevirtual 84, 3) := by decide +kernel
theorem dL_isSound_192 : decode cL_isSound 192 = .ok (.iaload, 1) := by decide +kernel
theorem dL_isSound_193 : decode cL_isSound 193 = .ok (.iload 12, 2) := by decide +kernel
theorem dL_isSound_195 : decode cL_isSound 195 = .ok (.iconst 2, 1) := by decide +kernel
theorem dL_isSound_196 : decode cL_isSound 196 = .ok (.idiv, 1) := by decide +kernel
theorem dL_isSound_197 : decode cL_isSound 197 = .ok (.isub, 1) := by decide +kernel
theorem dL_isSound_198 : decode cL_isSound 198 = .ok (.goto 16, 3) := by decide +kernel
theorem dL_isSound_201 : decode cL_isSound 201 = .ok (.iload 11, 2) := by decide +kernel
theorem dL_isSound_203 : decode cL_isSound 203 = .ok (.iconst 2, 1) := by decide +kernel
theorem dL_isSound_204 : decode cL_isSound 204 = .ok (.if_icmp .ne 7, 3) := by decide +kernel
theorem dL_isSound_207 : decode cL_isSound 207 = .ok (.iconst 0, 1) := by decide +kernel
theorem dL_isSound_208 : decode cL_isSound 208 = .ok (.goto 6, 3) := by decide +kernel
theorem dL_isSound_211 : decode cL_isSound 211 = .ok (.iload 5, 2) := by decide +kernel
theorem dL_isSound_213 : decode cL_isSound 213 = .ok (.ineg, 1) := by decide +kernel
theorem dL_isSound_214 : decode cL_isSound 214 = .ok (.iadd, 1) := by decide +kernel
theorem dL_isSound_215 : decode cL_isSound 215 = .ok (.istore 6, 2) := by decide +kernel
theorem dL_isSound_217 : decode cL_isSound 217 = .ok (.iload 11, 2) := by decide +kernel
theorem dL_isSound_219 : decode cL_isSound 219 = .ok (.ifCond .ne 34, 3) := by decide +kernel
theorem dL_isSound_222 : decode cL_isSound 222 = .ok (.aload_n 0, 1) := by decide +kernel
theorem dL_isSound_223 : decode cL_isSound 223 = .ok (.iload 9, 2) := by decide +kernel
theorem dL_isSound_225 : decode cL_isSound 225 = .ok (.bipush 10, 2) := by decide +kernel
theorem dL_isSound_227 : decode cL_isSound 227 = .ok (.invokevirtual 84, 3) := by decide +kernel
theorem dL_isSound_230 : decode cL_isSound 230 = .ok (.aload_n 0, 1) := by decide +kernel
theorem dL_isSound_231 : decode cL_isSound 231 = .ok (.iload 9, 2) := by decide +kernel
theorem dL_isSound_233 : decode cL_isSound 233 = .ok (.iconst 4, 1) := by decide +kernel
theorem dL_isSound_234 : decode cL_isSound 234 = .ok (.invokevirtual 84, 3) := by decide +kernel
theorem dL_isSound_237 : decode cL_isSound 237 = .ok (.iload 12, 2) := by decide +kernel
theorem dL_isSound_239 : decode cL_isSound 239 = .ok (.iadd, 1) := by decide +kernel
theorem dL_isSound_240 : decode cL_isSound 240 = .ok (.aload_n 0, 1) := by decide +kernel
theorem dL_isSound_241 : decode cL_isSound 241 = .ok (.iload 9, 2) := by decide +kernel
theorem dL_isSound_243 : decode cL_isSound 243 = .ok (.iconst 5, 1) := by decide +kernel
theorem dL_isSound_244 : decode cL_isSound 244 = .ok (.invokevirtual 84, 3) := by decide +kernel
theorem dL_isSound_247 : decode cL_isSound 247 = .ok (.iadd, 1) := by decide +kernel
theorem dL_isSound_248 : decode cL_isSound 248 = .ok (.if_icmp .eq 5, 3) := by decide +kernel
theorem dL_isSound_251 : decode cL_isSound 251 = .ok (.iconst 0, 1) := by decide +kernel
theorem dL_isSound_252 : decode cL_isSound 252 = .ok (.ireturn, 1) := by decide +kernel
theorem dL_isSound_253 : decode cL_isSound 253 = .ok (.iinc 9 1, 3) := by decide +kernel
theorem dL_isSound_256 : decode cL_isSound 256 = .ok (.goto (-241), 3) := by decide +kernel
theorem dL_isSound_259 : decode cL_isSound 259 = .ok (.iconst 1, 1) := by decide +kernel
theorem dL_isSound_260 : decode cL_isSound 260 = .ok (.istore 9, 2) := by decide +kernel
theorem dL_isSound_262 : decode cL_isSound 262 = .ok (.iload 9, 2) := by decide +kernel
theorem dL_isSound_264 : decode cL_isSound 264 = .ok (.bipush 7, 2) := by decide +kernel
theorem dL_isSound_266 : decode cL_isSound 266 = .ok (.if_icmp .ge 25, 3) := by decide +kernel
theorem dL_isSound_269 : decode cL_isSound 269 = .ok (.aload_n 0, 1) := by decide +kernel
theorem dL_isSound_270 : decode cL_isSound 270 = .ok (.iload 9, 2) := by decide +kernel
theorem dL_isSound_272 : decode cL_isSound 272 = .ok (.invokevirtual 146, 3) := by decide +kernel
theorem dL_isSound_275 : decode cL_isSound 275 = .ok (.aload 7, 2) := by decide +kernel
theorem dL_isSound_277 : decode cL_isSound 277 = .ok (.iload 9, 2) := by decide +kernel
theorem dL_isSound_279 : decode cL_isSound 279 = .ok (.iaload, 1) := by decide +kernel
theorem dL_isSound_280 : decode cL_isSound 280 = .ok (.if_icmp .eq 5, 3) := by decide +kernel
theorem dL_isSound_283 : decode cL_isSound 283 = .ok (.iconst 0, 1) := by decide +kernel
theorem dL_isSound_284 : decode cL_isSound 284 = .ok (.ireturn, 1) := by decide +kernel
theorem dL_isSound_285 : decode cL_isSound 285 = .ok (.iinc 9 1, 3) := by decide +kernel
theorem dL_isSound_288 : decode cL_isSound 288 = .ok (.goto (-26), 3) := by decide +kernel
theorem dL_isSound_291 : decode cL_isSound 291 = .ok (.aload_n 0, 1) := by decide +kernel
theorem dL_isSound_292 : decode cL_isSound 292 = .ok (.iconst 4, 1) := by decide +kernel
theorem dL_isSound_293 : decode cL_isSound 293 = .ok (.invokevirtual 34, 3) := by decide +kernel
theorem dL_isSound_296 : decode cL_isSound 296 = .ok (.aload 7, 2) := by decide +kernel
theorem dL_isSound_298 : decode cL_isSound 298 = .ok (.iconst 0, 1) := by decide +kernel
theorem dL_isSound_299 : decode cL_isSound 299 = .ok (.iaload, 1) := by decide +kernel
theorem dL_isSound_300 : decode cL_isSound 300 = .ok (.if_icmp .ne 23, 3) := by decide +kernel
theorem dL_isSound_303 : decode cL_isSound 303 = .ok (.aload_n 0, 1) := by decide +kernel
theorem dL_isSound_304 : decode cL_isSound 304 = .ok (.iconst 5, 1) := by decide +kernel
theorem dL_isSound_305 : decode cL_isSound 305 = .ok (.invokevirtual 34, 3) := by decide +kernel
theorem dL_isSound_308 : decode cL_isSound 308 = .ok (.iload 6, 2) := by decide +kernel
theorem dL_isSound_310 : decode cL_isSound 310 = .ok (.if_icmp .ne 13, 3) := by decide +kernel
theorem dL_isSound_313 : decode cL_isSound 313 = .ok (.aload_n 0, 1) := by decide +kernel
theorem dL_isSound_314 : decode cL_isSound 314 = .ok (.iconst 3, 1) := by decide +kernel
theorem dL_isSound_315 : decode cL_isSound 315 = .ok (.invokevirtual 34, 3) := by decide +kernel
theorem dL_isSound_318 : decode cL_isSound 318 = .ok (.iload 8, 2) := by decide +kernel
theorem dL_isSound_320 : decode cL_isSound 320 = .ok (.if_icmp .eq 5, 3) := by decide +kernel
theorem dL_isSound_323 : decode cL_isSound 323 = .ok (.iconst 0, 1) := by decide +kernel
theorem dL_isSound_324 : decode cL_isSound 324 = .ok (.ireturn, 1) := by decide +kernel
theorem dL_isSound_325 : decode cL_isSound 325 = .ok (.iconst 0, 1) := by decide +kernel
theorem dL_isSound_326 : decode cL_isSound 326 = .ok (.istore 9, 2) := by decide +kernel
theorem dL_isSound_328 : decode cL_isSound 328 = .ok (.iconst 0, 1) := by decide +kernel
theorem dL_isSound_329 : decode cL_isSound 329 = .ok (.istore 10, 2) := by decide +kernel
theorem dL_isSound_331 : decode cL_isSound 331 = .ok (.iconst 4, 1) := by decide +kernel
theorem dL_isSound_332 : decode cL_isSound 332 = .ok (.newarray .int, 2) := by decide +kernel
theorem dL_isSound_334 : decode cL_isSound 334 = .ok (.astore 11, 2) := by decide +kernel
theorem dL_isSound_336 : decode cL_isSound 336 = .ok (.iconst 4, 1) := by decide +kernel
theorem dL_isSound_337 : decode cL_isSound 337 = .ok (.newarray .int, 2) := by decide +kernel
theorem dL_isSound_339 : decode cL_isSound 339 = .ok (.astore 12, 2) := by decide +kernel
theorem dL_isSound_341 : decode cL_isSound 341 = .ok (.bipush 16, 2) := by decide +kernel
theorem dL_isSound_343 : decode cL_isSound 343 = .ok (.anewarray 149, 3) := by decide +kernel
theorem dL_isSound_346 : decode cL_isSound 346 = .ok (.astore 13, 2) := by decide +kernel
theorem dL_isSound_348 : decode cL_isSound 348 = .ok (.iconst 0, 1) := by decide +kernel
theorem dL_isSound_349 : decode cL_isSound 349 = .ok (.istore 14, 2) := by decide +kernel
theorem dL_isSound_351 : decode cL_isSound 351 = .ok (.iconst 0, 1) := by decide +kernel
theorem dL_isSound_352 : decode cL_isSound 352 = .ok (.istore 15, 2) := by decide +kernel
theorem dL_isSound_354 : decode cL_isSound 354 = .ok (.iload 15, 2) := by decide +kernel
theorem dL_isSound_356 : decode cL_isSound 356 = .ok (.aload_n 0, 1) := by decide +kernel
theorem dL_isSound_357 : decode cL_isSound 357 = .ok (.iconst 1, 1) := by decide +kernel
theorem dL_isSound_358 : decode cL_isSound 358 = .ok (.invokevirtual 34, 3) := by decide +kernel
theorem dL_isSound_361 : decode cL_isSound 361 = .ok (.if_icmp .ge 506, 3) := by decide +kernel
theorem dL_isSound_364 : decode cL_isSound 364 = .ok (.aload_n 0, 1) := by decide +kernel
theorem dL_isSound_365 : decode cL_isSound 365 = .ok (.iload 15, 2) := by decide +kernel
theorem dL_isSound_367 : decode cL_isSound 367 = .ok (.iconst 1, 1) := by decide +kernel
theorem dL_isSound_368 : decode cL_isSound 368 = .ok (.invokevirtual 49, 3) := by decide +kernel
theorem dL_isSound_371 : decode cL_isSound 371 = .ok (.istore 16, 2) := by decide +kernel
theorem dL_isSound_373 : decode cL_isSound 373 = .ok (.iload 9, 2) := by decide +kernel
theorem dL_isSound_375 : decode cL_isSound 375 = .ok (.iload 16, 2) := by decide +kernel
theorem dL_isSound_377 : decode cL_isSound 377 = .ok (.ifCond .le 7, 3) := by decide +kernel
theorem dL_isSound_380 : decode cL_isSound 380 = .ok (.iconst 1, 1) := by decide +kernel
theorem dL_isSound_381 : decode cL_isSound 381 = .ok (.goto 4, 3) := by decide +kernel
theorem dL_isSound_384 : decode cL_isSound 384 = .ok (.iconst 0, 1) := by decide +kernel
theorem dL_isSound_385 : decode cL_isSound 385 = .ok (.iadd, 1) := by decide +kernel
theorem dL_isSound_386 : decode cL_isSound 386 = .ok (.istore 9, 2) := by decide +kernel
theorem dL_isSound_388 : decode cL_isSound 388 = .ok (.iload 10, 2) := by decide +kernel
theorem dL_isSound_390 : decode cL_isSound 390 = .ok (.iload 16, 2) := by decide +kernel
theorem dL_isSound_392 : decode cL_isSound 392 = .ok (.iadd, 1) := by decide +kernel
theorem dL_isSound_393 : decode cL_isSound 393 = .ok (.istore 10, 2) := by decide +kernel
theorem dL_isSound_395 : decode cL_isSound 395 = .ok (.iconst 0, 1) := by decide +kernel
theorem dL_isSound_396 : decode cL_isSound 396 = .ok (.istore 17, 2) := by decide +kernel
theorem dL_isSound_398 : decode cL_isSound 398 = .ok (.iload 17, 2) := by decide +kernel
theorem dL_isSound_400 : decode cL_isSound 400 = .ok (.iload 16, 2) := by decide +kernel
theorem dL_isSound_402 : decode cL_isSound 402 = .ok (.if_icmp .ge 61, 3) := by decide +kernel
theorem dL_isSound_405 : decode cL_isSound 405 = .ok (.aload_n 0, 1) := by decide +kernel
theorem dL_isSound_406 : decode cL_isSound 406 = .ok (.aload_n 0, 1) := by decide +kernel
theorem dL_isSound_407 : decode cL_isSound 407 = .ok (.iload 15, 2) := by decide +kernel
theorem dL_isSound_409 : decode cL_isSound 409 = .ok (.iload 17, 2) := by decide +kernel
theorem dL_isSound_411 : decode cL_isSound 411 = .ok (.invokevirtual 115, 3) := by decide +kernel
theorem dL_isSound_414 : decode cL_isSound 414 = .ok (.bipush 6, 2) := by decide +kernel
theorem dL_isSound_416 : decode cL_isSound 416 = .ok (.invokevirtual 84, 3) := by decide +kernel
theorem dL_isSound_419 : decode cL_isSound 419 = .ok (.iload 15, 2) := by decide +kernel
theorem dL_isSound_421 : decode cL_isSound 421 = .ok (.if_icmp .ne 34, 3) := by decide +kernel
theorem dL_isSound_424 : decode cL_isSound 424 = .ok (.iload 17, 2) := by decide +kernel
theorem dL_isSound_426 : decode cL_isSound 426 = .ok (.ifCond .le 31, 3) := by decide +kernel
theorem dL_isSound_429 : decode cL_isSound 429 = .ok (.aload_n 0, 1) := by decide +kernel
theorem dL_isSound_430 : decode cL_isSound 430 = .ok (.aload_n 1, 1) := by decide +kernel
theorem dL_isSound_431 : decode cL_isSound 431 = .ok (.aload_n 0, 1) := by decide +kernel
theorem dL_isSound_432 : decode cL_isSound 432 = .ok (.iload 15, 2) := by decide +kernel
theorem dL_isSound_434 : decode cL_isSound 434 = .ok (.iload 17, 2) := by decide +kernel
theorem dL_isSound_436 : decode cL_isSound 436 = .ok (.invokevirtual 115, 3) := by decide +kernel
theorem dL_isSound_439 : decode cL_isSound 439 = .ok (.aload_n 0, 1) := by decide +kernel
theorem dL_isSound_440 : decode cL_isSound 440 = .ok (.iload 15, 2) := by decide +kernel
theorem dL_isSound_442 : decode cL_isSound 442 = .ok (.iload 17, 2) := by decide +kernel
theorem dL_isSound_444 : decode cL_isSound 444 = .ok (.iconst 1, 1) := by decide +kernel
theorem dL_isSound_445 : decode cL_isSound 445 = .ok (.isub, 1) := by decide +kernel
theorem dL_isSound_446 : decode cL_isSound 446 = .ok (.invokevirtual 115, 3) := by decide +kernel
theorem dL_isSound_449 : decode cL_isSound 449 = .ok (.invokestatic 118, 3) := by decide +kernel
theorem dL_isSound_452 : decode cL_isSound 452 = .ok (.ifCond .ne 5, 3) := by decide +kernel
theorem dL_isSound_455 : decode cL_isSound 455 = .ok (.iconst 0, 1) := by decide +kernel
theorem dL_isSound_456 : decode cL_isSound 456 = .ok (.ireturn, 1) := by decide +kernel
theorem dL_isSound_457 : decode cL_isSound 457 = .ok (.iinc 17 1, 3) := by decide +kernel
theorem dL_isSound_460 : decode cL_isSound 460 = .ok (.goto (-62), 3) := by decide +kernel
theorem dL_isSound_463 : decode cL_isSound 463 = .ok (.aload_n 0, 1) := by decide +kernel
theorem dL_isSound_464 : decode cL_isSound 464 = .ok (.iload 15, 2) := by decide +kernel
theorem dL_isSound_466 : decode cL_isSound 466 = .ok (.iload 16, 2) := by decide +kernel
theorem dL_isSound_468 : decode cL_isSound 468 = .ok (.invokevirtual 115, 3) := by decide +kernel
theorem dL_isSound_471 : decode cL_isSound 471 = .ok (.iconst (-1), 1) := by decide +kernel
theorem dL_isSound_472 : decode cL_isSound 472 = .ok (.if_icmp .ne 54, 3) := by decide +kernel
theorem dL_isSound_475 : decode cL_isSound 475 = .ok (.aload_n 0, 1) := by decide +kernel
theorem dL_isSound_476 : decode cL_isSound 476 = .ok (.iload 15, 2) := by decide +kernel
theorem dL_isSound_478 : decode cL_isSound 478 = .ok (.iconst 4, 1) := by decide +kernel
theorem dL_isSound_479 : decode cL_isSound 479 = .ok (.invokevirtual 49, 3) := by decide +kernel
theorem dL_isSound_482 : decode cL_isSound 482 = .ok (.iconst 1, 1) := by decide +kernel
theorem dL_isSound_483 : decode cL_isSound 483 = .ok (.if_icmp .ne 7, 3) := by decide +kernel
theorem dL_isSound_486 : decode cL_isSound 486 = .ok (.iconst 1, 1) := by decide +kernel
theorem dL_isSound_487 : decode cL_isSound 487 = .ok (.goto 4, 3) := by decide +kernel
theorem dL_isSound_490 : decode cL_isSound 490 = .ok (.iconst 0, 1) := by decide +kernel
theorem dL_isSound_491 : decode cL_isSound 491 = .ok (.aload_n 0, 1) := by decide +kernel
theorem dL_isSound_492 : decode cL_isSound 492 = .ok (.iload 15, 2) := by decide +kernel
theorem dL_isSound_494 : decode cL_isSound 494 = .ok (.iconst 5, 1) := by decide +kernel
theorem dL_isSound_495 : decode cL_isSound 495 = .ok (.invokevirtual 49, 3) := by decide +kernel
theorem dL_isSound_498 : decode cL_isSound 498 = .ok (.ifCond .ge 7, 3) := by decide +kernel
theorem dL_isSound_501 : decode cL_isSound 501 = .ok (.iconst 1, 1) := by decide +kernel
theorem dL_isSound_502 : decode cL_isSound 502 = .ok (.goto 4, 3) := by decide +kernel
theorem dL_isSound_505 : decode cL_isSound 505 = .ok (.iconst 0, 1) := by decide +kernel
theorem dL_isSound_506 : decode cL_isSound 506 = .ok (.if_icmp .ne 20, 3) := by decide +kernel
theorem dL_isSound_509 : decode cL_isSound 509 = .ok (.aload_n 0, 1) := by decide +kernel
theorem dL_isSound_510 : decode cL_isSound 510 = .ok (.iload 15, 2) := by decide +kernel
theorem dL_isSound_512 : decode cL_isSound 512 = .ok (.iconst 5, 1) := by decide +kernel
theorem dL_isSound_513 : decode cL_isSound 513 = .ok (.invokevirtual 49, 3) := by decide +kernel
theorem dL_isSound_516 : decode cL_isSound 516 = .ok (.aload_n 0, 1) := by decide +kernel
theorem dL_isSound_517 : decode cL_isSound 517 = .ok (.iload 15, 2) := by decide +kernel
theorem dL_isSound_519 : decode cL_isSound 519 = .ok (.iconst 0, 1) := by decide +kernel
theorem dL_isSound_520 : decode cL_isSound 520 = .ok (.invokevirtual 49, 3) := by decide +kernel
theorem dL_isSound_523 : decode cL_isSound 523 = .ok (.if_icmp .le 5, 3) := by decide +kernel
theorem dL_isSound_526 : decode cL_isSound 526 = .ok (.iconst 0, 1) := by decide +kernel
theorem dL_isSound_527 : decode cL_isSound 527 = .ok (.ireturn, 1) := by decide +kernel
theorem dL_isSound_528 : decode cL_isSound 528 = .ok (.iconst 0, 1) := by decide +kernel
theorem dL_isSound_529 : decode cL_isSound 529 = .ok (.istore 17, 2) := by decide +kernel
theorem dL_isSound_531 : decode cL_isSound 531 = .ok (.iconst 0, 1) := by decide +kernel
theorem dL_isSound_532 : decode cL_isSound 532 = .ok (.istore 18, 2) := by decide +kernel
theorem dL_isSound_534 : decode cL_isSound 534 = .ok (.iload 18, 2) := by decide +kernel
theorem dL_isSound_536 : decode cL_isSound 536 = .ok (.aload_n 0, 1) := by decide +kernel
theorem dL_isSound_537 : decode cL_isSound 537 = .ok (.iload 15, 2) := by decide +kernel
theorem dL_isSound_539 : decode cL_isSound 539 = .ok (.iconst 3, 1) := by decide +kernel
theorem dL_isSound_540 : decode cL_isSound 540 = .ok (.invokevirtual 49, 3) := by decide +kernel
theorem dL_isSound_543 : decode cL_isSound 543 = .ok (.if_icmp .ge 299, 3) := by decide +kernel
theorem dL_isSound_546 : decode cL_isSound 546 = .ok (.aload_n 0, 1) := by decide +kernel
theorem dL_isSound_547 : decode cL_isSound 547 = .ok (.iload 15, 2) := by decide +kernel
theorem dL_isSound_549 : decode cL_isSound 549 = .ok (.iload 18, 2) := by decide +kernel
theorem dL_isSound_551 : decode cL_isSound 551 = .ok (.iconst 0, 1) := by decide +kernel
theorem dL_isSound_552 : decode cL_isSound 552 = .ok (.invokevirtual 133, 3) := by decide +kernel
theorem dL_isSound_555 : decode cL_isSound 555 = .ok (.aload_n 0, 1) := by decide +kernel
theorem dL_isSound_556 : decode cL_isSound 556 = .ok (.iload 15, 2) := by decide +kernel
theorem dL_isSound_558 : decode cL_isSound 558 = .ok (.iload 17, 2) := by decide +kernel
theorem dL_isSound_560 : decode cL_isSound 560 = .ok (.invokevirtual 115, 3) := by decide +kernel
theorem dL_isSound_563 : decode cL_isSound 563 = .ok (.if_icmp .eq 5, 3) := by decide +kernel
theorem dL_isSound_566 : decode cL_isSound 566 = .ok (.iconst 0, 1) := by decide +kernel
theorem dL_isSound_567 : decode cL_isSound 567 = .ok (.ireturn, 1) := by decide +kernel
theorem dL_isSound_568 : decode cL_isSound 568 = .ok (.iload 17, 2) := by decide +kernel
theorem dL_isSound_570 : decode cL_isSound 570 = .ok (.aload_n 0, 1) := by decide +kernel
theorem dL_isSound_571 : decode cL_isSound 571 = .ok (.iload 15, 2) := by decide +kernel
theorem dL_isSound_573 : decode cL_isSound 573 = .ok (.iload 18, 2) := by decide +kernel
theorem dL_isSound_575 : decode cL_isSound 575 = .ok (.iconst 2, 1) := by decide +kernel
theorem dL_isSound_576 : decode cL_isSound 576 = .ok (.invokevirtual 133, 3) := by decide +kernel
theorem dL_isSound_579 : decode cL_isSound 579 = .ok (.iadd, 1) := by decide +kernel
theorem dL_isSound_580 : decode cL_isSound 580 = .ok (.istore 17, 2) := by decide +kernel
theorem dL_isSound_582 : decode cL_isSound 582 = .ok (.aload_n 0, 1) := by decide +kernel
theorem dL_isSound_583 : decode cL_isSound 583 = .ok (.iload 15, 2) := by decide +kernel
theorem dL_isSound_585 : decode cL_isSound 585 = .ok (.iload 18, 2) := by decide +kernel
theorem dL_isSound_587 : decode cL_isSound 587 = .ok (.iconst 1, 1) := by decide +kernel
theorem dL_isSound_588 : decode cL_isSound 588 = .ok (.invokevirtual 133, 3) := by decide +kernel
theorem dL_isSound_591 : decode cL_isSound 591 = .ok (.istore 19, 2) := by decide +kernel
theorem dL_isSound_593 : decode cL_isSound 593 = .ok (.iload 19, 2) := by decide +kernel
theorem dL_isSound_595 : decode cL_isSound 595 = .ok (.aload_n 0, 1) := by decide +kernel
theorem dL_isSound_596 : decode cL_isSound 596 = .ok (.iload 15, 2) := by decide +kernel
theorem dL_isSound_598 : decode cL_isSound 598 = .ok (.iload 17, 2) := by decide +kernel
theorem dL_isSound_600 : decode cL_isSound 600 = .ok (.iconst 1, 1) := by decide +kernel
theorem dL_isSound_601 : decode cL_isSound 601 = .ok (.isub, 1) := by decide +kernel
theorem dL_isSound_602 : decode cL_isSound 602 = .ok (.invokevirtual 115, 3) := by decide +kernel
theorem dL_isSound_605 : decode cL_isSound 605 = .ok (.if_icmp .ne 71, 3) := by decide +kernel
theorem dL_isSound_608 : decode cL_isSound 608 = .ok (.iload 17, 2) := by decide +kernel
theorem dL_isSound_610 : decode cL_isSound 610 = .ok (.iload 16, 2) := by decide +kernel
theorem dL_isSound_612 : decode cL_isSound 612 = .ok (.if_icmp .ge 15, 3) := by decide +kernel
theorem dL_isSound_615 : decode cL_isSound 615 = .ok (.aload_n 2, 1) := by decide +kernel
theorem dL_isSound_616 : decode cL_isSound 616 = .ok (.aload_n 0, 1) := by decide +kernel
theorem dL_isSound_617 : decode cL_isSound 617 = .ok (.iload 19, 2) := by decide +kernel
theorem dL_isSound_619 : decode cL_isSound 619 = .ok (.iconst 2, 1) := by decide +kernel
theorem dL_isSound_620 : decode cL_isSound 620 = .ok (.invokevirtual 84, 3) := by decide +kernel
theorem dL_isSound_623 : decode cL_isSound 623 = .ok (.baload, 1) := by decide +kernel
theorem dL_isSound_624 : decode cL_isSound 624 = .ok (.ifCond .eq 52, 3) := by decide +kernel
theorem dL_isSound_627 : decode cL_isSound 627 = .ok (.aload_n 0, 1) := by decide +kernel
theorem dL_isSound_628 : decode cL_isSound 628 = .ok (.iload 15, 2) := by decide +kernel
theorem dL_isSound_630 : decode cL_isSound 630 = .ok (.iload 18, 2) := by decide +kernel
theorem dL_isSound_632 : decode cL_isSound 632 = .ok (.iconst 3, 1) := by decide +kernel
theorem dL_isSound_633 : decode cL_isSound 633 = .ok (.invokevirtual 133, 3) := by decide +kernel
theorem dL_isSound_636 : decode cL_isSound 636 = .ok (.aload_n 0, 1) := by decide +kernel
theorem dL_isSound_637 : decode cL_isSound 637 = .ok (.iload 19, 2) := by decide +kernel
theorem dL_isSound_639 : decode cL_isSound 639 = .ok (.iconst 4, 1) := by decide +kernel
theorem dL_isSound_640 : decode cL_isSound 640 = .ok (.invokevirtual 84, 3) := by decide +kernel
theorem dL_isSound_643 : decode cL_isSound 643 = .ok (.aload_n 0, 1) := by decide +kernel
theorem dL_isSound_644 : decode cL_isSound 644 = .ok (.aload_n 0, 1) := by decide +kernel
theorem dL_isSound_645 : decode cL_isSound 645 = .ok (.iload 15, 2) := by decide +kernel
theorem dL_isSound_647 : decode cL_isSound 647 = .ok (.iload 18, 2) := by decide +kernel
theorem dL_isSound_649 : decode cL_isSound 649 = .ok (.iconst 0, 1) := by decide +kernel
theorem dL_isSound_650 : decode cL_isSound 650 = .ok (.invokevirtual 133, 3) := by decide +kernel
theorem dL_isSound_653 : decode cL_isSound 653 = .ok (.iconst 3, 1) := by decide +kernel
theorem dL_isSound_654 : decode cL_isSound 654 = .ok (.invokevirtual 84, 3) := by decide +kernel
theorem dL_isSound_657 : decode cL_isSound 657 = .ok (.isub, 1) := by decide +kernel
theorem dL_isSound_658 : decode cL_isSound 658 = .ok (.if_icmp .ne 18, 3) := by decide +kernel
theorem dL_isSound_661 : decode cL_isSound 661 = .ok (.aload_n 0, 1) := by decide +kernel
theorem dL_isSound_662 : decode cL_isSound 662 = .ok (.iload 15, 2) := by decide +kernel
theorem dL_isSound_664 : decode cL_isSound 664 = .ok (.iload 18, 2) := by decide +kernel
theorem dL_isSound_666 : decode cL_isSound 666 = .ok (.iconst 3, 1) := by decide +kernel
theorem dL_isSound_667 : decode cL_isSound 667 = .ok (.invokevirtual 133, 3) := by decide +kernel
theorem dL_isSound_670 : decode cL_isSound 670 = .ok (.sipush 600, 3) := by decide +kernel
theorem dL_isSound_673 : decode cL_isSound 673 = .ok (.if_icmp .le 5, 3) := by decide +kernel
theorem dL_isSound_676 : decode cL_isSound 676 = .ok (.iconst 0, 1) := by decide +kernel
theorem dL_isSound_677 : decode cL_isSound 677 = .ok (.ireturn, 1) := by decide +kernel
theorem dL_isSound_678 : decode cL_isSound 678 = .ok (.aload_n 0, 1) := by decide +kernel
theorem dL_isSound_679 : decode cL_isSound 679 = .ok (.iload 15, 2) := by decide +kernel
theorem dL_isSound_681 : decode cL_isSound 681 = .ok (.iload 18, 2) := by decide +kernel
theorem dL_isSound_683 : decode cL_isSound 683 = .ok (.iconst 4, 1) := by decide +kernel
theorem dL_isSound_684 : decode cL_isSound 684 = .ok (.invokevirtual 133, 3) := by decide +kernel
theorem dL_isSound_687 : decode cL_isSound 687 = .ok (.istore 20, 2) := by decide +kernel
theorem dL_isSound_689 : decode cL_isSound 689 = .ok (.iload 20, 2) := by decide +kernel
theorem dL_isSound_691 : decode cL_isSound 691 = .ok (.ifCond .ge 6, 3) := by decide +kernel
theorem dL_isSound_694 : decode cL_isSound 694 = .ok (.goto 142, 3) := by decide +kernel
theorem dL_isSound_697 : decode cL_isSound 697 = .ok (.aload 13, 2) := by decide +kernel
theorem dL_isSound_699 : decode cL_isSound 699 = .ok (.iload 14, 2) := by decide +kernel
theorem dL_isSound_701 : decode cL_isSound 701 = .ok (.iconst 3, 1) := by decide +kernel
theorem dL_isSound_702 : decode cL_isSound 702 = .ok (.newarray .int, 2) := by decide +kernel
theorem dL_isSound_704 : decode cL_isSound 704 = .ok (.dup, 1) := by decide +kernel
theorem dL_isSound_705 : decode cL_isSound 705 = .ok (.iconst 0, 1) := by decide +kernel
theorem dL_isSound_706 : decode cL_isSound 706 = .ok (.iload 20, 2) := by decide +kernel
theorem dL_isSound_708 : decode cL_isSound 708 = .ok (.iastore, 1) := by decide +kernel
theorem dL_isSound_709 : decode cL_isSound 709 = .ok (.dup, 1) := by decide +kernel
theorem dL_isSound_710 : decode cL_isSound 710 = .ok (.iconst 1, 1) := by decide +kernel
theorem dL_isSound_711 : decode cL_isSound 711 = .ok (.aload_n 0, 1) := by decide +kernel
theorem dL_isSound_712 : decode cL_isSound 712 = .ok (.aload_n 0, 1) := by decide +kernel
theorem dL_isSound_713 : decode cL_isSound 713 = .ok (.iload 15, 2) := by decide +kernel
theorem dL_isSound_715 : decode cL_isSound 715 = .ok (.iload 18, 2) := by decide +kernel
theorem dL_isSound_717 : decode cL_isSound 717 = .ok (.iconst 0, 1) := by decide +kernel
theorem dL_isSound_718 : decode cL_isSound 718 = .ok (.invokevirtual 133, 3) := by decide +kernel
theorem dL_isSound_721 : decode cL_isSound 721 = .ok (.iconst 3, 1) := by decide +kernel
theorem dL_isSound_722 : decode cL_isSound 722 = .ok (.invokevirtual 84, 3) := by decide +kernel
theorem dL_isSound_725 : decode cL_isSound 725 = .ok (.iastore, 1) := by decide +kernel
theorem dL_isSound_726 : decode cL_isSound 726 = .ok (.dup, 1) := by decide +kernel
theorem dL_isSound_727 : decode cL_isSound 727 = .ok (.iconst 2, 1) := by decide +kernel
theorem dL_isSound_728 : decode cL_isSound 728 = .ok (.aload_n 0, 1) := by decide +kernel
theorem dL_isSound_729 : decode cL_isSound 729 = .ok (.iload 19, 2) := by decide +kernel
theorem dL_isSound_731 : decode cL_isSound 731 = .ok (.iconst 4, 1) := by decide +kernel
theorem dL_isSound_732 : decode cL_isSound 732 = .ok (.invokevirtual 84, 3) := by decide +kernel
theorem dL_isSound_735 : decode cL_isSound 735 = .ok (.iastore, 1) := by decide +kernel
theorem dL_isSound_736 : decode cL_isSound 736 = .ok (.aastore, 1) := by decide +kernel
theorem dL_isSound_737 : decode cL_isSound 737 = .ok (.iconst 0, 1) := by decide +kernel
theorem dL_isSound_738 : decode cL_isSound 738 = .ok (.istore 21, 2) := by decide +kernel
theorem dL_isSound_740 : decode cL_isSound 740 = .ok (.iload 21, 2) := by decide +kernel
theorem dL_isSound_742 : decode cL_isSound 742 = .ok (.iload 14, 2) := by decide +kernel
theorem dL_isSound_744 : decode cL_isSound 744 = .ok (.if_icmp .ge 63, 3) := by decide +kernel
theorem dL_isSound_747 : decode cL_isSound 747 = .ok (.aload 13, 2) := by decide +kernel
theorem dL_isSound_749 : decode cL_isSound 749 = .ok (.iload 21, 2) := by decide +kernel
theorem dL_isSound_751 : decode cL_isSound 751 = .ok (.aaload, 1) := by decide +kernel
theorem dL_isSound_752 : decode cL_isSound 752 = .ok (.iconst 0, 1) := by decide +kernel
theorem dL_isSound_753 : decode cL_isSound 753 = .ok (.iaload, 1) := by decide +kernel
theorem dL_isSound_754 : decode cL_isSound 754 = .ok (.iload 20, 2) := by decide +kernel
theorem dL_isSound_756 : decode cL_isSound 756 = .ok (.if_icmp .ne 45, 3) := by decide +kernel
theorem dL_isSound_759 : decode cL_isSound 759 = .ok (.aload 13, 2) := by decide +kernel
theorem dL_isSound_761 : decode cL_isSound 761 = .ok (.iload 21, 2) := by decide +kernel
theorem dL_isSound_763 : decode cL_isSound 763 = .ok (.aaload, 1) := by decide +kernel
theorem dL_isSound_764 : decode cL_isSound 764 = .ok (.iconst 1, 1) := by decide +kernel
theorem dL_isSound_765 : decode cL_isSound 765 = .ok (.iaload, 1) := by decide +kernel
theorem dL_isSound_766 : decode cL_isSound 766 = .ok (.aload 13, 2) := by decide +kernel
theorem dL_isSound_768 : decode cL_isSound 768 = .ok (.iload 14, 2) := by decide +kernel
theorem dL_isSound_770 : decode cL_isSound 770 = .ok (.aaload, 1) := by decide +kernel
theorem dL_isSound_771 : decode cL_isSound 771 = .ok (.iconst 2, 1) := by decide +kernel
theorem dL_isSound_772 : decode cL_isSound 772 = .ok (.iaload, 1) := by decide +kernel
theorem dL_isSound_773 : decode cL_isSound 773 = .ok (.bipush 10, 2) := by decide +kernel
theorem dL_isSound_775 : decode cL_isSound 775 = .ok (.iadd, 1) := by decide +kernel
theorem dL_isSound_776 : decode cL_isSound 776 = .ok (.if_icmp .gt 25, 3) := by decide +kernel
theorem dL_isSound_779 : decode cL_isSound 779 = .ok (.aload 13, 2) := by decide +kernel
theorem dL_isSound_781 : decode cL_isSound 781 = .ok (.iload 21, 2) := by decide +kernel
theorem dL_isSound_783 : decode cL_isSound 783 = .ok (.aaload, 1) := by decide +kernel
theorem dL_isSound_784 : decode cL_isSound 784 = .ok (.iconst 2, 1) := by decide +kernel
theorem dL_isSound_785 : decode cL_isSound 785 = .ok (.iaload, 1) := by decide +kernel
theorem dL_isSound_786 : decode cL_isSound 786 = .ok (.aload 13, 2) := by decide +kernel
theorem dL_isSound_788 : decode cL_isSound 788 = .ok (.iload 14, 2) := by decide +kernel
theorem dL_isSound_790 : decode cL_isSound 790 = .ok (.aaload, 1) := by decide +kernel
theorem dL_isSound_791 : decode cL_isSound 791 = .ok (.iconst 1, 1) := by decide +kernel
theorem dL_isSound_792 : decode cL_isSound 792 = .ok (.iaload, 1) := by decide +kernel
theorem dL_isSound_793 : decode cL_isSound 793 = .ok (.bipush 10, 2) := by decide +kernel
theorem dL_isSound_795 : decode cL_isSound 795 = .ok (.isub, 1) := by decide +kernel
theorem dL_isSound_796 : decode cL_isSound 796 = .ok (.if_icmp .lt 5, 3) := by decide +kernel
theorem dL_isSound_799 : decode cL_isSound 799 = .ok (.iconst 0, 1) := by decide +kernel
theorem dL_isSound_800 : decode cL_isSound 800 = .ok (.ireturn, 1) := by decide +kernel
theorem dL_isSound_801 : decode cL_isSound 801 = .ok (.iinc 21 1, 3) := by decide +kernel
theorem dL_isSound_804 : decode cL_isSound 804 = .ok (.goto (-64), 3) := by decide +kernel
theorem dL_isSound_807 : decode cL_isSound 807 = .ok (.iinc 14 1, 3) := by decide +kernel
theorem dL_isSound_810 : decode cL_isSound 810 = .ok (.aload 11, 2) := by decide +kernel
theorem dL_isSound_812 : decode cL_isSound 812 = .ok (.iload 20, 2) := by decide +kernel
theorem dL_isSound_814 : decode cL_isSound 814 = .ok (.dup2, 1) := by decide +kernel
theorem dL_isSound_815 : decode cL_isSound 815 = .ok (.iaload, 1) := by decide +kernel
theorem dL_isSound_816 : decode cL_isSound 816 = .ok (.aload_n 0, 1) := by decide +kernel
theorem dL_isSound_817 : decode cL_isSound 817 = .ok (.iload 15, 2) := by decide +kernel
theorem dL_isSound_819 : decode cL_isSound 819 = .ok (.iload 18, 2) := by decide +kernel
theorem dL_isSound_821 : decode cL_isSound 821 = .ok (.iconst 3, 1) := by decide +kernel
theorem dL_isSound_822 : decode cL_isSound 822 = .ok (.invokevirtual 133, 3) := by decide +kernel
theorem dL_isSound_825 : decode cL_isSound 825 = .ok (.iadd, 1) := by decide +kernel
theorem dL_isSound_826 : decode cL_isSound 826 = .ok (.iastore, 1) := by decide +kernel
theorem dL_isSound_827 : decode cL_isSound 827 = .ok (.aload 12, 2) := by decide +kernel
theorem dL_isSound_829 : decode cL_isSound 829 = .ok (.iload 20, 2) := by decide +kernel
theorem dL_isSound_831 : decode cL_isSound 831 = .ok (.dup2, 1) := by decide +kernel
theorem dL_isSound_832 : decode cL_isSound 832 = .ok (.iaload, 1) := by decide +kernel
theorem dL_isSound_833 : decode cL_isSound 833 = .ok (.iconst 1, 1) := by decide +kernel
theorem dL_isSound_834 : decode cL_isSound 834 = .ok (.iadd, 1) := by decide +kernel
theorem dL_isSound_835 : decode cL_isSound 835 = .ok (.iastore, 1) := by decide +kernel
theorem dL_isSound_836 : decode cL_isSound 836 = .ok (.iinc 18 1, 3) := by decide +kernel
theorem dL_isSound_839 : decode cL_isSound 839 = .ok (.goto (-305), 3) := by decide +kernel
theorem dL_isSound_842 : decode cL_isSound 842 = .ok (.aload_n 0, 1) := by decide +kernel
theorem dL_isSound_843 : decode cL_isSound 843 = .ok (.iload 15, 2) := by decide +kernel
theorem dL_isSound_845 : decode cL_isSound 845 = .ok (.iconst 3, 1) := by decide +kernel
theorem dL_isSound_846 : decode cL_isSound 846 = .ok (.invokevirtual 49, 3) := by decide +kernel
theorem dL_isSound_849 : decode cL_isSound 849 = .ok (.ifCond .le 12, 3) := by decide +kernel
theorem dL_isSound_852 : decode cL_isSound 852 = .ok (.iload 17, 2) := by decide +kernel
theorem dL_isSound_854 : decode cL_isSound 854 = .ok (.iload 16, 2) := by decide +kernel
theorem dL_isSound_856 : decode cL_isSound 856 = .ok (.if_icmp .eq 5, 3) := by decide +kernel
theorem dL_isSound_859 : decode cL_isSound 859 = .ok (.iconst 0, 1) := by decide +kernel
theorem dL_isSound_860 : decode cL_isSound 860 = .ok (.ireturn, 1) := by decide +kernel
theorem dL_isSound_861 : decode cL_isSound 861 = .ok (.iinc 15 1, 3) := by decide +kernel
theorem dL_isSound_864 : decode cL_isSound 864 = .ok (.goto (-510), 3) := by decide +kernel
theorem dL_isSound_867 : decode cL_isSound 867 = .ok (.iconst 0, 1) := by decide +kernel
theorem dL_isSound_868 : decode cL_isSound 868 = .ok (.istore 15, 2) := by decide +kernel
theorem dL_isSound_870 : decode cL_isSound 870 = .ok (.iconst 0, 1) := by decide +kernel
theorem dL_isSound_871 : decode cL_isSound 871 = .ok (.istore 16, 2) := by decide +kernel
theorem dL_isSound_873 : decode cL_isSound 873 = .ok (.iload 16, 2) := by decide +kernel
theorem dL_isSound_875 : decode cL_isSound 875 = .ok (.iconst 4, 1) := by decide +kernel
theorem dL_isSound_876 : decode cL_isSound 876 = .ok (.if_icmp .ge 85, 3) := by decide +kernel
theorem dL_isSound_879 : decode cL_isSound 879 = .ok (.aload_n 0, 1) := by decide +kernel
theorem dL_isSound_880 : decode cL_isSound 880 = .ok (.iload 16, 2) := by decide +kernel
theorem dL_isSound_882 : decode cL_isSound 882 = .ok (.iconst 0, 1) := by decide +kernel
theorem dL_isSound_883 : decode cL_isSound 883 = .ok (.invokevirtual 69, 3) := by decide +kernel
theorem dL_isSound_886 : decode cL_isSound 886 = .ok (.aload 12, 2) := by decide +kernel
theorem dL_isSound_888 : decode cL_isSound 888 = .ok (.iload 16, 2) := by decide +kernel
theorem dL_isSound_890 : decode cL_isSound 890 = .ok (.iaload, 1) := by decide +kernel
theorem dL_isSound_891 : decode cL_isSound 891 = .ok (.if_icmp .ne 50, 3) := by decide +kernel
theorem dL_isSound_894 : decode cL_isSound 894 = .ok (.aload_n 0, 1) := by decide +kernel
theorem dL_isSound_895 : decode cL_isSound 895 = .ok (.iload 16, 2) := by decide +kernel
theorem dL_isSound_897 : decode cL_isSound 897 = .ok (.iconst 1, 1) := by decide +kernel
theorem dL_isSound_898 : decode cL_isSound 898 = .ok (.invokevirtual 69, 3) := by decide +kernel
theorem dL_isSound_901 : decode cL_isSound 901 = .ok (.aload 11, 2) := by decide +kernel
theorem dL_isSound_903 : decode cL_isSound 903 = .ok (.iload 16, 2) := by decide +kernel
theorem dL_isSound_905 : decode cL_isSound 905 = .ok (.iaload, 1) := by decide +kernel
theorem dL_isSound_906 : decode cL_isSound 906 = .ok (.if_icmp .ne 35, 3) := by decide +kernel
theorem dL_isSound_909 : decode cL_isSound 909 = .ok (.aload 11, 2) := by decide +kernel
theorem dL_isSound_911 : decode cL_isSound 911 = .ok (.iload 16, 2) := by decide +kernel
theorem dL_isSound_913 : decode cL_isSound 913 = .ok (.iaload, 1) := by decide +kernel
theorem dL_isSound_914 : decode cL_isSound 914 = .ok (.sipush 600, 3) := by decide +kernel
theorem dL_isSound_917 : decode cL_isSound 917 = .ok (.if_icmp .gt 24, 3) := by decide +kernel
theorem dL_isSound_920 : decode cL_isSound 920 = .ok (.aload_n 0, 1) := by decide +kernel
theorem dL_isSound_921 : decode cL_isSound 921 = .ok (.iload 16, 2) := by decide +kernel
theorem dL_isSound_923 : decode cL_isSound 923 = .ok (.iconst 2, 1) := by decide +kernel
theorem dL_isSound_924 : decode cL_isSound 924 = .ok (.invokevirtual 69, 3) := by decide +kernel
theorem dL_isSound_927 : decode cL_isSound 927 = .ok (.iconst 1, 1) := by decide +kernel
theorem dL_isSound_928 : decode cL_isSound 928 = .ok (.if_icmp .ne 15, 3) := by decide +kernel
theorem dL_isSound_931 : decode cL_isSound 931 = .ok (.aload_n 0, 1) := by decide +kernel
theorem dL_isSound_932 : decode cL_isSound 932 = .ok (.iload 16, 2) := by decide +kernel
theorem dL_isSound_934 : decode cL_isSound 934 = .ok (.iconst 3, 1) := by decide +kernel
theorem dL_isSound_935 : decode cL_isSound 935 = .ok (.invokevirtual 69, 3) := by decide +kernel
theorem dL_isSound_938 : decode cL_isSound 938 = .ok (.ifCond .le 5, 3) := by decide +kernel
theorem dL_isSound_941 : decode cL_isSound 941 = .ok (.iconst 0, 1) := by decide +kernel
theorem dL_isSound_942 : decode cL_isSound 942 = .ok (.ireturn, 1) := by decide +kernel
theorem dL_isSound_943 : decode cL_isSound 943 = .ok (.iload 15, 2) := by decide +kernel
theorem dL_isSound_945 : decode cL_isSound 945 = .ok (.aload_n 0, 1) := by decide +kernel
theorem dL_isSound_946 : decode cL_isSound 946 = .ok (.iload 16, 2) := by decide +kernel
theorem dL_isSound_948 : decode cL_isSound 948 = .ok (.iconst 4, 1) := by decide +kernel
theorem dL_isSound_949 : decode cL_isSound 949 = .ok (.invokevirtual 69, 3) := by decide +kernel
theorem dL_isSound_952 : decode cL_isSound 952 = .ok (.iadd, 1) := by decide +kernel
theorem dL_isSound_953 : decode cL_isSound 953 = .ok (.istore 15, 2) := by decide +kernel
theorem dL_isSound_955 : decode cL_isSound 955 = .ok (.iinc 16 1, 3) := by decide +kernel
theorem dL_isSound_958 : decode cL_isSound 958 = .ok (.goto (-85), 3) := by decide +kernel
theorem dL_isSound_961 : decode cL_isSound 961 = .ok (.iload 10, 2) := by decide +kernel
theorem dL_isSound_963 : decode cL_isSound 963 = .ok (.iload 8, 2) := by decide +kernel
theorem dL_isSound_965 : decode cL_isSound 965 = .ok (.iadd, 1) := by decide +kernel
theorem dL_isSound_966 : decode cL_isSound 966 = .ok (.iload_n 3, 1) := by decide +kernel
theorem dL_isSound_967 : decode cL_isSound 967 = .ok (.if_icmp .ne 32, 3) := by decide +kernel
theorem dL_isSound_970 : decode cL_isSound 970 = .ok (.iload 15, 2) := by decide +kernel
theorem dL_isSound_972 : decode cL_isSound 972 = .ok (.aload_n 0, 1) := by decide +kernel
theorem dL_isSound_973 : decode cL_isSound 973 = .ok (.bipush 6, 2) := by decide +kernel
theorem dL_isSound_975 : decode cL_isSound 975 = .ok (.invokevirtual 34, 3) := by decide +kernel
theorem dL_isSound_978 : decode cL_isSound 978 = .ok (.if_icmp .ne 21, 3) := by decide +kernel
theorem dL_isSound_981 : decode cL_isSound 981 = .ok (.iload 8, 2) := by decide +kernel
theorem dL_isSound_983 : decode cL_isSound 983 = .ok (.ifCond .gt 12, 3) := by decide +kernel
theorem dL_isSound_986 : decode cL_isSound 986 = .ok (.iload 9, 2) := by decide +kernel
theorem dL_isSound_988 : decode cL_isSound 988 = .ok (.aload_n 0, 1) := by decide +kernel
theorem dL_isSound_989 : decode cL_isSound 989 = .ok (.invokevirtual 98, 3) := by decide +kernel
theorem dL_isSound_992 : decode cL_isSound 992 = .ok (.if_icmp .lt 7, 3) := by decide +kernel
theorem dL_isSound_995 : decode cL_isSound 995 = .ok (.iconst 1, 1) := by decide +kernel
theorem dL_isSound_996 : decode cL_isSound 996 = .ok (.goto 4, 3) := by decide +kernel
theorem dL_isSound_999 : decode cL_isSound 999 = .ok (.iconst 0, 1) := by decide +kernel
theorem dL_isSound_1000 : decode cL_isSound 1000 = .ok (.ireturn, 1) := by decide +kernel
