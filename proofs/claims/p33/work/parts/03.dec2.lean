theorem dX9_init_41 : decode cX9_init 41 = .ok (.dup, 1) := by decide +kernel
theorem dX9_init_42 : decode cX9_init 42 = .ok (.invokespecial 9, 3) := by decide +kernel
theorem dX9_init_45 : decode cX9_init 45 = .ok (.putfield 22, 3) := by decide +kernel
theorem dX9_init_48 : decode cX9_init 48 = .ok (.aload_n 0, 1) := by decide +kernel
theorem dX9_init_49 : decode cX9_init 49 = .ok (.new 7, 3) := by decide +kernel
theorem dX9_init_52 : decode cX9_init 52 = .ok (.dup, 1) := by decide +kernel
theorem dX9_init_53 : decode cX9_init 53 = .ok (.invokespecial 9, 3) := by decide +kernel
theorem dX9_init_56 : decode cX9_init 56 = .ok (.putfield 25, 3) := by decide +kernel
theorem dX9_init_59 : decode cX9_init 59 = .ok (.aload_n 0, 1) := by decide +kernel
theorem dX9_init_60 : decode cX9_init 60 = .ok (.new 7, 3) := by decide +kernel
theorem dX9_init_63 : decode cX9_init 63 = .ok (.dup, 1) := by decide +kernel
theorem dX9_init_64 : decode cX9_init 64 = .ok (.invokespecial 9, 3) := by decide +kernel
theorem dX9_init_67 : decode cX9_init 67 = .ok (.putfield 28, 3) := by decide +kernel
theorem dX9_init_70 : decode cX9_init 70 = .ok (.aload_n 0, 1) := by decide +kernel
theorem dX9_init_71 : decode cX9_init 71 = .ok (.new 31, 3) := by decide +kernel
theorem dX9_init_74 : decode cX9_init 74 = .ok (.dup, 1) := by decide +kernel
theorem dX9_init_75 : decode cX9_init 75 = .ok (.invokespecial 33, 3) := by decide +kernel
theorem dX9_init_78 : decode cX9_init 78 = .ok (.putfield 34, 3) := by decide +kernel
theorem dX9_init_81 : decode cX9_init 81 = .ok (.aload_n 0, 1) := by decide +kernel
theorem dX9_init_82 : decode cX9_init 82 = .ok (.iconst 5, 1) := by decide +kernel
theorem dX9_init_83 : decode cX9_init 83 = .ok (.putfield 38, 3) := by decide +kernel
theorem dX9_init_86 : decode cX9_init 86 = .ok (.aload_n 0, 1) := by decide +kernel
theorem dX9_init_87 : decode cX9_init 87 = .ok (.new 42, 3) := by decide +kernel
theorem dX9_init_90 : decode cX9_init 90 = .ok (.dup, 1) := by decide +kernel
theorem dX9_init_91 : decode cX9_init 91 = .ok (.invokespecial 44, 3) := by decide +kernel
theorem dX9_init_94 : decode cX9_init 94 = .ok (.putfield 45, 3) := by decide +kernel
theorem dX9_init_97 : decode cX9_init 97 = .ok (.aload_n 0, 1) := by decide +kernel
theorem dX9_init_98 : decode cX9_init 98 = .ok (.new 42, 3) := by decide +kernel
theorem dX9_init_101 : decode cX9_init 101 = .ok (.dup, 1) := by decide +kernel
theorem dX9_init_102 : decode cX9_init 102 = .ok (.invokespecial 44, 3) := by decide +kernel
theorem dX9_init_105 : decode cX9_init 105 = .ok (.putfield 49, 3) := by decide +kernel
theorem dX9_init_108 : decode cX9_init 108 = .ok (.aload_n 0, 1) := by decide +kernel
theorem dX9_init_109 : decode cX9_init 109 = .ok (.bipush 16, 2) := by decide +kernel
theorem dX9_init_111 : decode cX9_init 111 = .ok (.newarray .int, 2) := by decide +kernel
theorem dX9_init_113 : decode cX9_init 113 = .ok (.putfield 52, 3) := by decide +kernel
theorem dX9_init_116 : decode cX9_init 116 = .ok (.aload_n 0, 1) := by decide +kernel
theorem dX9_init_117 : decode cX9_init 117 = .ok (.new 56, 3) := by decide +kernel
theorem dX9_init_120 : decode cX9_init 120 = .ok (.dup, 1) := by decide +kernel
theorem dX9_init_121 : decode cX9_init 121 = .ok (.invokespecial 58, 3) := by decide +kernel
theorem dX9_init_124 : decode cX9_init 124 = .ok (.putfield 59, 3) := by decide +kernel
theorem dX9_init_127 : decode cX9_init 127 = .ok (.aload_n 0, 1) := by decide +kernel
theorem dX9_init_128 : decode cX9_init 128 = .ok (.new 63, 3) := by decide +kernel
theorem dX9_init_131 : decode cX9_init 131 = .ok (.dup, 1) := by decide +kernel
theorem dX9_init_132 : decode cX9_init 132 = .ok (.iconst 0, 1) := by decide +kernel
theorem dX9_init_133 : decode cX9_init 133 = .ok (.invokespecial 65, 3) := by decide +kernel
theorem dX9_init_136 : decode cX9_init 136 = .ok (.putfield 68, 3) := by decide +kernel
theorem dX9_init_139 : decode cX9_init 139 = .ok (.aload_n 0, 1) := by decide +kernel
theorem dX9_init_140 : decode cX9_init 140 = .ok (.getfield 10, 3) := by decide +kernel
theorem dX9_init_143 : decode cX9_init 143 = .ok (.aload_n 0, 1) := by decide +kernel
theorem dX9_init_144 : decode cX9_init 144 = .ok (.getfield 68, 3) := by decide +kernel
theorem dX9_init_147 : decode cX9_init 147 = .ok (.invokevirtual 72, 3) := by decide +kernel
theorem dX9_init_150 : decode cX9_init 150 = .ok (.pop, 1) := by decide +kernel
theorem dX9_init_151 : decode cX9_init 151 = .ok (.iconst 1, 1) := by decide +kernel
theorem dX9_init_152 : decode cX9_init 152 = .ok (.istore_n 1, 1) := by decide +kernel
theorem dX9_init_153 : decode cX9_init 153 = .ok (.iload_n 1, 1) := by decide +kernel
theorem dX9_init_154 : decode cX9_init 154 = .ok (.bipush 8, 2) := by decide +kernel
theorem dX9_init_156 : decode cX9_init 156 = .ok (.if_icmp .ge 25, 3) := by decide +kernel
theorem dX9_init_159 : decode cX9_init 159 = .ok (.aload_n 0, 1) := by decide +kernel
theorem dX9_init_160 : decode cX9_init 160 = .ok (.getfield 10, 3) := by decide +kernel
theorem dX9_init_163 : decode cX9_init 163 = .ok (.new 63, 3) := by decide +kernel
theorem dX9_init_166 : decode cX9_init 166 = .ok (.dup, 1) := by decide +kernel
theorem dX9_init_167 : decode cX9_init 167 = .ok (.iload_n 1, 1) := by decide +kernel
theorem dX9_init_168 : decode cX9_init 168 = .ok (.invokespecial 65, 3) := by decide +kernel
theorem dX9_init_171 : decode cX9_init 171 = .ok (.invokevirtual 72, 3) := by decide +kernel
theorem dX9_init_174 : decode cX9_init 174 = .ok (.pop, 1) := by decide +kernel
theorem dX9_init_175 : decode cX9_init 175 = .ok (.iinc 1 1, 3) := by decide +kernel
theorem dX9_init_178 : decode cX9_init 178 = .ok (.goto (-25), 3) := by decide +kernel
theorem dX9_init_181 : decode cX9_init 181 = .ok (.iconst 0, 1) := by decide +kernel
theorem dX9_init_182 : decode cX9_init 182 = .ok (.istore_n 1, 1) := by decide +kernel
theorem dX9_init_183 : decode cX9_init 183 = .ok (.iload_n 1, 1) := by decide +kernel
theorem dX9_init_184 : decode cX9_init 184 = .ok (.iconst 4, 1) := by decide +kernel
theorem dX9_init_185 : decode cX9_init 185 = .ok (.if_icmp .ge 25, 3) := by decide +kernel
theorem dX9_init_188 : decode cX9_init 188 = .ok (.aload_n 0, 1) := by decide +kernel
theorem dX9_init_189 : decode cX9_init 189 = .ok (.getfield 16, 3) := by decide +kernel
theorem dX9_init_192 : decode cX9_init 192 = .ok (.new 76, 3) := by decide +kernel
theorem dX9_init_195 : decode cX9_init 195 = .ok (.dup, 1) := by decide +kernel
theorem dX9_init_196 : decode cX9_init 196 = .ok (.iload_n 1, 1) := by decide +kernel
theorem dX9_init_197 : decode cX9_init 197 = .ok (.invokespecial 78, 3) := by decide +kernel
theorem dX9_init_200 : decode cX9_init 200 = .ok (.invokevirtual 72, 3) := by decide +kernel
theorem dX9_init_203 : decode cX9_init 203 = .ok (.pop, 1) := by decide +kernel
theorem dX9_init_204 : decode cX9_init 204 = .ok (.iinc 1 1, 3) := by decide +kernel
theorem dX9_init_207 : decode cX9_init 207 = .ok (.goto (-24), 3) := by decide +kernel
theorem dX9_init_210 : decode cX9_init 210 = .ok (.return_, 1) := by decide +kernel
theorem dX9_place_0 : decode cX9_place 0 = .ok (.aload_n 0, 1) := by decide +kernel
theorem dX9_place_1 : decode cX9_place 1 = .ok (.iload_n 1, 1) := by decide +kernel
theorem dX9_place_2 : decode cX9_place 2 = .ok (.invokevirtual 79, 3) := by decide +kernel
theorem dX9_place_5 : decode cX9_place 5 = .ok (.astore 5, 2) := by decide +kernel
theorem dX9_place_7 : decode cX9_place 7 = .ok (.aload 5, 2) := by decide +kernel
theorem dX9_place_9 : decode cX9_place 9 = .ok (.ifnonnull 13, 3) := by decide +kernel
theorem dX9_place_12 : decode cX9_place 12 = .ok (.new 83, 3) := by decide +kernel
theorem dX9_place_15 : decode cX9_place 15 = .ok (.dup, 1) := by decide +kernel
theorem dX9_place_16 : decode cX9_place 16 = .ok (.ldc 85, 2) := by decide +kernel
theorem dX9_place_18 : decode cX9_place 18 = .ok (.invokespecial 87, 3) := by decide +kernel
theorem dX9_place_21 : decode cX9_place 21 = .ok (.athrow, 1) := by decide +kernel
theorem dX9_place_22 : decode cX9_place 22 = .ok (.iload_n 2, 1) := by decide +kernel
theorem dX9_place_23 : decode cX9_place 23 = .ok (.iconst 0, 1) := by decide +kernel
theorem dX9_place_24 : decode cX9_place 24 = .ok (.bipush 60, 2) := by decide +kernel
theorem dX9_place_26 : decode cX9_place 26 = .ok (.invokestatic 90, 3) := by decide +kernel
theorem dX9_place_29 : decode cX9_place 29 = .ok (.ifCond .ne 12, 3) := by decide +kernel
theorem dX9_place_32 : decode cX9_place 32 = .ok (.iload_n 3, 1) := by decide +kernel
theorem dX9_place_33 : decode cX9_place 33 = .ok (.iconst 0, 1) := by decide +kernel
theorem dX9_place_34 : decode cX9_place 34 = .ok (.iconst 5, 1) := by decide +kernel
theorem dX9_place_35 : decode cX9_place 35 = .ok (.invokestatic 90, 3) := by decide +kernel
theorem dX9_place_38 : decode cX9_place 38 = .ok (.ifCond .eq 13, 3) := by decide +kernel
theorem dX9_place_41 : decode cX9_place 41 = .ok (.new 94, 3) := by decide +kernel
theorem dX9_place_44 : decode cX9_place 44 = .ok (.dup, 1) := by decide +kernel
theorem dX9_place_45 : decode cX9_place 45 = .ok (.ldc 96, 2) := by decide +kernel
theorem dX9_place_47 : decode cX9_place 47 = .ok (.invokespecial 98, 3) := by decide +kernel
theorem dX9_place_50 : decode cX9_place 50 = .ok (.athrow, 1) := by decide +kernel
theorem dX9_place_51 : decode cX9_place 51 = .ok (.aload_n 0, 1) := by decide +kernel
theorem dX9_place_52 : decode cX9_place 52 = .ok (.getfield 19, 3) := by decide +kernel
theorem dX9_place_55 : decode cX9_place 55 = .ok (.invokevirtual 99, 3) := by decide +kernel
theorem dX9_place_58 : decode cX9_place 58 = .ok (.ifCond .ne 13, 3) := by decide +kernel
theorem dX9_place_61 : decode cX9_place 61 = .ok (.new 103, 3) := by decide +kernel
theorem dX9_place_64 : decode cX9_place 64 = .ok (.dup, 1) := by decide +kernel
theorem dX9_place_65 : decode cX9_place 65 = .ok (.ldc 105, 2) := by decide +kernel
theorem dX9_place_67 : decode cX9_place 67 = .ok (.invokespecial 107, 3) := by decide +kernel
theorem dX9_place_70 : decode cX9_place 70 = .ok (.athrow, 1) := by decide +kernel
theorem dX9_place_71 : decode cX9_place 71 = .ok (.aload 5, 2) := by decide +kernel
theorem dX9_place_73 : decode cX9_place 73 = .ok (.getfield 108, 3) := by decide +kernel
theorem dX9_place_76 : decode cX9_place 76 = .ok (.istore 6, 2) := by decide +kernel
theorem dX9_place_78 : decode cX9_place 78 = .ok (.aload 5, 2) := by decide +kernel
theorem dX9_place_80 : decode cX9_place 80 = .ok (.iload_n 2, 1) := by decide +kernel
theorem dX9_place_81 : decode cX9_place 81 = .ok (.putfield 108, 3) := by decide +kernel
theorem dX9_place_84 : decode cX9_place 84 = .ok (.aload 5, 2) := by decide +kernel
theorem dX9_place_86 : decode cX9_place 86 = .ok (.iload_n 3, 1) := by decide +kernel
theorem dX9_place_87 : decode cX9_place 87 = .ok (.putfield 111, 3) := by decide +kernel
theorem dX9_place_90 : decode cX9_place 90 = .ok (.aload 5, 2) := by decide +kernel
theorem dX9_place_92 : decode cX9_place 92 = .ok (.iload 4, 2) := by decide +kernel
theorem dX9_place_94 : decode cX9_place 94 = .ok (.ifCond .ne 12, 3) := by decide +kernel
theorem dX9_place_97 : decode cX9_place 97 = .ok (.aload 5, 2) := by decide +kernel
theorem dX9_place_99 : decode cX9_place 99 = .ok (.aload_n 0, 1) := by decide +kernel
theorem dX9_place_100 : decode cX9_place 100 = .ok (.getfield 68, 3) := by decide +kernel
theorem dX9_place_103 : decode cX9_place 103 = .ok (.if_acmp .ne 7, 3) := by decide +kernel
theorem dX9_place_106 : decode cX9_place 106 = .ok (.iconst 1, 1) := by decide +kernel
theorem dX9_place_107 : decode cX9_place 107 = .ok (.goto 4, 3) := by decide +kernel
theorem dX9_place_110 : decode cX9_place 110 = .ok (.iconst 0, 1) := by decide +kernel
theorem dX9_place_111 : decode cX9_place 111 = .ok (.putfield 114, 3) := by decide +kernel
theorem dX9_place_114 : decode cX9_place 114 = .ok (.iload 6, 2) := by decide +kernel
theorem dX9_place_116 : decode cX9_place 116 = .ok (.ireturn, 1) := by decide +kernel
theorem dX9_line_0 : decode cX9_line 0 = .ok (.aload_n 0, 1) := by decide +kernel
theorem dX9_line_1 : decode cX9_line 1 = .ok (.iload_n 1, 1) := by decide +kernel
theorem dX9_line_2 : decode cX9_line 2 = .ok (.invokevirtual 118, 3) := by decide +kernel
theorem dX9_line_5 : decode cX9_line 5 = .ok (.astore 4, 2) := by decide +kernel
theorem dX9_line_7 : decode cX9_line 7 = .ok (.aload 4, 2) := by decide +kernel
theorem dX9_line_9 : decode cX9_line 9 = .ok (.ifnonnull 13, 3) := by decide +kernel
theorem dX9_line_12 : decode cX9_line 12 = .ok (.new 83, 3) := by decide +kernel
theorem dX9_line_15 : decode cX9_line 15 = .ok (.dup, 1) := by decide +kernel
theorem dX9_line_16 : decode cX9_line 16 = .ok (.ldc 122, 2) := by decide +kernel
theorem dX9_line_18 : decode cX9_line 18 = .ok (.invokespecial 87, 3) := by decide +kernel
theorem dX9_line_21 : decode cX9_line 21 = .ok (.athrow, 1) := by decide +kernel
theorem dX9_line_22 : decode cX9_line 22 = .ok (.iload_n 2, 1) := by decide +kernel
theorem dX9_line_23 : decode cX9_line 23 = .ok (.iconst 0, 1) := by decide +kernel
theorem dX9_line_24 : decode cX9_line 24 = .ok (.bipush 99, 2) := by decide +kernel
theorem dX9_line_26 : decode cX9_line 26 = .ok (.invokestatic 90, 3) := by decide +kernel
theorem dX9_line_29 : decode cX9_line 29 = .ok (.ifCond .eq 13, 3) := by decide +kernel
theorem dX9_line_32 : decode cX9_line 32 = .ok (.new 94, 3) := by decide +kernel
theorem dX9_line_35 : decode cX9_line 35 = .ok (.dup, 1) := by decide +kernel
theorem dX9_line_36 : decode cX9_line 36 = .ok (.ldc 124, 2) := by decide +kernel
theorem dX9_line_38 : decode cX9_line 38 = .ok (.invokespecial 98, 3) := by decide +kernel
theorem dX9_line_41 : decode cX9_line 41 = .ok (.athrow, 1) := by decide +kernel
theorem dX9_line_42 : decode cX9_line 42 = .ok (.aload 4, 2) := by decide +kernel
theorem dX9_line_44 : decode cX9_line 44 = .ok (.getfield 126, 3) := by decide +kernel
theorem dX9_line_47 : decode cX9_line 47 = .ok (.istore 5, 2) := by decide +kernel
theorem dX9_line_49 : decode cX9_line 49 = .ok (.aload 4, 2) := by decide +kernel
theorem dX9_line_51 : decode cX9_line 51 = .ok (.iload_n 2, 1) := by decide +kernel
theorem dX9_line_52 : decode cX9_line 52 = .ok (.putfield 126, 3) := by decide +kernel
theorem dX9_line_55 : decode cX9_line 55 = .ok (.aload 4, 2) := by decide +kernel
theorem dX9_line_57 : decode cX9_line 57 = .ok (.iload_n 3, 1) := by decide +kernel
theorem dX9_line_58 : decode cX9_line 58 = .ok (.putfield 129, 3) := by decide +kernel
theorem dX9_line_61 : decode cX9_line 61 = .ok (.iload 5, 2) := by decide +kernel
theorem dX9_line_63 : decode cX9_line 63 = .ok (.ireturn, 1) := by decide +kernel
theorem dX9_trip_0 : decode cX9_trip 0 = .ok (.aload_n 0, 1) := by decide +kernel
theorem dX9_trip_1 : decode cX9_trip 1 = .ok (.iload_n 1, 1) := by decide +kernel
theorem dX9_trip_2 : decode cX9_trip 2 = .ok (.invokevirtual 118, 3) := by decide +kernel
theorem dX9_trip_5 : decode cX9_trip 5 = .ok (.astore 6, 2) := by decide +kernel
theorem dX9_trip_7 : decode cX9_trip 7 = .ok (.aload_n 0, 1) := by decide +kernel
theorem dX9_trip_8 : decode cX9_trip 8 = .ok (.iload_n 2, 1) := by decide +kernel
theorem dX9_trip_9 : decode cX9_trip 9 = .ok (.invokevirtual 79, 3) := by decide +kernel
theorem dX9_trip_12 : decode cX9_trip 12 = .ok (.astore 7, 2) := by decide +kernel
theorem dX9_trip_14 : decode cX9_trip 14 = .ok (.aload_n 0, 1) := by decide +kernel
theorem dX9_trip_15 : decode cX9_trip 15 = .ok (.iload_n 3, 1) := by decide +kernel
theorem dX9_trip_16 : decode cX9_trip 16 = .ok (.invokevirtual 79, 3) := by decide +kernel
theorem dX9_trip_19 : decode cX9_trip 19 = .ok (.astore 8, 2) := by decide +kernel
theorem dX9_trip_21 : decode cX9_trip 21 = .ok (.aload 6, 2) := by decide +kernel
theorem dX9_trip_23 : decode cX9_trip 23 = .ok (.ifnull 13, 3) := by decide +kernel
theorem dX9_trip_26 : decode cX9_trip 26 = .ok (.aload 7, 2) := by decide +kernel
theorem dX9_trip_28 : decode cX9_trip 28 = .ok (.ifnull 8, 3) := by decide +kernel
theorem dX9_trip_31 : decode cX9_trip 31 = .ok (.aload 8, 2) := by decide +kernel
theorem dX9_trip_33 : decode cX9_trip 33 = .ok (.ifnonnull 13, 3) := by decide +kernel
theorem dX9_trip_36 : decode cX9_trip 36 = .ok (.new 83, 3) := by decide +kernel
theorem dX9_trip_39 : decode cX9_trip 39 = .ok (.dup, 1) := by decide +kernel
theorem dX9_trip_40 : decode cX9_trip 40 = .ok (.ldc 132, 2) := by decide +kernel
theorem dX9_trip_42 : decode cX9_trip 42 = .ok (.invokespecial 87, 3) := by decide +kernel
theorem dX9_trip_45 : decode cX9_trip 45 = .ok (.athrow, 1) := by decide +kernel
theorem dX9_trip_46 : decode cX9_trip 46 = .ok (.iload 4, 2) := by decide +kernel
theorem dX9_trip_48 : decode cX9_trip 48 = .ok (.iconst 0, 1) := by decide +kernel
theorem dX9_trip_49 : decode cX9_trip 49 = .ok (.sipush 1439, 3) := by decide +kernel
theorem dX9_trip_52 : decode cX9_trip 52 = .ok (.invokestatic 90, 3) := by decide +kernel
theorem dX9_trip_55 : decode cX9_trip 55 = .ok (.ifCond .ne 14, 3) := by decide +kernel
theorem dX9_trip_58 : decode cX9_trip 58 = .ok (.iload 5, 2) := by decide +kernel
theorem dX9_trip_60 : decode cX9_trip 60 = .ok (.iconst 5, 1) := by decide +kernel
theorem dX9_trip_61 : decode cX9_trip 61 = .ok (.bipush 120, 2) := by decide +kernel
theorem dX9_trip_63 : decode cX9_trip 63 = .ok (.invokestatic 90, 3) := by decide +kernel
theorem dX9_trip_66 : decode cX9_trip 66 = .ok (.ifCond .eq 13, 3) := by decide +kernel
theorem dX9_trip_69 : decode cX9_trip 69 = .ok (.new 94, 3) := by decide +kernel
theorem dX9_trip_72 : decode cX9_trip 72 = .ok (.dup, 1) := by decide +kernel
theorem dX9_trip_73 : decode cX9_trip 73 = .ok (.ldc 134, 2) := by decide +kernel
theorem dX9_trip_75 : decode cX9_trip 75 = .ok (.invokespecial 98, 3) := by decide +kernel
theorem dX9_trip_78 : decode cX9_trip 78 = .ok (.athrow, 1) := by decide +kernel
theorem dX9_trip_79 : decode cX9_trip 79 = .ok (.aload_n 0, 1) := by decide +kernel
theorem dX9_trip_80 : decode cX9_trip 80 = .ok (.getfield 19, 3) := by decide +kernel
theorem dX9_trip_83 : decode cX9_trip 83 = .ok (.invokevirtual 136, 3) := by decide +kernel
theorem dX9_trip_86 : decode cX9_trip 86 = .ok (.istore 9, 2) := by decide +kernel
theorem dX9_trip_88 : decode cX9_trip 88 = .ok (.iload 9, 2) := by decide +kernel
theorem dX9_trip_90 : decode cX9_trip 90 = .ok (.bipush 16, 2) := by decide +kernel
theorem dX9_trip_92 : decode cX9_trip 92 = .ok (.if_icmp .lt 13, 3) := by decide +kernel
theorem dX9_trip_95 : decode cX9_trip 95 = .ok (.new 103, 3) := by decide +kernel
theorem dX9_trip_98 : decode cX9_trip 98 = .ok (.dup, 1) := by decide +kernel
theorem dX9_trip_99 : decode cX9_trip 99 = .ok (.ldc 140, 2) := by decide +kernel
theorem dX9_trip_101 : decode cX9_trip 101 = .ok (.invokespecial 107, 3) := by decide +kernel
theorem dX9_trip_104 : decode cX9_trip 104 = .ok (.athrow, 1) := by decide +kernel
theorem dX9_trip_105 : decode cX9_trip 105 = .ok (.new 142, 3) := by decide +kernel
theorem dX9_trip_108 : decode cX9_trip 108 = .ok (.dup, 1) := by decide +kernel
theorem dX9_trip_109 : decode cX9_trip 109 = .ok (.iload 9, 2) := by decide +kernel
theorem dX9_trip_111 : decode cX9_trip 111 = .ok (.aload 6, 2) := by decide +kernel
theorem dX9_trip_113 : decode cX9_trip 113 = .ok (.aload 7, 2) := by decide +kernel
theorem dX9_trip_115 : decode cX9_trip 115 = .ok (.aload 8, 2) := by decide +kernel
theorem dX9_trip_117 : decode cX9_trip 117 = .ok (.iload 4, 2) := by decide +kernel
theorem dX9_trip_119 : decode cX9_trip 119 = .ok (.iload 5, 2) := by decide +kernel
theorem dX9_trip_121 : decode cX9_trip 121 = .ok (.invokespecial 144, 3) := by decide +kernel
theorem dX9_trip_124 : decode cX9_trip 124 = .ok (.astore 10, 2) := by decide +kernel
theorem dX9_trip_126 : decode cX9_trip 126 = .ok (.aload_n 0, 1) := by decide +kernel
theorem dX9_trip_127 : decode cX9_trip 127 = .ok (.getfield 19, 3) := by decide +kernel
theorem dX9_trip_130 : decode cX9_trip 130 = .ok (.aload 10, 2) := by decide +kernel
theorem dX9_trip_132 : decode cX9_trip 132 = .ok (.invokevirtual 72, 3) := by decide +kernel
theorem dX9_trip_135 : decode cX9_trip 135 = .ok (.pop, 1) := by decide +kernel
theorem dX9_trip_136 : decode cX9_trip 136 = .ok (.aload_n 0, 1) := by decide +kernel
theorem dX9_trip_137 : decode cX9_trip 137 = .ok (.aload 10, 2) := by decide +kernel
theorem dX9_trip_139 : decode cX9_trip 139 = .ok (.invokevirtual 147, 3) := by decide +kernel
theorem dX9_trip_142 : decode cX9_trip 142 = .ok (.iload 9, 2) := by decide +kernel
theorem dX9_trip_144 : decode cX9_trip 144 = .ok (.ireturn, 1) := by decide +kernel
theorem dX9_driver_0 : decode cX9_driver 0 = .ok (.aload_n 0, 1) := by decide +kernel
theorem dX9_driver_1 : decode cX9_driver 1 = .ok (.getfield 28, 3) := by decide +kernel
theorem dX9_driver_4 : decode cX9_driver 4 = .ok (.invokevirtual 136, 3) := by decide +kernel
theorem dX9_driver_7 : decode cX9_driver 7 = .ok (.istore_n 1, 1) := by decide +kernel
theorem dX9_driver_8 : decode cX9_driver 8 = .ok (.iload_n 1, 1) := by decide +kernel
theorem dX9_driver_9 : decode cX9_driver 9 = .ok (.bipush 6, 2) := by decide +kernel
theorem dX9_driver_11 : decode cX9_driver 11 = .ok (.if_icmp .lt 13, 3) := by decide +kernel
theorem dX9_driver_14 : decode cX9_driver 14 = .ok (.new 103, 3) := by decide +kernel
theorem dX9_driver_17 : decode cX9_driver 17 = .ok (.dup, 1) := by decide +kernel
theorem dX9_driver_18 : decode cX9_driver 18 = .ok (.ldc 164, 2) := by decide +kernel
theorem dX9_driver_20 : decode cX9_driver 20 = .ok (.invokespecial 107, 3) := by decide +kernel
theorem dX9_driver_23 : decode cX9_driver 23 = .ok (.athrow, 1) := by decide +kernel
theorem dX9_driver_24 : decode cX9_driver 24 = .ok (.aload_n 0, 1) := by decide +kernel
theorem dX9_driver_25 : decode cX9_driver 25 = .ok (.getfield 28, 3) := by decide +kernel
theorem dX9_driver_28 : decode cX9_driver 28 = .ok (.new 166, 3) := by decide +kernel
theorem dX9_driver_31 : decode cX9_driver 31 = .ok (.dup, 1) := by decide +kernel
theorem dX9_driver_32 : decode cX9_driver 32 = .ok (.iload_n 1, 1) := by decide +kernel
theorem dX9_driver_33 : decode cX9_driver 33 = .ok (.invokespecial 168, 3) := by decide +kernel
theorem dX9_driver_36 : decode cX9_driver 36 = .ok (.invokevirtual 72, 3) := by decide +kernel
theorem dX9_driver_39 : decode cX9_driver 39 = .ok (.pop, 1) := by decide +kernel
theorem dX9_driver_40 : decode cX9_driver 40 = .ok (.iload_n 1, 1) := by decide +kernel
theorem dX9_driver_41 : decode cX9_driver 41 = .ok (.ireturn, 1) := by decide +kernel
theorem dX9_block_0 : decode cX9_block 0 = .ok (.iload_n 1, 1) := by decide +kernel
theorem dX9_block_1 : decode cX9_block 1 = .ok (.bipush 50, 2) := by decide +kernel
theorem dX9_block_3 : decode cX9_block 3 = .ok (.sipush 999, 3) := by decide +kernel
theorem dX9_block_6 : decode cX9_block 6 = .ok (.invokestatic 90, 3) := by decide +kernel
theorem dX9_block_9 : decode cX9_block 9 = .ok (.ifCond .eq 13, 3) := by decide +kernel
theorem dX9_block_12 : decode cX9_block 12 = .ok (.new 94, 3) := by decide +kernel
theorem dX9_block_15 : decode cX9_block 15 = .ok (.dup, 1) := by decide +kernel
theorem dX9_block_16 : decode cX9_block 16 = .ok (.ldc 169, 2) := by decide +kernel
theorem dX9_block_18 : decode cX9_block 18 = .ok (.invokespecial 98, 3) := by decide +kernel
theorem dX9_block_21 : decode cX9_block 21 = .ok (.athrow, 1) := by decide +kernel
theorem dX9_block_22 : decode cX9_block 22 = .ok (.aload_n 0, 1) := by decide +kernel
theorem dX9_block_23 : decode cX9_block 23 = .ok (.getfield 25, 3) := by decide +kernel
theorem dX9_block_26 : decode cX9_block 26 = .ok (.invokevirtual 136, 3) := by decide +kernel
theorem dX9_block_29 : decode cX9_block 29 = .ok (.bipush 8, 2) := by decide +kernel
theorem dX9_block_31 : decode cX9_block 31 = .ok (.if_icmp .lt 13, 3) := by decide +kernel
theorem dX9_block_34 : decode cX9_block 34 = .ok (.new 103, 3) := by decide +kernel
theorem dX9_block_37 : decode cX9_block 37 = .ok (.dup, 1) := by decide +kernel
theorem dX9_block_38 : decode cX9_block 38 = .ok (.ldc 171, 2) := by decide +kernel
theorem dX9_block_40 : decode cX9_block 40 = .ok (.invokespecial 107, 3) := by decide +kernel
theorem dX9_block_43 : decode cX9_block 43 = .ok (.athrow, 1) := by decide +kernel
theorem dX9_block_44 : decode cX9_block 44 = .ok (.aload_n 0, 1) := by decide +kernel
theorem dX9_block_45 : decode cX9_block 45 = .ok (.iload_n 1, 1) := by decide +kernel
theorem dX9_block_46 : decode cX9_block 46 = .ok (.invokevirtual 173, 3) := by decide +kernel
theorem dX9_block_49 : decode cX9_block 49 = .ok (.getfield 177, 3) := by decide +kernel
theorem dX9_block_52 : decode cX9_block 52 = .ok (.ireturn, 1) := by decide +kernel
theorem dX9_append_0 : decode cX9_append 0 = .ok (.aload_n 0, 1) := by decide +kernel
theorem dX9_append_1 : decode cX9_append 1 = .ok (.iload_n 1, 1) := by decide +kernel
theorem dX9_append_2 : decode cX9_append 2 = .ok (.invokevirtual 182, 3) := by decide +kernel
theorem dX9_append_5 : decode cX9_append 5 = .ok (.astore_n 3, 1) := by decide +kernel
theorem dX9_append_6 : decode cX9_append 6 = .ok (.aload_n 0, 1) := by decide +kernel
theorem dX9_append_7 : decode cX9_append 7 = .ok (.iload_n 2, 1) := by decide +kernel
theorem dX9_append_8 : decode cX9_append 8 = .ok (.invokevirtual 185, 3) := by decide +kernel
theorem dX9_append_11 : decode cX9_append 11 = .ok (.astore 4, 2) := by decide +kernel
theorem dX9_append_13 : decode cX9_append 13 = .ok (.aload_n 3, 1) := by decide +kernel
theorem dX9_append_14 : decode cX9_append 14 = .ok (.ifnull 8, 3) := by decide +kernel
theorem dX9_append_17 : decode cX9_append 17 = .ok (.aload 4, 2) := by decide +kernel
theorem dX9_append_19 : decode cX9_append 19 = .ok (.ifnonnull 13, 3) := by decide +kernel
theorem dX9_append_22 : decode cX9_append 22 = .ok (.new 83, 3) := by decide +kernel
theorem dX9_append_25 : decode cX9_append 25 = .ok (.dup, 1) := by decide +kernel
theorem dX9_append_26 : decode cX9_append 26 = .ok (.ldc 189, 2) := by decide +kernel
theorem dX9_append_28 : decode cX9_append 28 = .ok (.invokespecial 87, 3) := by decide +kernel
theorem dX9_append_31 : decode cX9_append 31 = .ok (.athrow, 1) := by decide +kernel
theorem dX9_append_32 : decode cX9_append 32 = .ok (.aload_n 3, 1) := by decide +kernel
theorem dX9_append_33 : decode cX9_append 33 = .ok (.getfield 191, 3) := by decide +kernel
theorem dX9_append_36 : decode cX9_append 36 = .ok (.invokevirtual 194, 3) := by decide +kernel
theorem dX9_append_39 : decode cX9_append 39 = .ok (.astore 5, 2) := by decide +kernel
theorem dX9_append_41 : decode cX9_append 41 = .ok (.aload 4, 2) := by decide +kernel
theorem dX9_append_43 : decode cX9_append 43 = .ok (.getfield 198, 3) := by decide +kernel
theorem dX9_append_46 : decode cX9_append 46 = .ok (.ifnonnull 18, 3) := by decide +kernel
theorem dX9_append_49 : decode cX9_append 49 = .ok (.aload 5, 2) := by decide +kernel
theorem dX9_append_51 : decode cX9_append 51 = .ok (.ifnull 23, 3) := by decide +kernel
theorem dX9_append_54 : decode cX9_append 54 = .ok (.aload 4, 2) := by decide +kernel
theorem dX9_append_56 : decode cX9_append 56 = .ok (.aload 5, 2) := by decide +kernel
theorem dX9_append_58 : decode cX9_append 58 = .ok (.invokevirtual 202, 3) := by decide +kernel
theorem dX9_append_61 : decode cX9_append 61 = .ok (.ifCond .ne 13, 3) := by decide +kernel
theorem dX9_append_64 : decode cX9_append 64 = .ok (.new 103, 3) := by decide +kernel
theorem dX9_append_67 : decode cX9_append 67 = .ok (.dup, 1) := by decide +kernel
theorem dX9_append_68 : decode cX9_append 68 = .ok (.ldc 206, 2) := by decide +kernel
theorem dX9_append_70 : decode cX9_append 70 = .ok (.invokespecial 107, 3) := by decide +kernel
theorem dX9_append_73 : decode cX9_append 73 = .ok (.athrow, 1) := by decide +kernel
theorem dX9_append_74 : decode cX9_append 74 = .ok (.aload_n 3, 1) := by decide +kernel
theorem dX9_append_75 : decode cX9_append 75 = .ok (.aload 4, 2) := by decide +kernel
theorem dX9_append_77 : decode cX9_append 77 = .ok (.invokevirtual 208, 3) := by decide +kernel
theorem dX9_append_80 : decode cX9_append 80 = .ok (.aload_n 3, 1) := by decide +kernel
theorem dX9_append_81 : decode cX9_append 81 = .ok (.getfield 191, 3) := by decide +kernel
theorem dX9_append_84 : decode cX9_append 84 = .ok (.invokevirtual 211, 3) := by decide +kernel
theorem dX9_append_87 : decode cX9_append 87 = .ok (.ireturn, 1) := by decide +kernel
theorem dX9_takeOff_0 : decode cX9_takeOff 0 = .ok (.aload_n 0, 1) := by decide +kernel
theorem dX9_takeOff_1 : decode cX9_takeOff 1 = .ok (.iload_n 1, 1) := by decide +kernel
theorem dX9_takeOff_2 : decode cX9_takeOff 2 = .ok (.invokevirtual 182, 3) := by decide +kernel
theorem dX9_takeOff_5 : decode cX9_takeOff 5 = .ok (.astore_n 2, 1) := by decide +kernel
theorem dX9_takeOff_6 : decode cX9_takeOff 6 = .ok (.aload_n 2, 1) := by decide +kernel
theorem dX9_takeOff_7 : decode cX9_takeOff 7 = .ok (.ifnonnull 13, 3) := by decide +kernel
theorem dX9_takeOff_10 : decode cX9_takeOff 10 = .ok (.new 83, 3) := by decide +kernel
theorem dX9_takeOff_13 : decode cX9_takeOff 13 = .ok (.dup, 1) := by decide +kernel
theorem dX9_takeOff_14 : decode cX9_takeOff 14 = .ok (.ldc 214, 2) := by decide +kernel
theorem dX9_takeOff_16 : decode cX9_takeOff 16 = .ok (.invokespecial 87, 3) := by decide +kernel
theorem dX9_takeOff_19 : decode cX9_takeOff 19 = .ok (.athrow, 1) := by decide +kernel
theorem dX9_takeOff_20 : decode cX9_takeOff 20 = .ok (.aload_n 2, 1) := by decide +kernel
theorem dX9_takeOff_21 : decode cX9_takeOff 21 = .ok (.invokevirtual 216, 3) := by decide +kernel
theorem dX9_takeOff_24 : decode cX9_takeOff 24 = .ok (.astore_n 3, 1) := by decide +kernel
theorem dX9_takeOff_25 : decode cX9_takeOff 25 = .ok (.aload_n 3, 1) := by decide +kernel
theorem dX9_takeOff_26 : decode cX9_takeOff 26 = .ok (.ifnonnull 13, 3) := by decide +kernel
theorem dX9_takeOff_29 : decode cX9_takeOff 29 = .ok (.new 103, 3) := by decide +kernel
theorem dX9_takeOff_32 : decode cX9_takeOff 32 = .ok (.dup, 1) := by decide +kernel
theorem dX9_takeOff_33 : decode cX9_takeOff 33 = .ok (.ldc 219, 2) := by decide +kernel
theorem dX9_takeOff_35 : decode cX9_takeOff 35 = .ok (.invokespecial 107, 3) := by decide +kernel
theorem dX9_takeOff_38 : decode cX9_takeOff 38 = .ok (.athrow, 1) := by decide +kernel
theorem dX9_takeOff_39 : decode cX9_takeOff 39 = .ok (.aload_n 3, 1) := by decide +kernel
theorem dX9_takeOff_40 : decode cX9_takeOff 40 = .ok (.getfield 221, 3) := by decide +kernel
theorem dX9_takeOff_43 : decode cX9_takeOff 43 = .ok (.ireturn, 1) := by decide +kernel
theorem dX9_build_0 : decode cX9_build 0 = .ok (.iload_n 1, 1) := by decide +kernel
theorem dX9_build_1 : decode cX9_build 1 = .ok (.bipush 50, 2) := by decide +kernel
theorem dX9_build_3 : decode cX9_build 3 = .ok (.sipush 999, 3) := by decide +kernel
theorem dX9_build_6 : decode cX9_build 6 = .ok (.invokestatic 90, 3) := by decide +kernel
theorem dX9_build_9 : decode cX9_build 9 = .ok (.ifCond .eq 13, 3) := by decide +kernel
theorem dX9_build_12 : decode cX9_build 12 = .ok (.new 94, 3) := by decide +kernel
theorem dX9_build_15 : decode cX9_build 15 = .ok (.dup, 1) := by decide +kernel
theorem dX9_build_16 : decode cX9_build 16 = .ok (.ldc 169, 2) := by decide +kernel
theorem dX9_build_18 : decode cX9_build 18 = .ok (.invokespecial 98, 3) := by decide +kernel
theorem dX9_build_21 : decode cX9_build 21 = .ok (.athrow, 1) := by decide +kernel
theorem dX9_build_22 : decode cX9_build 22 = .ok (.iconst 0, 1) := by decide +kernel
theorem dX9_build_23 : decode cX9_build 23 = .ok (.istore_n 2, 1) := by decide +kernel
theorem dX9_build_24 : decode cX9_build 24 = .ok (.iconst 0, 1) := by decide +kernel
theorem dX9_build_25 : decode cX9_build 25 = .ok (.istore_n 3, 1) := by decide +kernel
theorem dX9_build_26 : decode cX9_build 26 = .ok (.iload_n 3, 1) := by decide +kernel
theorem dX9_build_27 : decode cX9_build 27 = .ok (.aload_n 0, 1) := by decide +kernel
theorem dX9_build_28 : decode cX9_build 28 = .ok (.getfield 22, 3) := by decide +kernel
theorem dX9_build_31 : decode cX9_build 31 = .ok (.invokevirtual 136, 3) := by decide +kernel
theorem dX9_build_34 : decode cX9_build 34 = .ok (.if_icmp .ge 43, 3) := by decide +kernel
theorem dX9_build_37 : decode cX9_build 37 = .ok (.aload_n 0, 1) := by decide +kernel
theorem dX9_build_38 : decode cX9_build 38 = .ok (.getfield 22, 3) := by decide +kernel
theorem dX9_build_41 : decode cX9_build 41 = .ok (.iload_n 3, 1) := by decide +kernel
theorem dX9_build_42 : decode cX9_build 42 = .ok (.invokevirtual 222, 3) := by decide +kernel
theorem dX9_build_45 : decode cX9_build 45 = .ok (.checkcast 142, 3) := by decide +kernel
theorem dX9_build_48 : decode cX9_build 48 = .ok (.astore 4, 2) := by decide +kernel
theorem dX9_build_50 : decode cX9_build 50 = .ok (.aload 4, 2) := by decide +kernel
theorem dX9_build_52 : decode cX9_build 52 = .ok (.getfield 198, 3) := by decide +kernel
theorem dX9_build_55 : decode cX9_build 55 = .ok (.ifnonnull 16, 3) := by decide +kernel
theorem dX9_build_58 : decode cX9_build 58 = .ok (.aload_n 0, 1) := by decide +kernel
theorem dX9_build_59 : decode cX9_build 59 = .ok (.aload 4, 2) := by decide +kernel
theorem dX9_build_61 : decode cX9_build 61 = .ok (.iload_n 1, 1) := by decide +kernel
theorem dX9_build_62 : decode cX9_build 62 = .ok (.invokevirtual 226, 3) := by decide +kernel
theorem dX9_build_65 : decode cX9_build 65 = .ok (.ifCond .eq 6, 3) := by decide +kernel
theorem dX9_build_68 : decode cX9_build 68 = .ok (.iinc 2 1, 3) := by decide +kernel
theorem dX9_build_71 : decode cX9_build 71 = .ok (.iinc 3 1, 3) := by decide +kernel
theorem dX9_build_74 : decode cX9_build 74 = .ok (.goto (-48), 3) := by decide +kernel
theorem dX9_build_77 : decode cX9_build 77 = .ok (.iload_n 2, 1) := by decide +kernel
theorem dX9_build_78 : decode cX9_build 78 = .ok (.ireturn, 1) := by decide +kernel
theorem dX9_swap_0 : decode cX9_swap 0 = .ok (.aload_n 0, 1) := by decide +kernel
theorem dX9_swap_1 : decode cX9_swap 1 = .ok (.iload_n 1, 1) := by decide +kernel
theorem dX9_swap_2 : decode cX9_swap 2 = .ok (.invokevirtual 182, 3) := by decide +kernel
theorem dX9_swap_5 : decode cX9_swap 5 = .ok (.astore 5, 2) := by decide +kernel
theorem dX9_swap_7 : decode cX9_swap 7 = .ok (.aload_n 0, 1) := by decide +kernel
theorem dX9_swap_8 : decode cX9_swap 8 = .ok (.iload_n 3, 1) := by decide +kernel
theorem dX9_swap_9 : decode cX9_swap 9 = .ok (.invokevirtual 182, 3) := by decide +kernel
theorem dX9_swap_12 : decode cX9_swap 12 = .ok (.astore 6, 2) := by decide +kernel
theorem dX9_swap_14 : decode cX9_swap 14 = .ok (.aload 5, 2) := by decide +kernel
theorem dX9_swap_16 : decode cX9_swap 16 = .ok (.ifnull 8, 3) := by decide +kernel
theorem dX9_swap_19 : decode cX9_swap 19 = .ok (.aload 6, 2) := by decide +kernel
theorem dX9_swap_21 : decode cX9_swap 21 = .ok (.ifnonnull 13, 3) := by decide +kernel
theorem dX9_swap_24 : decode cX9_swap 24 = .ok (.new 83, 3) := by decide +kernel
theorem dX9_swap_27 : decode cX9_swap 27 = .ok (.dup, 1) := by decide +kernel
theorem dX9_swap_28 : decode cX9_swap 28 = .ok (.ldc 214, 2) := by decide +kernel
theorem dX9_swap_30 : decode cX9_swap 30 = .ok (.invokespecial 87, 3) := by decide +kernel
theorem dX9_swap_33 : decode cX9_swap 33 = .ok (.athrow, 1) := by decide +kernel
theorem dX9_swap_34 : decode cX9_swap 34 = .ok (.aload 5, 2) := by decide +kernel
theorem dX9_swap_36 : decode cX9_swap 36 = .ok (.getfield 191, 3) := by decide +kernel
theorem dX9_swap_39 : decode cX9_swap 39 = .ok (.astore 7, 2) := by decide +kernel
theorem dX9_swap_41 : decode cX9_swap 41 = .ok (.aload 6, 2) := by decide +kernel
theorem dX9_swap_43 : decode cX9_swap 43 = .ok (.getfield 191, 3) := by decide +kernel
theorem dX9_swap_46 : decode cX9_swap 46 = .ok (.astore 8, 2) := by decide +kernel
theorem dX9_swap_48 : decode cX9_swap 48 = .ok (.iload_n 1, 1) := by decide +kernel
theorem dX9_swap_49 : decode cX9_swap 49 = .ok (.iload_n 3, 1) := by decide +kernel
theorem dX9_swap_50 : decode cX9_swap 50 = .ok (.if_icmp .eq 30, 3) := by decide +kernel
theorem dX9_swap_53 : decode cX9_swap 53 = .ok (.iload_n 2, 1) := by decide +kernel
theorem dX9_swap_54 : decode cX9_swap 54 = .ok (.iconst 0, 1) := by decide +kernel
theorem dX9_swap_55 : decode cX9_swap 55 = .ok (.aload 7, 2) := by decide +kernel
theorem dX9_swap_57 : decode cX9_swap 57 = .ok (.invokevirtual 211, 3) := by decide +kernel
theorem dX9_swap_60 : decode cX9_swap 60 = .ok (.invokestatic 90, 3) := by decide +kernel
theorem dX9_swap_63 : decode cX9_swap 63 = .ok (.ifCond .ne 17, 3) := by decide +kernel
theorem dX9_swap_66 : decode cX9_swap 66 = .ok (.iload 4, 2) := by decide +kernel
theorem dX9_swap_68 : decode cX9_swap 68 = .ok (.iconst 0, 1) := by decide +kernel
theorem dX9_swap_69 : decode cX9_swap 69 = .ok (.aload 8, 2) := by decide +kernel
theorem dX9_swap_71 : decode cX9_swap 71 = .ok (.invokevirtual 211, 3) := by decide +kernel
theorem dX9_swap_74 : decode cX9_swap 74 = .ok (.invokestatic 90, 3) := by decide +kernel
theorem dX9_swap_77 : decode cX9_swap 77 = .ok (.ifCond .eq 13, 3) := by decide +kernel
theorem dX9_swap_80 : decode cX9_swap 80 = .ok (.new 94, 3) := by decide +kernel
theorem dX9_swap_83 : decode cX9_swap 83 = .ok (.dup, 1) := by decide +kernel
theorem dX9_swap_84 : decode cX9_swap 84 = .ok (.ldc 230, 2) := by decide +kernel
theorem dX9_swap_86 : decode cX9_swap 86 = .ok (.invokespecial 98, 3) := by decide +kernel
theorem dX9_swap_89 : decode cX9_swap 89 = .ok (.athrow, 1) := by decide +kernel
theorem dX9_swap_90 : decode cX9_swap 90 = .ok (.aload 7, 2) := by decide +kernel
theorem dX9_swap_92 : decode cX9_swap 92 = .ok (.iload_n 2, 1) := by decide +kernel
theorem dX9_swap_93 : decode cX9_swap 93 = .ok (.aload 8, 2) := by decide +kernel
theorem dX9_swap_95 : decode cX9_swap 95 = .ok (.iload 4, 2) := by decide +kernel
theorem dX9_swap_97 : decode cX9_swap 97 = .ok (.invokestatic 232, 3) := by decide +kernel
theorem dX9_swap_100 : decode cX9_swap 100 = .ok (.ifCond .ne 13, 3) := by decide +kernel
theorem dX9_swap_103 : decode cX9_swap 103 = .ok (.new 103, 3) := by decide +kernel
theorem dX9_swap_106 : decode cX9_swap 106 = .ok (.dup, 1) := by decide +kernel
theorem dX9_swap_107 : decode cX9_swap 107 = .ok (.ldc 236, 2) := by decide +kernel
theorem dX9_swap_109 : decode cX9_swap 109 = .ok (.invokespecial 107, 3) := by decide +kernel
theorem dX9_swap_112 : decode cX9_swap 112 = .ok (.athrow, 1) := by decide +kernel
theorem dX9_swap_113 : decode cX9_swap 113 = .ok (.aload 7, 2) := by decide +kernel
theorem dX9_swap_115 : decode cX9_swap 115 = .ok (.invokevirtual 211, 3) := by decide +kernel
theorem dX9_swap_118 : decode cX9_swap 118 = .ok (.iload_n 2, 1) := by decide +kernel
theorem dX9_swap_119 : decode cX9_swap 119 = .ok (.isub, 1) := by decide +kernel
theorem dX9_swap_120 : decode cX9_swap 120 = .ok (.aload 8, 2) := by decide +kernel
theorem dX9_swap_122 : decode cX9_swap 122 = .ok (.invokevirtual 211, 3) := by decide +kernel
theorem dX9_swap_125 : decode cX9_swap 125 = .ok (.iadd, 1) := by decide +kernel
theorem dX9_swap_126 : decode cX9_swap 126 = .ok (.iload 4, 2) := by decide +kernel
theorem dX9_swap_128 : decode cX9_swap 128 = .ok (.isub, 1) := by decide +kernel
theorem dX9_swap_129 : decode cX9_swap 129 = .ok (.istore 9, 2) := by decide +kernel
theorem dX9_swap_131 : decode cX9_swap 131 = .ok (.aload_n 0, 1) := by decide +kernel
theorem dX9_swap_132 : decode cX9_swap 132 = .ok (.aload 7, 2) := by decide +kernel
theorem dX9_swap_134 : decode cX9_swap 134 = .ok (.iload_n 2, 1) := by decide +kernel
theorem dX9_swap_135 : decode cX9_swap 135 = .ok (.aload 8, 2) := by decide +kernel
theorem dX9_swap_137 : decode cX9_swap 137 = .ok (.iload 4, 2) := by decide +kernel
theorem dX9_swap_139 : decode cX9_swap 139 = .ok (.invokevirtual 238, 3) := by decide +kernel
theorem dX9_swap_142 : decode cX9_swap 142 = .ok (.aload 5, 2) := by decide +kernel
theorem dX9_swap_144 : decode cX9_swap 144 = .ok (.aload_n 0, 1) := by decide +kernel
theorem dX9_swap_145 : decode cX9_swap 145 = .ok (.getfield 45, 3) := by decide +kernel
theorem dX9_swap_148 : decode cX9_swap 148 = .ok (.invokevirtual 242, 3) := by decide +kernel
theorem dX9_swap_151 : decode cX9_swap 151 = .ok (.aload 6, 2) := by decide +kernel
theorem dX9_swap_153 : decode cX9_swap 153 = .ok (.aload_n 0, 1) := by decide +kernel
theorem dX9_swap_154 : decode cX9_swap 154 = .ok (.getfield 49, 3) := by decide +kernel
theorem dX9_swap_157 : decode cX9_swap 157 = .ok (.invokevirtual 242, 3) := by decide +kernel
theorem dX9_swap_160 : decode cX9_swap 160 = .ok (.iload 9, 2) := by decide +kernel
theorem dX9_swap_162 : decode cX9_swap 162 = .ok (.ireturn, 1) := by decide +kernel
theorem dX9_cut_0 : decode cX9_cut 0 = .ok (.aload_n 0, 1) := by decide +kernel
theorem dX9_cut_1 : decode cX9_cut 1 = .ok (.iload_n 1, 1) := by decide +kernel
theorem dX9_cut_2 : decode cX9_cut 2 = .ok (.invokevirtual 182, 3) := by decide +kernel
theorem dX9_cut_5 : decode cX9_cut 5 = .ok (.astore_n 2, 1) := by decide +kernel
theorem dX9_cut_6 : decode cX9_cut 6 = .ok (.aload_n 2, 1) := by decide +kernel
theorem dX9_cut_7 : decode cX9_cut 7 = .ok (.ifnonnull 13, 3) := by decide +kernel
theorem dX9_cut_10 : decode cX9_cut 10 = .ok (.new 83, 3) := by decide +kernel
theorem dX9_cut_13 : decode cX9_cut 13 = .ok (.dup, 1) := by decide +kernel
theorem dX9_cut_14 : decode cX9_cut 14 = .ok (.ldc 214, 2) := by decide +kernel
theorem dX9_cut_16 : decode cX9_cut 16 = .ok (.invokespecial 87, 3) := by decide +kernel
theorem dX9_cut_19 : decode cX9_cut 19 = .ok (.athrow, 1) := by decide +kernel
theorem dX9_cut_20 : decode cX9_cut 20 = .ok (.aload_n 0, 1) := by decide +kernel
theorem dX9_cut_21 : decode cX9_cut 21 = .ok (.getfield 34, 3) := by decide +kernel
theorem dX9_cut_24 : decode cX9_cut 24 = .ok (.aload_n 2, 1) := by decide +kernel
theorem dX9_cut_25 : decode cX9_cut 25 = .ok (.getfield 191, 3) := by decide +kernel
theorem dX9_cut_28 : decode cX9_cut 28 = .ok (.aload_n 0, 1) := by decide +kernel
theorem dX9_cut_29 : decode cX9_cut 29 = .ok (.getfield 52, 3) := by decide +kernel
theorem dX9_cut_32 : decode cX9_cut 32 = .ok (.invokevirtual 246, 3) := by decide +kernel
theorem dX9_cut_35 : decode cX9_cut 35 = .ok (.istore_n 3, 1) := by decide +kernel
theorem dX9_cut_36 : decode cX9_cut 36 = .ok (.iload_n 3, 1) := by decide +kernel
theorem dX9_cut_37 : decode cX9_cut 37 = .ok (.ifCond .ne 13, 3) := by decide +kernel
theorem dX9_cut_40 : decode cX9_cut 40 = .ok (.new 103, 3) := by decide +kernel
theorem dX9_cut_43 : decode cX9_cut 43 = .ok (.dup, 1) := by decide +kernel
theorem dX9_cut_44 : decode cX9_cut 44 = .ok (.ldc 250, 2) := by decide +kernel
theorem dX9_cut_46 : decode cX9_cut 46 = .ok (.invokespecial 107, 3) := by decide +kernel
theorem dX9_cut_49 : decode cX9_cut 49 = .ok (.athrow, 1) := by decide +kernel
theorem dX9_cut_50 : decode cX9_cut 50 = .ok (.aload_n 2, 1) := by decide +kernel
theorem dX9_cut_51 : decode cX9_cut 51 = .ok (.aload_n 0, 1) := by decide +kernel
theorem dX9_cut_52 : decode cX9_cut 52 = .ok (.getfield 52, 3) := by decide +kernel
theorem dX9_cut_55 : decode cX9_cut 55 = .ok (.iload_n 3, 1) := by decide +kernel
theorem dX9_cut_56 : decode cX9_cut 56 = .ok (.invokevirtual 252, 3) := by decide +kernel
theorem dX9_cut_59 : decode cX9_cut 59 = .ok (.iload_n 3, 1) := by decide +kernel
theorem dX9_cut_60 : decode cX9_cut 60 = .ok (.ireturn, 1) := by decide +kernel
theorem dX9_give_0 : decode cX9_give 0 = .ok (.aload_n 0, 1) := by decide +kernel
theorem dX9_give_1 : decode cX9_give 1 = .ok (.iload_n 1, 1) := by decide +kernel
theorem dX9_give_2 : decode cX9_give 2 = .ok (.iload_n 2, 1) := by decide +kernel
theorem dX9_give_3 : decode cX9_give 3 = .ok (.invokevirtual 256, 3) := by decide +kernel
theorem dX9_give_6 : decode cX9_give 6 = .ok (.astore 4, 2) := by decide +kernel
theorem dX9_give_8 : decode cX9_give 8 = .ok (.aload_n 0, 1) := by decide +kernel
theorem dX9_give_9 : decode cX9_give 9 = .ok (.iload_n 3, 1) := by decide +kernel
theorem dX9_give_10 : decode cX9_give 10 = .ok (.invokevirtual 260, 3) := by decide +kernel
theorem dX9_give_13 : decode cX9_give 13 = .ok (.astore 5, 2) := by decide +kernel
theorem dX9_give_15 : decode cX9_give 15 = .ok (.aload 4, 2) := by decide +kernel
theorem dX9_give_17 : decode cX9_give 17 = .ok (.ifnull 8, 3) := by decide +kernel
theorem dX9_give_20 : decode cX9_give 20 = .ok (.aload 5, 2) := by decide +kernel
theorem dX9_give_22 : decode cX9_give 22 = .ok (.ifnonnull 14, 3) := by decide +kernel
theorem dX9_give_25 : decode cX9_give 25 = .ok (.new 83, 3) := by decide +kernel
theorem dX9_give_28 : decode cX9_give 28 = .ok (.dup, 1) := by decide +kernel
theorem dX9_give_29 : decode cX9_give 29 = .ok (.ldc_w 264, 3) := by decide +kernel
theorem dX9_give_32 : decode cX9_give 32 = .ok (.invokespecial 87, 3) := by decide +kernel
theorem dX9_give_35 : decode cX9_give 35 = .ok (.athrow, 1) := by decide +kernel
theorem dX9_give_36 : decode cX9_give 36 = .ok (.aload 4, 2) := by decide +kernel
theorem dX9_give_38 : decode cX9_give 38 = .ok (.getfield 266, 3) := by decide +kernel
theorem dX9_give_41 : decode cX9_give 41 = .ok (.ifnonnull 13, 3) := by decide +kernel
theorem dX9_give_44 : decode cX9_give 44 = .ok (.aload 5, 2) := by decide +kernel
theorem dX9_give_46 : decode cX9_give 46 = .ok (.aload 4, 2) := by decide +kernel
theorem dX9_give_48 : decode cX9_give 48 = .ok (.invokevirtual 272, 3) := by decide +kernel
theorem dX9_give_51 : decode cX9_give 51 = .ok (.ifCond .ne 14, 3) := by decide +kernel
theorem dX9_give_54 : decode cX9_give 54 = .ok (.new 103, 3) := by decide +kernel
theorem dX9_give_57 : decode cX9_give 57 = .ok (.dup, 1) := by decide +kernel
theorem dX9_give_58 : decode cX9_give 58 = .ok (.ldc_w 276, 3) := by decide +kernel
theorem dX9_give_61 : decode cX9_give 61 = .ok (.invokespecial 107, 3) := by decide +kernel
theorem dX9_give_64 : decode cX9_give 64 = .ok (.athrow, 1) := by decide +kernel
theorem dX9_give_65 : decode cX9_give 65 = .ok (.aload 4, 2) := by decide +kernel
theorem dX9_give_67 : decode cX9_give 67 = .ok (.aload 5, 2) := by decide +kernel
theorem dX9_give_69 : decode cX9_give 69 = .ok (.putfield 266, 3) := by decide +kernel
theorem dX9_give_72 : decode cX9_give 72 = .ok (.aload 5, 2) := by decide +kernel
theorem dX9_give_74 : decode cX9_give 74 = .ok (.getfield 278, 3) := by decide +kernel
theorem dX9_give_77 : decode cX9_give 77 = .ok (.aload 4, 2) := by decide +kernel
theorem dX9_give_79 : decode cX9_give 79 = .ok (.invokevirtual 72, 3) := by decide +kernel
theorem dX9_give_82 : decode cX9_give 82 = .ok (.pop, 1) := by decide +kernel
theorem dX9_give_83 : decode cX9_give 83 = .ok (.aload 5, 2) := by decide +kernel
theorem dX9_give_85 : decode cX9_give 85 = .ok (.invokevirtual 281, 3) := by decide +kernel
theorem dX9_give_88 : decode cX9_give 88 = .ok (.ireturn, 1) := by decide +kernel
theorem dX9_delay_0 : decode cX9_delay 0 = .ok (.aload_n 0, 1) := by decide +kernel
theorem dX9_delay_1 : decode cX9_delay 1 = .ok (.iload_n 1, 1) := by decide +kernel
theorem dX9_delay_2 : decode cX9_delay 2 = .ok (.invokevirtual 185, 3) := by decide +kernel
theorem dX9_delay_5 : decode cX9_delay 5 = .ok (.astore_n 3, 1) := by decide +kernel
theorem dX9_delay_6 : decode cX9_delay 6 = .ok (.aload_n 3, 1) := by decide +kernel
theorem dX9_delay_7 : decode cX9_delay 7 = .ok (.ifnonnull 14, 3) := by decide +kernel
theorem dX9_delay_10 : decode cX9_delay 10 = .ok (.new 83, 3) := by decide +kernel
theorem dX9_delay_13 : decode cX9_delay 13 = .ok (.dup, 1) := by decide +kernel
theorem dX9_delay_14 : decode cX9_delay 14 = .ok (.ldc_w 292, 3) := by decide +kernel
theorem dX9_delay_17 : decode cX9_delay 17 = .ok (.invokespecial 87, 3) := by decide +kernel
theorem dX9_delay_20 : decode cX9_delay 20 = .ok (.athrow, 1) := by decide +kernel
theorem dX9_delay_21 : decode cX9_delay 21 = .ok (.iload_n 2, 1) := by decide +kernel
theorem dX9_delay_22 : decode cX9_delay 22 = .ok (.iconst 0, 1) := by decide +kernel
theorem dX9_delay_23 : decode cX9_delay 23 = .ok (.bipush 120, 2) := by decide +kernel
theorem dX9_delay_25 : decode cX9_delay 25 = .ok (.invokestatic 90, 3) := by decide +kernel
theorem dX9_delay_28 : decode cX9_delay 28 = .ok (.ifCond .eq 14, 3) := by decide +kernel
theorem dX9_delay_31 : decode cX9_delay 31 = .ok (.new 94, 3) := by decide +kernel
theorem dX9_delay_34 : decode cX9_delay 34 = .ok (.dup, 1) := by decide +kernel
theorem dX9_delay_35 : decode cX9_delay 35 = .ok (.ldc_w 294, 3) := by decide +kernel
theorem dX9_delay_38 : decode cX9_delay 38 = .ok (.invokespecial 98, 3) := by decide +kernel
theorem dX9_delay_41 : decode cX9_delay 41 = .ok (.athrow, 1) := by decide +kernel
theorem dX9_delay_42 : decode cX9_delay 42 = .ok (.aload_n 3, 1) := by decide +kernel
theorem dX9_delay_43 : decode cX9_delay 43 = .ok (.getfield 296, 3) := by decide +kernel
theorem dX9_delay_46 : decode cX9_delay 46 = .ok (.istore 4, 2) := by decide +kernel
theorem dX9_delay_48 : decode cX9_delay 48 = .ok (.aload_n 3, 1) := by decide +kernel
theorem dX9_delay_49 : decode cX9_delay 49 = .ok (.iload_n 2, 1) := by decide +kernel
theorem dX9_delay_50 : decode cX9_delay 50 = .ok (.putfield 296, 3) := by decide +kernel
theorem dX9_delay_53 : decode cX9_delay 53 = .ok (.iload 4, 2) := by decide +kernel
theorem dX9_delay_55 : decode cX9_delay 55 = .ok (.ireturn, 1) := by decide +kernel
theorem dX9_breakdown_0 : decode cX9_breakdown 0 = .ok (.aload_n 0, 1) := by decide +kernel
theorem dX9_breakdown_1 : decode cX9_breakdown 1 = .ok (.iload_n 1, 1) := by decide +kernel
theorem dX9_breakdown_2 : decode cX9_breakdown 2 = .ok (.invokevirtual 182, 3) := by decide +kernel
theorem dX9_breakdown_5 : decode cX9_breakdown 5 = .ok (.astore_n 3, 1) := by decide +kernel
theorem dX9_breakdown_6 : decode cX9_breakdown 6 = .ok (.aload_n 3, 1) := by decide +kernel
theorem dX9_breakdown_7 : decode cX9_breakdown 7 = .ok (.ifnonnull 13, 3) := by decide +kernel
theorem dX9_breakdown_10 : decode cX9_breakdown 10 = .ok (.new 83, 3) := by decide +kernel
theorem dX9_breakdown_13 : decode cX9_breakdown 13 = .ok (.dup, 1) := by decide +kernel
theorem dX9_breakdown_14 : decode cX9_breakdown 14 = .ok (.ldc 214, 2) := by decide +kernel
theorem dX9_breakdown_16 : decode cX9_breakdown 16 = .ok (.invokespecial 87, 3) := by decide +kernel
theorem dX9_breakdown_19 : decode cX9_breakdown 19 = .ok (.athrow, 1) := by decide +kernel
theorem dX9_breakdown_20 : decode cX9_breakdown 20 = .ok (.iload_n 2, 1) := by decide +kernel
theorem dX9_breakdown_21 : decode cX9_breakdown 21 = .ok (.iconst (-1), 1) := by decide +kernel
theorem dX9_breakdown_22 : decode cX9_breakdown 22 = .ok (.sipush 1600, 3) := by decide +kernel
theorem dX9_breakdown_25 : decode cX9_breakdown 25 = .ok (.invokestatic 90, 3) := by decide +kernel
theorem dX9_breakdown_28 : decode cX9_breakdown 28 = .ok (.ifCond .eq 14, 3) := by decide +kernel
theorem dX9_breakdown_31 : decode cX9_breakdown 31 = .ok (.new 94, 3) := by decide +kernel
theorem dX9_breakdown_34 : decode cX9_breakdown 34 = .ok (.dup, 1) := by decide +kernel
theorem dX9_breakdown_35 : decode cX9_breakdown 35 = .ok (.ldc_w 299, 3) := by decide +kernel
theorem dX9_breakdown_38 : decode cX9_breakdown 38 = .ok (.invokespecial 98, 3) := by decide +kernel
theorem dX9_breakdown_41 : decode cX9_breakdown 41 = .ok (.athrow, 1) := by decide +kernel
theorem dX9_breakdown_42 : decode cX9_breakdown 42 = .ok (.aload_n 3, 1) := by decide +kernel
theorem dX9_breakdown_43 : decode cX9_breakdown 43 = .ok (.getfield 301, 3) := by decide +kernel
theorem dX9_breakdown_46 : decode cX9_breakdown 46 = .ok (.istore 4, 2) := by decide +kernel
theorem dX9_breakdown_48 : decode cX9_breakdown 48 = .ok (.aload_n 3, 1) := by decide +kernel
theorem dX9_breakdown_49 : decode cX9_breakdown 49 = .ok (.iload_n 2, 1) := by decide +kernel
theorem dX9_breakdown_50 : decode cX9_breakdown 50 = .ok (.putfield 301, 3) := by decide +kernel
theorem dX9_breakdown_53 : decode cX9_breakdown 53 = .ok (.iload 4, 2) := by decide +kernel
theorem dX9_breakdown_55 : decode cX9_breakdown 55 = .ok (.ireturn, 1) := by decide +kernel
theorem dX9_sick_0 : decode cX9_sick 0 = .ok (.aload_n 0, 1) := by decide +kernel
theorem dX9_sick_1 : decode cX9_sick 1 = .ok (.iload_n 1, 1) := by decide +kernel
theorem dX9_sick_2 : decode cX9_sick 2 = .ok (.invokevirtual 260, 3) := by decide +kernel
theorem dX9_sick_5 : decode cX9_sick 5 = .ok (.astore_n 3, 1) := by decide +kernel
theorem dX9_sick_6 : decode cX9_sick 6 = .ok (.aload_n 3, 1) := by decide +kernel
theorem dX9_sick_7 : decode cX9_sick 7 = .ok (.ifnonnull 14, 3) := by decide +kernel
theorem dX9_sick_10 : decode cX9_sick 10 = .ok (.new 83, 3) := by decide +kernel
theorem dX9_sick_13 : decode cX9_sick 13 = .ok (.dup, 1) := by decide +kernel
theorem dX9_sick_14 : decode cX9_sick 14 = .ok (.ldc_w 304, 3) := by decide +kernel
theorem dX9_sick_17 : decode cX9_sick 17 = .ok (.invokespecial 87, 3) := by decide +kernel
theorem dX9_sick_20 : decode cX9_sick 20 = .ok (.athrow, 1) := by decide +kernel
theorem dX9_sick_21 : decode cX9_sick 21 = .ok (.aload_n 3, 1) := by decide +kernel
theorem dX9_sick_22 : decode cX9_sick 22 = .ok (.getfield 306, 3) := by decide +kernel
theorem dX9_sick_25 : decode cX9_sick 25 = .ok (.istore 4, 2) := by decide +kernel
theorem dX9_sick_27 : decode cX9_sick 27 = .ok (.aload_n 3, 1) := by decide +kernel
theorem dX9_sick_28 : decode cX9_sick 28 = .ok (.iload_n 2, 1) := by decide +kernel
theorem dX9_sick_29 : decode cX9_sick 29 = .ok (.putfield 306, 3) := by decide +kernel
theorem dX9_sick_32 : decode cX9_sick 32 = .ok (.iload 4, 2) := by decide +kernel
theorem dX9_sick_34 : decode cX9_sick 34 = .ok (.ireturn, 1) := by decide +kernel
theorem dX9_ofTrip_0 : decode cX9_ofTrip 0 = .ok (.aload_n 0, 1) := by decide +kernel
theorem dX9_ofTrip_1 : decode cX9_ofTrip 1 = .ok (.iload_n 1, 1) := by decide +kernel
theorem dX9_ofTrip_2 : decode cX9_ofTrip 2 = .ok (.invokevirtual 185, 3) := by decide +kernel
theorem dX9_ofTrip_5 : decode cX9_ofTrip 5 = .ok (.astore_n 3, 1) := by decide +kernel
theorem dX9_ofTrip_6 : decode cX9_ofTrip 6 = .ok (.aload_n 3, 1) := by decide +kernel
theorem dX9_ofTrip_7 : decode cX9_ofTrip 7 = .ok (.ifnonnull 14, 3) := by decide +kernel
theorem dX9_ofTrip_10 : decode cX9_ofTrip 10 = .ok (.new 83, 3) := by decide +kernel
theorem dX9_ofTrip_13 : decode cX9_ofTrip 13 = .ok (.dup, 1) := by decide +kernel
theorem dX9_ofTrip_14 : decode cX9_ofTrip 14 = .ok (.ldc_w 292, 3) := by decide +kernel
theorem dX9_ofTrip_17 : decode cX9_ofTrip 17 = .ok (.invokespecial 87, 3) := by decide +kernel
theorem dX9_ofTrip_20 : decode cX9_ofTrip 20 = .ok (.athrow, 1) := by decide +kernel
theorem dX9_ofTrip_21 : decode cX9_ofTrip 21 = .ok (.iload_n 2, 1) := by decide +kernel
theorem dX9_ofTrip_22 : decode cX9_ofTrip 22 = .ok (.iconst 0, 1) := by decide +kernel
theorem dX9_ofTrip_23 : decode cX9_ofTrip 23 = .ok (.bipush 10, 2) := by decide +kernel
theorem dX9_ofTrip_25 : decode cX9_ofTrip 25 = .ok (.invokestatic 90, 3) := by decide +kernel
theorem dX9_ofTrip_28 : decode cX9_ofTrip 28 = .ok (.ifCond .eq 14, 3) := by decide +kernel
theorem dX9_ofTrip_31 : decode cX9_ofTrip 31 = .ok (.new 94, 3) := by decide +kernel
theorem dX9_ofTrip_34 : decode cX9_ofTrip 34 = .ok (.dup, 1) := by decide +kernel
theorem dX9_ofTrip_35 : decode cX9_ofTrip 35 = .ok (.ldc_w 309, 3) := by decide +kernel
theorem dX9_ofTrip_38 : decode cX9_ofTrip 38 = .ok (.invokespecial 98, 3) := by decide +kernel
theorem dX9_ofTrip_41 : decode cX9_ofTrip 41 = .ok (.athrow, 1) := by decide +kernel
theorem dX9_ofTrip_42 : decode cX9_ofTrip 42 = .ok (.aload_n 0, 1) := by decide +kernel
theorem dX9_ofTrip_43 : decode cX9_ofTrip 43 = .ok (.invokevirtual 311, 3) := by decide +kernel
theorem dX9_ofTrip_46 : decode cX9_ofTrip 46 = .ok (.iload_n 2, 1) := by decide +kernel
theorem dX9_ofTrip_47 : decode cX9_ofTrip 47 = .ok (.tableswitch 123 0 9 #[53, 61, 69, 77, 82, 87, 92, 97, 102, 107], 53) := by decide +kernel
theorem dX9_ofTrip_100 : decode cX9_ofTrip 100 = .ok (.aload_n 3, 1) := by decide +kernel
theorem dX9_ofTrip_101 : decode cX9_ofTrip 101 = .ok (.getfield 314, 3) := by decide +kernel
theorem dX9_ofTrip_104 : decode cX9_ofTrip 104 = .ok (.getfield 318, 3) := by decide +kernel
theorem dX9_ofTrip_107 : decode cX9_ofTrip 107 = .ok (.ireturn, 1) := by decide +kernel
theorem dX9_ofTrip_108 : decode cX9_ofTrip 108 = .ok (.aload_n 3, 1) := by decide +kernel
theorem dX9_ofTrip_109 : decode cX9_ofTrip 109 = .ok (.getfield 319, 3) := by decide +kernel
theorem dX9_ofTrip_112 : decode cX9_ofTrip 112 = .ok (.getfield 322, 3) := by decide +kernel
theorem dX9_ofTrip_115 : decode cX9_ofTrip 115 = .ok (.ireturn, 1) := by decide +kernel
theorem dX9_ofTrip_116 : decode cX9_ofTrip 116 = .ok (.aload_n 3, 1) := by decide +kernel
theorem dX9_ofTrip_117 : decode cX9_ofTrip 117 = .ok (.getfield 323, 3) := by decide +kernel
theorem dX9_ofTrip_120 : decode cX9_ofTrip 120 = .ok (.getfield 322, 3) := by decide +kernel
theorem dX9_ofTrip_123 : decode cX9_ofTrip 123 = .ok (.ireturn, 1) := by decide +kernel
theorem dX9_ofTrip_124 : decode cX9_ofTrip 124 = .ok (.aload_n 3, 1) := by decide +kernel
theorem dX9_ofTrip_125 : decode cX9_ofTrip 125 = .ok (.getfield 326, 3) := by decide +kernel
theorem dX9_ofTrip_128 : decode cX9_ofTrip 128 = .ok (.ireturn, 1) := by decide +kernel
theorem dX9_ofTrip_129 : decode cX9_ofTrip 129 = .ok (.aload_n 3, 1) := by decide +kernel
theorem dX9_ofTrip_130 : decode cX9_ofTrip 130 = .ok (.invokevirtual 329, 3) := by decide +kernel
theorem dX9_ofTrip_133 : decode cX9_ofTrip 133 = .ok (.ireturn, 1) := by decide +kernel
theorem dX9_ofTrip_134 : decode cX9_ofTrip 134 = .ok (.aload_n 3, 1) := by decide +kernel
theorem dX9_ofTrip_135 : decode cX9_ofTrip 135 = .ok (.getfield 296, 3) := by decide +kernel
theorem dX9_ofTrip_138 : decode cX9_ofTrip 138 = .ok (.ireturn, 1) := by decide +kernel
theorem dX9_ofTrip_139 : decode cX9_ofTrip 139 = .ok (.aload_n 3, 1) := by decide +kernel
theorem dX9_ofTrip_140 : decode cX9_ofTrip 140 = .ok (.invokevirtual 332, 3) := by decide +kernel
theorem dX9_ofTrip_143 : decode cX9_ofTrip 143 = .ok (.ireturn, 1) := by decide +kernel
theorem dX9_ofTrip_144 : decode cX9_ofTrip 144 = .ok (.aload_n 3, 1) := by decide +kernel
theorem dX9_ofTrip_145 : decode cX9_ofTrip 145 = .ok (.invokevirtual 335, 3) := by decide +kernel
theorem dX9_ofTrip_148 : decode cX9_ofTrip 148 = .ok (.ireturn, 1) := by decide +kernel
theorem dX9_ofTrip_149 : decode cX9_ofTrip 149 = .ok (.aload_n 3, 1) := by decide +kernel
theorem dX9_ofTrip_150 : decode cX9_ofTrip 150 = .ok (.getfield 338, 3) := by decide +kernel
theorem dX9_ofTrip_153 : decode cX9_ofTrip 153 = .ok (.ireturn, 1) := by decide +kernel
theorem dX9_ofTrip_154 : decode cX9_ofTrip 154 = .ok (.aload_n 3, 1) := by decide +kernel
theorem dX9_ofTrip_155 : decode cX9_ofTrip 155 = .ok (.invokevirtual 341, 3) := by decide +kernel
theorem dX9_ofTrip_158 : decode cX9_ofTrip 158 = .ok (.ifCond .eq 10, 3) := by decide +kernel
theorem dX9_ofTrip_161 : decode cX9_ofTrip 161 = .ok (.aload_n 3, 1) := by decide +kernel
theorem dX9_ofTrip_162 : decode cX9_ofTrip 162 = .ok (.invokevirtual 344, 3) := by decide +kernel
theorem dX9_ofTrip_165 : decode cX9_ofTrip 165 = .ok (.goto 4, 3) := by decide +kernel
theorem dX9_ofTrip_168 : decode cX9_ofTrip 168 = .ok (.iconst (-1), 1) := by decide +kernel
theorem dX9_ofTrip_169 : decode cX9_ofTrip 169 = .ok (.ireturn, 1) := by decide +kernel
theorem dX9_ofTrip_170 : decode cX9_ofTrip 170 = .ok (.aload_n 3, 1) := by decide +kernel
theorem dX9_ofTrip_171 : decode cX9_ofTrip 171 = .ok (.invokevirtual 341, 3) := by decide +kernel
theorem dX9_ofTrip_174 : decode cX9_ofTrip 174 = .ok (.ifCond .eq 10, 3) := by decide +kernel
theorem dX9_ofTrip_177 : decode cX9_ofTrip 177 = .ok (.aload_n 3, 1) := by decide +kernel
theorem dX9_ofTrip_178 : decode cX9_ofTrip 178 = .ok (.getfield 347, 3) := by decide +kernel
theorem dX9_ofTrip_181 : decode cX9_ofTrip 181 = .ok (.goto 4, 3) := by decide +kernel
theorem dX9_ofTrip_184 : decode cX9_ofTrip 184 = .ok (.iconst (-1), 1) := by decide +kernel
theorem dX9_ofTrip_185 : decode cX9_ofTrip 185 = .ok (.ireturn, 1) := by decide +kernel
theorem dX9_ofBlock_0 : decode cX9_ofBlock 0 = .ok (.aload_n 0, 1) := by decide +kernel
theorem dX9_ofBlock_1 : decode cX9_ofBlock 1 = .ok (.iload_n 1, 1) := by decide +kernel
theorem dX9_ofBlock_2 : decode cX9_ofBlock 2 = .ok (.invokevirtual 182, 3) := by decide +kernel
theorem dX9_ofBlock_5 : decode cX9_ofBlock 5 = .ok (.astore_n 3, 1) := by decide +kernel
theorem dX9_ofBlock_6 : decode cX9_ofBlock 6 = .ok (.aload_n 3, 1) := by decide +kernel
theorem dX9_ofBlock_7 : decode cX9_ofBlock 7 = .ok (.ifnonnull 13, 3) := by decide +kernel
theorem dX9_ofBlock_10 : decode cX9_ofBlock 10 = .ok (.new 83, 3) := by decide +kernel
theorem dX9_ofBlock_13 : decode cX9_ofBlock 13 = .ok (.dup, 1) := by decide +kernel
theorem dX9_ofBlock_14 : decode cX9_ofBlock 14 = .ok (.ldc 214, 2) := by decide +kernel
theorem dX9_ofBlock_16 : decode cX9_ofBlock 16 = .ok (.invokespecial 87, 3) := by decide +kernel
theorem dX9_ofBlock_19 : decode cX9_ofBlock 19 = .ok (.athrow, 1) := by decide +kernel
theorem dX9_ofBlock_20 : decode cX9_ofBlock 20 = .ok (.iload_n 2, 1) := by decide +kernel
theorem dX9_ofBlock_21 : decode cX9_ofBlock 21 = .ok (.iconst 0, 1) := by decide +kernel
theorem dX9_ofBlock_22 : decode cX9_ofBlock 22 = .ok (.bipush 7, 2) := by decide +kernel
theorem dX9_ofBlock_24 : decode cX9_ofBlock 24 = .ok (.invokestatic 90, 3) := by decide +kernel
theorem dX9_ofBlock_27 : decode cX9_ofBlock 27 = .ok (.ifCond .eq 14, 3) := by decide +kernel
theorem dX9_ofBlock_30 : decode cX9_ofBlock 30 = .ok (.new 94, 3) := by decide +kernel
theorem dX9_ofBlock_33 : decode cX9_ofBlock 33 = .ok (.dup, 1) := by decide +kernel
theorem dX9_ofBlock_34 : decode cX9_ofBlock 34 = .ok (.ldc_w 309, 3) := by decide +kernel
theorem dX9_ofBlock_37 : decode cX9_ofBlock 37 = .ok (.invokespecial 98, 3) := by decide +kernel
theorem dX9_ofBlock_40 : decode cX9_ofBlock 40 = .ok (.athrow, 1) := by decide +kernel
theorem dX9_ofBlock_41 : decode cX9_ofBlock 41 = .ok (.iload_n 2, 1) := by decide +kernel
theorem dX9_ofBlock_42 : decode cX9_ofBlock 42 = .ok (.tableswitch 121 0 6 #[42, 47, 55, 60, 68, 89, 109], 42) := by decide +kernel
theorem dX9_ofBlock_84 : decode cX9_ofBlock 84 = .ok (.aload_n 3, 1) := by decide +kernel
theorem dX9_ofBlock_85 : decode cX9_ofBlock 85 = .ok (.getfield 350, 3) := by decide +kernel
theorem dX9_ofBlock_88 : decode cX9_ofBlock 88 = .ok (.ireturn, 1) := by decide +kernel
theorem dX9_ofBlock_89 : decode cX9_ofBlock 89 = .ok (.aload_n 3, 1) := by decide +kernel
theorem dX9_ofBlock_90 : decode cX9_ofBlock 90 = .ok (.getfield 191, 3) := by decide +kernel
theorem dX9_ofBlock_93 : decode cX9_ofBlock 93 = .ok (.invokevirtual 211, 3) := by decide +kernel
theorem dX9_ofBlock_96 : decode cX9_ofBlock 96 = .ok (.ireturn, 1) := by decide +kernel
theorem dX9_ofBlock_97 : decode cX9_ofBlock 97 = .ok (.aload_n 3, 1) := by decide +kernel
theorem dX9_ofBlock_98 : decode cX9_ofBlock 98 = .ok (.getfield 301, 3) := by decide +kernel
theorem dX9_ofBlock_101 : decode cX9_ofBlock 101 = .ok (.ireturn, 1) := by decide +kernel
theorem dX9_ofBlock_102 : decode cX9_ofBlock 102 = .ok (.aload_n 3, 1) := by decide +kernel
theorem dX9_ofBlock_103 : decode cX9_ofBlock 103 = .ok (.getfield 353, 3) := by decide +kernel
theorem dX9_ofBlock_106 : decode cX9_ofBlock 106 = .ok (.invokevirtual 136, 3) := by decide +kernel
theorem dX9_ofBlock_109 : decode cX9_ofBlock 109 = .ok (.ireturn, 1) := by decide +kernel
theorem dX9_ofBlock_110 : decode cX9_ofBlock 110 = .ok (.aload_n 0, 1) := by decide +kernel
theorem dX9_ofBlock_111 : decode cX9_ofBlock 111 = .ok (.aload_n 3, 1) := by decide +kernel
theorem dX9_ofBlock_112 : decode cX9_ofBlock 112 = .ok (.getfield 191, 3) := by decide +kernel
theorem dX9_ofBlock_115 : decode cX9_ofBlock 115 = .ok (.aload_n 3, 1) := by decide +kernel
theorem dX9_ofBlock_116 : decode cX9_ofBlock 116 = .ok (.getfield 350, 3) := by decide +kernel
theorem dX9_ofBlock_119 : decode cX9_ofBlock 119 = .ok (.invokevirtual 354, 3) := by decide +kernel
theorem dX9_ofBlock_122 : decode cX9_ofBlock 122 = .ok (.ifCond .eq 7, 3) := by decide +kernel
theorem dX9_ofBlock_125 : decode cX9_ofBlock 125 = .ok (.iconst 1, 1) := by decide +kernel
theorem dX9_ofBlock_126 : decode cX9_ofBlock 126 = .ok (.goto 4, 3) := by decide +kernel
theorem dX9_ofBlock_129 : decode cX9_ofBlock 129 = .ok (.iconst 0, 1) := by decide +kernel
theorem dX9_ofBlock_130 : decode cX9_ofBlock 130 = .ok (.ireturn, 1) := by decide +kernel
theorem dX9_ofBlock_131 : decode cX9_ofBlock 131 = .ok (.aload_n 3, 1) := by decide +kernel
theorem dX9_ofBlock_132 : decode cX9_ofBlock 132 = .ok (.getfield 191, 3) := by decide +kernel
theorem dX9_ofBlock_135 : decode cX9_ofBlock 135 = .ok (.aload_n 0, 1) := by decide +kernel
theorem dX9_ofBlock_136 : decode cX9_ofBlock 136 = .ok (.getfield 68, 3) := by decide +kernel
theorem dX9_ofBlock_139 : decode cX9_ofBlock 139 = .ok (.aload_n 3, 1) := by decide +kernel
theorem dX9_ofBlock_140 : decode cX9_ofBlock 140 = .ok (.getfield 350, 3) := by decide +kernel
theorem dX9_ofBlock_143 : decode cX9_ofBlock 143 = .ok (.aload_n 0, 1) := by decide +kernel
theorem dX9_ofBlock_144 : decode cX9_ofBlock 144 = .ok (.getfield 161, 3) := by decide +kernel
theorem dX9_ofBlock_147 : decode cX9_ofBlock 147 = .ok (.invokevirtual 358, 3) := by decide +kernel
theorem dX9_ofBlock_150 : decode cX9_ofBlock 150 = .ok (.ireturn, 1) := by decide +kernel
theorem dX9_ofBlock_151 : decode cX9_ofBlock 151 = .ok (.aload_n 3, 1) := by decide +kernel
theorem dX9_ofBlock_152 : decode cX9_ofBlock 152 = .ok (.getfield 191, 3) := by decide +kernel
theorem dX9_ofBlock_155 : decode cX9_ofBlock 155 = .ok (.aload_n 0, 1) := by decide +kernel
theorem dX9_ofBlock_156 : decode cX9_ofBlock 156 = .ok (.getfield 68, 3) := by decide +kernel
theorem dX9_ofBlock_159 : decode cX9_ofBlock 159 = .ok (.invokevirtual 362, 3) := by decide +kernel
theorem dX9_ofBlock_162 : decode cX9_ofBlock 162 = .ok (.ireturn, 1) := by decide +kernel
theorem dX9_ofBlock_163 : decode cX9_ofBlock 163 = .ok (.aload_n 3, 1) := by decide +kernel
theorem dX9_ofBlock_164 : decode cX9_ofBlock 164 = .ok (.getfield 191, 3) := by decide +kernel
theorem dX9_ofBlock_167 : decode cX9_ofBlock 167 = .ok (.invokevirtual 211, 3) := by decide +kernel
theorem dX9_ofBlock_170 : decode cX9_ofBlock 170 = .ok (.aload_n 3, 1) := by decide +kernel
theorem dX9_ofBlock_171 : decode cX9_ofBlock 171 = .ok (.invokevirtual 366, 3) := by decide +kernel
theorem dX9_ofBlock_174 : decode cX9_ofBlock 174 = .ok (.isub, 1) := by decide +kernel
theorem dX9_ofBlock_175 : decode cX9_ofBlock 175 = .ok (.ireturn, 1) := by decide +kernel
theorem dX9_at_0 : decode cX9_at 0 = .ok (.aload_n 0, 1) := by decide +kernel
theorem dX9_at_1 : decode cX9_at 1 = .ok (.iload_n 1, 1) := by decide +kernel
theorem dX9_at_2 : decode cX9_at 2 = .ok (.invokevirtual 182, 3) := by decide +kernel
theorem dX9_at_5 : decode cX9_at 5 = .ok (.astore_n 3, 1) := by decide +kernel
theorem dX9_at_6 : decode cX9_at 6 = .ok (.aload_n 3, 1) := by decide +kernel
theorem dX9_at_7 : decode cX9_at 7 = .ok (.ifnonnull 13, 3) := by decide +kernel
theorem dX9_at_10 : decode cX9_at 10 = .ok (.new 83, 3) := by decide +kernel
theorem dX9_at_13 : decode cX9_at 13 = .ok (.dup, 1) := by decide +kernel
theorem dX9_at_14 : decode cX9_at 14 = .ok (.ldc 214, 2) := by decide +kernel
theorem dX9_at_16 : decode cX9_at 16 = .ok (.invokespecial 87, 3) := by decide +kernel
theorem dX9_at_19 : decode cX9_at 19 = .ok (.athrow, 1) := by decide +kernel
theorem dX9_at_20 : decode cX9_at 20 = .ok (.iload_n 2, 1) := by decide +kernel
theorem dX9_at_21 : decode cX9_at 21 = .ok (.ifCond .ge 14, 3) := by decide +kernel
theorem dX9_at_24 : decode cX9_at 24 = .ok (.new 94, 3) := by decide +kernel
theorem dX9_at_27 : decode cX9_at 27 = .ok (.dup, 1) := by decide +kernel
theorem dX9_at_28 : decode cX9_at 28 = .ok (.ldc_w 369, 3) := by decide +kernel
theorem dX9_at_31 : decode cX9_at 31 = .ok (.invokespecial 98, 3) := by decide +kernel
theorem dX9_at_34 : decode cX9_at 34 = .ok (.athrow, 1) := by decide +kernel
theorem dX9_at_35 : decode cX9_at 35 = .ok (.aload_n 3, 1) := by decide +kernel
theorem dX9_at_36 : decode cX9_at 36 = .ok (.getfield 191, 3) := by decide +kernel
theorem dX9_at_39 : decode cX9_at 39 = .ok (.iload_n 2, 1) := by decide +kernel
theorem dX9_at_40 : decode cX9_at 40 = .ok (.invokevirtual 371, 3) := by decide +kernel
theorem dX9_at_43 : decode cX9_at 43 = .ok (.astore 4, 2) := by decide +kernel
theorem dX9_at_45 : decode cX9_at 45 = .ok (.aload 4, 2) := by decide +kernel
theorem dX9_at_47 : decode cX9_at 47 = .ok (.ifnonnull 7, 3) := by decide +kernel
theorem dX9_at_50 : decode cX9_at 50 = .ok (.iconst (-1), 1) := by decide +kernel
theorem dX9_at_51 : decode cX9_at 51 = .ok (.goto 8, 3) := by decide +kernel
theorem dX9_at_54 : decode cX9_at 54 = .ok (.aload 4, 2) := by decide +kernel
theorem dX9_at_56 : decode cX9_at 56 = .ok (.getfield 221, 3) := by decide +kernel
theorem dX9_at_59 : decode cX9_at 59 = .ok (.ireturn, 1) := by decide +kernel
theorem dX9_ofPiece_0 : decode cX9_ofPiece 0 = .ok (.aload_n 0, 1) := by decide +kernel
theorem dX9_ofPiece_1 : decode cX9_ofPiece 1 = .ok (.iload_n 1, 1) := by decide +kernel
theorem dX9_ofPiece_2 : decode cX9_ofPiece 2 = .ok (.iload_n 2, 1) := by decide +kernel
theorem dX9_ofPiece_3 : decode cX9_ofPiece 3 = .ok (.invokevirtual 256, 3) := by decide +kernel
theorem dX9_ofPiece_6 : decode cX9_ofPiece 6 = .ok (.astore 4, 2) := by decide +kernel
theorem dX9_ofPiece_8 : decode cX9_ofPiece 8 = .ok (.aload 4, 2) := by decide +kernel
theorem dX9_ofPiece_10 : decode cX9_ofPiece 10 = .ok (.ifnonnull 14, 3) := by decide +kernel
theorem dX9_ofPiece_13 : decode cX9_ofPiece 13 = .ok (.new 83, 3) := by decide +kernel
theorem dX9_ofPiece_16 : decode cX9_ofPiece 16 = .ok (.dup, 1) := by decide +kernel
theorem dX9_ofPiece_17 : decode cX9_ofPiece 17 = .ok (.ldc_w 284, 3) := by decide +kernel
theorem dX9_ofPiece_20 : decode cX9_ofPiece 20 = .ok (.invokespecial 87, 3) := by decide +kernel
theorem dX9_ofPiece_23 : decode cX9_ofPiece 23 = .ok (.athrow, 1) := by decide +kernel
theorem dX9_ofPiece_24 : decode cX9_ofPiece 24 = .ok (.iload_n 3, 1) := by decide +kernel
theorem dX9_ofPiece_25 : decode cX9_ofPiece 25 = .ok (.iconst 0, 1) := by decide +kernel
theorem dX9_ofPiece_26 : decode cX9_ofPiece 26 = .ok (.iconst 5, 1) := by decide +kernel
theorem dX9_ofPiece_27 : decode cX9_ofPiece 27 = .ok (.invokestatic 90, 3) := by decide +kernel
theorem dX9_ofPiece_30 : decode cX9_ofPiece 30 = .ok (.ifCond .eq 14, 3) := by decide +kernel
theorem dX9_ofPiece_33 : decode cX9_ofPiece 33 = .ok (.new 94, 3) := by decide +kernel
theorem dX9_ofPiece_36 : decode cX9_ofPiece 36 = .ok (.dup, 1) := by decide +kernel
theorem dX9_ofPiece_37 : decode cX9_ofPiece 37 = .ok (.ldc_w 309, 3) := by decide +kernel
theorem dX9_ofPiece_40 : decode cX9_ofPiece 40 = .ok (.invokespecial 98, 3) := by decide +kernel
theorem dX9_ofPiece_43 : decode cX9_ofPiece 43 = .ok (.athrow, 1) := by decide +kernel
theorem dX9_ofPiece_44 : decode cX9_ofPiece 44 = .ok (.aload_n 0, 1) := by decide +kernel
theorem dX9_ofPiece_45 : decode cX9_ofPiece 45 = .ok (.invokevirtual 311, 3) := by decide +kernel
theorem dX9_ofPiece_48 : decode cX9_ofPiece 48 = .ok (.iload_n 3, 1) := by decide +kernel
theorem dX9_ofPiece_49 : decode cX9_ofPiece 49 = .ok (.tableswitch 71 0 4 #[35, 44, 53, 59, 65], 35) := by decide +kernel
theorem dX9_ofPiece_84 : decode cX9_ofPiece 84 = .ok (.aload 4, 2) := by decide +kernel
theorem dX9_ofPiece_86 : decode cX9_ofPiece 86 = .ok (.getfield 373, 3) := by decide +kernel
theorem dX9_ofPiece_89 : decode cX9_ofPiece 89 = .ok (.getfield 221, 3) := by decide +kernel
theorem dX9_ofPiece_92 : decode cX9_ofPiece 92 = .ok (.ireturn, 1) := by decide +kernel
theorem dX9_ofPiece_93 : decode cX9_ofPiece 93 = .ok (.aload 4, 2) := by decide +kernel
theorem dX9_ofPiece_95 : decode cX9_ofPiece 95 = .ok (.getfield 377, 3) := by decide +kernel
theorem dX9_ofPiece_98 : decode cX9_ofPiece 98 = .ok (.getfield 221, 3) := by decide +kernel
theorem dX9_ofPiece_101 : decode cX9_ofPiece 101 = .ok (.ireturn, 1) := by decide +kernel
theorem dX9_ofPiece_102 : decode cX9_ofPiece 102 = .ok (.aload 4, 2) := by decide +kernel
theorem dX9_ofPiece_104 : decode cX9_ofPiece 104 = .ok (.getfield 379, 3) := by decide +kernel
theorem dX9_ofPiece_107 : decode cX9_ofPiece 107 = .ok (.ireturn, 1) := by decide +kernel
theorem dX9_ofPiece_108 : decode cX9_ofPiece 108 = .ok (.aload 4, 2) := by decide +kernel
theorem dX9_ofPiece_110 : decode cX9_ofPiece 110 = .ok (.invokevirtual 382, 3) := by decide +kernel
theorem dX9_ofPiece_113 : decode cX9_ofPiece 113 = .ok (.ireturn, 1) := by decide +kernel
theorem dX9_ofPiece_114 : decode cX9_ofPiece 114 = .ok (.aload 4, 2) := by decide +kernel
theorem dX9_ofPiece_116 : decode cX9_ofPiece 116 = .ok (.invokevirtual 286, 3) := by decide +kernel
theorem dX9_ofPiece_119 : decode cX9_ofPiece 119 = .ok (.ireturn, 1) := by decide +kernel
theorem dX9_ofPiece_120 : decode cX9_ofPiece 120 = .ok (.aload 4, 2) := by decide +kernel
theorem dX9_ofPiece_122 : decode cX9_ofPiece 122 = .ok (.invokevirtual 383, 3) := by decide +kernel
theorem dX9_ofPiece_125 : decode cX9_ofPiece 125 = .ok (.ireturn, 1) := by decide +kernel
theorem dX9_ofDriver_0 : decode cX9_ofDriver 0 = .ok (.aload_n 0, 1) := by decide +kernel
theorem dX9_ofDriver_1 : decode cX9_ofDriver 1 = .ok (.iload_n 1, 1) := by decide +kernel
theorem dX9_ofDriver_2 : decode cX9_ofDriver 2 = .ok (.invokevirtual 260, 3) := by decide +kernel
theorem dX9_ofDriver_5 : decode cX9_ofDriver 5 = .ok (.astore_n 3, 1) := by decide +kernel
theorem dX9_ofDriver_6 : decode cX9_ofDriver 6 = .ok (.aload_n 3, 1) := by decide +kernel
theorem dX9_ofDriver_7 : decode cX9_ofDriver 7 = .ok (.ifnonnull 14, 3) := by decide +kernel
theorem dX9_ofDriver_10 : decode cX9_ofDriver 10 = .ok (.new 83, 3) := by decide +kernel
theorem dX9_ofDriver_13 : decode cX9_ofDriver 13 = .ok (.dup, 1) := by decide +kernel
theorem dX9_ofDriver_14 : decode cX9_ofDriver 14 = .ok (.ldc_w 304, 3) := by decide +kernel
theorem dX9_ofDriver_17 : decode cX9_ofDriver 17 = .ok (.invokespecial 87, 3) := by decide +kernel
theorem dX9_ofDriver_20 : decode cX9_ofDriver 20 = .ok (.athrow, 1) := by decide +kernel
theorem dX9_ofDriver_21 : decode cX9_ofDriver 21 = .ok (.iload_n 2, 1) := by decide +kernel
theorem dX9_ofDriver_22 : decode cX9_ofDriver 22 = .ok (.iconst 0, 1) := by decide +kernel
theorem dX9_ofDriver_23 : decode cX9_ofDriver 23 = .ok (.iconst 4, 1) := by decide +kernel
theorem dX9_ofDriver_24 : decode cX9_ofDriver 24 = .ok (.invokestatic 90, 3) := by decide +kernel
theorem dX9_ofDriver_27 : decode cX9_ofDriver 27 = .ok (.ifCond .eq 14, 3) := by decide +kernel
theorem dX9_ofDriver_30 : decode cX9_ofDriver 30 = .ok (.new 94, 3) := by decide +kernel
theorem dX9_ofDriver_33 : decode cX9_ofDriver 33 = .ok (.dup, 1) := by decide +kernel
theorem dX9_ofDriver_34 : decode cX9_ofDriver 34 = .ok (.ldc_w 309, 3) := by decide +kernel
theorem dX9_ofDriver_37 : decode cX9_ofDriver 37 = .ok (.invokespecial 98, 3) := by decide +kernel
theorem dX9_ofDriver_40 : decode cX9_ofDriver 40 = .ok (.athrow, 1) := by decide +kernel
theorem dX9_ofDriver_41 : decode cX9_ofDriver 41 = .ok (.aload_n 0, 1) := by decide +kernel
theorem dX9_ofDriver_42 : decode cX9_ofDriver 42 = .ok (.invokevirtual 311, 3) := by decide +kernel
theorem dX9_ofDriver_45 : decode cX9_ofDriver 45 = .ok (.iload_n 2, 1) := by decide +kernel
theorem dX9_ofDriver_46 : decode cX9_ofDriver 46 = .ok (.tableswitch 61 0 3 #[30, 38, 43, 56], 30) := by decide +kernel
theorem dX9_ofDriver_76 : decode cX9_ofDriver 76 = .ok (.aload_n 3, 1) := by decide +kernel
theorem dX9_ofDriver_77 : decode cX9_ofDriver 77 = .ok (.getfield 278, 3) := by decide +kernel
theorem dX9_ofDriver_80 : decode cX9_ofDriver 80 = .ok (.invokevirtual 136, 3) := by decide +kernel
theorem dX9_ofDriver_83 : decode cX9_ofDriver 83 = .ok (.ireturn, 1) := by decide +kernel
theorem dX9_ofDriver_84 : decode cX9_ofDriver 84 = .ok (.aload_n 3, 1) := by decide +kernel
theorem dX9_ofDriver_85 : decode cX9_ofDriver 85 = .ok (.invokevirtual 281, 3) := by decide +kernel
theorem dX9_ofDriver_88 : decode cX9_ofDriver 88 = .ok (.ireturn, 1) := by decide +kernel
theorem dX9_ofDriver_89 : decode cX9_ofDriver 89 = .ok (.aload_n 3, 1) := by decide +kernel
theorem dX9_ofDriver_90 : decode cX9_ofDriver 90 = .ok (.getfield 306, 3) := by decide +kernel
theorem dX9_ofDriver_93 : decode cX9_ofDriver 93 = .ok (.ifCond .eq 7, 3) := by decide +kernel
theorem dX9_ofDriver_96 : decode cX9_ofDriver 96 = .ok (.iconst 1, 1) := by decide +kernel
theorem dX9_ofDriver_97 : decode cX9_ofDriver 97 = .ok (.goto 4, 3) := by decide +kernel
theorem dX9_ofDriver_100 : decode cX9_ofDriver 100 = .ok (.iconst 0, 1) := by decide +kernel
theorem dX9_ofDriver_101 : decode cX9_ofDriver 101 = .ok (.ireturn, 1) := by decide +kernel
theorem dX9_ofDriver_102 : decode cX9_ofDriver 102 = .ok (.aload_n 3, 1) := by decide +kernel
theorem dX9_ofDriver_103 : decode cX9_ofDriver 103 = .ok (.invokevirtual 386, 3) := by decide +kernel
theorem dX9_ofDriver_106 : decode cX9_ofDriver 106 = .ok (.ireturn, 1) := by decide +kernel
theorem dX9_ofDriver_107 : decode cX9_ofDriver 107 = .ok (.aload_n 3, 1) := by decide +kernel
theorem dX9_ofDriver_108 : decode cX9_ofDriver 108 = .ok (.invokevirtual 387, 3) := by decide +kernel
theorem dX9_ofDriver_111 : decode cX9_ofDriver 111 = .ok (.ireturn, 1) := by decide +kernel
theorem dX9_many_0 : decode cX9_many 0 = .ok (.iload_n 1, 1) := by decide +kernel
theorem dX9_many_1 : decode cX9_many 1 = .ok (.iconst 0, 1) := by decide +kernel
theorem dX9_many_2 : decode cX9_many 2 = .ok (.bipush 8, 2) := by decide +kernel
theorem dX9_many_4 : decode cX9_many 4 = .ok (.invokestatic 90, 3) := by decide +kernel
theorem dX9_many_7 : decode cX9_many 7 = .ok (.ifCond .eq 14, 3) := by decide +kernel
theorem dX9_many_10 : decode cX9_many 10 = .ok (.new 94, 3) := by decide +kernel
theorem dX9_many_13 : decode cX9_many 13 = .ok (.dup, 1) := by decide +kernel
theorem dX9_many_14 : decode cX9_many 14 = .ok (.ldc_w 309, 3) := by decide +kernel
theorem dX9_many_17 : decode cX9_many 17 = .ok (.invokespecial 98, 3) := by decide +kernel
theorem dX9_many_20 : decode cX9_many 20 = .ok (.athrow, 1) := by decide +kernel
theorem dX9_many_21 : decode cX9_many 21 = .ok (.aload_n 0, 1) := by decide +kernel
theorem dX9_many_22 : decode cX9_many 22 = .ok (.invokevirtual 311, 3) := by decide +kernel
theorem dX9_many_25 : decode cX9_many 25 = .ok (.iload_n 1, 1) := by decide +kernel
theorem dX9_many_26 : decode cX9_many 26 = .ok (.tableswitch 97 0 7 #[46, 54, 62, 70, 76, 82, 87, 92], 46) := by decide +kernel
theorem dX9_many_72 : decode cX9_many 72 = .ok (.aload_n 0, 1) := by decide +kernel
theorem dX9_many_73 : decode cX9_many 73 = .ok (.getfield 19, 3) := by decide +kernel
theorem dX9_many_76 : decode cX9_many 76 = .ok (.invokevirtual 136, 3) := by decide +kernel
theorem dX9_many_79 : decode cX9_many 79 = .ok (.ireturn, 1) := by decide +kernel
theorem dX9_many_80 : decode cX9_many 80 = .ok (.aload_n 0, 1) := by decide +kernel
theorem dX9_many_81 : decode cX9_many 81 = .ok (.getfield 25, 3) := by decide +kernel
theorem dX9_many_84 : decode cX9_many 84 = .ok (.invokevirtual 136, 3) := by decide +kernel
theorem dX9_many_87 : decode cX9_many 87 = .ok (.ireturn, 1) := by decide +kernel
theorem dX9_many_88 : decode cX9_many 88 = .ok (.aload_n 0, 1) := by decide +kernel
theorem dX9_many_89 : decode cX9_many 89 = .ok (.getfield 28, 3) := by decide +kernel
theorem dX9_many_92 : decode cX9_many 92 = .ok (.invokevirtual 136, 3) := by decide +kernel
theorem dX9_many_95 : decode cX9_many 95 = .ok (.ireturn, 1) := by decide +kernel
theorem dX9_many_96 : decode cX9_many 96 = .ok (.aload_n 0, 1) := by decide +kernel
theorem dX9_many_97 : decode cX9_many 97 = .ok (.iconst 1, 1) := by decide +kernel
theorem dX9_many_98 : decode cX9_many 98 = .ok (.invokevirtual 390, 3) := by decide +kernel
theorem dX9_many_101 : decode cX9_many 101 = .ok (.ireturn, 1) := by decide +kernel
theorem dX9_many_102 : decode cX9_many 102 = .ok (.aload_n 0, 1) := by decide +kernel
theorem dX9_many_103 : decode cX9_many 103 = .ok (.iconst 0, 1) := by decide +kernel
theorem dX9_many_104 : decode cX9_many 104 = .ok (.invokevirtual 390, 3) := by decide +kernel
theorem dX9_many_107 : decode cX9_many 107 = .ok (.ireturn, 1) := by decide +kernel
theorem dX9_many_108 : decode cX9_many 108 = .ok (.aload_n 0, 1) := by decide +kernel
theorem dX9_many_109 : decode cX9_many 109 = .ok (.invokevirtual 394, 3) := by decide +kernel
theorem dX9_many_112 : decode cX9_many 112 = .ok (.ireturn, 1) := by decide +kernel
theorem dX9_many_113 : decode cX9_many 113 = .ok (.aload_n 0, 1) := by decide +kernel
theorem dX9_many_114 : decode cX9_many 114 = .ok (.invokevirtual 397, 3) := by decide +kernel
theorem dX9_many_117 : decode cX9_many 117 = .ok (.ireturn, 1) := by decide +kernel
theorem dX9_many_118 : decode cX9_many 118 = .ok (.aload_n 0, 1) := by decide +kernel
theorem dX9_many_119 : decode cX9_many 119 = .ok (.invokevirtual 400, 3) := by decide +kernel
theorem dX9_many_122 : decode cX9_many 122 = .ok (.ireturn, 1) := by decide +kernel
theorem dX9_many_123 : decode cX9_many 123 = .ok (.aload_n 0, 1) := by decide +kernel
theorem dX9_many_124 : decode cX9_many 124 = .ok (.invokevirtual 403, 3) := by decide +kernel
theorem dX9_many_127 : decode cX9_many 127 = .ok (.ireturn, 1) := by decide +kernel
theorem dX9_lost_0 : decode cX9_lost 0 = .ok (.iload_n 1, 1) := by decide +kernel
theorem dX9_lost_1 : decode cX9_lost 1 = .ok (.iconst 1, 1) := by decide +kernel
theorem dX9_lost_2 : decode cX9_lost 2 = .ok (.bipush 6, 2) := by decide +kernel
theorem dX9_lost_4 : decode cX9_lost 4 = .ok (.invokestatic 90, 3) := by decide +kernel
theorem dX9_lost_7 : decode cX9_lost 7 = .ok (.ifCond .eq 14, 3) := by decide +kernel
theorem dX9_lost_10 : decode cX9_lost 10 = .ok (.new 83, 3) := by decide +kernel
theorem dX9_lost_13 : decode cX9_lost 13 = .ok (.dup, 1) := by decide +kernel
theorem dX9_lost_14 : decode cX9_lost 14 = .ok (.ldc_w 406, 3) := by decide +kernel
theorem dX9_lost_17 : decode cX9_lost 17 = .ok (.invokespecial 87, 3) := by decide +kernel
theorem dX9_lost_20 : decode cX9_lost 20 = .ok (.athrow, 1) := by decide +kernel
theorem dX9_lost_21 : decode cX9_lost 21 = .ok (.aload_n 0, 1) := by decide +kernel
theorem dX9_lost_22 : decode cX9_lost 22 = .ok (.invokevirtual 311, 3) := by decide +kernel
theorem dX9_lost_25 : decode cX9_lost 25 = .ok (.aload_n 0, 1) := by decide +kernel
theorem dX9_lost_26 : decode cX9_lost 26 = .ok (.iload_n 1, 1) := by decide +kernel
theorem dX9_lost_27 : decode cX9_lost 27 = .ok (.invokevirtual 390, 3) := by decide +kernel
theorem dX9_lost_30 : decode cX9_lost 30 = .ok (.ireturn, 1) := by decide +kernel
theorem dX9_meanLate_0 : decode cX9_meanLate 0 = .ok (.aload_n 0, 1) := by decide +kernel
theorem dX9_meanLate_1 : decode cX9_meanLate 1 = .ok (.invokevirtual 311, 3) := by decide +kernel
theorem dX9_meanLate_4 : decode cX9_meanLate 4 = .ok (.iconst 0, 1) := by decide +kernel
theorem dX9_meanLate_5 : decode cX9_meanLate 5 = .ok (.istore_n 1, 1) := by decide +kernel
theorem dX9_meanLate_6 : decode cX9_meanLate 6 = .ok (.iconst 0, 1) := by decide +kernel
theorem dX9_meanLate_7 : decode cX9_meanLate 7 = .ok (.istore_n 2, 1) := by decide +kernel
theorem dX9_meanLate_8 : decode cX9_meanLate 8 = .ok (.iconst 0, 1) := by decide +kernel
theorem dX9_meanLate_9 : decode cX9_meanLate 9 = .ok (.istore_n 3, 1) := by decide +kernel
theorem dX9_meanLate_10 : decode cX9_meanLate 10 = .ok (.iload_n 3, 1) := by decide +kernel
theorem dX9_meanLate_11 : decode cX9_meanLate 11 = .ok (.aload_n 0, 1) := by decide +kernel
theorem dX9_meanLate_12 : decode cX9_meanLate 12 = .ok (.getfield 19, 3) := by decide +kernel
theorem dX9_meanLate_15 : decode cX9_meanLate 15 = .ok (.invokevirtual 136, 3) := by decide +kernel
theorem dX9_meanLate_18 : decode cX9_meanLate 18 = .ok (.if_icmp .ge 41, 3) := by decide +kernel
theorem dX9_meanLate_21 : decode cX9_meanLate 21 = .ok (.aload_n 0, 1) := by decide +kernel
theorem dX9_meanLate_22 : decode cX9_meanLate 22 = .ok (.getfield 19, 3) := by decide +kernel
theorem dX9_meanLate_25 : decode cX9_meanLate 25 = .ok (.iload_n 3, 1) := by decide +kernel
theorem dX9_meanLate_26 : decode cX9_meanLate 26 = .ok (.invokevirtual 222, 3) := by decide +kernel
theorem dX9_meanLate_29 : decode cX9_meanLate 29 = .ok (.checkcast 142, 3) := by decide +kernel
theorem dX9_meanLate_32 : decode cX9_meanLate 32 = .ok (.astore 4, 2) := by decide +kernel
theorem dX9_meanLate_34 : decode cX9_meanLate 34 = .ok (.aload 4, 2) := by decide +kernel
theorem dX9_meanLate_36 : decode cX9_meanLate 36 = .ok (.invokevirtual 341, 3) := by decide +kernel
theorem dX9_meanLate_39 : decode cX9_meanLate 39 = .ok (.ifCond .eq 14, 3) := by decide +kernel
theorem dX9_meanLate_42 : decode cX9_meanLate 42 = .ok (.iinc 1 1, 3) := by decide +kernel
theorem dX9_meanLate_45 : decode cX9_meanLate 45 = .ok (.iload_n 2, 1) := by decide +kernel
theorem dX9_meanLate_46 : decode cX9_meanLate 46 = .ok (.aload 4, 2) := by decide +kernel
theorem dX9_meanLate_48 : decode cX9_meanLate 48 = .ok (.invokevirtual 344, 3) := by decide +kernel
theorem dX9_meanLate_51 : decode cX9_meanLate 51 = .ok (.iadd, 1) := by decide +kernel
theorem dX9_meanLate_52 : decode cX9_meanLate 52 = .ok (.istore_n 2, 1) := by decide +kernel
theorem dX9_meanLate_53 : decode cX9_meanLate 53 = .ok (.iinc 3 1, 3) := by decide +kernel
theorem dX9_meanLate_56 : decode cX9_meanLate 56 = .ok (.goto (-46), 3) := by decide +kernel
theorem dX9_meanLate_59 : decode cX9_meanLate 59 = .ok (.iload_n 1, 1) := by decide +kernel
theorem dX9_meanLate_60 : decode cX9_meanLate 60 = .ok (.ifCond .ne 7, 3) := by decide +kernel
theorem dX9_meanLate_63 : decode cX9_meanLate 63 = .ok (.dconst 0, 1) := by decide +kernel
theorem dX9_meanLate_64 : decode cX9_meanLate 64 = .ok (.goto 8, 3) := by decide +kernel
theorem dX9_meanLate_67 : decode cX9_meanLate 67 = .ok (.iload_n 2, 1) := by decide +kernel
theorem dX9_meanLate_68 : decode cX9_meanLate 68 = .ok (.i2d, 1) := by decide +kernel
theorem dX9_meanLate_69 : decode cX9_meanLate 69 = .ok (.iload_n 1, 1) := by decide +kernel
theorem dX9_meanLate_70 : decode cX9_meanLate 70 = .ok (.i2d, 1) := by decide +kernel
theorem dX9_meanLate_71 : decode cX9_meanLate 71 = .ok (.ddiv, 1) := by decide +kernel
theorem dX9_meanLate_72 : decode cX9_meanLate 72 = .ok (.dreturn, 1) := by decide +kernel
theorem dX9_leastBlocks_0 : decode cX9_leastBlocks 0 = .ok (.aload_n 0, 1) := by decide +kernel
theorem dX9_leastBlocks_1 : decode cX9_leastBlocks 1 = .ok (.getfield 19, 3) := by decide +kernel
theorem dX9_leastBlocks_4 : decode cX9_leastBlocks 4 = .ok (.invokevirtual 136, 3) := by decide +kernel
theorem dX9_leastBlocks_7 : decode cX9_leastBlocks 7 = .ok (.aload_n 0, 1) := by decide +kernel
theorem dX9_leastBlocks_8 : decode cX9_leastBlocks 8 = .ok (.getfield 59, 3) := by decide +kernel
theorem dX9_leastBlocks_11 : decode cX9_leastBlocks 11 = .ok (.aload_n 0, 1) := by decide +kernel
theorem dX9_leastBlocks_12 : decode cX9_leastBlocks 12 = .ok (.getfield 19, 3) := by decide +kernel
theorem dX9_leastBlocks_15 : decode cX9_leastBlocks 15 = .ok (.invokevirtual 408, 3) := by decide +kernel
theorem dX9_leastBlocks_18 : decode cX9_leastBlocks 18 = .ok (.isub, 1) := by decide +kernel
theorem dX9_leastBlocks_19 : decode cX9_leastBlocks 19 = .ok (.ireturn, 1) := by decide +kernel
theorem dX9_wouldLose_0 : decode cX9_wouldLose 0 = .ok (.aload_n 0, 1) := by decide +kernel
theorem dX9_wouldLose_1 : decode cX9_wouldLose 1 = .ok (.iload_n 1, 1) := by decide +kernel
theorem dX9_wouldLose_2 : decode cX9_wouldLose 2 = .ok (.invokevirtual 182, 3) := by decide +kernel
theorem dX9_wouldLose_5 : decode cX9_wouldLose 5 = .ok (.astore_n 3, 1) := by decide +kernel
theorem dX9_wouldLose_6 : decode cX9_wouldLose 6 = .ok (.aload_n 3, 1) := by decide +kernel
theorem dX9_wouldLose_7 : decode cX9_wouldLose 7 = .ok (.ifnonnull 13, 3) := by decide +kernel
theorem dX9_wouldLose_10 : decode cX9_wouldLose 10 = .ok (.new 83, 3) := by decide +kernel
theorem dX9_wouldLose_13 : decode cX9_wouldLose 13 = .ok (.dup, 1) := by decide +kernel
theorem dX9_wouldLose_14 : decode cX9_wouldLose 14 = .ok (.ldc 214, 2) := by decide +kernel
theorem dX9_wouldLose_16 : decode cX9_wouldLose 16 = .ok (.invokespecial 87, 3) := by decide +kernel
theorem dX9_wouldLose_19 : decode cX9_wouldLose 19 = .ok (.athrow, 1) := by decide +kernel
theorem dX9_wouldLose_20 : decode cX9_wouldLose 20 = .ok (.iload_n 2, 1) := by decide +kernel
theorem dX9_wouldLose_21 : decode cX9_wouldLose 21 = .ok (.iconst 0, 1) := by decide +kernel
theorem dX9_wouldLose_22 : decode cX9_wouldLose 22 = .ok (.sipush 1600, 3) := by decide +kernel
theorem dX9_wouldLose_25 : decode cX9_wouldLose 25 = .ok (.invokestatic 90, 3) := by decide +kernel
theorem dX9_wouldLose_28 : decode cX9_wouldLose 28 = .ok (.ifCond .eq 14, 3) := by decide +kernel
theorem dX9_wouldLose_31 : decode cX9_wouldLose 31 = .ok (.new 94, 3) := by decide +kernel
theorem dX9_wouldLose_34 : decode cX9_wouldLose 34 = .ok (.dup, 1) := by decide +kernel
theorem dX9_wouldLose_35 : decode cX9_wouldLose 35 = .ok (.ldc_w 299, 3) := by decide +kernel
theorem dX9_wouldLose_38 : decode cX9_wouldLose 38 = .ok (.invokespecial 98, 3) := by decide +kernel
theorem dX9_wouldLose_41 : decode cX9_wouldLose 41 = .ok (.athrow, 1) := by decide +kernel
theorem dX9_wouldLose_42 : decode cX9_wouldLose 42 = .ok (.aload_n 3, 1) := by decide +kernel
theorem dX9_wouldLose_43 : decode cX9_wouldLose 43 = .ok (.iload_n 2, 1) := by decide +kernel
theorem dX9_wouldLose_44 : decode cX9_wouldLose 44 = .ok (.aconst_null, 1) := by decide +kernel
theorem dX9_wouldLose_45 : decode cX9_wouldLose 45 = .ok (.iconst 0, 1) := by decide +kernel
theorem dX9_wouldLose_46 : decode cX9_wouldLose 46 = .ok (.invokevirtual 412, 3) := by decide +kernel
theorem dX9_wouldLose_49 : decode cX9_wouldLose 49 = .ok (.aload_n 3, 1) := by decide +kernel
theorem dX9_wouldLose_50 : decode cX9_wouldLose 50 = .ok (.invokevirtual 366, 3) := by decide +kernel
theorem dX9_wouldLose_53 : decode cX9_wouldLose 53 = .ok (.isub, 1) := by decide +kernel
theorem dX9_wouldLose_54 : decode cX9_wouldLose 54 = .ok (.ireturn, 1) := by decide +kernel
theorem dX9_mayDelay_0 : decode cX9_mayDelay 0 = .ok (.aload_n 0, 1) := by decide +kernel
theorem dX9_mayDelay_1 : decode cX9_mayDelay 1 = .ok (.iload_n 1, 1) := by decide +kernel
theorem dX9_mayDelay_2 : decode cX9_mayDelay 2 = .ok (.invokevirtual 185, 3) := by decide +kernel
theorem dX9_mayDelay_5 : decode cX9_mayDelay 5 = .ok (.astore_n 2, 1) := by decide +kernel
theorem dX9_mayDelay_6 : decode cX9_mayDelay 6 = .ok (.aload_n 2, 1) := by decide +kernel
theorem dX9_mayDelay_7 : decode cX9_mayDelay 7 = .ok (.ifnonnull 14, 3) := by decide +kernel
theorem dX9_mayDelay_10 : decode cX9_mayDelay 10 = .ok (.new 83, 3) := by decide +kernel
theorem dX9_mayDelay_13 : decode cX9_mayDelay 13 = .ok (.dup, 1) := by decide +kernel
theorem dX9_mayDelay_14 : decode cX9_mayDelay 14 = .ok (.ldc_w 292, 3) := by decide +kernel
theorem dX9_mayDelay_17 : decode cX9_mayDelay 17 = .ok (.invokespecial 87, 3) := by decide +kernel
theorem dX9_mayDelay_20 : decode cX9_mayDelay 20 = .ok (.athrow, 1) := by decide +kernel
theorem dX9_mayDelay_21 : decode cX9_mayDelay 21 = .ok (.aload_n 2, 1) := by decide +kernel
theorem dX9_mayDelay_22 : decode cX9_mayDelay 22 = .ok (.getfield 198, 3) := by decide +kernel
theorem dX9_mayDelay_25 : decode cX9_mayDelay 25 = .ok (.astore_n 3, 1) := by decide +kernel
theorem dX9_mayDelay_26 : decode cX9_mayDelay 26 = .ok (.aload_n 3, 1) := by decide +kernel
theorem dX9_mayDelay_27 : decode cX9_mayDelay 27 = .ok (.ifnonnull 6, 3) := by decide +kernel
theorem dX9_mayDelay_30 : decode cX9_mayDelay 30 = .ok (.bipush 120, 2) := by decide +kernel
theorem dX9_mayDelay_32 : decode cX9_mayDelay 32 = .ok (.ireturn, 1) := by decide +kernel
theorem dX9_mayDelay_33 : decode cX9_mayDelay 33 = .ok (.aload_n 3, 1) := by decide +kernel
theorem dX9_mayDelay_34 : decode cX9_mayDelay 34 = .ok (.getfield 301, 3) := by decide +kernel
theorem dX9_mayDelay_37 : decode cX9_mayDelay 37 = .ok (.istore 4, 2) := by decide +kernel
theorem dX9_mayDelay_39 : decode cX9_mayDelay 39 = .ok (.aload_n 3, 1) := by decide +kernel
theorem dX9_mayDelay_40 : decode cX9_mayDelay 40 = .ok (.iload 4, 2) := by decide +kernel
theorem dX9_mayDelay_42 : decode cX9_mayDelay 42 = .ok (.aload_n 2, 1) := by decide +kernel
theorem dX9_mayDelay_43 : decode cX9_mayDelay 43 = .ok (.iconst 0, 1) := by decide +kernel
theorem dX9_mayDelay_44 : decode cX9_mayDelay 44 = .ok (.invokevirtual 412, 3) := by decide +kernel
theorem dX9_mayDelay_47 : decode cX9_mayDelay 47 = .ok (.istore 5, 2) := by decide +kernel
theorem dX9_mayDelay_49 : decode cX9_mayDelay 49 = .ok (.bipush 120, 2) := by decide +kernel
theorem dX9_mayDelay_51 : decode cX9_mayDelay 51 = .ok (.istore 6, 2) := by decide +kernel
theorem dX9_mayDelay_53 : decode cX9_mayDelay 53 = .ok (.iload 6, 2) := by decide +kernel
theorem dX9_mayDelay_55 : decode cX9_mayDelay 55 = .ok (.ifCond .le 26, 3) := by decide +kernel
theorem dX9_mayDelay_58 : decode cX9_mayDelay 58 = .ok (.aload_n 3, 1) := by decide +kernel
theorem dX9_mayDelay_59 : decode cX9_mayDelay 59 = .ok (.iload 4, 2) := by decide +kernel
theorem dX9_mayDelay_61 : decode cX9_mayDelay 61 = .ok (.aload_n 2, 1) := by decide +kernel
theorem dX9_mayDelay_62 : decode cX9_mayDelay 62 = .ok (.iload 6, 2) := by decide +kernel
theorem dX9_mayDelay_64 : decode cX9_mayDelay 64 = .ok (.invokevirtual 412, 3) := by decide +kernel
theorem dX9_mayDelay_67 : decode cX9_mayDelay 67 = .ok (.iload 5, 2) := by decide +kernel
theorem dX9_mayDelay_69 : decode cX9_mayDelay 69 = .ok (.if_icmp .gt 6, 3) := by decide +kernel
theorem dX9_mayDelay_72 : decode cX9_mayDelay 72 = .ok (.iload 6, 2) := by decide +kernel
theorem dX9_mayDelay_74 : decode cX9_mayDelay 74 = .ok (.ireturn, 1) := by decide +kernel
theorem dX9_mayDelay_75 : decode cX9_mayDelay 75 = .ok (.iinc 6 (-1), 3) := by decide +kernel
theorem dX9_mayDelay_78 : decode cX9_mayDelay 78 = .ok (.goto (-25), 3) := by decide +kernel
theorem dX9_mayDelay_81 : decode cX9_mayDelay 81 = .ok (.iconst 0, 1) := by decide +kernel
theorem dX9_mayDelay_82 : decode cX9_mayDelay 82 = .ok (.ireturn, 1) := by decide +kernel
theorem dX9_bestSwap_0 : decode cX9_bestSwap 0 = .ok (.aload_n 0, 1) := by decide +kernel
theorem dX9_bestSwap_1 : decode cX9_bestSwap 1 = .ok (.iload_n 1, 1) := by decide +kernel
theorem dX9_bestSwap_2 : decode cX9_bestSwap 2 = .ok (.invokevirtual 182, 3) := by decide +kernel
theorem dX9_bestSwap_5 : decode cX9_bestSwap 5 = .ok (.astore_n 3, 1) := by decide +kernel
theorem dX9_bestSwap_6 : decode cX9_bestSwap 6 = .ok (.aload_n 0, 1) := by decide +kernel
theorem dX9_bestSwap_7 : decode cX9_bestSwap 7 = .ok (.iload_n 2, 1) := by decide +kernel
theorem dX9_bestSwap_8 : decode cX9_bestSwap 8 = .ok (.invokevirtual 182, 3) := by decide +kernel
theorem dX9_bestSwap_11 : decode cX9_bestSwap 11 = .ok (.astore 4, 2) := by decide +kernel
theorem dX9_bestSwap_13 : decode cX9_bestSwap 13 = .ok (.aload_n 3, 1) := by decide +kernel
theorem dX9_bestSwap_14 : decode cX9_bestSwap 14 = .ok (.ifnull 8, 3) := by decide +kernel
theorem dX9_bestSwap_17 : decode cX9_bestSwap 17 = .ok (.aload 4, 2) := by decide +kernel
theorem dX9_bestSwap_19 : decode cX9_bestSwap 19 = .ok (.ifnonnull 13, 3) := by decide +kernel
theorem dX9_bestSwap_22 : decode cX9_bestSwap 22 = .ok (.new 83, 3) := by decide +kernel
theorem dX9_bestSwap_25 : decode cX9_bestSwap 25 = .ok (.dup, 1) := by decide +kernel
theorem dX9_bestSwap_26 : decode cX9_bestSwap 26 = .ok (.ldc 214, 2) := by decide +kernel
theorem dX9_bestSwap_28 : decode cX9_bestSwap 28 = .ok (.invokespecial 87, 3) := by decide +kernel
theorem dX9_bestSwap_31 : decode cX9_bestSwap 31 = .ok (.athrow, 1) := by decide +kernel
theorem dX9_bestSwap_32 : decode cX9_bestSwap 32 = .ok (.iload_n 1, 1) := by decide +kernel
theorem dX9_bestSwap_33 : decode cX9_bestSwap 33 = .ok (.iload_n 2, 1) := by decide +kernel
theorem dX9_bestSwap_34 : decode cX9_bestSwap 34 = .ok (.if_icmp .ne 14, 3) := by decide +kernel
theorem dX9_bestSwap_37 : decode cX9_bestSwap 37 = .ok (.new 94, 3) := by decide +kernel
theorem dX9_bestSwap_40 : decode cX9_bestSwap 40 = .ok (.dup, 1) := by decide +kernel
theorem dX9_bestSwap_41 : decode cX9_bestSwap 41 = .ok (.ldc_w 416, 3) := by decide +kernel
theorem dX9_bestSwap_44 : decode cX9_bestSwap 44 = .ok (.invokespecial 98, 3) := by decide +kernel
theorem dX9_bestSwap_47 : decode cX9_bestSwap 47 = .ok (.athrow, 1) := by decide +kernel
theorem dX9_bestSwap_48 : decode cX9_bestSwap 48 = .ok (.iconst (-1), 1) := by decide +kernel
theorem dX9_bestSwap_49 : decode cX9_bestSwap 49 = .ok (.istore 5, 2) := by decide +kernel
theorem dX9_bestSwap_51 : decode cX9_bestSwap 51 = .ok (.iconst 0, 1) := by decide +kernel
theorem dX9_bestSwap_52 : decode cX9_bestSwap 52 = .ok (.istore 6, 2) := by decide +kernel
theorem dX9_bestSwap_54 : decode cX9_bestSwap 54 = .ok (.iconst 0, 1) := by decide +kernel
theorem dX9_bestSwap_55 : decode cX9_bestSwap 55 = .ok (.istore 7, 2) := by decide +kernel
theorem dX9_bestSwap_57 : decode cX9_bestSwap 57 = .ok (.iload 7, 2) := by decide +kernel
theorem dX9_bestSwap_59 : decode cX9_bestSwap 59 = .ok (.aload_n 3, 1) := by decide +kernel
theorem dX9_bestSwap_60 : decode cX9_bestSwap 60 = .ok (.getfield 191, 3) := by decide +kernel
theorem dX9_bestSwap_63 : decode cX9_bestSwap 63 = .ok (.invokevirtual 211, 3) := by decide +kernel
theorem dX9_bestSwap_66 : decode cX9_bestSwap 66 = .ok (.if_icmp .gt 77, 3) := by decide +kernel
theorem dX9_bestSwap_69 : decode cX9_bestSwap 69 = .ok (.iconst 0, 1) := by decide +kernel
theorem dX9_bestSwap_70 : decode cX9_bestSwap 70 = .ok (.istore 8, 2) := by decide +kernel
theorem dX9_bestSwap_72 : decode cX9_bestSwap 72 = .ok (.iload 8, 2) := by decide +kernel
theorem dX9_bestSwap_74 : decode cX9_bestSwap 74 = .ok (.aload 4, 2) := by decide +kernel
theorem dX9_bestSwap_76 : decode cX9_bestSwap 76 = .ok (.getfield 191, 3) := by decide +kernel
theorem dX9_bestSwap_79 : decode cX9_bestSwap 79 = .ok (.invokevirtual 211, 3) := by decide +kernel
theorem dX9_bestSwap_82 : decode cX9_bestSwap 82 = .ok (.if_icmp .gt 55, 3) := by decide +kernel
theorem dX9_bestSwap_85 : decode cX9_bestSwap 85 = .ok (.aload_n 0, 1) := by decide +kernel
theorem dX9_bestSwap_86 : decode cX9_bestSwap 86 = .ok (.aload_n 3, 1) := by decide +kernel
theorem dX9_bestSwap_87 : decode cX9_bestSwap 87 = .ok (.iload 7, 2) := by decide +kernel
theorem dX9_bestSwap_89 : decode cX9_bestSwap 89 = .ok (.aload 4, 2) := by decide +kernel
theorem dX9_bestSwap_91 : decode cX9_bestSwap 91 = .ok (.iload 8, 2) := by decide +kernel
theorem dX9_bestSwap_93 : decode cX9_bestSwap 93 = .ok (.invokevirtual 418, 3) := by decide +kernel
theorem dX9_bestSwap_96 : decode cX9_bestSwap 96 = .ok (.istore 9, 2) := by decide +kernel
theorem dX9_bestSwap_98 : decode cX9_bestSwap 98 = .ok (.iload 9, 2) := by decide +kernel
theorem dX9_bestSwap_100 : decode cX9_bestSwap 100 = .ok (.iconst (-1), 1) := by decide +kernel
theorem dX9_bestSwap_101 : decode cX9_bestSwap 101 = .ok (.if_icmp .eq 30, 3) := by decide +kernel
theorem dX9_bestSwap_104 : decode cX9_bestSwap 104 = .ok (.iload 5, 2) := by decide +kernel
theorem dX9_bestSwap_106 : decode cX9_bestSwap 106 = .ok (.iconst (-1), 1) := by decide +kernel
theorem dX9_bestSwap_107 : decode cX9_bestSwap 107 = .ok (.if_icmp .eq 10, 3) := by decide +kernel
theorem dX9_bestSwap_110 : decode cX9_bestSwap 110 = .ok (.iload 9, 2) := by decide +kernel
theorem dX9_bestSwap_112 : decode cX9_bestSwap 112 = .ok (.iload 6, 2) := by decide +kernel
theorem dX9_bestSwap_114 : decode cX9_bestSwap 114 = .ok (.if_icmp .ge 17, 3) := by decide +kernel
theorem dX9_bestSwap_117 : decode cX9_bestSwap 117 = .ok (.bipush 20, 2) := by decide +kernel
theorem dX9_bestSwap_119 : decode cX9_bestSwap 119 = .ok (.iload 7, 2) := by decide +kernel
theorem dX9_bestSwap_121 : decode cX9_bestSwap 121 = .ok (.imul, 1) := by decide +kernel
theorem dX9_bestSwap_122 : decode cX9_bestSwap 122 = .ok (.iload 8, 2) := by decide +kernel
theorem dX9_bestSwap_124 : decode cX9_bestSwap 124 = .ok (.iadd, 1) := by decide +kernel
theorem dX9_bestSwap_125 : decode cX9_bestSwap 125 = .ok (.istore 5, 2) := by decide +kernel
theorem dX9_bestSwap_127 : decode cX9_bestSwap 127 = .ok (.iload 9, 2) := by decide +kernel
theorem dX9_bestSwap_129 : decode cX9_bestSwap 129 = .ok (.istore 6, 2) := by decide +kernel
theorem dX9_bestSwap_131 : decode cX9_bestSwap 131 = .ok (.iinc 8 1, 3) := by decide +kernel
theorem dX9_bestSwap_134 : decode cX9_bestSwap 134 = .ok (.goto (-62), 3) := by decide +kernel
theorem dX9_bestSwap_137 : decode cX9_bestSwap 137 = .ok (.iinc 7 1, 3) := by decide +kernel
theorem dX9_bestSwap_140 : decode cX9_bestSwap 140 = .ok (.goto (-83), 3) := by decide +kernel
theorem dX9_bestSwap_143 : decode cX9_bestSwap 143 = .ok (.iload 5, 2) := by decide +kernel
theorem dX9_bestSwap_145 : decode cX9_bestSwap 145 = .ok (.ireturn, 1) := by decide +kernel
theorem dX9_digest_0 : decode cX9_digest 0 = .ok (.ldc2_w 422, 3) := by decide +kernel
theorem dX9_digest_3 : decode cX9_digest 3 = .ok (.lstore_n 1, 1) := by decide +kernel
theorem dX9_digest_4 : decode cX9_digest 4 = .ok (.iconst 0, 1) := by decide +kernel
theorem dX9_digest_5 : decode cX9_digest 5 = .ok (.istore_n 3, 1) := by decide +kernel
theorem dX9_digest_6 : decode cX9_digest 6 = .ok (.iload_n 3, 1) := by decide +kernel
theorem dX9_digest_7 : decode cX9_digest 7 = .ok (.bipush 8, 2) := by decide +kernel
theorem dX9_digest_9 : decode cX9_digest 9 = .ok (.if_icmp .gt 19, 3) := by decide +kernel
theorem dX9_digest_12 : decode cX9_digest 12 = .ok (.lload_n 1, 1) := by decide +kernel
theorem dX9_digest_13 : decode cX9_digest 13 = .ok (.aload_n 0, 1) := by decide +kernel
theorem dX9_digest_14 : decode cX9_digest 14 = .ok (.iload_n 3, 1) := by decide +kernel
theorem dX9_digest_15 : decode cX9_digest 15 = .ok (.invokevirtual 424, 3) := by decide +kernel
theorem dX9_digest_18 : decode cX9_digest 18 = .ok (.invokestatic 427, 3) := by decide +kernel
theorem dX9_digest_21 : decode cX9_digest 21 = .ok (.lstore_n 1, 1) := by decide +kernel
theorem dX9_digest_22 : decode cX9_digest 22 = .ok (.iinc 3 1, 3) := by decide +kernel
theorem dX9_digest_25 : decode cX9_digest 25 = .ok (.goto (-19), 3) := by decide +kernel
theorem dX9_digest_28 : decode cX9_digest 28 = .ok (.iconst 1, 1) := by decide +kernel
theorem dX9_digest_29 : decode cX9_digest 29 = .ok (.istore_n 3, 1) := by decide +kernel
theorem dX9_digest_30 : decode cX9_digest 30 = .ok (.iload_n 3, 1) := by decide +kernel
theorem dX9_digest_31 : decode cX9_digest 31 = .ok (.bipush 6, 2) := by decide +kernel
theorem dX9_digest_33 : decode cX9_digest 33 = .ok (.if_icmp .gt 19, 3) := by decide +kernel
theorem dX9_digest_36 : decode cX9_digest 36 = .ok (.lload_n 1, 1) := by decide +kernel
theorem dX9_digest_37 : decode cX9_digest 37 = .ok (.aload_n 0, 1) := by decide +kernel
theorem dX9_digest_38 : decode cX9_digest 38 = .ok (.iload_n 3, 1) := by decide +kernel
theorem dX9_digest_39 : decode cX9_digest 39 = .ok (.invokevirtual 431, 3) := by decide +kernel
theorem dX9_digest_42 : decode cX9_digest 42 = .ok (.invokestatic 427, 3) := by decide +kernel
theorem dX9_digest_45 : decode cX9_digest 45 = .ok (.lstore_n 1, 1) := by decide +kernel
theorem dX9_digest_46 : decode cX9_digest 46 = .ok (.iinc 3 1, 3) := by decide +kernel
theorem dX9_digest_49 : decode cX9_digest 49 = .ok (.goto (-19), 3) := by decide +kernel
theorem dX9_digest_52 : decode cX9_digest 52 = .ok (.iconst 0, 1) := by decide +kernel
theorem dX9_digest_53 : decode cX9_digest 53 = .ok (.istore_n 3, 1) := by decide +kernel
theorem dX9_digest_54 : decode cX9_digest 54 = .ok (.iload_n 3, 1) := by decide +kernel
theorem dX9_digest_55 : decode cX9_digest 55 = .ok (.aload_n 0, 1) := by decide +kernel
theorem dX9_digest_56 : decode cX9_digest 56 = .ok (.getfield 19, 3) := by decide +kernel
theorem dX9_digest_59 : decode cX9_digest 59 = .ok (.invokevirtual 136, 3) := by decide +kernel
theorem dX9_digest_62 : decode cX9_digest 62 = .ok (.if_icmp .ge 16, 3) := by decide +kernel
theorem dX9_digest_65 : decode cX9_digest 65 = .ok (.aload_n 0, 1) := by decide +kernel
theorem dX9_digest_66 : decode cX9_digest 66 = .ok (.lload_n 1, 1) := by decide +kernel
theorem dX9_digest_67 : decode cX9_digest 67 = .ok (.iload_n 3, 1) := by decide +kernel
theorem dX9_digest_68 : decode cX9_digest 68 = .ok (.invokevirtual 434, 3) := by decide +kernel
theorem dX9_digest_71 : decode cX9_digest 71 = .ok (.lstore_n 1, 1) := by decide +kernel
theorem dX9_digest_72 : decode cX9_digest 72 = .ok (.iinc 3 1, 3) := by decide +kernel
theorem dX9_digest_75 : decode cX9_digest 75 = .ok (.goto (-21), 3) := by decide +kernel
theorem dX9_digest_78 : decode cX9_digest 78 = .ok (.iconst 0, 1) := by decide +kernel
theorem dX9_digest_79 : decode cX9_digest 79 = .ok (.istore_n 3, 1) := by decide +kernel
theorem dX9_digest_80 : decode cX9_digest 80 = .ok (.iload_n 3, 1) := by decide +kernel
theorem dX9_digest_81 : decode cX9_digest 81 = .ok (.aload_n 0, 1) := by decide +kernel
theorem dX9_digest_82 : decode cX9_digest 82 = .ok (.getfield 25, 3) := by decide +kernel
theorem dX9_digest_85 : decode cX9_digest 85 = .ok (.invokevirtual 136, 3) := by decide +kernel
theorem dX9_digest_88 : decode cX9_digest 88 = .ok (.if_icmp .ge 16, 3) := by decide +kernel
theorem dX9_digest_91 : decode cX9_digest 91 = .ok (.aload_n 0, 1) := by decide +kernel
theorem dX9_digest_92 : decode cX9_digest 92 = .ok (.lload_n 1, 1) := by decide +kernel
theorem dX9_digest_93 : decode cX9_digest 93 = .ok (.iload_n 3, 1) := by decide +kernel
theorem dX9_digest_94 : decode cX9_digest 94 = .ok (.invokevirtual 437, 3) := by decide +kernel
theorem dX9_digest_97 : decode cX9_digest 97 = .ok (.lstore_n 1, 1) := by decide +kernel
