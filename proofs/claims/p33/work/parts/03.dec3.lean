theorem dX9_digest_98 : decode cX9_digest 98 = .ok (.iinc 3 1, 3) := by decide +kernel
theorem dX9_digest_101 : decode cX9_digest 101 = .ok (.goto (-21), 3) := by decide +kernel
theorem dX9_digest_104 : decode cX9_digest 104 = .ok (.iconst 0, 1) := by decide +kernel
theorem dX9_digest_105 : decode cX9_digest 105 = .ok (.istore_n 3, 1) := by decide +kernel
theorem dX9_digest_106 : decode cX9_digest 106 = .ok (.iload_n 3, 1) := by decide +kernel
theorem dX9_digest_107 : decode cX9_digest 107 = .ok (.aload_n 0, 1) := by decide +kernel
theorem dX9_digest_108 : decode cX9_digest 108 = .ok (.getfield 28, 3) := by decide +kernel
theorem dX9_digest_111 : decode cX9_digest 111 = .ok (.invokevirtual 136, 3) := by decide +kernel
theorem dX9_digest_114 : decode cX9_digest 114 = .ok (.if_icmp .ge 16, 3) := by decide +kernel
theorem dX9_digest_117 : decode cX9_digest 117 = .ok (.aload_n 0, 1) := by decide +kernel
theorem dX9_digest_118 : decode cX9_digest 118 = .ok (.lload_n 1, 1) := by decide +kernel
theorem dX9_digest_119 : decode cX9_digest 119 = .ok (.iload_n 3, 1) := by decide +kernel
theorem dX9_digest_120 : decode cX9_digest 120 = .ok (.invokevirtual 440, 3) := by decide +kernel
theorem dX9_digest_123 : decode cX9_digest 123 = .ok (.lstore_n 1, 1) := by decide +kernel
theorem dX9_digest_124 : decode cX9_digest 124 = .ok (.iinc 3 1, 3) := by decide +kernel
theorem dX9_digest_127 : decode cX9_digest 127 = .ok (.goto (-21), 3) := by decide +kernel
theorem dX9_digest_130 : decode cX9_digest 130 = .ok (.lload_n 1, 1) := by decide +kernel
theorem dX9_digest_131 : decode cX9_digest 131 = .ok (.aload_n 0, 1) := by decide +kernel
theorem dX9_digest_132 : decode cX9_digest 132 = .ok (.invokevirtual 443, 3) := by decide +kernel
theorem dX9_digest_135 : decode cX9_digest 135 = .ok (.invokestatic 427, 3) := by decide +kernel
theorem dX9_digest_138 : decode cX9_digest 138 = .ok (.lstore_n 1, 1) := by decide +kernel
theorem dX9_digest_139 : decode cX9_digest 139 = .ok (.aload_n 0, 1) := by decide +kernel
theorem dX9_digest_140 : decode cX9_digest 140 = .ok (.getfield 25, 3) := by decide +kernel
theorem dX9_digest_143 : decode cX9_digest 143 = .ok (.invokevirtual 136, 3) := by decide +kernel
theorem dX9_digest_146 : decode cX9_digest 146 = .ok (.iconst 2, 1) := by decide +kernel
theorem dX9_digest_147 : decode cX9_digest 147 = .ok (.if_icmp .ge 7, 3) := by decide +kernel
theorem dX9_digest_150 : decode cX9_digest 150 = .ok (.lload_n 1, 1) := by decide +kernel
theorem dX9_digest_151 : decode cX9_digest 151 = .ok (.goto 13, 3) := by decide +kernel
theorem dX9_digest_154 : decode cX9_digest 154 = .ok (.lload_n 1, 1) := by decide +kernel
theorem dX9_digest_155 : decode cX9_digest 155 = .ok (.aload_n 0, 1) := by decide +kernel
theorem dX9_digest_156 : decode cX9_digest 156 = .ok (.iconst 0, 1) := by decide +kernel
theorem dX9_digest_157 : decode cX9_digest 157 = .ok (.iconst 1, 1) := by decide +kernel
theorem dX9_digest_158 : decode cX9_digest 158 = .ok (.invokevirtual 446, 3) := by decide +kernel
theorem dX9_digest_161 : decode cX9_digest 161 = .ok (.invokestatic 427, 3) := by decide +kernel
theorem dX9_digest_164 : decode cX9_digest 164 = .ok (.lreturn, 1) := by decide +kernel
theorem dX9_mix_0 : decode cX9_mix 0 = .ok (.lload_n 0, 1) := by decide +kernel
theorem dX9_mix_1 : decode cX9_mix 1 = .ok (.ldc2_w 450, 3) := by decide +kernel
theorem dX9_mix_4 : decode cX9_mix 4 = .ok (.lmul, 1) := by decide +kernel
theorem dX9_mix_5 : decode cX9_mix 5 = .ok (.iload_n 2, 1) := by decide +kernel
theorem dX9_mix_6 : decode cX9_mix 6 = .ok (.i2l, 1) := by decide +kernel
theorem dX9_mix_7 : decode cX9_mix 7 = .ok (.ladd, 1) := by decide +kernel
theorem dX9_mix_8 : decode cX9_mix 8 = .ok (.lreturn, 1) := by decide +kernel
theorem dX9_mixTrip_0 : decode cX9_mixTrip 0 = .ok (.lload_n 1, 1) := by decide +kernel
theorem dX9_mixTrip_1 : decode cX9_mixTrip 1 = .ok (.lstore 4, 2) := by decide +kernel
theorem dX9_mixTrip_3 : decode cX9_mixTrip 3 = .ok (.iconst 0, 1) := by decide +kernel
theorem dX9_mixTrip_4 : decode cX9_mixTrip 4 = .ok (.istore 6, 2) := by decide +kernel
theorem dX9_mixTrip_6 : decode cX9_mixTrip 6 = .ok (.iload 6, 2) := by decide +kernel
theorem dX9_mixTrip_8 : decode cX9_mixTrip 8 = .ok (.bipush 10, 2) := by decide +kernel
theorem dX9_mixTrip_10 : decode cX9_mixTrip 10 = .ok (.if_icmp .gt 23, 3) := by decide +kernel
theorem dX9_mixTrip_13 : decode cX9_mixTrip 13 = .ok (.lload 4, 2) := by decide +kernel
theorem dX9_mixTrip_15 : decode cX9_mixTrip 15 = .ok (.aload_n 0, 1) := by decide +kernel
theorem dX9_mixTrip_16 : decode cX9_mixTrip 16 = .ok (.iload_n 3, 1) := by decide +kernel
theorem dX9_mixTrip_17 : decode cX9_mixTrip 17 = .ok (.iload 6, 2) := by decide +kernel
theorem dX9_mixTrip_19 : decode cX9_mixTrip 19 = .ok (.invokevirtual 452, 3) := by decide +kernel
theorem dX9_mixTrip_22 : decode cX9_mixTrip 22 = .ok (.invokestatic 427, 3) := by decide +kernel
theorem dX9_mixTrip_25 : decode cX9_mixTrip 25 = .ok (.lstore 4, 2) := by decide +kernel
theorem dX9_mixTrip_27 : decode cX9_mixTrip 27 = .ok (.iinc 6 1, 3) := by decide +kernel
theorem dX9_mixTrip_30 : decode cX9_mixTrip 30 = .ok (.goto (-24), 3) := by decide +kernel
theorem dX9_mixTrip_33 : decode cX9_mixTrip 33 = .ok (.lload 4, 2) := by decide +kernel
theorem dX9_mixTrip_35 : decode cX9_mixTrip 35 = .ok (.aload_n 0, 1) := by decide +kernel
theorem dX9_mixTrip_36 : decode cX9_mixTrip 36 = .ok (.iload_n 3, 1) := by decide +kernel
theorem dX9_mixTrip_37 : decode cX9_mixTrip 37 = .ok (.invokevirtual 455, 3) := by decide +kernel
theorem dX9_mixTrip_40 : decode cX9_mixTrip 40 = .ok (.invokestatic 427, 3) := by decide +kernel
theorem dX9_mixTrip_43 : decode cX9_mixTrip 43 = .ok (.lreturn, 1) := by decide +kernel
theorem dX9_mixBlock_0 : decode cX9_mixBlock 0 = .ok (.lload_n 1, 1) := by decide +kernel
theorem dX9_mixBlock_1 : decode cX9_mixBlock 1 = .ok (.lstore 4, 2) := by decide +kernel
theorem dX9_mixBlock_3 : decode cX9_mixBlock 3 = .ok (.iconst 0, 1) := by decide +kernel
theorem dX9_mixBlock_4 : decode cX9_mixBlock 4 = .ok (.istore 6, 2) := by decide +kernel
theorem dX9_mixBlock_6 : decode cX9_mixBlock 6 = .ok (.iload 6, 2) := by decide +kernel
theorem dX9_mixBlock_8 : decode cX9_mixBlock 8 = .ok (.bipush 7, 2) := by decide +kernel
theorem dX9_mixBlock_10 : decode cX9_mixBlock 10 = .ok (.if_icmp .gt 23, 3) := by decide +kernel
theorem dX9_mixBlock_13 : decode cX9_mixBlock 13 = .ok (.lload 4, 2) := by decide +kernel
theorem dX9_mixBlock_15 : decode cX9_mixBlock 15 = .ok (.aload_n 0, 1) := by decide +kernel
theorem dX9_mixBlock_16 : decode cX9_mixBlock 16 = .ok (.iload_n 3, 1) := by decide +kernel
theorem dX9_mixBlock_17 : decode cX9_mixBlock 17 = .ok (.iload 6, 2) := by decide +kernel
theorem dX9_mixBlock_19 : decode cX9_mixBlock 19 = .ok (.invokevirtual 458, 3) := by decide +kernel
theorem dX9_mixBlock_22 : decode cX9_mixBlock 22 = .ok (.invokestatic 427, 3) := by decide +kernel
theorem dX9_mixBlock_25 : decode cX9_mixBlock 25 = .ok (.lstore 4, 2) := by decide +kernel
theorem dX9_mixBlock_27 : decode cX9_mixBlock 27 = .ok (.iinc 6 1, 3) := by decide +kernel
theorem dX9_mixBlock_30 : decode cX9_mixBlock 30 = .ok (.goto (-24), 3) := by decide +kernel
theorem dX9_mixBlock_33 : decode cX9_mixBlock 33 = .ok (.aload_n 0, 1) := by decide +kernel
theorem dX9_mixBlock_34 : decode cX9_mixBlock 34 = .ok (.iload_n 3, 1) := by decide +kernel
theorem dX9_mixBlock_35 : decode cX9_mixBlock 35 = .ok (.iconst 3, 1) := by decide +kernel
theorem dX9_mixBlock_36 : decode cX9_mixBlock 36 = .ok (.invokevirtual 458, 3) := by decide +kernel
theorem dX9_mixBlock_39 : decode cX9_mixBlock 39 = .ok (.istore 6, 2) := by decide +kernel
theorem dX9_mixBlock_41 : decode cX9_mixBlock 41 = .ok (.iconst 0, 1) := by decide +kernel
theorem dX9_mixBlock_42 : decode cX9_mixBlock 42 = .ok (.istore 7, 2) := by decide +kernel
theorem dX9_mixBlock_44 : decode cX9_mixBlock 44 = .ok (.iload 7, 2) := by decide +kernel
theorem dX9_mixBlock_46 : decode cX9_mixBlock 46 = .ok (.iload 6, 2) := by decide +kernel
theorem dX9_mixBlock_48 : decode cX9_mixBlock 48 = .ok (.if_icmp .ge 40, 3) := by decide +kernel
theorem dX9_mixBlock_51 : decode cX9_mixBlock 51 = .ok (.iconst 0, 1) := by decide +kernel
theorem dX9_mixBlock_52 : decode cX9_mixBlock 52 = .ok (.istore 8, 2) := by decide +kernel
theorem dX9_mixBlock_54 : decode cX9_mixBlock 54 = .ok (.iload 8, 2) := by decide +kernel
theorem dX9_mixBlock_56 : decode cX9_mixBlock 56 = .ok (.iconst 5, 1) := by decide +kernel
theorem dX9_mixBlock_57 : decode cX9_mixBlock 57 = .ok (.if_icmp .gt 25, 3) := by decide +kernel
theorem dX9_mixBlock_60 : decode cX9_mixBlock 60 = .ok (.lload 4, 2) := by decide +kernel
theorem dX9_mixBlock_62 : decode cX9_mixBlock 62 = .ok (.aload_n 0, 1) := by decide +kernel
theorem dX9_mixBlock_63 : decode cX9_mixBlock 63 = .ok (.iload_n 3, 1) := by decide +kernel
theorem dX9_mixBlock_64 : decode cX9_mixBlock 64 = .ok (.iload 7, 2) := by decide +kernel
theorem dX9_mixBlock_66 : decode cX9_mixBlock 66 = .ok (.iload 8, 2) := by decide +kernel
theorem dX9_mixBlock_68 : decode cX9_mixBlock 68 = .ok (.invokevirtual 461, 3) := by decide +kernel
theorem dX9_mixBlock_71 : decode cX9_mixBlock 71 = .ok (.invokestatic 427, 3) := by decide +kernel
theorem dX9_mixBlock_74 : decode cX9_mixBlock 74 = .ok (.lstore 4, 2) := by decide +kernel
theorem dX9_mixBlock_76 : decode cX9_mixBlock 76 = .ok (.iinc 8 1, 3) := by decide +kernel
theorem dX9_mixBlock_79 : decode cX9_mixBlock 79 = .ok (.goto (-25), 3) := by decide +kernel
theorem dX9_mixBlock_82 : decode cX9_mixBlock 82 = .ok (.iinc 7 1, 3) := by decide +kernel
theorem dX9_mixBlock_85 : decode cX9_mixBlock 85 = .ok (.goto (-41), 3) := by decide +kernel
theorem dX9_mixBlock_88 : decode cX9_mixBlock 88 = .ok (.lload 4, 2) := by decide +kernel
theorem dX9_mixBlock_90 : decode cX9_mixBlock 90 = .ok (.aload_n 0, 1) := by decide +kernel
theorem dX9_mixBlock_91 : decode cX9_mixBlock 91 = .ok (.iload_n 3, 1) := by decide +kernel
theorem dX9_mixBlock_92 : decode cX9_mixBlock 92 = .ok (.sipush 600, 3) := by decide +kernel
theorem dX9_mixBlock_95 : decode cX9_mixBlock 95 = .ok (.invokevirtual 465, 3) := by decide +kernel
theorem dX9_mixBlock_98 : decode cX9_mixBlock 98 = .ok (.invokestatic 427, 3) := by decide +kernel
theorem dX9_mixBlock_101 : decode cX9_mixBlock 101 = .ok (.lreturn, 1) := by decide +kernel
theorem dX9_mixDriver_0 : decode cX9_mixDriver 0 = .ok (.lload_n 1, 1) := by decide +kernel
theorem dX9_mixDriver_1 : decode cX9_mixDriver 1 = .ok (.lstore 4, 2) := by decide +kernel
theorem dX9_mixDriver_3 : decode cX9_mixDriver 3 = .ok (.iconst 0, 1) := by decide +kernel
theorem dX9_mixDriver_4 : decode cX9_mixDriver 4 = .ok (.istore 6, 2) := by decide +kernel
theorem dX9_mixDriver_6 : decode cX9_mixDriver 6 = .ok (.iload 6, 2) := by decide +kernel
theorem dX9_mixDriver_8 : decode cX9_mixDriver 8 = .ok (.iconst 4, 1) := by decide +kernel
theorem dX9_mixDriver_9 : decode cX9_mixDriver 9 = .ok (.if_icmp .gt 23, 3) := by decide +kernel
theorem dX9_mixDriver_12 : decode cX9_mixDriver 12 = .ok (.lload 4, 2) := by decide +kernel
theorem dX9_mixDriver_14 : decode cX9_mixDriver 14 = .ok (.aload_n 0, 1) := by decide +kernel
theorem dX9_mixDriver_15 : decode cX9_mixDriver 15 = .ok (.iload_n 3, 1) := by decide +kernel
theorem dX9_mixDriver_16 : decode cX9_mixDriver 16 = .ok (.iload 6, 2) := by decide +kernel
theorem dX9_mixDriver_18 : decode cX9_mixDriver 18 = .ok (.invokevirtual 468, 3) := by decide +kernel
theorem dX9_mixDriver_21 : decode cX9_mixDriver 21 = .ok (.invokestatic 427, 3) := by decide +kernel
theorem dX9_mixDriver_24 : decode cX9_mixDriver 24 = .ok (.lstore 4, 2) := by decide +kernel
theorem dX9_mixDriver_26 : decode cX9_mixDriver 26 = .ok (.iinc 6 1, 3) := by decide +kernel
theorem dX9_mixDriver_29 : decode cX9_mixDriver 29 = .ok (.goto (-23), 3) := by decide +kernel
theorem dX9_mixDriver_32 : decode cX9_mixDriver 32 = .ok (.lload 4, 2) := by decide +kernel
theorem dX9_mixDriver_34 : decode cX9_mixDriver 34 = .ok (.lreturn, 1) := by decide +kernel
theorem dX9_isOutside_0 : decode cX9_isOutside 0 = .ok (.iload_n 0, 1) := by decide +kernel
theorem dX9_isOutside_1 : decode cX9_isOutside 1 = .ok (.iload_n 1, 1) := by decide +kernel
theorem dX9_isOutside_2 : decode cX9_isOutside 2 = .ok (.if_icmp .lt 8, 3) := by decide +kernel
theorem dX9_isOutside_5 : decode cX9_isOutside 5 = .ok (.iload_n 0, 1) := by decide +kernel
theorem dX9_isOutside_6 : decode cX9_isOutside 6 = .ok (.iload_n 2, 1) := by decide +kernel
theorem dX9_isOutside_7 : decode cX9_isOutside 7 = .ok (.if_icmp .le 7, 3) := by decide +kernel
theorem dX9_isOutside_10 : decode cX9_isOutside 10 = .ok (.iconst 1, 1) := by decide +kernel
theorem dX9_isOutside_11 : decode cX9_isOutside 11 = .ok (.goto 4, 3) := by decide +kernel
theorem dX9_isOutside_14 : decode cX9_isOutside 14 = .ok (.iconst 0, 1) := by decide +kernel
theorem dX9_isOutside_15 : decode cX9_isOutside 15 = .ok (.ireturn, 1) := by decide +kernel
theorem dX9_placeNumbered_0 : decode cX9_placeNumbered 0 = .ok (.iload_n 1, 1) := by decide +kernel
theorem dX9_placeNumbered_1 : decode cX9_placeNumbered 1 = .ok (.ifCond .lt 28, 3) := by decide +kernel
theorem dX9_placeNumbered_4 : decode cX9_placeNumbered 4 = .ok (.iload_n 1, 1) := by decide +kernel
theorem dX9_placeNumbered_5 : decode cX9_placeNumbered 5 = .ok (.aload_n 0, 1) := by decide +kernel
theorem dX9_placeNumbered_6 : decode cX9_placeNumbered 6 = .ok (.getfield 10, 3) := by decide +kernel
theorem dX9_placeNumbered_9 : decode cX9_placeNumbered 9 = .ok (.invokevirtual 136, 3) := by decide +kernel
theorem dX9_placeNumbered_12 : decode cX9_placeNumbered 12 = .ok (.if_icmp .ge 17, 3) := by decide +kernel
theorem dX9_placeNumbered_15 : decode cX9_placeNumbered 15 = .ok (.aload_n 0, 1) := by decide +kernel
theorem dX9_placeNumbered_16 : decode cX9_placeNumbered 16 = .ok (.getfield 10, 3) := by decide +kernel
theorem dX9_placeNumbered_19 : decode cX9_placeNumbered 19 = .ok (.iload_n 1, 1) := by decide +kernel
theorem dX9_placeNumbered_20 : decode cX9_placeNumbered 20 = .ok (.invokevirtual 222, 3) := by decide +kernel
theorem dX9_placeNumbered_23 : decode cX9_placeNumbered 23 = .ok (.checkcast 63, 3) := by decide +kernel
theorem dX9_placeNumbered_26 : decode cX9_placeNumbered 26 = .ok (.goto 4, 3) := by decide +kernel
theorem dX9_placeNumbered_29 : decode cX9_placeNumbered 29 = .ok (.aconst_null, 1) := by decide +kernel
theorem dX9_placeNumbered_30 : decode cX9_placeNumbered 30 = .ok (.areturn, 1) := by decide +kernel
theorem dX9_lineNumbered_0 : decode cX9_lineNumbered 0 = .ok (.iload_n 1, 1) := by decide +kernel
theorem dX9_lineNumbered_1 : decode cX9_lineNumbered 1 = .ok (.ifCond .lt 28, 3) := by decide +kernel
theorem dX9_lineNumbered_4 : decode cX9_lineNumbered 4 = .ok (.iload_n 1, 1) := by decide +kernel
theorem dX9_lineNumbered_5 : decode cX9_lineNumbered 5 = .ok (.aload_n 0, 1) := by decide +kernel
theorem dX9_lineNumbered_6 : decode cX9_lineNumbered 6 = .ok (.getfield 16, 3) := by decide +kernel
theorem dX9_lineNumbered_9 : decode cX9_lineNumbered 9 = .ok (.invokevirtual 136, 3) := by decide +kernel
theorem dX9_lineNumbered_12 : decode cX9_lineNumbered 12 = .ok (.if_icmp .ge 17, 3) := by decide +kernel
theorem dX9_lineNumbered_15 : decode cX9_lineNumbered 15 = .ok (.aload_n 0, 1) := by decide +kernel
theorem dX9_lineNumbered_16 : decode cX9_lineNumbered 16 = .ok (.getfield 16, 3) := by decide +kernel
theorem dX9_lineNumbered_19 : decode cX9_lineNumbered 19 = .ok (.iload_n 1, 1) := by decide +kernel
theorem dX9_lineNumbered_20 : decode cX9_lineNumbered 20 = .ok (.invokevirtual 222, 3) := by decide +kernel
theorem dX9_lineNumbered_23 : decode cX9_lineNumbered 23 = .ok (.checkcast 76, 3) := by decide +kernel
theorem dX9_lineNumbered_26 : decode cX9_lineNumbered 26 = .ok (.goto 4, 3) := by decide +kernel
theorem dX9_lineNumbered_29 : decode cX9_lineNumbered 29 = .ok (.aconst_null, 1) := by decide +kernel
theorem dX9_lineNumbered_30 : decode cX9_lineNumbered 30 = .ok (.areturn, 1) := by decide +kernel
theorem dX9_tripNumbered_0 : decode cX9_tripNumbered 0 = .ok (.iload_n 1, 1) := by decide +kernel
theorem dX9_tripNumbered_1 : decode cX9_tripNumbered 1 = .ok (.ifCond .lt 28, 3) := by decide +kernel
theorem dX9_tripNumbered_4 : decode cX9_tripNumbered 4 = .ok (.iload_n 1, 1) := by decide +kernel
theorem dX9_tripNumbered_5 : decode cX9_tripNumbered 5 = .ok (.aload_n 0, 1) := by decide +kernel
theorem dX9_tripNumbered_6 : decode cX9_tripNumbered 6 = .ok (.getfield 19, 3) := by decide +kernel
theorem dX9_tripNumbered_9 : decode cX9_tripNumbered 9 = .ok (.invokevirtual 136, 3) := by decide +kernel
theorem dX9_tripNumbered_12 : decode cX9_tripNumbered 12 = .ok (.if_icmp .ge 17, 3) := by decide +kernel
theorem dX9_tripNumbered_15 : decode cX9_tripNumbered 15 = .ok (.aload_n 0, 1) := by decide +kernel
theorem dX9_tripNumbered_16 : decode cX9_tripNumbered 16 = .ok (.getfield 19, 3) := by decide +kernel
theorem dX9_tripNumbered_19 : decode cX9_tripNumbered 19 = .ok (.iload_n 1, 1) := by decide +kernel
theorem dX9_tripNumbered_20 : decode cX9_tripNumbered 20 = .ok (.invokevirtual 222, 3) := by decide +kernel
theorem dX9_tripNumbered_23 : decode cX9_tripNumbered 23 = .ok (.checkcast 142, 3) := by decide +kernel
theorem dX9_tripNumbered_26 : decode cX9_tripNumbered 26 = .ok (.goto 4, 3) := by decide +kernel
theorem dX9_tripNumbered_29 : decode cX9_tripNumbered 29 = .ok (.aconst_null, 1) := by decide +kernel
theorem dX9_tripNumbered_30 : decode cX9_tripNumbered 30 = .ok (.areturn, 1) := by decide +kernel
theorem dX9_blockNumbered_0 : decode cX9_blockNumbered 0 = .ok (.iload_n 1, 1) := by decide +kernel
theorem dX9_blockNumbered_1 : decode cX9_blockNumbered 1 = .ok (.ifCond .lt 28, 3) := by decide +kernel
theorem dX9_blockNumbered_4 : decode cX9_blockNumbered 4 = .ok (.iload_n 1, 1) := by decide +kernel
theorem dX9_blockNumbered_5 : decode cX9_blockNumbered 5 = .ok (.aload_n 0, 1) := by decide +kernel
theorem dX9_blockNumbered_6 : decode cX9_blockNumbered 6 = .ok (.getfield 25, 3) := by decide +kernel
theorem dX9_blockNumbered_9 : decode cX9_blockNumbered 9 = .ok (.invokevirtual 136, 3) := by decide +kernel
theorem dX9_blockNumbered_12 : decode cX9_blockNumbered 12 = .ok (.if_icmp .ge 17, 3) := by decide +kernel
theorem dX9_blockNumbered_15 : decode cX9_blockNumbered 15 = .ok (.aload_n 0, 1) := by decide +kernel
theorem dX9_blockNumbered_16 : decode cX9_blockNumbered 16 = .ok (.getfield 25, 3) := by decide +kernel
theorem dX9_blockNumbered_19 : decode cX9_blockNumbered 19 = .ok (.iload_n 1, 1) := by decide +kernel
theorem dX9_blockNumbered_20 : decode cX9_blockNumbered 20 = .ok (.invokevirtual 222, 3) := by decide +kernel
theorem dX9_blockNumbered_23 : decode cX9_blockNumbered 23 = .ok (.checkcast 178, 3) := by decide +kernel
theorem dX9_blockNumbered_26 : decode cX9_blockNumbered 26 = .ok (.goto 4, 3) := by decide +kernel
theorem dX9_blockNumbered_29 : decode cX9_blockNumbered 29 = .ok (.aconst_null, 1) := by decide +kernel
theorem dX9_blockNumbered_30 : decode cX9_blockNumbered 30 = .ok (.areturn, 1) := by decide +kernel
theorem dX9_pieceNumbered_0 : decode cX9_pieceNumbered 0 = .ok (.aload_n 0, 1) := by decide +kernel
theorem dX9_pieceNumbered_1 : decode cX9_pieceNumbered 1 = .ok (.iload_n 1, 1) := by decide +kernel
theorem dX9_pieceNumbered_2 : decode cX9_pieceNumbered 2 = .ok (.invokevirtual 182, 3) := by decide +kernel
theorem dX9_pieceNumbered_5 : decode cX9_pieceNumbered 5 = .ok (.astore_n 3, 1) := by decide +kernel
theorem dX9_pieceNumbered_6 : decode cX9_pieceNumbered 6 = .ok (.aload_n 3, 1) := by decide +kernel
theorem dX9_pieceNumbered_7 : decode cX9_pieceNumbered 7 = .ok (.ifnonnull 7, 3) := by decide +kernel
theorem dX9_pieceNumbered_10 : decode cX9_pieceNumbered 10 = .ok (.aconst_null, 1) := by decide +kernel
theorem dX9_pieceNumbered_11 : decode cX9_pieceNumbered 11 = .ok (.goto 8, 3) := by decide +kernel
theorem dX9_pieceNumbered_14 : decode cX9_pieceNumbered 14 = .ok (.aload_n 3, 1) := by decide +kernel
theorem dX9_pieceNumbered_15 : decode cX9_pieceNumbered 15 = .ok (.iload_n 2, 1) := by decide +kernel
theorem dX9_pieceNumbered_16 : decode cX9_pieceNumbered 16 = .ok (.invokevirtual 471, 3) := by decide +kernel
theorem dX9_pieceNumbered_19 : decode cX9_pieceNumbered 19 = .ok (.areturn, 1) := by decide +kernel
theorem dX9_driverNumbered_0 : decode cX9_driverNumbered 0 = .ok (.iload_n 1, 1) := by decide +kernel
theorem dX9_driverNumbered_1 : decode cX9_driverNumbered 1 = .ok (.ifCond .lt 28, 3) := by decide +kernel
theorem dX9_driverNumbered_4 : decode cX9_driverNumbered 4 = .ok (.iload_n 1, 1) := by decide +kernel
theorem dX9_driverNumbered_5 : decode cX9_driverNumbered 5 = .ok (.aload_n 0, 1) := by decide +kernel
theorem dX9_driverNumbered_6 : decode cX9_driverNumbered 6 = .ok (.getfield 28, 3) := by decide +kernel
theorem dX9_driverNumbered_9 : decode cX9_driverNumbered 9 = .ok (.invokevirtual 136, 3) := by decide +kernel
theorem dX9_driverNumbered_12 : decode cX9_driverNumbered 12 = .ok (.if_icmp .ge 17, 3) := by decide +kernel
theorem dX9_driverNumbered_15 : decode cX9_driverNumbered 15 = .ok (.aload_n 0, 1) := by decide +kernel
theorem dX9_driverNumbered_16 : decode cX9_driverNumbered 16 = .ok (.getfield 28, 3) := by decide +kernel
theorem dX9_driverNumbered_19 : decode cX9_driverNumbered 19 = .ok (.iload_n 1, 1) := by decide +kernel
theorem dX9_driverNumbered_20 : decode cX9_driverNumbered 20 = .ok (.invokevirtual 222, 3) := by decide +kernel
theorem dX9_driverNumbered_23 : decode cX9_driverNumbered 23 = .ok (.checkcast 166, 3) := by decide +kernel
theorem dX9_driverNumbered_26 : decode cX9_driverNumbered 26 = .ok (.goto 4, 3) := by decide +kernel
theorem dX9_driverNumbered_29 : decode cX9_driverNumbered 29 = .ok (.aconst_null, 1) := by decide +kernel
theorem dX9_driverNumbered_30 : decode cX9_driverNumbered 30 = .ok (.areturn, 1) := by decide +kernel
theorem dX9_addByStart_0 : decode cX9_addByStart 0 = .ok (.iconst 0, 1) := by decide +kernel
theorem dX9_addByStart_1 : decode cX9_addByStart 1 = .ok (.istore_n 2, 1) := by decide +kernel
theorem dX9_addByStart_2 : decode cX9_addByStart 2 = .ok (.iload_n 2, 1) := by decide +kernel
theorem dX9_addByStart_3 : decode cX9_addByStart 3 = .ok (.aload_n 0, 1) := by decide +kernel
theorem dX9_addByStart_4 : decode cX9_addByStart 4 = .ok (.getfield 22, 3) := by decide +kernel
theorem dX9_addByStart_7 : decode cX9_addByStart 7 = .ok (.invokevirtual 136, 3) := by decide +kernel
theorem dX9_addByStart_10 : decode cX9_addByStart 10 = .ok (.if_icmp .ge 30, 3) := by decide +kernel
theorem dX9_addByStart_13 : decode cX9_addByStart 13 = .ok (.aload_n 0, 1) := by decide +kernel
theorem dX9_addByStart_14 : decode cX9_addByStart 14 = .ok (.getfield 22, 3) := by decide +kernel
theorem dX9_addByStart_17 : decode cX9_addByStart 17 = .ok (.iload_n 2, 1) := by decide +kernel
theorem dX9_addByStart_18 : decode cX9_addByStart 18 = .ok (.invokevirtual 222, 3) := by decide +kernel
theorem dX9_addByStart_21 : decode cX9_addByStart 21 = .ok (.checkcast 142, 3) := by decide +kernel
theorem dX9_addByStart_24 : decode cX9_addByStart 24 = .ok (.getfield 326, 3) := by decide +kernel
theorem dX9_addByStart_27 : decode cX9_addByStart 27 = .ok (.aload_n 1, 1) := by decide +kernel
theorem dX9_addByStart_28 : decode cX9_addByStart 28 = .ok (.getfield 326, 3) := by decide +kernel
theorem dX9_addByStart_31 : decode cX9_addByStart 31 = .ok (.if_icmp .gt 9, 3) := by decide +kernel
theorem dX9_addByStart_34 : decode cX9_addByStart 34 = .ok (.iinc 2 1, 3) := by decide +kernel
theorem dX9_addByStart_37 : decode cX9_addByStart 37 = .ok (.goto (-35), 3) := by decide +kernel
theorem dX9_addByStart_40 : decode cX9_addByStart 40 = .ok (.aload_n 0, 1) := by decide +kernel
theorem dX9_addByStart_41 : decode cX9_addByStart 41 = .ok (.getfield 22, 3) := by decide +kernel
theorem dX9_addByStart_44 : decode cX9_addByStart 44 = .ok (.iload_n 2, 1) := by decide +kernel
theorem dX9_addByStart_45 : decode cX9_addByStart 45 = .ok (.aload_n 1, 1) := by decide +kernel
theorem dX9_addByStart_46 : decode cX9_addByStart 46 = .ok (.invokevirtual 474, 3) := by decide +kernel
theorem dX9_addByStart_49 : decode cX9_addByStart 49 = .ok (.return_, 1) := by decide +kernel
theorem dX9_newBlock_0 : decode cX9_newBlock 0 = .ok (.new 178, 3) := by decide +kernel
theorem dX9_newBlock_3 : decode cX9_newBlock 3 = .ok (.dup, 1) := by decide +kernel
theorem dX9_newBlock_4 : decode cX9_newBlock 4 = .ok (.aload_n 0, 1) := by decide +kernel
theorem dX9_newBlock_5 : decode cX9_newBlock 5 = .ok (.getfield 25, 3) := by decide +kernel
theorem dX9_newBlock_8 : decode cX9_newBlock 8 = .ok (.invokevirtual 136, 3) := by decide +kernel
theorem dX9_newBlock_11 : decode cX9_newBlock 11 = .ok (.iload_n 1, 1) := by decide +kernel
theorem dX9_newBlock_12 : decode cX9_newBlock 12 = .ok (.invokespecial 477, 3) := by decide +kernel
theorem dX9_newBlock_15 : decode cX9_newBlock 15 = .ok (.astore_n 2, 1) := by decide +kernel
theorem dX9_newBlock_16 : decode cX9_newBlock 16 = .ok (.aload_n 0, 1) := by decide +kernel
theorem dX9_newBlock_17 : decode cX9_newBlock 17 = .ok (.getfield 25, 3) := by decide +kernel
theorem dX9_newBlock_20 : decode cX9_newBlock 20 = .ok (.aload_n 2, 1) := by decide +kernel
theorem dX9_newBlock_21 : decode cX9_newBlock 21 = .ok (.invokevirtual 72, 3) := by decide +kernel
theorem dX9_newBlock_24 : decode cX9_newBlock 24 = .ok (.pop, 1) := by decide +kernel
theorem dX9_newBlock_25 : decode cX9_newBlock 25 = .ok (.aload_n 2, 1) := by decide +kernel
theorem dX9_newBlock_26 : decode cX9_newBlock 26 = .ok (.areturn, 1) := by decide +kernel
theorem dX9_isFlat_0 : decode cX9_isFlat 0 = .ok (.aload_n 1, 1) := by decide +kernel
theorem dX9_isFlat_1 : decode cX9_isFlat 1 = .ok (.aload_n 0, 1) := by decide +kernel
theorem dX9_isFlat_2 : decode cX9_isFlat 2 = .ok (.getfield 68, 3) := by decide +kernel
theorem dX9_isFlat_5 : decode cX9_isFlat 5 = .ok (.iload_n 2, 1) := by decide +kernel
theorem dX9_isFlat_6 : decode cX9_isFlat 6 = .ok (.aload_n 0, 1) := by decide +kernel
theorem dX9_isFlat_7 : decode cX9_isFlat 7 = .ok (.getfield 161, 3) := by decide +kernel
theorem dX9_isFlat_10 : decode cX9_isFlat 10 = .ok (.invokevirtual 358, 3) := by decide +kernel
theorem dX9_isFlat_13 : decode cX9_isFlat 13 = .ok (.ifCond .ge 7, 3) := by decide +kernel
theorem dX9_isFlat_16 : decode cX9_isFlat 16 = .ok (.iconst 1, 1) := by decide +kernel
theorem dX9_isFlat_17 : decode cX9_isFlat 17 = .ok (.goto 4, 3) := by decide +kernel
theorem dX9_isFlat_20 : decode cX9_isFlat 20 = .ok (.iconst 0, 1) := by decide +kernel
theorem dX9_isFlat_21 : decode cX9_isFlat 21 = .ok (.ireturn, 1) := by decide +kernel
theorem dX9_wouldBeFlat_0 : decode cX9_wouldBeFlat 0 = .ok (.aload_n 0, 1) := by decide +kernel
theorem dX9_wouldBeFlat_1 : decode cX9_wouldBeFlat 1 = .ok (.getfield 45, 3) := by decide +kernel
theorem dX9_wouldBeFlat_4 : decode cX9_wouldBeFlat 4 = .ok (.aload_n 1, 1) := by decide +kernel
theorem dX9_wouldBeFlat_5 : decode cX9_wouldBeFlat 5 = .ok (.invokevirtual 480, 3) := by decide +kernel
theorem dX9_wouldBeFlat_8 : decode cX9_wouldBeFlat 8 = .ok (.aload_n 0, 1) := by decide +kernel
theorem dX9_wouldBeFlat_9 : decode cX9_wouldBeFlat 9 = .ok (.getfield 45, 3) := by decide +kernel
theorem dX9_wouldBeFlat_12 : decode cX9_wouldBeFlat 12 = .ok (.getfield 483, 3) := by decide +kernel
theorem dX9_wouldBeFlat_15 : decode cX9_wouldBeFlat 15 = .ok (.aload_n 2, 1) := by decide +kernel
theorem dX9_wouldBeFlat_16 : decode cX9_wouldBeFlat 16 = .ok (.invokevirtual 72, 3) := by decide +kernel
theorem dX9_wouldBeFlat_19 : decode cX9_wouldBeFlat 19 = .ok (.pop, 1) := by decide +kernel
theorem dX9_wouldBeFlat_20 : decode cX9_wouldBeFlat 20 = .ok (.aload_n 0, 1) := by decide +kernel
theorem dX9_wouldBeFlat_21 : decode cX9_wouldBeFlat 21 = .ok (.aload_n 0, 1) := by decide +kernel
theorem dX9_wouldBeFlat_22 : decode cX9_wouldBeFlat 22 = .ok (.getfield 45, 3) := by decide +kernel
theorem dX9_wouldBeFlat_25 : decode cX9_wouldBeFlat 25 = .ok (.iload_n 3, 1) := by decide +kernel
theorem dX9_wouldBeFlat_26 : decode cX9_wouldBeFlat 26 = .ok (.invokevirtual 354, 3) := by decide +kernel
theorem dX9_wouldBeFlat_29 : decode cX9_wouldBeFlat 29 = .ok (.ireturn, 1) := by decide +kernel
theorem dX9_wouldBeFlatAlone_0 : decode cX9_wouldBeFlatAlone 0 = .ok (.aload_n 0, 1) := by decide +kernel
theorem dX9_wouldBeFlatAlone_1 : decode cX9_wouldBeFlatAlone 1 = .ok (.getfield 45, 3) := by decide +kernel
theorem dX9_wouldBeFlatAlone_4 : decode cX9_wouldBeFlatAlone 4 = .ok (.getfield 483, 3) := by decide +kernel
theorem dX9_wouldBeFlatAlone_7 : decode cX9_wouldBeFlatAlone 7 = .ok (.invokevirtual 484, 3) := by decide +kernel
theorem dX9_wouldBeFlatAlone_10 : decode cX9_wouldBeFlatAlone 10 = .ok (.aload_n 0, 1) := by decide +kernel
theorem dX9_wouldBeFlatAlone_11 : decode cX9_wouldBeFlatAlone 11 = .ok (.getfield 45, 3) := by decide +kernel
theorem dX9_wouldBeFlatAlone_14 : decode cX9_wouldBeFlatAlone 14 = .ok (.getfield 483, 3) := by decide +kernel
theorem dX9_wouldBeFlatAlone_17 : decode cX9_wouldBeFlatAlone 17 = .ok (.aload_n 1, 1) := by decide +kernel
theorem dX9_wouldBeFlatAlone_18 : decode cX9_wouldBeFlatAlone 18 = .ok (.invokevirtual 72, 3) := by decide +kernel
theorem dX9_wouldBeFlatAlone_21 : decode cX9_wouldBeFlatAlone 21 = .ok (.pop, 1) := by decide +kernel
theorem dX9_wouldBeFlatAlone_22 : decode cX9_wouldBeFlatAlone 22 = .ok (.aload_n 0, 1) := by decide +kernel
theorem dX9_wouldBeFlatAlone_23 : decode cX9_wouldBeFlatAlone 23 = .ok (.aload_n 0, 1) := by decide +kernel
theorem dX9_wouldBeFlatAlone_24 : decode cX9_wouldBeFlatAlone 24 = .ok (.getfield 45, 3) := by decide +kernel
theorem dX9_wouldBeFlatAlone_27 : decode cX9_wouldBeFlatAlone 27 = .ok (.iload_n 2, 1) := by decide +kernel
theorem dX9_wouldBeFlatAlone_28 : decode cX9_wouldBeFlatAlone 28 = .ok (.invokevirtual 354, 3) := by decide +kernel
theorem dX9_wouldBeFlatAlone_31 : decode cX9_wouldBeFlatAlone 31 = .ok (.ireturn, 1) := by decide +kernel
theorem dX9_putIntoSomeBlock_0 : decode cX9_putIntoSomeBlock 0 = .ok (.aload_n 0, 1) := by decide +kernel
theorem dX9_putIntoSomeBlock_1 : decode cX9_putIntoSomeBlock 1 = .ok (.aload_n 1, 1) := by decide +kernel
theorem dX9_putIntoSomeBlock_2 : decode cX9_putIntoSomeBlock 2 = .ok (.invokevirtual 487, 3) := by decide +kernel
theorem dX9_putIntoSomeBlock_5 : decode cX9_putIntoSomeBlock 5 = .ok (.astore_n 3, 1) := by decide +kernel
theorem dX9_putIntoSomeBlock_6 : decode cX9_putIntoSomeBlock 6 = .ok (.aload_n 3, 1) := by decide +kernel
theorem dX9_putIntoSomeBlock_7 : decode cX9_putIntoSomeBlock 7 = .ok (.ifnull 10, 3) := by decide +kernel
theorem dX9_putIntoSomeBlock_10 : decode cX9_putIntoSomeBlock 10 = .ok (.aload_n 3, 1) := by decide +kernel
theorem dX9_putIntoSomeBlock_11 : decode cX9_putIntoSomeBlock 11 = .ok (.aload_n 1, 1) := by decide +kernel
theorem dX9_putIntoSomeBlock_12 : decode cX9_putIntoSomeBlock 12 = .ok (.invokevirtual 208, 3) := by decide +kernel
theorem dX9_putIntoSomeBlock_15 : decode cX9_putIntoSomeBlock 15 = .ok (.iconst 1, 1) := by decide +kernel
theorem dX9_putIntoSomeBlock_16 : decode cX9_putIntoSomeBlock 16 = .ok (.ireturn, 1) := by decide +kernel
theorem dX9_putIntoSomeBlock_17 : decode cX9_putIntoSomeBlock 17 = .ok (.aload_n 0, 1) := by decide +kernel
theorem dX9_putIntoSomeBlock_18 : decode cX9_putIntoSomeBlock 18 = .ok (.getfield 25, 3) := by decide +kernel
theorem dX9_putIntoSomeBlock_21 : decode cX9_putIntoSomeBlock 21 = .ok (.invokevirtual 136, 3) := by decide +kernel
theorem dX9_putIntoSomeBlock_24 : decode cX9_putIntoSomeBlock 24 = .ok (.bipush 8, 2) := by decide +kernel
theorem dX9_putIntoSomeBlock_26 : decode cX9_putIntoSomeBlock 26 = .ok (.if_icmp .ge 12, 3) := by decide +kernel
theorem dX9_putIntoSomeBlock_29 : decode cX9_putIntoSomeBlock 29 = .ok (.aload_n 0, 1) := by decide +kernel
theorem dX9_putIntoSomeBlock_30 : decode cX9_putIntoSomeBlock 30 = .ok (.aload_n 1, 1) := by decide +kernel
theorem dX9_putIntoSomeBlock_31 : decode cX9_putIntoSomeBlock 31 = .ok (.iload_n 2, 1) := by decide +kernel
theorem dX9_putIntoSomeBlock_32 : decode cX9_putIntoSomeBlock 32 = .ok (.invokevirtual 491, 3) := by decide +kernel
theorem dX9_putIntoSomeBlock_35 : decode cX9_putIntoSomeBlock 35 = .ok (.ifCond .eq 5, 3) := by decide +kernel
theorem dX9_putIntoSomeBlock_38 : decode cX9_putIntoSomeBlock 38 = .ok (.iconst 0, 1) := by decide +kernel
theorem dX9_putIntoSomeBlock_39 : decode cX9_putIntoSomeBlock 39 = .ok (.ireturn, 1) := by decide +kernel
theorem dX9_putIntoSomeBlock_40 : decode cX9_putIntoSomeBlock 40 = .ok (.aload_n 0, 1) := by decide +kernel
theorem dX9_putIntoSomeBlock_41 : decode cX9_putIntoSomeBlock 41 = .ok (.iload_n 2, 1) := by decide +kernel
theorem dX9_putIntoSomeBlock_42 : decode cX9_putIntoSomeBlock 42 = .ok (.invokevirtual 173, 3) := by decide +kernel
theorem dX9_putIntoSomeBlock_45 : decode cX9_putIntoSomeBlock 45 = .ok (.aload_n 1, 1) := by decide +kernel
theorem dX9_putIntoSomeBlock_46 : decode cX9_putIntoSomeBlock 46 = .ok (.invokevirtual 208, 3) := by decide +kernel
theorem dX9_putIntoSomeBlock_49 : decode cX9_putIntoSomeBlock 49 = .ok (.iconst 1, 1) := by decide +kernel
theorem dX9_putIntoSomeBlock_50 : decode cX9_putIntoSomeBlock 50 = .ok (.ireturn, 1) := by decide +kernel
theorem dX9_nearestBlock_0 : decode cX9_nearestBlock 0 = .ok (.aconst_null, 1) := by decide +kernel
theorem dX9_nearestBlock_1 : decode cX9_nearestBlock 1 = .ok (.astore_n 2, 1) := by decide +kernel
theorem dX9_nearestBlock_2 : decode cX9_nearestBlock 2 = .ok (.iconst 0, 1) := by decide +kernel
theorem dX9_nearestBlock_3 : decode cX9_nearestBlock 3 = .ok (.istore_n 3, 1) := by decide +kernel
theorem dX9_nearestBlock_4 : decode cX9_nearestBlock 4 = .ok (.iconst 0, 1) := by decide +kernel
theorem dX9_nearestBlock_5 : decode cX9_nearestBlock 5 = .ok (.istore 4, 2) := by decide +kernel
theorem dX9_nearestBlock_7 : decode cX9_nearestBlock 7 = .ok (.iload 4, 2) := by decide +kernel
theorem dX9_nearestBlock_9 : decode cX9_nearestBlock 9 = .ok (.aload_n 0, 1) := by decide +kernel
theorem dX9_nearestBlock_10 : decode cX9_nearestBlock 10 = .ok (.getfield 25, 3) := by decide +kernel
theorem dX9_nearestBlock_13 : decode cX9_nearestBlock 13 = .ok (.invokevirtual 136, 3) := by decide +kernel
theorem dX9_nearestBlock_16 : decode cX9_nearestBlock 16 = .ok (.if_icmp .ge 89, 3) := by decide +kernel
theorem dX9_nearestBlock_19 : decode cX9_nearestBlock 19 = .ok (.aload_n 0, 1) := by decide +kernel
theorem dX9_nearestBlock_20 : decode cX9_nearestBlock 20 = .ok (.getfield 25, 3) := by decide +kernel
theorem dX9_nearestBlock_23 : decode cX9_nearestBlock 23 = .ok (.iload 4, 2) := by decide +kernel
theorem dX9_nearestBlock_25 : decode cX9_nearestBlock 25 = .ok (.invokevirtual 222, 3) := by decide +kernel
theorem dX9_nearestBlock_28 : decode cX9_nearestBlock 28 = .ok (.checkcast 178, 3) := by decide +kernel
theorem dX9_nearestBlock_31 : decode cX9_nearestBlock 31 = .ok (.astore 5, 2) := by decide +kernel
theorem dX9_nearestBlock_33 : decode cX9_nearestBlock 33 = .ok (.aload 5, 2) := by decide +kernel
theorem dX9_nearestBlock_35 : decode cX9_nearestBlock 35 = .ok (.getfield 191, 3) := by decide +kernel
theorem dX9_nearestBlock_38 : decode cX9_nearestBlock 38 = .ok (.invokevirtual 194, 3) := by decide +kernel
theorem dX9_nearestBlock_41 : decode cX9_nearestBlock 41 = .ok (.astore 6, 2) := by decide +kernel
theorem dX9_nearestBlock_43 : decode cX9_nearestBlock 43 = .ok (.aload 6, 2) := by decide +kernel
theorem dX9_nearestBlock_45 : decode cX9_nearestBlock 45 = .ok (.ifnull 54, 3) := by decide +kernel
theorem dX9_nearestBlock_48 : decode cX9_nearestBlock 48 = .ok (.aload_n 1, 1) := by decide +kernel
theorem dX9_nearestBlock_49 : decode cX9_nearestBlock 49 = .ok (.aload 6, 2) := by decide +kernel
theorem dX9_nearestBlock_51 : decode cX9_nearestBlock 51 = .ok (.invokevirtual 202, 3) := by decide +kernel
theorem dX9_nearestBlock_54 : decode cX9_nearestBlock 54 = .ok (.ifCond .eq 45, 3) := by decide +kernel
theorem dX9_nearestBlock_57 : decode cX9_nearestBlock 57 = .ok (.aload_n 2, 1) := by decide +kernel
theorem dX9_nearestBlock_58 : decode cX9_nearestBlock 58 = .ok (.ifnull 13, 3) := by decide +kernel
theorem dX9_nearestBlock_61 : decode cX9_nearestBlock 61 = .ok (.aload 6, 2) := by decide +kernel
theorem dX9_nearestBlock_63 : decode cX9_nearestBlock 63 = .ok (.aload_n 1, 1) := by decide +kernel
theorem dX9_nearestBlock_64 : decode cX9_nearestBlock 64 = .ok (.invokevirtual 494, 3) := by decide +kernel
theorem dX9_nearestBlock_67 : decode cX9_nearestBlock 67 = .ok (.iload_n 3, 1) := by decide +kernel
theorem dX9_nearestBlock_68 : decode cX9_nearestBlock 68 = .ok (.if_icmp .ge 31, 3) := by decide +kernel
theorem dX9_nearestBlock_71 : decode cX9_nearestBlock 71 = .ok (.aload_n 0, 1) := by decide +kernel
theorem dX9_nearestBlock_72 : decode cX9_nearestBlock 72 = .ok (.aload 5, 2) := by decide +kernel
theorem dX9_nearestBlock_74 : decode cX9_nearestBlock 74 = .ok (.getfield 191, 3) := by decide +kernel
theorem dX9_nearestBlock_77 : decode cX9_nearestBlock 77 = .ok (.aload_n 1, 1) := by decide +kernel
theorem dX9_nearestBlock_78 : decode cX9_nearestBlock 78 = .ok (.aload 5, 2) := by decide +kernel
theorem dX9_nearestBlock_80 : decode cX9_nearestBlock 80 = .ok (.getfield 350, 3) := by decide +kernel
theorem dX9_nearestBlock_83 : decode cX9_nearestBlock 83 = .ok (.invokevirtual 498, 3) := by decide +kernel
theorem dX9_nearestBlock_86 : decode cX9_nearestBlock 86 = .ok (.ifCond .ne 13, 3) := by decide +kernel
theorem dX9_nearestBlock_89 : decode cX9_nearestBlock 89 = .ok (.aload 5, 2) := by decide +kernel
theorem dX9_nearestBlock_91 : decode cX9_nearestBlock 91 = .ok (.astore_n 2, 1) := by decide +kernel
theorem dX9_nearestBlock_92 : decode cX9_nearestBlock 92 = .ok (.aload 6, 2) := by decide +kernel
theorem dX9_nearestBlock_94 : decode cX9_nearestBlock 94 = .ok (.aload_n 1, 1) := by decide +kernel
theorem dX9_nearestBlock_95 : decode cX9_nearestBlock 95 = .ok (.invokevirtual 494, 3) := by decide +kernel
theorem dX9_nearestBlock_98 : decode cX9_nearestBlock 98 = .ok (.istore_n 3, 1) := by decide +kernel
theorem dX9_nearestBlock_99 : decode cX9_nearestBlock 99 = .ok (.iinc 4 1, 3) := by decide +kernel
theorem dX9_nearestBlock_102 : decode cX9_nearestBlock 102 = .ok (.goto (-95), 3) := by decide +kernel
theorem dX9_nearestBlock_105 : decode cX9_nearestBlock 105 = .ok (.aload_n 2, 1) := by decide +kernel
theorem dX9_nearestBlock_106 : decode cX9_nearestBlock 106 = .ok (.areturn, 1) := by decide +kernel
theorem dX9_canSwap_0 : decode cX9_canSwap 0 = .ok (.aload_n 0, 1) := by decide +kernel
theorem dX9_canSwap_1 : decode cX9_canSwap 1 = .ok (.iload_n 1, 1) := by decide +kernel
theorem dX9_canSwap_2 : decode cX9_canSwap 2 = .ok (.aload_n 2, 1) := by decide +kernel
theorem dX9_canSwap_3 : decode cX9_canSwap 3 = .ok (.iload_n 3, 1) := by decide +kernel
theorem dX9_canSwap_4 : decode cX9_canSwap 4 = .ok (.invokestatic 502, 3) := by decide +kernel
theorem dX9_canSwap_7 : decode cX9_canSwap 7 = .ok (.ifCond .eq 17, 3) := by decide +kernel
theorem dX9_canSwap_10 : decode cX9_canSwap 10 = .ok (.aload_n 2, 1) := by decide +kernel
theorem dX9_canSwap_11 : decode cX9_canSwap 11 = .ok (.iload_n 3, 1) := by decide +kernel
theorem dX9_canSwap_12 : decode cX9_canSwap 12 = .ok (.aload_n 0, 1) := by decide +kernel
theorem dX9_canSwap_13 : decode cX9_canSwap 13 = .ok (.iload_n 1, 1) := by decide +kernel
theorem dX9_canSwap_14 : decode cX9_canSwap 14 = .ok (.invokestatic 502, 3) := by decide +kernel
theorem dX9_canSwap_17 : decode cX9_canSwap 17 = .ok (.ifCond .eq 7, 3) := by decide +kernel
theorem dX9_canSwap_20 : decode cX9_canSwap 20 = .ok (.iconst 1, 1) := by decide +kernel
theorem dX9_canSwap_21 : decode cX9_canSwap 21 = .ok (.goto 4, 3) := by decide +kernel
theorem dX9_canSwap_24 : decode cX9_canSwap 24 = .ok (.iconst 0, 1) := by decide +kernel
theorem dX9_canSwap_25 : decode cX9_canSwap 25 = .ok (.ireturn, 1) := by decide +kernel
theorem dX9_canJoin_0 : decode cX9_canJoin 0 = .ok (.aload_n 0, 1) := by decide +kernel
theorem dX9_canJoin_1 : decode cX9_canJoin 1 = .ok (.iload_n 1, 1) := by decide +kernel
theorem dX9_canJoin_2 : decode cX9_canJoin 2 = .ok (.iconst 1, 1) := by decide +kernel
theorem dX9_canJoin_3 : decode cX9_canJoin 3 = .ok (.isub, 1) := by decide +kernel
theorem dX9_canJoin_4 : decode cX9_canJoin 4 = .ok (.invokevirtual 371, 3) := by decide +kernel
theorem dX9_canJoin_7 : decode cX9_canJoin 7 = .ok (.astore 4, 2) := by decide +kernel
theorem dX9_canJoin_9 : decode cX9_canJoin 9 = .ok (.aload_n 2, 1) := by decide +kernel
theorem dX9_canJoin_10 : decode cX9_canJoin 10 = .ok (.iload_n 3, 1) := by decide +kernel
theorem dX9_canJoin_11 : decode cX9_canJoin 11 = .ok (.invokevirtual 371, 3) := by decide +kernel
theorem dX9_canJoin_14 : decode cX9_canJoin 14 = .ok (.astore 5, 2) := by decide +kernel
theorem dX9_canJoin_16 : decode cX9_canJoin 16 = .ok (.aload 4, 2) := by decide +kernel
theorem dX9_canJoin_18 : decode cX9_canJoin 18 = .ok (.ifnull 18, 3) := by decide +kernel
theorem dX9_canJoin_21 : decode cX9_canJoin 21 = .ok (.aload 5, 2) := by decide +kernel
theorem dX9_canJoin_23 : decode cX9_canJoin 23 = .ok (.ifnull 13, 3) := by decide +kernel
theorem dX9_canJoin_26 : decode cX9_canJoin 26 = .ok (.aload 5, 2) := by decide +kernel
theorem dX9_canJoin_28 : decode cX9_canJoin 28 = .ok (.aload 4, 2) := by decide +kernel
theorem dX9_canJoin_30 : decode cX9_canJoin 30 = .ok (.invokevirtual 202, 3) := by decide +kernel
theorem dX9_canJoin_33 : decode cX9_canJoin 33 = .ok (.ifCond .eq 7, 3) := by decide +kernel
theorem dX9_canJoin_36 : decode cX9_canJoin 36 = .ok (.iconst 1, 1) := by decide +kernel
theorem dX9_canJoin_37 : decode cX9_canJoin 37 = .ok (.goto 4, 3) := by decide +kernel
theorem dX9_canJoin_40 : decode cX9_canJoin 40 = .ok (.iconst 0, 1) := by decide +kernel
theorem dX9_canJoin_41 : decode cX9_canJoin 41 = .ok (.ireturn, 1) := by decide +kernel
theorem dX9_trySwap_0 : decode cX9_trySwap 0 = .ok (.aload_n 0, 1) := by decide +kernel
theorem dX9_trySwap_1 : decode cX9_trySwap 1 = .ok (.getfield 45, 3) := by decide +kernel
theorem dX9_trySwap_4 : decode cX9_trySwap 4 = .ok (.aload_n 1, 1) := by decide +kernel
theorem dX9_trySwap_5 : decode cX9_trySwap 5 = .ok (.iload_n 2, 1) := by decide +kernel
theorem dX9_trySwap_6 : decode cX9_trySwap 6 = .ok (.aload_n 3, 1) := by decide +kernel
theorem dX9_trySwap_7 : decode cX9_trySwap 7 = .ok (.iload 4, 2) := by decide +kernel
theorem dX9_trySwap_9 : decode cX9_trySwap 9 = .ok (.invokevirtual 505, 3) := by decide +kernel
theorem dX9_trySwap_12 : decode cX9_trySwap 12 = .ok (.aload_n 0, 1) := by decide +kernel
theorem dX9_trySwap_13 : decode cX9_trySwap 13 = .ok (.getfield 49, 3) := by decide +kernel
theorem dX9_trySwap_16 : decode cX9_trySwap 16 = .ok (.aload_n 3, 1) := by decide +kernel
theorem dX9_trySwap_17 : decode cX9_trySwap 17 = .ok (.iload 4, 2) := by decide +kernel
theorem dX9_trySwap_19 : decode cX9_trySwap 19 = .ok (.aload_n 1, 1) := by decide +kernel
theorem dX9_trySwap_20 : decode cX9_trySwap 20 = .ok (.iload_n 2, 1) := by decide +kernel
theorem dX9_trySwap_21 : decode cX9_trySwap 21 = .ok (.invokevirtual 505, 3) := by decide +kernel
theorem dX9_trySwap_24 : decode cX9_trySwap 24 = .ok (.return_, 1) := by decide +kernel
theorem dX9_emptyOfSwap_0 : decode cX9_emptyOfSwap 0 = .ok (.aload_n 1, 1) := by decide +kernel
theorem dX9_emptyOfSwap_1 : decode cX9_emptyOfSwap 1 = .ok (.getfield 191, 3) := by decide +kernel
theorem dX9_emptyOfSwap_4 : decode cX9_emptyOfSwap 4 = .ok (.iload_n 2, 1) := by decide +kernel
theorem dX9_emptyOfSwap_5 : decode cX9_emptyOfSwap 5 = .ok (.aload_n 3, 1) := by decide +kernel
theorem dX9_emptyOfSwap_6 : decode cX9_emptyOfSwap 6 = .ok (.getfield 191, 3) := by decide +kernel
theorem dX9_emptyOfSwap_9 : decode cX9_emptyOfSwap 9 = .ok (.iload 4, 2) := by decide +kernel
theorem dX9_emptyOfSwap_11 : decode cX9_emptyOfSwap 11 = .ok (.invokestatic 232, 3) := by decide +kernel
theorem dX9_emptyOfSwap_14 : decode cX9_emptyOfSwap 14 = .ok (.ifCond .ne 5, 3) := by decide +kernel
theorem dX9_emptyOfSwap_17 : decode cX9_emptyOfSwap 17 = .ok (.iconst (-1), 1) := by decide +kernel
theorem dX9_emptyOfSwap_18 : decode cX9_emptyOfSwap 18 = .ok (.ireturn, 1) := by decide +kernel
theorem dX9_emptyOfSwap_19 : decode cX9_emptyOfSwap 19 = .ok (.aload_n 0, 1) := by decide +kernel
theorem dX9_emptyOfSwap_20 : decode cX9_emptyOfSwap 20 = .ok (.aload_n 1, 1) := by decide +kernel
theorem dX9_emptyOfSwap_21 : decode cX9_emptyOfSwap 21 = .ok (.getfield 191, 3) := by decide +kernel
theorem dX9_emptyOfSwap_24 : decode cX9_emptyOfSwap 24 = .ok (.iload_n 2, 1) := by decide +kernel
theorem dX9_emptyOfSwap_25 : decode cX9_emptyOfSwap 25 = .ok (.aload_n 3, 1) := by decide +kernel
theorem dX9_emptyOfSwap_26 : decode cX9_emptyOfSwap 26 = .ok (.getfield 191, 3) := by decide +kernel
theorem dX9_emptyOfSwap_29 : decode cX9_emptyOfSwap 29 = .ok (.iload 4, 2) := by decide +kernel
theorem dX9_emptyOfSwap_31 : decode cX9_emptyOfSwap 31 = .ok (.invokevirtual 238, 3) := by decide +kernel
theorem dX9_emptyOfSwap_34 : decode cX9_emptyOfSwap 34 = .ok (.aload_n 0, 1) := by decide +kernel
theorem dX9_emptyOfSwap_35 : decode cX9_emptyOfSwap 35 = .ok (.aload_n 0, 1) := by decide +kernel
theorem dX9_emptyOfSwap_36 : decode cX9_emptyOfSwap 36 = .ok (.getfield 45, 3) := by decide +kernel
theorem dX9_emptyOfSwap_39 : decode cX9_emptyOfSwap 39 = .ok (.aload_n 1, 1) := by decide +kernel
theorem dX9_emptyOfSwap_40 : decode cX9_emptyOfSwap 40 = .ok (.getfield 350, 3) := by decide +kernel
theorem dX9_emptyOfSwap_43 : decode cX9_emptyOfSwap 43 = .ok (.invokevirtual 354, 3) := by decide +kernel
theorem dX9_emptyOfSwap_46 : decode cX9_emptyOfSwap 46 = .ok (.ifCond .ne 18, 3) := by decide +kernel
theorem dX9_emptyOfSwap_49 : decode cX9_emptyOfSwap 49 = .ok (.aload_n 0, 1) := by decide +kernel
theorem dX9_emptyOfSwap_50 : decode cX9_emptyOfSwap 50 = .ok (.aload_n 0, 1) := by decide +kernel
theorem dX9_emptyOfSwap_51 : decode cX9_emptyOfSwap 51 = .ok (.getfield 49, 3) := by decide +kernel
theorem dX9_emptyOfSwap_54 : decode cX9_emptyOfSwap 54 = .ok (.aload_n 3, 1) := by decide +kernel
theorem dX9_emptyOfSwap_55 : decode cX9_emptyOfSwap 55 = .ok (.getfield 350, 3) := by decide +kernel
theorem dX9_emptyOfSwap_58 : decode cX9_emptyOfSwap 58 = .ok (.invokevirtual 354, 3) := by decide +kernel
theorem dX9_emptyOfSwap_61 : decode cX9_emptyOfSwap 61 = .ok (.ifCond .eq 5, 3) := by decide +kernel
theorem dX9_emptyOfSwap_64 : decode cX9_emptyOfSwap 64 = .ok (.iconst (-1), 1) := by decide +kernel
theorem dX9_emptyOfSwap_65 : decode cX9_emptyOfSwap 65 = .ok (.ireturn, 1) := by decide +kernel
theorem dX9_emptyOfSwap_66 : decode cX9_emptyOfSwap 66 = .ok (.aload_n 0, 1) := by decide +kernel
theorem dX9_emptyOfSwap_67 : decode cX9_emptyOfSwap 67 = .ok (.getfield 45, 3) := by decide +kernel
theorem dX9_emptyOfSwap_70 : decode cX9_emptyOfSwap 70 = .ok (.aload_n 0, 1) := by decide +kernel
theorem dX9_emptyOfSwap_71 : decode cX9_emptyOfSwap 71 = .ok (.getfield 68, 3) := by decide +kernel
theorem dX9_emptyOfSwap_74 : decode cX9_emptyOfSwap 74 = .ok (.invokevirtual 362, 3) := by decide +kernel
theorem dX9_emptyOfSwap_77 : decode cX9_emptyOfSwap 77 = .ok (.aload_n 0, 1) := by decide +kernel
theorem dX9_emptyOfSwap_78 : decode cX9_emptyOfSwap 78 = .ok (.getfield 49, 3) := by decide +kernel
theorem dX9_emptyOfSwap_81 : decode cX9_emptyOfSwap 81 = .ok (.aload_n 0, 1) := by decide +kernel
theorem dX9_emptyOfSwap_82 : decode cX9_emptyOfSwap 82 = .ok (.getfield 68, 3) := by decide +kernel
theorem dX9_emptyOfSwap_85 : decode cX9_emptyOfSwap 85 = .ok (.invokevirtual 362, 3) := by decide +kernel
theorem dX9_emptyOfSwap_88 : decode cX9_emptyOfSwap 88 = .ok (.iadd, 1) := by decide +kernel
theorem dX9_emptyOfSwap_89 : decode cX9_emptyOfSwap 89 = .ok (.ireturn, 1) := by decide +kernel
theorem dX9_runDay_0 : decode cX9_runDay 0 = .ok (.iconst 0, 1) := by decide +kernel
theorem dX9_runDay_1 : decode cX9_runDay 1 = .ok (.istore_n 1, 1) := by decide +kernel
theorem dX9_runDay_2 : decode cX9_runDay 2 = .ok (.iload_n 1, 1) := by decide +kernel
theorem dX9_runDay_3 : decode cX9_runDay 3 = .ok (.aload_n 0, 1) := by decide +kernel
theorem dX9_runDay_4 : decode cX9_runDay 4 = .ok (.getfield 19, 3) := by decide +kernel
theorem dX9_runDay_7 : decode cX9_runDay 7 = .ok (.invokevirtual 136, 3) := by decide +kernel
theorem dX9_runDay_10 : decode cX9_runDay 10 = .ok (.if_icmp .ge 24, 3) := by decide +kernel
theorem dX9_runDay_13 : decode cX9_runDay 13 = .ok (.aload_n 0, 1) := by decide +kernel
theorem dX9_runDay_14 : decode cX9_runDay 14 = .ok (.getfield 19, 3) := by decide +kernel
theorem dX9_runDay_17 : decode cX9_runDay 17 = .ok (.iload_n 1, 1) := by decide +kernel
theorem dX9_runDay_18 : decode cX9_runDay 18 = .ok (.invokevirtual 222, 3) := by decide +kernel
theorem dX9_runDay_21 : decode cX9_runDay 21 = .ok (.checkcast 142, 3) := by decide +kernel
theorem dX9_runDay_24 : decode cX9_runDay 24 = .ok (.iconst 1, 1) := by decide +kernel
theorem dX9_runDay_25 : decode cX9_runDay 25 = .ok (.putfield 338, 3) := by decide +kernel
theorem dX9_runDay_28 : decode cX9_runDay 28 = .ok (.iinc 1 1, 3) := by decide +kernel
theorem dX9_runDay_31 : decode cX9_runDay 31 = .ok (.goto (-29), 3) := by decide +kernel
theorem dX9_runDay_34 : decode cX9_runDay 34 = .ok (.iconst 0, 1) := by decide +kernel
theorem dX9_runDay_35 : decode cX9_runDay 35 = .ok (.istore_n 1, 1) := by decide +kernel
theorem dX9_runDay_36 : decode cX9_runDay 36 = .ok (.iload_n 1, 1) := by decide +kernel
theorem dX9_runDay_37 : decode cX9_runDay 37 = .ok (.aload_n 0, 1) := by decide +kernel
theorem dX9_runDay_38 : decode cX9_runDay 38 = .ok (.getfield 25, 3) := by decide +kernel
theorem dX9_runDay_41 : decode cX9_runDay 41 = .ok (.invokevirtual 136, 3) := by decide +kernel
theorem dX9_runDay_44 : decode cX9_runDay 44 = .ok (.if_icmp .ge 32, 3) := by decide +kernel
theorem dX9_runDay_47 : decode cX9_runDay 47 = .ok (.aload_n 0, 1) := by decide +kernel
theorem dX9_runDay_48 : decode cX9_runDay 48 = .ok (.getfield 25, 3) := by decide +kernel
theorem dX9_runDay_51 : decode cX9_runDay 51 = .ok (.iload_n 1, 1) := by decide +kernel
theorem dX9_runDay_52 : decode cX9_runDay 52 = .ok (.invokevirtual 222, 3) := by decide +kernel
theorem dX9_runDay_55 : decode cX9_runDay 55 = .ok (.checkcast 178, 3) := by decide +kernel
theorem dX9_runDay_58 : decode cX9_runDay 58 = .ok (.astore_n 2, 1) := by decide +kernel
theorem dX9_runDay_59 : decode cX9_runDay 59 = .ok (.aload_n 2, 1) := by decide +kernel
theorem dX9_runDay_60 : decode cX9_runDay 60 = .ok (.aload_n 2, 1) := by decide +kernel
theorem dX9_runDay_61 : decode cX9_runDay 61 = .ok (.getfield 301, 3) := by decide +kernel
theorem dX9_runDay_64 : decode cX9_runDay 64 = .ok (.aconst_null, 1) := by decide +kernel
theorem dX9_runDay_65 : decode cX9_runDay 65 = .ok (.iconst 0, 1) := by decide +kernel
theorem dX9_runDay_66 : decode cX9_runDay 66 = .ok (.invokevirtual 412, 3) := by decide +kernel
theorem dX9_runDay_69 : decode cX9_runDay 69 = .ok (.pop, 1) := by decide +kernel
theorem dX9_runDay_70 : decode cX9_runDay 70 = .ok (.iinc 1 1, 3) := by decide +kernel
theorem dX9_runDay_73 : decode cX9_runDay 73 = .ok (.goto (-37), 3) := by decide +kernel
theorem dX9_runDay_76 : decode cX9_runDay 76 = .ok (.return_, 1) := by decide +kernel
theorem dX9_countOfCause_0 : decode cX9_countOfCause 0 = .ok (.iconst 0, 1) := by decide +kernel
theorem dX9_countOfCause_1 : decode cX9_countOfCause 1 = .ok (.istore_n 2, 1) := by decide +kernel
theorem dX9_countOfCause_2 : decode cX9_countOfCause 2 = .ok (.iconst 0, 1) := by decide +kernel
theorem dX9_countOfCause_3 : decode cX9_countOfCause 3 = .ok (.istore_n 3, 1) := by decide +kernel
theorem dX9_countOfCause_4 : decode cX9_countOfCause 4 = .ok (.iload_n 3, 1) := by decide +kernel
theorem dX9_countOfCause_5 : decode cX9_countOfCause 5 = .ok (.aload_n 0, 1) := by decide +kernel
theorem dX9_countOfCause_6 : decode cX9_countOfCause 6 = .ok (.getfield 19, 3) := by decide +kernel
theorem dX9_countOfCause_9 : decode cX9_countOfCause 9 = .ok (.invokevirtual 136, 3) := by decide +kernel
theorem dX9_countOfCause_12 : decode cX9_countOfCause 12 = .ok (.if_icmp .ge 30, 3) := by decide +kernel
theorem dX9_countOfCause_15 : decode cX9_countOfCause 15 = .ok (.aload_n 0, 1) := by decide +kernel
theorem dX9_countOfCause_16 : decode cX9_countOfCause 16 = .ok (.getfield 19, 3) := by decide +kernel
theorem dX9_countOfCause_19 : decode cX9_countOfCause 19 = .ok (.iload_n 3, 1) := by decide +kernel
theorem dX9_countOfCause_20 : decode cX9_countOfCause 20 = .ok (.invokevirtual 222, 3) := by decide +kernel
theorem dX9_countOfCause_23 : decode cX9_countOfCause 23 = .ok (.checkcast 142, 3) := by decide +kernel
theorem dX9_countOfCause_26 : decode cX9_countOfCause 26 = .ok (.getfield 338, 3) := by decide +kernel
theorem dX9_countOfCause_29 : decode cX9_countOfCause 29 = .ok (.iload_n 1, 1) := by decide +kernel
theorem dX9_countOfCause_30 : decode cX9_countOfCause 30 = .ok (.if_icmp .ne 6, 3) := by decide +kernel
theorem dX9_countOfCause_33 : decode cX9_countOfCause 33 = .ok (.iinc 2 1, 3) := by decide +kernel
theorem dX9_countOfCause_36 : decode cX9_countOfCause 36 = .ok (.iinc 3 1, 3) := by decide +kernel
theorem dX9_countOfCause_39 : decode cX9_countOfCause 39 = .ok (.goto (-35), 3) := by decide +kernel
theorem dX9_countOfCause_42 : decode cX9_countOfCause 42 = .ok (.iload_n 2, 1) := by decide +kernel
theorem dX9_countOfCause_43 : decode cX9_countOfCause 43 = .ok (.ireturn, 1) := by decide +kernel
theorem dX9_countyPays_0 : decode cX9_countyPays 0 = .ok (.iconst 0, 1) := by decide +kernel
theorem dX9_countyPays_1 : decode cX9_countyPays 1 = .ok (.istore_n 1, 1) := by decide +kernel
theorem dX9_countyPays_2 : decode cX9_countyPays 2 = .ok (.iconst 0, 1) := by decide +kernel
theorem dX9_countyPays_3 : decode cX9_countyPays 3 = .ok (.istore_n 2, 1) := by decide +kernel
theorem dX9_countyPays_4 : decode cX9_countyPays 4 = .ok (.iload_n 2, 1) := by decide +kernel
theorem dX9_countyPays_5 : decode cX9_countyPays 5 = .ok (.aload_n 0, 1) := by decide +kernel
theorem dX9_countyPays_6 : decode cX9_countyPays 6 = .ok (.getfield 19, 3) := by decide +kernel
theorem dX9_countyPays_9 : decode cX9_countyPays 9 = .ok (.invokevirtual 136, 3) := by decide +kernel
theorem dX9_countyPays_12 : decode cX9_countyPays 12 = .ok (.if_icmp .ge 30, 3) := by decide +kernel
theorem dX9_countyPays_15 : decode cX9_countyPays 15 = .ok (.iload_n 1, 1) := by decide +kernel
theorem dX9_countyPays_16 : decode cX9_countyPays 16 = .ok (.aload_n 0, 1) := by decide +kernel
theorem dX9_countyPays_17 : decode cX9_countyPays 17 = .ok (.getfield 19, 3) := by decide +kernel
theorem dX9_countyPays_20 : decode cX9_countyPays 20 = .ok (.iload_n 2, 1) := by decide +kernel
theorem dX9_countyPays_21 : decode cX9_countyPays 21 = .ok (.invokevirtual 222, 3) := by decide +kernel
theorem dX9_countyPays_24 : decode cX9_countyPays 24 = .ok (.checkcast 142, 3) := by decide +kernel
theorem dX9_countyPays_27 : decode cX9_countyPays 27 = .ok (.aload_n 0, 1) := by decide +kernel
theorem dX9_countyPays_28 : decode cX9_countyPays 28 = .ok (.getfield 38, 3) := by decide +kernel
theorem dX9_countyPays_31 : decode cX9_countyPays 31 = .ok (.invokevirtual 508, 3) := by decide +kernel
theorem dX9_countyPays_34 : decode cX9_countyPays 34 = .ok (.iadd, 1) := by decide +kernel
theorem dX9_countyPays_35 : decode cX9_countyPays 35 = .ok (.istore_n 1, 1) := by decide +kernel
theorem dX9_countyPays_36 : decode cX9_countyPays 36 = .ok (.iinc 2 1, 3) := by decide +kernel
theorem dX9_countyPays_39 : decode cX9_countyPays 39 = .ok (.goto (-35), 3) := by decide +kernel
theorem dX9_countyPays_42 : decode cX9_countyPays 42 = .ok (.iload_n 1, 1) := by decide +kernel
theorem dX9_countyPays_43 : decode cX9_countyPays 43 = .ok (.ireturn, 1) := by decide +kernel
theorem dX9_driversArePaid_0 : decode cX9_driversArePaid 0 = .ok (.iconst 0, 1) := by decide +kernel
theorem dX9_driversArePaid_1 : decode cX9_driversArePaid 1 = .ok (.istore_n 1, 1) := by decide +kernel
theorem dX9_driversArePaid_2 : decode cX9_driversArePaid 2 = .ok (.iconst 0, 1) := by decide +kernel
theorem dX9_driversArePaid_3 : decode cX9_driversArePaid 3 = .ok (.istore_n 2, 1) := by decide +kernel
theorem dX9_driversArePaid_4 : decode cX9_driversArePaid 4 = .ok (.iload_n 2, 1) := by decide +kernel
theorem dX9_driversArePaid_5 : decode cX9_driversArePaid 5 = .ok (.aload_n 0, 1) := by decide +kernel
theorem dX9_driversArePaid_6 : decode cX9_driversArePaid 6 = .ok (.getfield 28, 3) := by decide +kernel
theorem dX9_driversArePaid_9 : decode cX9_driversArePaid 9 = .ok (.invokevirtual 136, 3) := by decide +kernel
theorem dX9_driversArePaid_12 : decode cX9_driversArePaid 12 = .ok (.if_icmp .ge 26, 3) := by decide +kernel
theorem dX9_driversArePaid_15 : decode cX9_driversArePaid 15 = .ok (.iload_n 1, 1) := by decide +kernel
theorem dX9_driversArePaid_16 : decode cX9_driversArePaid 16 = .ok (.aload_n 0, 1) := by decide +kernel
theorem dX9_driversArePaid_17 : decode cX9_driversArePaid 17 = .ok (.getfield 28, 3) := by decide +kernel
theorem dX9_driversArePaid_20 : decode cX9_driversArePaid 20 = .ok (.iload_n 2, 1) := by decide +kernel
theorem dX9_driversArePaid_21 : decode cX9_driversArePaid 21 = .ok (.invokevirtual 222, 3) := by decide +kernel
theorem dX9_driversArePaid_24 : decode cX9_driversArePaid 24 = .ok (.checkcast 166, 3) := by decide +kernel
theorem dX9_driversArePaid_27 : decode cX9_driversArePaid 27 = .ok (.invokevirtual 387, 3) := by decide +kernel
theorem dX9_driversArePaid_30 : decode cX9_driversArePaid 30 = .ok (.iadd, 1) := by decide +kernel
theorem dX9_driversArePaid_31 : decode cX9_driversArePaid 31 = .ok (.istore_n 1, 1) := by decide +kernel
theorem dX9_driversArePaid_32 : decode cX9_driversArePaid 32 = .ok (.iinc 2 1, 3) := by decide +kernel
theorem dX9_driversArePaid_35 : decode cX9_driversArePaid 35 = .ok (.goto (-31), 3) := by decide +kernel
theorem dX9_driversArePaid_38 : decode cX9_driversArePaid 38 = .ok (.iload_n 1, 1) := by decide +kernel
theorem dX9_driversArePaid_39 : decode cX9_driversArePaid 39 = .ok (.ireturn, 1) := by decide +kernel
theorem dX9_allEmpty_0 : decode cX9_allEmpty 0 = .ok (.iconst 0, 1) := by decide +kernel
theorem dX9_allEmpty_1 : decode cX9_allEmpty 1 = .ok (.istore_n 1, 1) := by decide +kernel
theorem dX9_allEmpty_2 : decode cX9_allEmpty 2 = .ok (.iconst 0, 1) := by decide +kernel
theorem dX9_allEmpty_3 : decode cX9_allEmpty 3 = .ok (.istore_n 2, 1) := by decide +kernel
theorem dX9_allEmpty_4 : decode cX9_allEmpty 4 = .ok (.iload_n 2, 1) := by decide +kernel
theorem dX9_allEmpty_5 : decode cX9_allEmpty 5 = .ok (.aload_n 0, 1) := by decide +kernel
theorem dX9_allEmpty_6 : decode cX9_allEmpty 6 = .ok (.getfield 25, 3) := by decide +kernel
theorem dX9_allEmpty_9 : decode cX9_allEmpty 9 = .ok (.invokevirtual 136, 3) := by decide +kernel
theorem dX9_allEmpty_12 : decode cX9_allEmpty 12 = .ok (.if_icmp .ge 33, 3) := by decide +kernel
theorem dX9_allEmpty_15 : decode cX9_allEmpty 15 = .ok (.iload_n 1, 1) := by decide +kernel
theorem dX9_allEmpty_16 : decode cX9_allEmpty 16 = .ok (.aload_n 0, 1) := by decide +kernel
theorem dX9_allEmpty_17 : decode cX9_allEmpty 17 = .ok (.getfield 25, 3) := by decide +kernel
theorem dX9_allEmpty_20 : decode cX9_allEmpty 20 = .ok (.iload_n 2, 1) := by decide +kernel
theorem dX9_allEmpty_21 : decode cX9_allEmpty 21 = .ok (.invokevirtual 222, 3) := by decide +kernel
theorem dX9_allEmpty_24 : decode cX9_allEmpty 24 = .ok (.checkcast 178, 3) := by decide +kernel
theorem dX9_allEmpty_27 : decode cX9_allEmpty 27 = .ok (.getfield 191, 3) := by decide +kernel
theorem dX9_allEmpty_30 : decode cX9_allEmpty 30 = .ok (.aload_n 0, 1) := by decide +kernel
theorem dX9_allEmpty_31 : decode cX9_allEmpty 31 = .ok (.getfield 68, 3) := by decide +kernel
theorem dX9_allEmpty_34 : decode cX9_allEmpty 34 = .ok (.invokevirtual 362, 3) := by decide +kernel
theorem dX9_allEmpty_37 : decode cX9_allEmpty 37 = .ok (.iadd, 1) := by decide +kernel
theorem dX9_allEmpty_38 : decode cX9_allEmpty 38 = .ok (.istore_n 1, 1) := by decide +kernel
theorem dX9_allEmpty_39 : decode cX9_allEmpty 39 = .ok (.iinc 2 1, 3) := by decide +kernel
theorem dX9_allEmpty_42 : decode cX9_allEmpty 42 = .ok (.goto (-38), 3) := by decide +kernel
theorem dX9_allEmpty_45 : decode cX9_allEmpty 45 = .ok (.iload_n 1, 1) := by decide +kernel
theorem dX9_allEmpty_46 : decode cX9_allEmpty 46 = .ok (.ireturn, 1) := by decide +kernel
theorem dX9_greatestLate_0 : decode cX9_greatestLate 0 = .ok (.iconst 0, 1) := by decide +kernel
theorem dX9_greatestLate_1 : decode cX9_greatestLate 1 = .ok (.istore_n 1, 1) := by decide +kernel
theorem dX9_greatestLate_2 : decode cX9_greatestLate 2 = .ok (.iconst 0, 1) := by decide +kernel
theorem dX9_greatestLate_3 : decode cX9_greatestLate 3 = .ok (.istore_n 2, 1) := by decide +kernel
theorem dX9_greatestLate_4 : decode cX9_greatestLate 4 = .ok (.iload_n 2, 1) := by decide +kernel
theorem dX9_greatestLate_5 : decode cX9_greatestLate 5 = .ok (.aload_n 0, 1) := by decide +kernel
theorem dX9_greatestLate_6 : decode cX9_greatestLate 6 = .ok (.getfield 19, 3) := by decide +kernel
theorem dX9_greatestLate_9 : decode cX9_greatestLate 9 = .ok (.invokevirtual 136, 3) := by decide +kernel
theorem dX9_greatestLate_12 : decode cX9_greatestLate 12 = .ok (.if_icmp .ge 37, 3) := by decide +kernel
theorem dX9_greatestLate_15 : decode cX9_greatestLate 15 = .ok (.aload_n 0, 1) := by decide +kernel
theorem dX9_greatestLate_16 : decode cX9_greatestLate 16 = .ok (.getfield 19, 3) := by decide +kernel
theorem dX9_greatestLate_19 : decode cX9_greatestLate 19 = .ok (.iload_n 2, 1) := by decide +kernel
theorem dX9_greatestLate_20 : decode cX9_greatestLate 20 = .ok (.invokevirtual 222, 3) := by decide +kernel
theorem dX9_greatestLate_23 : decode cX9_greatestLate 23 = .ok (.checkcast 142, 3) := by decide +kernel
theorem dX9_greatestLate_26 : decode cX9_greatestLate 26 = .ok (.astore_n 3, 1) := by decide +kernel
theorem dX9_greatestLate_27 : decode cX9_greatestLate 27 = .ok (.aload_n 3, 1) := by decide +kernel
theorem dX9_greatestLate_28 : decode cX9_greatestLate 28 = .ok (.invokevirtual 341, 3) := by decide +kernel
theorem dX9_greatestLate_31 : decode cX9_greatestLate 31 = .ok (.ifCond .eq 12, 3) := by decide +kernel
theorem dX9_greatestLate_34 : decode cX9_greatestLate 34 = .ok (.iload_n 1, 1) := by decide +kernel
theorem dX9_greatestLate_35 : decode cX9_greatestLate 35 = .ok (.aload_n 3, 1) := by decide +kernel
theorem dX9_greatestLate_36 : decode cX9_greatestLate 36 = .ok (.invokevirtual 344, 3) := by decide +kernel
theorem dX9_greatestLate_39 : decode cX9_greatestLate 39 = .ok (.invokestatic 510, 3) := by decide +kernel
theorem dX9_greatestLate_42 : decode cX9_greatestLate 42 = .ok (.istore_n 1, 1) := by decide +kernel
theorem dX9_greatestLate_43 : decode cX9_greatestLate 43 = .ok (.iinc 2 1, 3) := by decide +kernel
theorem dX9_greatestLate_46 : decode cX9_greatestLate 46 = .ok (.goto (-42), 3) := by decide +kernel
theorem dX9_greatestLate_49 : decode cX9_greatestLate 49 = .ok (.iload_n 1, 1) := by decide +kernel
theorem dX9_greatestLate_50 : decode cX9_greatestLate 50 = .ok (.ireturn, 1) := by decide +kernel
theorem dJ9_abs_0f7a4_0 : decode cJ9_abs_0f7a4 0 = .ok (.iload_n 0, 1) := by decide +kernel
theorem dJ9_abs_0f7a4_1 : decode cJ9_abs_0f7a4 1 = .ok (.ifCond .ge 8, 3) := by decide +kernel
theorem dJ9_abs_0f7a4_4 : decode cJ9_abs_0f7a4 4 = .ok (.iload_n 0, 1) := by decide +kernel
theorem dJ9_abs_0f7a4_5 : decode cJ9_abs_0f7a4 5 = .ok (.ineg, 1) := by decide +kernel
theorem dJ9_abs_0f7a4_6 : decode cJ9_abs_0f7a4 6 = .ok (.goto 4, 3) := by decide +kernel
theorem dJ9_abs_0f7a4_9 : decode cJ9_abs_0f7a4 9 = .ok (.iload_n 0, 1) := by decide +kernel
theorem dJ9_abs_0f7a4_10 : decode cJ9_abs_0f7a4 10 = .ok (.ireturn, 1) := by decide +kernel
theorem dJ9_max_7cf53_0 : decode cJ9_max_7cf53 0 = .ok (.iload_n 0, 1) := by decide +kernel
theorem dJ9_max_7cf53_1 : decode cJ9_max_7cf53 1 = .ok (.iload_n 1, 1) := by decide +kernel
theorem dJ9_max_7cf53_2 : decode cJ9_max_7cf53 2 = .ok (.if_icmp .lt 7, 3) := by decide +kernel
theorem dJ9_max_7cf53_5 : decode cJ9_max_7cf53 5 = .ok (.iload_n 0, 1) := by decide +kernel
theorem dJ9_max_7cf53_6 : decode cJ9_max_7cf53 6 = .ok (.goto 4, 3) := by decide +kernel
theorem dJ9_max_7cf53_9 : decode cJ9_max_7cf53 9 = .ok (.iload_n 1, 1) := by decide +kernel
theorem dJ9_max_7cf53_10 : decode cJ9_max_7cf53 10 = .ok (.ireturn, 1) := by decide +kernel
theorem dJ9_min_7cf53_0 : decode cJ9_min_7cf53 0 = .ok (.iload_n 0, 1) := by decide +kernel
theorem dJ9_min_7cf53_1 : decode cJ9_min_7cf53 1 = .ok (.iload_n 1, 1) := by decide +kernel
theorem dJ9_min_7cf53_2 : decode cJ9_min_7cf53 2 = .ok (.if_icmp .gt 7, 3) := by decide +kernel
theorem dJ9_min_7cf53_5 : decode cJ9_min_7cf53 5 = .ok (.iload_n 0, 1) := by decide +kernel
theorem dJ9_min_7cf53_6 : decode cJ9_min_7cf53 6 = .ok (.goto 4, 3) := by decide +kernel
theorem dJ9_min_7cf53_9 : decode cJ9_min_7cf53 9 = .ok (.iload_n 1, 1) := by decide +kernel
theorem dJ9_min_7cf53_10 : decode cJ9_min_7cf53 10 = .ok (.ireturn, 1) := by decide +kernel
theorem dJxa1e45_init_da8c8_0 : decode cJxa1e45_init_da8c8 0 = .ok (.aload_n 0, 1) := by decide +kernel
theorem dJxa1e45_init_da8c8_1 : decode cJxa1e45_init_da8c8 1 = .ok (.invokespecial 1, 3) := by decide +kernel
theorem dJxa1e45_init_da8c8_4 : decode cJxa1e45_init_da8c8 4 = .ok (.return_, 1) := by decide +kernel
theorem dJxc12de_init_da8c8_0 : decode cJxc12de_init_da8c8 0 = .ok (.aload_n 0, 1) := by decide +kernel
theorem dJxc12de_init_da8c8_1 : decode cJxc12de_init_da8c8 1 = .ok (.invokespecial 1, 3) := by decide +kernel
theorem dJxc12de_init_da8c8_4 : decode cJxc12de_init_da8c8 4 = .ok (.aload_n 0, 1) := by decide +kernel
theorem dJxc12de_init_da8c8_5 : decode cJxc12de_init_da8c8 5 = .ok (.iconst 0, 1) := by decide +kernel
theorem dJxc12de_init_da8c8_6 : decode cJxc12de_init_da8c8 6 = .ok (.putfield 7, 3) := by decide +kernel
theorem dJxc12de_init_da8c8_9 : decode cJxc12de_init_da8c8 9 = .ok (.return_, 1) := by decide +kernel
theorem dJx4a65c_init_da8c8_0 : decode cJx4a65c_init_da8c8 0 = .ok (.aload_n 0, 1) := by decide +kernel
theorem dJx4a65c_init_da8c8_1 : decode cJx4a65c_init_da8c8 1 = .ok (.invokespecial 1, 3) := by decide +kernel
theorem dJx4a65c_init_da8c8_4 : decode cJx4a65c_init_da8c8 4 = .ok (.aload_n 0, 1) := by decide +kernel
theorem dJx4a65c_init_da8c8_5 : decode cJx4a65c_init_da8c8 5 = .ok (.getstatic 39, 3) := by decide +kernel
theorem dJx4a65c_init_da8c8_8 : decode cJx4a65c_init_da8c8 8 = .ok (.putfield 9, 3) := by decide +kernel
theorem dJx4a65c_init_da8c8_11 : decode cJx4a65c_init_da8c8 11 = .ok (.return_, 1) := by decide +kernel
theorem dJx4a65c_grow_92f84_0 : decode cJx4a65c_grow_92f84 0 = .ok (.aload_n 0, 1) := by decide +kernel
theorem dJx4a65c_grow_92f84_1 : decode cJx4a65c_grow_92f84 1 = .ok (.getfield 9, 3) := by decide +kernel
theorem dJx4a65c_grow_92f84_4 : decode cJx4a65c_grow_92f84 4 = .ok (.arraylength, 1) := by decide +kernel
theorem dJx4a65c_grow_92f84_5 : decode cJx4a65c_grow_92f84 5 = .ok (.istore_n 2, 1) := by decide +kernel
theorem dJx4a65c_grow_92f84_6 : decode cJx4a65c_grow_92f84 6 = .ok (.iload_n 2, 1) := by decide +kernel
theorem dJx4a65c_grow_92f84_7 : decode cJx4a65c_grow_92f84 7 = .ok (.ifCond .gt 13, 3) := by decide +kernel
theorem dJx4a65c_grow_92f84_10 : decode cJx4a65c_grow_92f84 10 = .ok (.aload_n 0, 1) := by decide +kernel
theorem dJx4a65c_grow_92f84_11 : decode cJx4a65c_grow_92f84 11 = .ok (.getfield 9, 3) := by decide +kernel
theorem dJx4a65c_grow_92f84_14 : decode cJx4a65c_grow_92f84 14 = .ok (.getstatic 39, 3) := by decide +kernel
theorem dJx4a65c_grow_92f84_17 : decode cJx4a65c_grow_92f84 17 = .ok (.if_acmp .eq 28, 3) := by decide +kernel
theorem dJx4a65c_grow_92f84_20 : decode cJx4a65c_grow_92f84 20 = .ok (.iload_n 2, 1) := by decide +kernel
theorem dJx4a65c_grow_92f84_21 : decode cJx4a65c_grow_92f84 21 = .ok (.iload_n 1, 1) := by decide +kernel
theorem dJx4a65c_grow_92f84_22 : decode cJx4a65c_grow_92f84 22 = .ok (.iload_n 2, 1) := by decide +kernel
theorem dJx4a65c_grow_92f84_23 : decode cJx4a65c_grow_92f84 23 = .ok (.isub, 1) := by decide +kernel
theorem dJx4a65c_grow_92f84_24 : decode cJx4a65c_grow_92f84 24 = .ok (.iload_n 2, 1) := by decide +kernel
theorem dJx4a65c_grow_92f84_25 : decode cJx4a65c_grow_92f84 25 = .ok (.iconst 1, 1) := by decide +kernel
theorem dJx4a65c_grow_92f84_26 : decode cJx4a65c_grow_92f84 26 = .ok (.ishr, 1) := by decide +kernel
theorem dJx4a65c_grow_92f84_27 : decode cJx4a65c_grow_92f84 27 = .ok (.invokestatic 73, 3) := by decide +kernel
theorem dJx4a65c_grow_92f84_30 : decode cJx4a65c_grow_92f84 30 = .ok (.istore_n 3, 1) := by decide +kernel
theorem dJx4a65c_grow_92f84_31 : decode cJx4a65c_grow_92f84 31 = .ok (.aload_n 0, 1) := by decide +kernel
theorem dJx4a65c_grow_92f84_32 : decode cJx4a65c_grow_92f84 32 = .ok (.aload_n 0, 1) := by decide +kernel
theorem dJx4a65c_grow_92f84_33 : decode cJx4a65c_grow_92f84 33 = .ok (.getfield 9, 3) := by decide +kernel
theorem dJx4a65c_grow_92f84_36 : decode cJx4a65c_grow_92f84 36 = .ok (.iload_n 3, 1) := by decide +kernel
theorem dJx4a65c_grow_92f84_37 : decode cJx4a65c_grow_92f84 37 = .ok (.invokestatic 66, 3) := by decide +kernel
theorem dJx4a65c_grow_92f84_40 : decode cJx4a65c_grow_92f84 40 = .ok (.dup_x1, 1) := by decide +kernel
theorem dJx4a65c_grow_92f84_41 : decode cJx4a65c_grow_92f84 41 = .ok (.putfield 9, 3) := by decide +kernel
theorem dJx4a65c_grow_92f84_44 : decode cJx4a65c_grow_92f84 44 = .ok (.areturn, 1) := by decide +kernel
theorem dJx4a65c_grow_92f84_45 : decode cJx4a65c_grow_92f84 45 = .ok (.aload_n 0, 1) := by decide +kernel
theorem dJx4a65c_grow_92f84_46 : decode cJx4a65c_grow_92f84 46 = .ok (.bipush 10, 2) := by decide +kernel
theorem dJx4a65c_grow_92f84_48 : decode cJx4a65c_grow_92f84 48 = .ok (.iload_n 1, 1) := by decide +kernel
theorem dJx4a65c_grow_92f84_49 : decode cJx4a65c_grow_92f84 49 = .ok (.invokestatic 79, 3) := by decide +kernel
theorem dJx4a65c_grow_92f84_52 : decode cJx4a65c_grow_92f84 52 = .ok (.anewarray 7, 3) := by decide +kernel
theorem dJx4a65c_grow_92f84_55 : decode cJx4a65c_grow_92f84 55 = .ok (.dup_x1, 1) := by decide +kernel
theorem dJx4a65c_grow_92f84_56 : decode cJx4a65c_grow_92f84 56 = .ok (.putfield 9, 3) := by decide +kernel
theorem dJx4a65c_grow_92f84_59 : decode cJx4a65c_grow_92f84 59 = .ok (.areturn, 1) := by decide +kernel
theorem dJx4a65c_grow_d5877_0 : decode cJx4a65c_grow_d5877 0 = .ok (.aload_n 0, 1) := by decide +kernel
theorem dJx4a65c_grow_d5877_1 : decode cJx4a65c_grow_d5877 1 = .ok (.aload_n 0, 1) := by decide +kernel
theorem dJx4a65c_grow_d5877_2 : decode cJx4a65c_grow_d5877 2 = .ok (.getfield 48, 3) := by decide +kernel
theorem dJx4a65c_grow_d5877_5 : decode cJx4a65c_grow_d5877 5 = .ok (.iconst 1, 1) := by decide +kernel
theorem dJx4a65c_grow_d5877_6 : decode cJx4a65c_grow_d5877 6 = .ok (.iadd, 1) := by decide +kernel
theorem dJx4a65c_grow_d5877_7 : decode cJx4a65c_grow_d5877 7 = .ok (.invokevirtual 69, 3) := by decide +kernel
theorem dJx4a65c_grow_d5877_10 : decode cJx4a65c_grow_d5877 10 = .ok (.areturn, 1) := by decide +kernel
theorem dJx4a65c_size_8abf5_0 : decode cJx4a65c_size_8abf5 0 = .ok (.aload_n 0, 1) := by decide +kernel
theorem dJx4a65c_size_8abf5_1 : decode cJx4a65c_size_8abf5 1 = .ok (.getfield 48, 3) := by decide +kernel
theorem dJx4a65c_size_8abf5_4 : decode cJx4a65c_size_8abf5 4 = .ok (.ireturn, 1) := by decide +kernel
theorem dJx4a65c_isEmpty_aae02_0 : decode cJx4a65c_isEmpty_aae02 0 = .ok (.aload_n 0, 1) := by decide +kernel
theorem dJx4a65c_isEmpty_aae02_1 : decode cJx4a65c_isEmpty_aae02 1 = .ok (.getfield 48, 3) := by decide +kernel
theorem dJx4a65c_isEmpty_aae02_4 : decode cJx4a65c_isEmpty_aae02 4 = .ok (.ifCond .ne 7, 3) := by decide +kernel
theorem dJx4a65c_isEmpty_aae02_7 : decode cJx4a65c_isEmpty_aae02 7 = .ok (.iconst 1, 1) := by decide +kernel
theorem dJx4a65c_isEmpty_aae02_8 : decode cJx4a65c_isEmpty_aae02 8 = .ok (.goto 4, 3) := by decide +kernel
theorem dJx4a65c_isEmpty_aae02_11 : decode cJx4a65c_isEmpty_aae02 11 = .ok (.iconst 0, 1) := by decide +kernel
theorem dJx4a65c_isEmpty_aae02_12 : decode cJx4a65c_isEmpty_aae02 12 = .ok (.ireturn, 1) := by decide +kernel
theorem dJx4a65c_elementData_915e3_0 : decode cJx4a65c_elementData_915e3 0 = .ok (.aload_n 0, 1) := by decide +kernel
theorem dJx4a65c_elementData_915e3_1 : decode cJx4a65c_elementData_915e3 1 = .ok (.getfield 9, 3) := by decide +kernel
theorem dJx4a65c_elementData_915e3_4 : decode cJx4a65c_elementData_915e3 4 = .ok (.iload_n 1, 1) := by decide +kernel
theorem dJx4a65c_elementData_915e3_5 : decode cJx4a65c_elementData_915e3 5 = .ok (.aaload, 1) := by decide +kernel
theorem dJx4a65c_elementData_915e3_6 : decode cJx4a65c_elementData_915e3 6 = .ok (.areturn, 1) := by decide +kernel
theorem dJx4a65c_get_915e3_0 : decode cJx4a65c_get_915e3 0 = .ok (.iload_n 1, 1) := by decide +kernel
theorem dJx4a65c_get_915e3_1 : decode cJx4a65c_get_915e3 1 = .ok (.aload_n 0, 1) := by decide +kernel
theorem dJx4a65c_get_915e3_2 : decode cJx4a65c_get_915e3 2 = .ok (.getfield 48, 3) := by decide +kernel
theorem dJx4a65c_get_915e3_5 : decode cJx4a65c_get_915e3 5 = .ok (.invokestatic 118, 3) := by decide +kernel
theorem dJx4a65c_get_915e3_8 : decode cJx4a65c_get_915e3 8 = .ok (.pop, 1) := by decide +kernel
theorem dJx4a65c_get_915e3_9 : decode cJx4a65c_get_915e3 9 = .ok (.aload_n 0, 1) := by decide +kernel
theorem dJx4a65c_get_915e3_10 : decode cJx4a65c_get_915e3 10 = .ok (.iload_n 1, 1) := by decide +kernel
theorem dJx4a65c_get_915e3_11 : decode cJx4a65c_get_915e3 11 = .ok (.invokevirtual 123, 3) := by decide +kernel
theorem dJx4a65c_get_915e3_14 : decode cJx4a65c_get_915e3 14 = .ok (.areturn, 1) := by decide +kernel
theorem dJx4a65c_add_72be8_0 : decode cJx4a65c_add_72be8 0 = .ok (.iload_n 3, 1) := by decide +kernel
theorem dJx4a65c_add_72be8_1 : decode cJx4a65c_add_72be8 1 = .ok (.aload_n 2, 1) := by decide +kernel
theorem dJx4a65c_add_72be8_2 : decode cJx4a65c_add_72be8 2 = .ok (.arraylength, 1) := by decide +kernel
theorem dJx4a65c_add_72be8_3 : decode cJx4a65c_add_72be8 3 = .ok (.if_icmp .ne 8, 3) := by decide +kernel
theorem dJx4a65c_add_72be8_6 : decode cJx4a65c_add_72be8 6 = .ok (.aload_n 0, 1) := by decide +kernel
theorem dJx4a65c_add_72be8_7 : decode cJx4a65c_add_72be8 7 = .ok (.invokevirtual 129, 3) := by decide +kernel
theorem dJx4a65c_add_72be8_10 : decode cJx4a65c_add_72be8 10 = .ok (.astore_n 2, 1) := by decide +kernel
theorem dJx4a65c_add_72be8_11 : decode cJx4a65c_add_72be8 11 = .ok (.aload_n 2, 1) := by decide +kernel
theorem dJx4a65c_add_72be8_12 : decode cJx4a65c_add_72be8 12 = .ok (.iload_n 3, 1) := by decide +kernel
theorem dJx4a65c_add_72be8_13 : decode cJx4a65c_add_72be8 13 = .ok (.aload_n 1, 1) := by decide +kernel
theorem dJx4a65c_add_72be8_14 : decode cJx4a65c_add_72be8 14 = .ok (.aastore, 1) := by decide +kernel
theorem dJx4a65c_add_72be8_15 : decode cJx4a65c_add_72be8 15 = .ok (.aload_n 0, 1) := by decide +kernel
theorem dJx4a65c_add_72be8_16 : decode cJx4a65c_add_72be8 16 = .ok (.iload_n 3, 1) := by decide +kernel
theorem dJx4a65c_add_72be8_17 : decode cJx4a65c_add_72be8 17 = .ok (.iconst 1, 1) := by decide +kernel
theorem dJx4a65c_add_72be8_18 : decode cJx4a65c_add_72be8 18 = .ok (.iadd, 1) := by decide +kernel
theorem dJx4a65c_add_72be8_19 : decode cJx4a65c_add_72be8 19 = .ok (.putfield 48, 3) := by decide +kernel
theorem dJx4a65c_add_72be8_22 : decode cJx4a65c_add_72be8 22 = .ok (.return_, 1) := by decide +kernel
theorem dJx4a65c_add_9ea2d_0 : decode cJx4a65c_add_9ea2d 0 = .ok (.aload_n 0, 1) := by decide +kernel
theorem dJx4a65c_add_9ea2d_1 : decode cJx4a65c_add_9ea2d 1 = .ok (.dup, 1) := by decide +kernel
theorem dJx4a65c_add_9ea2d_2 : decode cJx4a65c_add_9ea2d 2 = .ok (.getfield 63, 3) := by decide +kernel
theorem dJx4a65c_add_9ea2d_5 : decode cJx4a65c_add_9ea2d 5 = .ok (.iconst 1, 1) := by decide +kernel
theorem dJx4a65c_add_9ea2d_6 : decode cJx4a65c_add_9ea2d 6 = .ok (.iadd, 1) := by decide +kernel
theorem dJx4a65c_add_9ea2d_7 : decode cJx4a65c_add_9ea2d 7 = .ok (.putfield 63, 3) := by decide +kernel
theorem dJx4a65c_add_9ea2d_10 : decode cJx4a65c_add_9ea2d 10 = .ok (.aload_n 0, 1) := by decide +kernel
theorem dJx4a65c_add_9ea2d_11 : decode cJx4a65c_add_9ea2d 11 = .ok (.aload_n 1, 1) := by decide +kernel
theorem dJx4a65c_add_9ea2d_12 : decode cJx4a65c_add_9ea2d 12 = .ok (.aload_n 0, 1) := by decide +kernel
theorem dJx4a65c_add_9ea2d_13 : decode cJx4a65c_add_9ea2d 13 = .ok (.getfield 9, 3) := by decide +kernel
theorem dJx4a65c_add_9ea2d_16 : decode cJx4a65c_add_9ea2d 16 = .ok (.aload_n 0, 1) := by decide +kernel
theorem dJx4a65c_add_9ea2d_17 : decode cJx4a65c_add_9ea2d 17 = .ok (.getfield 48, 3) := by decide +kernel
theorem dJx4a65c_add_9ea2d_20 : decode cJx4a65c_add_9ea2d 20 = .ok (.invokevirtual 131, 3) := by decide +kernel
theorem dJx4a65c_add_9ea2d_23 : decode cJx4a65c_add_9ea2d 23 = .ok (.iconst 1, 1) := by decide +kernel
theorem dJx4a65c_add_9ea2d_24 : decode cJx4a65c_add_9ea2d 24 = .ok (.ireturn, 1) := by decide +kernel
theorem dJx4a65c_add_7a177_0 : decode cJx4a65c_add_7a177 0 = .ok (.aload_n 0, 1) := by decide +kernel
theorem dJx4a65c_add_7a177_1 : decode cJx4a65c_add_7a177 1 = .ok (.iload_n 1, 1) := by decide +kernel
theorem dJx4a65c_add_7a177_2 : decode cJx4a65c_add_7a177 2 = .ok (.invokevirtual 135, 3) := by decide +kernel
theorem dJx4a65c_add_7a177_5 : decode cJx4a65c_add_7a177 5 = .ok (.aload_n 0, 1) := by decide +kernel
theorem dJx4a65c_add_7a177_6 : decode cJx4a65c_add_7a177 6 = .ok (.dup, 1) := by decide +kernel
theorem dJx4a65c_add_7a177_7 : decode cJx4a65c_add_7a177 7 = .ok (.getfield 63, 3) := by decide +kernel
theorem dJx4a65c_add_7a177_10 : decode cJx4a65c_add_7a177 10 = .ok (.iconst 1, 1) := by decide +kernel
theorem dJx4a65c_add_7a177_11 : decode cJx4a65c_add_7a177 11 = .ok (.iadd, 1) := by decide +kernel
theorem dJx4a65c_add_7a177_12 : decode cJx4a65c_add_7a177 12 = .ok (.putfield 63, 3) := by decide +kernel
theorem dJx4a65c_add_7a177_15 : decode cJx4a65c_add_7a177 15 = .ok (.aload_n 0, 1) := by decide +kernel
theorem dJx4a65c_add_7a177_16 : decode cJx4a65c_add_7a177 16 = .ok (.getfield 48, 3) := by decide +kernel
theorem dJx4a65c_add_7a177_19 : decode cJx4a65c_add_7a177 19 = .ok (.dup, 1) := by decide +kernel
theorem dJx4a65c_add_7a177_20 : decode cJx4a65c_add_7a177 20 = .ok (.istore_n 3, 1) := by decide +kernel
theorem dJx4a65c_add_7a177_21 : decode cJx4a65c_add_7a177 21 = .ok (.aload_n 0, 1) := by decide +kernel
theorem dJx4a65c_add_7a177_22 : decode cJx4a65c_add_7a177 22 = .ok (.getfield 9, 3) := by decide +kernel
theorem dJx4a65c_add_7a177_25 : decode cJx4a65c_add_7a177 25 = .ok (.dup, 1) := by decide +kernel
theorem dJx4a65c_add_7a177_26 : decode cJx4a65c_add_7a177 26 = .ok (.astore 4, 2) := by decide +kernel
theorem dJx4a65c_add_7a177_28 : decode cJx4a65c_add_7a177 28 = .ok (.arraylength, 1) := by decide +kernel
theorem dJx4a65c_add_7a177_29 : decode cJx4a65c_add_7a177 29 = .ok (.if_icmp .ne 9, 3) := by decide +kernel
theorem dJx4a65c_add_7a177_32 : decode cJx4a65c_add_7a177 32 = .ok (.aload_n 0, 1) := by decide +kernel
theorem dJx4a65c_add_7a177_33 : decode cJx4a65c_add_7a177 33 = .ok (.invokevirtual 129, 3) := by decide +kernel
theorem dJx4a65c_add_7a177_36 : decode cJx4a65c_add_7a177 36 = .ok (.astore 4, 2) := by decide +kernel
theorem dJx4a65c_add_7a177_38 : decode cJx4a65c_add_7a177 38 = .ok (.aload 4, 2) := by decide +kernel
theorem dJx4a65c_add_7a177_40 : decode cJx4a65c_add_7a177 40 = .ok (.iload_n 1, 1) := by decide +kernel
theorem dJx4a65c_add_7a177_41 : decode cJx4a65c_add_7a177 41 = .ok (.aload 4, 2) := by decide +kernel
theorem dJx4a65c_add_7a177_43 : decode cJx4a65c_add_7a177 43 = .ok (.iload_n 1, 1) := by decide +kernel
theorem dJx4a65c_add_7a177_44 : decode cJx4a65c_add_7a177 44 = .ok (.iconst 1, 1) := by decide +kernel
theorem dJx4a65c_add_7a177_45 : decode cJx4a65c_add_7a177 45 = .ok (.iadd, 1) := by decide +kernel
theorem dJx4a65c_add_7a177_46 : decode cJx4a65c_add_7a177 46 = .ok (.iload_n 3, 1) := by decide +kernel
theorem dJx4a65c_add_7a177_47 : decode cJx4a65c_add_7a177 47 = .ok (.iload_n 1, 1) := by decide +kernel
theorem dJx4a65c_add_7a177_48 : decode cJx4a65c_add_7a177 48 = .ok (.isub, 1) := by decide +kernel
theorem dJx4a65c_add_7a177_49 : decode cJx4a65c_add_7a177 49 = .ok (.invokestatic 112, 3) := by decide +kernel
theorem dJx4a65c_add_7a177_52 : decode cJx4a65c_add_7a177 52 = .ok (.aload 4, 2) := by decide +kernel
theorem dJx4a65c_add_7a177_54 : decode cJx4a65c_add_7a177 54 = .ok (.iload_n 1, 1) := by decide +kernel
theorem dJx4a65c_add_7a177_55 : decode cJx4a65c_add_7a177 55 = .ok (.aload_n 2, 1) := by decide +kernel
theorem dJx4a65c_add_7a177_56 : decode cJx4a65c_add_7a177 56 = .ok (.aastore, 1) := by decide +kernel
theorem dJx4a65c_add_7a177_57 : decode cJx4a65c_add_7a177 57 = .ok (.aload_n 0, 1) := by decide +kernel
theorem dJx4a65c_add_7a177_58 : decode cJx4a65c_add_7a177 58 = .ok (.iload_n 3, 1) := by decide +kernel
theorem dJx4a65c_add_7a177_59 : decode cJx4a65c_add_7a177 59 = .ok (.iconst 1, 1) := by decide +kernel
theorem dJx4a65c_add_7a177_60 : decode cJx4a65c_add_7a177 60 = .ok (.iadd, 1) := by decide +kernel
theorem dJx4a65c_add_7a177_61 : decode cJx4a65c_add_7a177 61 = .ok (.putfield 48, 3) := by decide +kernel
theorem dJx4a65c_add_7a177_64 : decode cJx4a65c_add_7a177 64 = .ok (.return_, 1) := by decide +kernel
theorem dJx4a65c_remove_915e3_0 : decode cJx4a65c_remove_915e3 0 = .ok (.iload_n 1, 1) := by decide +kernel
theorem dJx4a65c_remove_915e3_1 : decode cJx4a65c_remove_915e3 1 = .ok (.aload_n 0, 1) := by decide +kernel
theorem dJx4a65c_remove_915e3_2 : decode cJx4a65c_remove_915e3 2 = .ok (.getfield 48, 3) := by decide +kernel
theorem dJx4a65c_remove_915e3_5 : decode cJx4a65c_remove_915e3 5 = .ok (.invokestatic 118, 3) := by decide +kernel
theorem dJx4a65c_remove_915e3_8 : decode cJx4a65c_remove_915e3 8 = .ok (.pop, 1) := by decide +kernel
theorem dJx4a65c_remove_915e3_9 : decode cJx4a65c_remove_915e3 9 = .ok (.aload_n 0, 1) := by decide +kernel
theorem dJx4a65c_remove_915e3_10 : decode cJx4a65c_remove_915e3 10 = .ok (.getfield 9, 3) := by decide +kernel
theorem dJx4a65c_remove_915e3_13 : decode cJx4a65c_remove_915e3 13 = .ok (.astore_n 2, 1) := by decide +kernel
theorem dJx4a65c_remove_915e3_14 : decode cJx4a65c_remove_915e3 14 = .ok (.aload_n 2, 1) := by decide +kernel
theorem dJx4a65c_remove_915e3_15 : decode cJx4a65c_remove_915e3 15 = .ok (.iload_n 1, 1) := by decide +kernel
theorem dJx4a65c_remove_915e3_16 : decode cJx4a65c_remove_915e3 16 = .ok (.aaload, 1) := by decide +kernel
theorem dJx4a65c_remove_915e3_17 : decode cJx4a65c_remove_915e3 17 = .ok (.astore_n 3, 1) := by decide +kernel
theorem dJx4a65c_remove_915e3_18 : decode cJx4a65c_remove_915e3 18 = .ok (.aload_n 0, 1) := by decide +kernel
theorem dJx4a65c_remove_915e3_19 : decode cJx4a65c_remove_915e3 19 = .ok (.aload_n 2, 1) := by decide +kernel
theorem dJx4a65c_remove_915e3_20 : decode cJx4a65c_remove_915e3 20 = .ok (.iload_n 1, 1) := by decide +kernel
theorem dJx4a65c_remove_915e3_21 : decode cJx4a65c_remove_915e3 21 = .ok (.invokevirtual 144, 3) := by decide +kernel
theorem dJx4a65c_remove_915e3_24 : decode cJx4a65c_remove_915e3 24 = .ok (.aload_n 3, 1) := by decide +kernel
theorem dJx4a65c_remove_915e3_25 : decode cJx4a65c_remove_915e3 25 = .ok (.areturn, 1) := by decide +kernel
theorem dJx4a65c_fastRemove_b59b0_0 : decode cJx4a65c_fastRemove_b59b0 0 = .ok (.aload_n 0, 1) := by decide +kernel
theorem dJx4a65c_fastRemove_b59b0_1 : decode cJx4a65c_fastRemove_b59b0 1 = .ok (.dup, 1) := by decide +kernel
theorem dJx4a65c_fastRemove_b59b0_2 : decode cJx4a65c_fastRemove_b59b0 2 = .ok (.getfield 63, 3) := by decide +kernel
theorem dJx4a65c_fastRemove_b59b0_5 : decode cJx4a65c_fastRemove_b59b0 5 = .ok (.iconst 1, 1) := by decide +kernel
theorem dJx4a65c_fastRemove_b59b0_6 : decode cJx4a65c_fastRemove_b59b0 6 = .ok (.iadd, 1) := by decide +kernel
theorem dJx4a65c_fastRemove_b59b0_7 : decode cJx4a65c_fastRemove_b59b0 7 = .ok (.putfield 63, 3) := by decide +kernel
theorem dJx4a65c_fastRemove_b59b0_10 : decode cJx4a65c_fastRemove_b59b0 10 = .ok (.aload_n 0, 1) := by decide +kernel
theorem dJx4a65c_fastRemove_b59b0_11 : decode cJx4a65c_fastRemove_b59b0 11 = .ok (.getfield 48, 3) := by decide +kernel
theorem dJx4a65c_fastRemove_b59b0_14 : decode cJx4a65c_fastRemove_b59b0 14 = .ok (.iconst 1, 1) := by decide +kernel
theorem dJx4a65c_fastRemove_b59b0_15 : decode cJx4a65c_fastRemove_b59b0 15 = .ok (.isub, 1) := by decide +kernel
theorem dJx4a65c_fastRemove_b59b0_16 : decode cJx4a65c_fastRemove_b59b0 16 = .ok (.dup, 1) := by decide +kernel
theorem dJx4a65c_fastRemove_b59b0_17 : decode cJx4a65c_fastRemove_b59b0 17 = .ok (.istore_n 3, 1) := by decide +kernel
theorem dJx4a65c_fastRemove_b59b0_18 : decode cJx4a65c_fastRemove_b59b0 18 = .ok (.iload_n 2, 1) := by decide +kernel
theorem dJx4a65c_fastRemove_b59b0_19 : decode cJx4a65c_fastRemove_b59b0 19 = .ok (.if_icmp .le 15, 3) := by decide +kernel
theorem dJx4a65c_fastRemove_b59b0_22 : decode cJx4a65c_fastRemove_b59b0 22 = .ok (.aload_n 1, 1) := by decide +kernel
theorem dJx4a65c_fastRemove_b59b0_23 : decode cJx4a65c_fastRemove_b59b0 23 = .ok (.iload_n 2, 1) := by decide +kernel
theorem dJx4a65c_fastRemove_b59b0_24 : decode cJx4a65c_fastRemove_b59b0 24 = .ok (.iconst 1, 1) := by decide +kernel
theorem dJx4a65c_fastRemove_b59b0_25 : decode cJx4a65c_fastRemove_b59b0 25 = .ok (.iadd, 1) := by decide +kernel
theorem dJx4a65c_fastRemove_b59b0_26 : decode cJx4a65c_fastRemove_b59b0 26 = .ok (.aload_n 1, 1) := by decide +kernel
theorem dJx4a65c_fastRemove_b59b0_27 : decode cJx4a65c_fastRemove_b59b0 27 = .ok (.iload_n 2, 1) := by decide +kernel
theorem dJx4a65c_fastRemove_b59b0_28 : decode cJx4a65c_fastRemove_b59b0 28 = .ok (.iload_n 3, 1) := by decide +kernel
theorem dJx4a65c_fastRemove_b59b0_29 : decode cJx4a65c_fastRemove_b59b0 29 = .ok (.iload_n 2, 1) := by decide +kernel
theorem dJx4a65c_fastRemove_b59b0_30 : decode cJx4a65c_fastRemove_b59b0 30 = .ok (.isub, 1) := by decide +kernel
theorem dJx4a65c_fastRemove_b59b0_31 : decode cJx4a65c_fastRemove_b59b0 31 = .ok (.invokestatic 112, 3) := by decide +kernel
theorem dJx4a65c_fastRemove_b59b0_34 : decode cJx4a65c_fastRemove_b59b0 34 = .ok (.aload_n 1, 1) := by decide +kernel
theorem dJx4a65c_fastRemove_b59b0_35 : decode cJx4a65c_fastRemove_b59b0 35 = .ok (.aload_n 0, 1) := by decide +kernel
theorem dJx4a65c_fastRemove_b59b0_36 : decode cJx4a65c_fastRemove_b59b0 36 = .ok (.iload_n 3, 1) := by decide +kernel
theorem dJx4a65c_fastRemove_b59b0_37 : decode cJx4a65c_fastRemove_b59b0 37 = .ok (.dup_x1, 1) := by decide +kernel
theorem dJx4a65c_fastRemove_b59b0_38 : decode cJx4a65c_fastRemove_b59b0 38 = .ok (.putfield 48, 3) := by decide +kernel
theorem dJx4a65c_fastRemove_b59b0_41 : decode cJx4a65c_fastRemove_b59b0 41 = .ok (.aconst_null, 1) := by decide +kernel
theorem dJx4a65c_fastRemove_b59b0_42 : decode cJx4a65c_fastRemove_b59b0 42 = .ok (.aastore, 1) := by decide +kernel
theorem dJx4a65c_fastRemove_b59b0_43 : decode cJx4a65c_fastRemove_b59b0 43 = .ok (.return_, 1) := by decide +kernel
theorem dJx4a65c_clear_da8c8_0 : decode cJx4a65c_clear_da8c8 0 = .ok (.aload_n 0, 1) := by decide +kernel
theorem dJx4a65c_clear_da8c8_1 : decode cJx4a65c_clear_da8c8 1 = .ok (.dup, 1) := by decide +kernel
theorem dJx4a65c_clear_da8c8_2 : decode cJx4a65c_clear_da8c8 2 = .ok (.getfield 63, 3) := by decide +kernel
theorem dJx4a65c_clear_da8c8_5 : decode cJx4a65c_clear_da8c8 5 = .ok (.iconst 1, 1) := by decide +kernel
theorem dJx4a65c_clear_da8c8_6 : decode cJx4a65c_clear_da8c8 6 = .ok (.iadd, 1) := by decide +kernel
theorem dJx4a65c_clear_da8c8_7 : decode cJx4a65c_clear_da8c8 7 = .ok (.putfield 63, 3) := by decide +kernel
theorem dJx4a65c_clear_da8c8_10 : decode cJx4a65c_clear_da8c8 10 = .ok (.aload_n 0, 1) := by decide +kernel
theorem dJx4a65c_clear_da8c8_11 : decode cJx4a65c_clear_da8c8 11 = .ok (.getfield 9, 3) := by decide +kernel
theorem dJx4a65c_clear_da8c8_14 : decode cJx4a65c_clear_da8c8 14 = .ok (.astore_n 1, 1) := by decide +kernel
theorem dJx4a65c_clear_da8c8_15 : decode cJx4a65c_clear_da8c8 15 = .ok (.aload_n 0, 1) := by decide +kernel
theorem dJx4a65c_clear_da8c8_16 : decode cJx4a65c_clear_da8c8 16 = .ok (.getfield 48, 3) := by decide +kernel
theorem dJx4a65c_clear_da8c8_19 : decode cJx4a65c_clear_da8c8 19 = .ok (.istore_n 2, 1) := by decide +kernel
theorem dJx4a65c_clear_da8c8_20 : decode cJx4a65c_clear_da8c8 20 = .ok (.aload_n 0, 1) := by decide +kernel
theorem dJx4a65c_clear_da8c8_21 : decode cJx4a65c_clear_da8c8 21 = .ok (.iconst 0, 1) := by decide +kernel
theorem dJx4a65c_clear_da8c8_22 : decode cJx4a65c_clear_da8c8 22 = .ok (.dup_x1, 1) := by decide +kernel
theorem dJx4a65c_clear_da8c8_23 : decode cJx4a65c_clear_da8c8 23 = .ok (.putfield 48, 3) := by decide +kernel
theorem dJx4a65c_clear_da8c8_26 : decode cJx4a65c_clear_da8c8 26 = .ok (.istore_n 3, 1) := by decide +kernel
theorem dJx4a65c_clear_da8c8_27 : decode cJx4a65c_clear_da8c8 27 = .ok (.iload_n 3, 1) := by decide +kernel
theorem dJx4a65c_clear_da8c8_28 : decode cJx4a65c_clear_da8c8 28 = .ok (.iload_n 2, 1) := by decide +kernel
theorem dJx4a65c_clear_da8c8_29 : decode cJx4a65c_clear_da8c8 29 = .ok (.if_icmp .ge 13, 3) := by decide +kernel
theorem dJx4a65c_clear_da8c8_32 : decode cJx4a65c_clear_da8c8 32 = .ok (.aload_n 1, 1) := by decide +kernel
theorem dJx4a65c_clear_da8c8_33 : decode cJx4a65c_clear_da8c8 33 = .ok (.iload_n 3, 1) := by decide +kernel
theorem dJx4a65c_clear_da8c8_34 : decode cJx4a65c_clear_da8c8 34 = .ok (.aconst_null, 1) := by decide +kernel
theorem dJx4a65c_clear_da8c8_35 : decode cJx4a65c_clear_da8c8 35 = .ok (.aastore, 1) := by decide +kernel
theorem dJx4a65c_clear_da8c8_36 : decode cJx4a65c_clear_da8c8 36 = .ok (.iinc 3 1, 3) := by decide +kernel
theorem dJx4a65c_clear_da8c8_39 : decode cJx4a65c_clear_da8c8 39 = .ok (.goto (-12), 3) := by decide +kernel
theorem dJx4a65c_clear_da8c8_42 : decode cJx4a65c_clear_da8c8 42 = .ok (.return_, 1) := by decide +kernel
theorem dJx4a65c_rangeCheckForAdd_d00df_0 : decode cJx4a65c_rangeCheckForAdd_d00df 0 = .ok (.iload_n 1, 1) := by decide +kernel
theorem dJx4a65c_rangeCheckForAdd_d00df_1 : decode cJx4a65c_rangeCheckForAdd_d00df 1 = .ok (.aload_n 0, 1) := by decide +kernel
theorem dJx4a65c_rangeCheckForAdd_d00df_2 : decode cJx4a65c_rangeCheckForAdd_d00df 2 = .ok (.getfield 48, 3) := by decide +kernel
theorem dJx4a65c_rangeCheckForAdd_d00df_5 : decode cJx4a65c_rangeCheckForAdd_d00df 5 = .ok (.if_icmp .gt 7, 3) := by decide +kernel
theorem dJx4a65c_rangeCheckForAdd_d00df_8 : decode cJx4a65c_rangeCheckForAdd_d00df 8 = .ok (.iload_n 1, 1) := by decide +kernel
theorem dJx4a65c_rangeCheckForAdd_d00df_9 : decode cJx4a65c_rangeCheckForAdd_d00df 9 = .ok (.ifCond .ge 16, 3) := by decide +kernel
theorem dJx4a65c_rangeCheckForAdd_d00df_12 : decode cJx4a65c_rangeCheckForAdd_d00df 12 = .ok (.new 187, 3) := by decide +kernel
theorem dJx4a65c_rangeCheckForAdd_d00df_15 : decode cJx4a65c_rangeCheckForAdd_d00df 15 = .ok (.dup, 1) := by decide +kernel
theorem dJx4a65c_rangeCheckForAdd_d00df_16 : decode cJx4a65c_rangeCheckForAdd_d00df 16 = .ok (.aload_n 0, 1) := by decide +kernel
theorem dJx4a65c_rangeCheckForAdd_d00df_17 : decode cJx4a65c_rangeCheckForAdd_d00df 17 = .ok (.iload_n 1, 1) := by decide +kernel
theorem dJx4a65c_rangeCheckForAdd_d00df_18 : decode cJx4a65c_rangeCheckForAdd_d00df 18 = .ok (.invokevirtual 198, 3) := by decide +kernel
theorem dJx4a65c_rangeCheckForAdd_d00df_21 : decode cJx4a65c_rangeCheckForAdd_d00df 21 = .ok (.invokespecial 193, 3) := by decide +kernel
theorem dJx4a65c_rangeCheckForAdd_d00df_24 : decode cJx4a65c_rangeCheckForAdd_d00df 24 = .ok (.athrow, 1) := by decide +kernel
theorem dJx4a65c_rangeCheckForAdd_d00df_25 : decode cJx4a65c_rangeCheckForAdd_d00df 25 = .ok (.return_, 1) := by decide +kernel
theorem dJ7_copyOf_1904c_0 : decode cJ7_copyOf_1904c 0 = .ok (.aload_n 0, 1) := by decide +kernel
theorem dJ7_copyOf_1904c_1 : decode cJ7_copyOf_1904c 1 = .ok (.iload_n 1, 1) := by decide +kernel
theorem dJ7_copyOf_1904c_2 : decode cJ7_copyOf_1904c 2 = .ok (.aload_n 0, 1) := by decide +kernel
theorem dJ7_copyOf_1904c_3 : decode cJ7_copyOf_1904c 3 = .ok (.invokevirtual 86, 3) := by decide +kernel
theorem dJ7_copyOf_1904c_6 : decode cJ7_copyOf_1904c 6 = .ok (.invokestatic 300, 3) := by decide +kernel
theorem dJ7_copyOf_1904c_9 : decode cJ7_copyOf_1904c 9 = .ok (.areturn, 1) := by decide +kernel
theorem dJ7_copyOf_6403c_0 : decode cJ7_copyOf_6403c 0 = .ok (.aload_n 2, 1) := by decide +kernel
theorem dJ7_copyOf_6403c_1 : decode cJ7_copyOf_6403c 1 = .ok (.ldc 110, 2) := by decide +kernel
theorem dJ7_copyOf_6403c_3 : decode cJ7_copyOf_6403c 3 = .ok (.if_acmp .ne 10, 3) := by decide +kernel
theorem dJ7_copyOf_6403c_6 : decode cJ7_copyOf_6403c 6 = .ok (.iload_n 1, 1) := by decide +kernel
theorem dJ7_copyOf_6403c_7 : decode cJ7_copyOf_6403c 7 = .ok (.anewarray 2, 3) := by decide +kernel
theorem dJ7_copyOf_6403c_10 : decode cJ7_copyOf_6403c 10 = .ok (.goto 14, 3) := by decide +kernel
theorem dJ7_copyOf_6403c_13 : decode cJ7_copyOf_6403c 13 = .ok (.aload_n 2, 1) := by decide +kernel
theorem dJ7_copyOf_6403c_14 : decode cJ7_copyOf_6403c 14 = .ok (.invokevirtual 90, 3) := by decide +kernel
theorem dJ7_copyOf_6403c_17 : decode cJ7_copyOf_6403c 17 = .ok (.iload_n 1, 1) := by decide +kernel
theorem dJ7_copyOf_6403c_18 : decode cJ7_copyOf_6403c 18 = .ok (.invokestatic 95, 3) := by decide +kernel
theorem dJ7_copyOf_6403c_21 : decode cJ7_copyOf_6403c 21 = .ok (.checkcast 110, 3) := by decide +kernel
theorem dJ7_copyOf_6403c_24 : decode cJ7_copyOf_6403c 24 = .ok (.astore_n 3, 1) := by decide +kernel
theorem dJ7_copyOf_6403c_25 : decode cJ7_copyOf_6403c 25 = .ok (.aload_n 0, 1) := by decide +kernel
theorem dJ7_copyOf_6403c_26 : decode cJ7_copyOf_6403c 26 = .ok (.iconst 0, 1) := by decide +kernel
theorem dJ7_copyOf_6403c_27 : decode cJ7_copyOf_6403c 27 = .ok (.aload_n 3, 1) := by decide +kernel
theorem dJ7_copyOf_6403c_28 : decode cJ7_copyOf_6403c 28 = .ok (.iconst 0, 1) := by decide +kernel
theorem dJ7_copyOf_6403c_29 : decode cJ7_copyOf_6403c 29 = .ok (.aload_n 0, 1) := by decide +kernel
theorem dJ7_copyOf_6403c_30 : decode cJ7_copyOf_6403c 30 = .ok (.arraylength, 1) := by decide +kernel
theorem dJ7_copyOf_6403c_31 : decode cJ7_copyOf_6403c 31 = .ok (.iload_n 1, 1) := by decide +kernel
theorem dJ7_copyOf_6403c_32 : decode cJ7_copyOf_6403c 32 = .ok (.invokestatic 304, 3) := by decide +kernel
theorem dJ7_copyOf_6403c_35 : decode cJ7_copyOf_6403c 35 = .ok (.invokestatic 150, 3) := by decide +kernel
theorem dJ7_copyOf_6403c_38 : decode cJ7_copyOf_6403c 38 = .ok (.aload_n 3, 1) := by decide +kernel
theorem dJ7_copyOf_6403c_39 : decode cJ7_copyOf_6403c 39 = .ok (.areturn, 1) := by decide +kernel
theorem dJ15_checkIndex_7cf53_0 : decode cJ15_checkIndex_7cf53 0 = .ok (.iload_n 0, 1) := by decide +kernel
theorem dJ15_checkIndex_7cf53_1 : decode cJ15_checkIndex_7cf53 1 = .ok (.iload_n 1, 1) := by decide +kernel
theorem dJ15_checkIndex_7cf53_2 : decode cJ15_checkIndex_7cf53 2 = .ok (.aconst_null, 1) := by decide +kernel
theorem dJ15_checkIndex_7cf53_3 : decode cJ15_checkIndex_7cf53 3 = .ok (.invokestatic 105, 3) := by decide +kernel
theorem dJ15_checkIndex_7cf53_6 : decode cJ15_checkIndex_7cf53 6 = .ok (.ireturn, 1) := by decide +kernel
theorem dJ8_newLength_cabcc_0 : decode cJ8_newLength_cabcc 0 = .ok (.iload_n 0, 1) := by decide +kernel
theorem dJ8_newLength_cabcc_1 : decode cJ8_newLength_cabcc 1 = .ok (.iload_n 1, 1) := by decide +kernel
theorem dJ8_newLength_cabcc_2 : decode cJ8_newLength_cabcc 2 = .ok (.iload_n 2, 1) := by decide +kernel
theorem dJ8_newLength_cabcc_3 : decode cJ8_newLength_cabcc 3 = .ok (.invokestatic 194, 3) := by decide +kernel
theorem dJ8_newLength_cabcc_6 : decode cJ8_newLength_cabcc 6 = .ok (.iadd, 1) := by decide +kernel
theorem dJ8_newLength_cabcc_7 : decode cJ8_newLength_cabcc 7 = .ok (.istore_n 3, 1) := by decide +kernel
theorem dJ8_newLength_cabcc_8 : decode cJ8_newLength_cabcc 8 = .ok (.iconst 0, 1) := by decide +kernel
theorem dJ8_newLength_cabcc_9 : decode cJ8_newLength_cabcc 9 = .ok (.iload_n 3, 1) := by decide +kernel
theorem dJ8_newLength_cabcc_10 : decode cJ8_newLength_cabcc 10 = .ok (.if_icmp .ge 11, 3) := by decide +kernel
theorem dJ8_newLength_cabcc_13 : decode cJ8_newLength_cabcc 13 = .ok (.iload_n 3, 1) := by decide +kernel
theorem dJ8_newLength_cabcc_14 : decode cJ8_newLength_cabcc 14 = .ok (.ldc 200, 2) := by decide +kernel
theorem dJ8_newLength_cabcc_16 : decode cJ8_newLength_cabcc 16 = .ok (.if_icmp .gt 5, 3) := by decide +kernel
theorem dJ8_newLength_cabcc_19 : decode cJ8_newLength_cabcc 19 = .ok (.iload_n 3, 1) := by decide +kernel
theorem dJ8_newLength_cabcc_20 : decode cJ8_newLength_cabcc 20 = .ok (.ireturn, 1) := by decide +kernel
theorem dJ8_newLength_cabcc_21 : decode cJ8_newLength_cabcc 21 = .ok (.iload_n 0, 1) := by decide +kernel
theorem dJ8_newLength_cabcc_22 : decode cJ8_newLength_cabcc 22 = .ok (.iload_n 1, 1) := by decide +kernel
theorem dJ8_newLength_cabcc_23 : decode cJ8_newLength_cabcc 23 = .ok (.invokestatic 201, 3) := by decide +kernel
theorem dJ8_newLength_cabcc_26 : decode cJ8_newLength_cabcc 26 = .ok (.ireturn, 1) := by decide +kernel
theorem dJ8_hugeLength_7cf53_0 : decode cJ8_hugeLength_7cf53 0 = .ok (.iload_n 0, 1) := by decide +kernel
theorem dJ8_hugeLength_7cf53_1 : decode cJ8_hugeLength_7cf53 1 = .ok (.iload_n 1, 1) := by decide +kernel
theorem dJ8_hugeLength_7cf53_2 : decode cJ8_hugeLength_7cf53 2 = .ok (.iadd, 1) := by decide +kernel
theorem dJ8_hugeLength_7cf53_3 : decode cJ8_hugeLength_7cf53 3 = .ok (.istore_n 2, 1) := by decide +kernel
theorem dJ8_hugeLength_7cf53_4 : decode cJ8_hugeLength_7cf53 4 = .ok (.iload_n 2, 1) := by decide +kernel
theorem dJ8_hugeLength_7cf53_5 : decode cJ8_hugeLength_7cf53 5 = .ok (.ifCond .ge 44, 3) := by decide +kernel
theorem dJ8_hugeLength_7cf53_8 : decode cJ8_hugeLength_7cf53 8 = .ok (.new 204, 3) := by decide +kernel
theorem dJ8_hugeLength_7cf53_11 : decode cJ8_hugeLength_7cf53 11 = .ok (.dup, 1) := by decide +kernel
theorem dJ8_hugeLength_7cf53_12 : decode cJ8_hugeLength_7cf53 12 = .ok (.new 89, 3) := by decide +kernel
theorem dJ8_hugeLength_7cf53_15 : decode cJ8_hugeLength_7cf53 15 = .ok (.dup, 1) := by decide +kernel
theorem dJ8_hugeLength_7cf53_16 : decode cJ8_hugeLength_7cf53 16 = .ok (.invokespecial 91, 3) := by decide +kernel
theorem dJ8_hugeLength_7cf53_19 : decode cJ8_hugeLength_7cf53 19 = .ok (.ldc 206, 2) := by decide +kernel
theorem dJ8_hugeLength_7cf53_21 : decode cJ8_hugeLength_7cf53 21 = .ok (.invokevirtual 94, 3) := by decide +kernel
theorem dJ8_hugeLength_7cf53_24 : decode cJ8_hugeLength_7cf53 24 = .ok (.iload_n 0, 1) := by decide +kernel
theorem dJ8_hugeLength_7cf53_25 : decode cJ8_hugeLength_7cf53 25 = .ok (.invokevirtual 98, 3) := by decide +kernel
theorem dJ8_hugeLength_7cf53_28 : decode cJ8_hugeLength_7cf53 28 = .ok (.ldc 208, 2) := by decide +kernel
theorem dJ8_hugeLength_7cf53_30 : decode cJ8_hugeLength_7cf53 30 = .ok (.invokevirtual 94, 3) := by decide +kernel
theorem dJ8_hugeLength_7cf53_33 : decode cJ8_hugeLength_7cf53 33 = .ok (.iload_n 1, 1) := by decide +kernel
theorem dJ8_hugeLength_7cf53_34 : decode cJ8_hugeLength_7cf53 34 = .ok (.invokevirtual 98, 3) := by decide +kernel
theorem dJ8_hugeLength_7cf53_37 : decode cJ8_hugeLength_7cf53 37 = .ok (.ldc 210, 2) := by decide +kernel
theorem dJ8_hugeLength_7cf53_39 : decode cJ8_hugeLength_7cf53 39 = .ok (.invokevirtual 94, 3) := by decide +kernel
theorem dJ8_hugeLength_7cf53_42 : decode cJ8_hugeLength_7cf53 42 = .ok (.invokevirtual 101, 3) := by decide +kernel
theorem dJ8_hugeLength_7cf53_45 : decode cJ8_hugeLength_7cf53 45 = .ok (.invokespecial 212, 3) := by decide +kernel
theorem dJ8_hugeLength_7cf53_48 : decode cJ8_hugeLength_7cf53 48 = .ok (.athrow, 1) := by decide +kernel
theorem dJ8_hugeLength_7cf53_49 : decode cJ8_hugeLength_7cf53 49 = .ok (.iload_n 2, 1) := by decide +kernel
theorem dJ8_hugeLength_7cf53_50 : decode cJ8_hugeLength_7cf53 50 = .ok (.ldc 200, 2) := by decide +kernel
theorem dJ8_hugeLength_7cf53_52 : decode cJ8_hugeLength_7cf53 52 = .ok (.if_icmp .gt 6, 3) := by decide +kernel
theorem dJ8_hugeLength_7cf53_55 : decode cJ8_hugeLength_7cf53 55 = .ok (.ldc 200, 2) := by decide +kernel
theorem dJ8_hugeLength_7cf53_57 : decode cJ8_hugeLength_7cf53 57 = .ok (.ireturn, 1) := by decide +kernel
theorem dJ8_hugeLength_7cf53_58 : decode cJ8_hugeLength_7cf53 58 = .ok (.iload_n 2, 1) := by decide +kernel
theorem dJ8_hugeLength_7cf53_59 : decode cJ8_hugeLength_7cf53 59 = .ok (.ireturn, 1) := by decide +kernel
theorem dJ3_checkIndex_8e157_0 : decode cJ3_checkIndex_8e157 0 = .ok (.iload_n 0, 1) := by decide +kernel
theorem dJ3_checkIndex_8e157_1 : decode cJ3_checkIndex_8e157 1 = .ok (.ifCond .lt 8, 3) := by decide +kernel
theorem dJ3_checkIndex_8e157_4 : decode cJ3_checkIndex_8e157 4 = .ok (.iload_n 0, 1) := by decide +kernel
theorem dJ3_checkIndex_8e157_5 : decode cJ3_checkIndex_8e157 5 = .ok (.iload_n 1, 1) := by decide +kernel
theorem dJ3_checkIndex_8e157_6 : decode cJ3_checkIndex_8e157 6 = .ok (.if_icmp .lt 10, 3) := by decide +kernel
theorem dJ3_checkIndex_8e157_9 : decode cJ3_checkIndex_8e157 9 = .ok (.aload_n 2, 1) := by decide +kernel
theorem dJ3_checkIndex_8e157_10 : decode cJ3_checkIndex_8e157 10 = .ok (.iload_n 0, 1) := by decide +kernel
theorem dJ3_checkIndex_8e157_11 : decode cJ3_checkIndex_8e157 11 = .ok (.iload_n 1, 1) := by decide +kernel
theorem dJ3_checkIndex_8e157_12 : decode cJ3_checkIndex_8e157 12 = .ok (.invokestatic 95, 3) := by decide +kernel
theorem dJ3_checkIndex_8e157_15 : decode cJ3_checkIndex_8e157 15 = .ok (.athrow, 1) := by decide +kernel
theorem dJ3_checkIndex_8e157_16 : decode cJ3_checkIndex_8e157 16 = .ok (.iload_n 0, 1) := by decide +kernel
theorem dJ3_checkIndex_8e157_17 : decode cJ3_checkIndex_8e157 17 = .ok (.ireturn, 1) := by decide +kernel
