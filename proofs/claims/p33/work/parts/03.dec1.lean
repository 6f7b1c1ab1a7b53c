theorem dX0_init_0 : decode cX0_init 0 = .ok (.aload_n 0, 1) := by decide +kernel
theorem dX0_init_1 : decode cX0_init 1 = .ok (.invokespecial 3, 3) := by decide +kernel
theorem dX0_init_4 : decode cX0_init 4 = .ok (.aload_n 0, 1) := by decide +kernel
theorem dX0_init_5 : decode cX0_init 5 = .ok (.iconst (-1), 1) := by decide +kernel
theorem dX0_init_6 : decode cX0_init 6 = .ok (.putfield 9, 3) := by decide +kernel
theorem dX0_init_9 : decode cX0_init 9 = .ok (.aload_n 0, 1) := by decide +kernel
theorem dX0_init_10 : decode cX0_init 10 = .ok (.new 15, 3) := by decide +kernel
theorem dX0_init_13 : decode cX0_init 13 = .ok (.dup, 1) := by decide +kernel
theorem dX0_init_14 : decode cX0_init 14 = .ok (.invokespecial 17, 3) := by decide +kernel
theorem dX0_init_17 : decode cX0_init 17 = .ok (.putfield 18, 3) := by decide +kernel
theorem dX0_init_20 : decode cX0_init 20 = .ok (.aload_n 0, 1) := by decide +kernel
theorem dX0_init_21 : decode cX0_init 21 = .ok (.new 22, 3) := by decide +kernel
theorem dX0_init_24 : decode cX0_init 24 = .ok (.dup, 1) := by decide +kernel
theorem dX0_init_25 : decode cX0_init 25 = .ok (.invokespecial 24, 3) := by decide +kernel
theorem dX0_init_28 : decode cX0_init 28 = .ok (.putfield 25, 3) := by decide +kernel
theorem dX0_init_31 : decode cX0_init 31 = .ok (.aload_n 0, 1) := by decide +kernel
theorem dX0_init_32 : decode cX0_init 32 = .ok (.iload_n 1, 1) := by decide +kernel
theorem dX0_init_33 : decode cX0_init 33 = .ok (.putfield 29, 3) := by decide +kernel
theorem dX0_init_36 : decode cX0_init 36 = .ok (.aload_n 0, 1) := by decide +kernel
theorem dX0_init_37 : decode cX0_init 37 = .ok (.iload_n 2, 1) := by decide +kernel
theorem dX0_init_38 : decode cX0_init 38 = .ok (.putfield 32, 3) := by decide +kernel
theorem dX0_init_41 : decode cX0_init 41 = .ok (.return_, 1) := by decide +kernel
theorem dX0_pieceNumbered_0 : decode cX0_pieceNumbered 0 = .ok (.iload_n 1, 1) := by decide +kernel
theorem dX0_pieceNumbered_1 : decode cX0_pieceNumbered 1 = .ok (.ifCond .lt 28, 3) := by decide +kernel
theorem dX0_pieceNumbered_4 : decode cX0_pieceNumbered 4 = .ok (.iload_n 1, 1) := by decide +kernel
theorem dX0_pieceNumbered_5 : decode cX0_pieceNumbered 5 = .ok (.aload_n 0, 1) := by decide +kernel
theorem dX0_pieceNumbered_6 : decode cX0_pieceNumbered 6 = .ok (.getfield 25, 3) := by decide +kernel
theorem dX0_pieceNumbered_9 : decode cX0_pieceNumbered 9 = .ok (.invokevirtual 35, 3) := by decide +kernel
theorem dX0_pieceNumbered_12 : decode cX0_pieceNumbered 12 = .ok (.if_icmp .ge 17, 3) := by decide +kernel
theorem dX0_pieceNumbered_15 : decode cX0_pieceNumbered 15 = .ok (.aload_n 0, 1) := by decide +kernel
theorem dX0_pieceNumbered_16 : decode cX0_pieceNumbered 16 = .ok (.getfield 25, 3) := by decide +kernel
theorem dX0_pieceNumbered_19 : decode cX0_pieceNumbered 19 = .ok (.iload_n 1, 1) := by decide +kernel
theorem dX0_pieceNumbered_20 : decode cX0_pieceNumbered 20 = .ok (.invokevirtual 39, 3) := by decide +kernel
theorem dX0_pieceNumbered_23 : decode cX0_pieceNumbered 23 = .ok (.checkcast 43, 3) := by decide +kernel
theorem dX0_pieceNumbered_26 : decode cX0_pieceNumbered 26 = .ok (.goto 4, 3) := by decide +kernel
theorem dX0_pieceNumbered_29 : decode cX0_pieceNumbered 29 = .ok (.aconst_null, 1) := by decide +kernel
theorem dX0_pieceNumbered_30 : decode cX0_pieceNumbered 30 = .ok (.areturn, 1) := by decide +kernel
theorem dX0_addTrip_0 : decode cX0_addTrip 0 = .ok (.aload_n 0, 1) := by decide +kernel
theorem dX0_addTrip_1 : decode cX0_addTrip 1 = .ok (.invokevirtual 45, 3) := by decide +kernel
theorem dX0_addTrip_4 : decode cX0_addTrip 4 = .ok (.aload_n 0, 1) := by decide +kernel
theorem dX0_addTrip_5 : decode cX0_addTrip 5 = .ok (.getfield 18, 3) := by decide +kernel
theorem dX0_addTrip_8 : decode cX0_addTrip 8 = .ok (.getfield 48, 3) := by decide +kernel
theorem dX0_addTrip_11 : decode cX0_addTrip 11 = .ok (.aload_n 1, 1) := by decide +kernel
theorem dX0_addTrip_12 : decode cX0_addTrip 12 = .ok (.invokevirtual 51, 3) := by decide +kernel
theorem dX0_addTrip_15 : decode cX0_addTrip 15 = .ok (.pop, 1) := by decide +kernel
theorem dX0_addTrip_16 : decode cX0_addTrip 16 = .ok (.aload_n 1, 1) := by decide +kernel
theorem dX0_addTrip_17 : decode cX0_addTrip 17 = .ok (.aload_n 0, 1) := by decide +kernel
theorem dX0_addTrip_18 : decode cX0_addTrip 18 = .ok (.putfield 55, 3) := by decide +kernel
theorem dX0_addTrip_21 : decode cX0_addTrip 21 = .ok (.return_, 1) := by decide +kernel
theorem dX0_removeLastTrip_0 : decode cX0_removeLastTrip 0 = .ok (.aload_n 0, 1) := by decide +kernel
theorem dX0_removeLastTrip_1 : decode cX0_removeLastTrip 1 = .ok (.getfield 18, 3) := by decide +kernel
theorem dX0_removeLastTrip_4 : decode cX0_removeLastTrip 4 = .ok (.invokevirtual 61, 3) := by decide +kernel
theorem dX0_removeLastTrip_7 : decode cX0_removeLastTrip 7 = .ok (.astore_n 1, 1) := by decide +kernel
theorem dX0_removeLastTrip_8 : decode cX0_removeLastTrip 8 = .ok (.aload_n 1, 1) := by decide +kernel
theorem dX0_removeLastTrip_9 : decode cX0_removeLastTrip 9 = .ok (.ifnonnull 5, 3) := by decide +kernel
theorem dX0_removeLastTrip_12 : decode cX0_removeLastTrip 12 = .ok (.aconst_null, 1) := by decide +kernel
theorem dX0_removeLastTrip_13 : decode cX0_removeLastTrip 13 = .ok (.areturn, 1) := by decide +kernel
theorem dX0_removeLastTrip_14 : decode cX0_removeLastTrip 14 = .ok (.aload_n 0, 1) := by decide +kernel
theorem dX0_removeLastTrip_15 : decode cX0_removeLastTrip 15 = .ok (.invokevirtual 45, 3) := by decide +kernel
theorem dX0_removeLastTrip_18 : decode cX0_removeLastTrip 18 = .ok (.aload_n 0, 1) := by decide +kernel
theorem dX0_removeLastTrip_19 : decode cX0_removeLastTrip 19 = .ok (.getfield 18, 3) := by decide +kernel
theorem dX0_removeLastTrip_22 : decode cX0_removeLastTrip 22 = .ok (.getfield 48, 3) := by decide +kernel
theorem dX0_removeLastTrip_25 : decode cX0_removeLastTrip 25 = .ok (.aload_n 0, 1) := by decide +kernel
theorem dX0_removeLastTrip_26 : decode cX0_removeLastTrip 26 = .ok (.getfield 18, 3) := by decide +kernel
theorem dX0_removeLastTrip_29 : decode cX0_removeLastTrip 29 = .ok (.invokevirtual 65, 3) := by decide +kernel
theorem dX0_removeLastTrip_32 : decode cX0_removeLastTrip 32 = .ok (.iconst 1, 1) := by decide +kernel
theorem dX0_removeLastTrip_33 : decode cX0_removeLastTrip 33 = .ok (.isub, 1) := by decide +kernel
theorem dX0_removeLastTrip_34 : decode cX0_removeLastTrip 34 = .ok (.invokevirtual 68, 3) := by decide +kernel
theorem dX0_removeLastTrip_37 : decode cX0_removeLastTrip 37 = .ok (.pop, 1) := by decide +kernel
theorem dX0_removeLastTrip_38 : decode cX0_removeLastTrip 38 = .ok (.aload_n 1, 1) := by decide +kernel
theorem dX0_removeLastTrip_39 : decode cX0_removeLastTrip 39 = .ok (.aconst_null, 1) := by decide +kernel
theorem dX0_removeLastTrip_40 : decode cX0_removeLastTrip 40 = .ok (.putfield 55, 3) := by decide +kernel
theorem dX0_removeLastTrip_43 : decode cX0_removeLastTrip 43 = .ok (.aload_n 1, 1) := by decide +kernel
theorem dX0_removeLastTrip_44 : decode cX0_removeLastTrip 44 = .ok (.areturn, 1) := by decide +kernel
theorem dX0_takeOver_0 : decode cX0_takeOver 0 = .ok (.aload_n 0, 1) := by decide +kernel
theorem dX0_takeOver_1 : decode cX0_takeOver 1 = .ok (.invokevirtual 45, 3) := by decide +kernel
theorem dX0_takeOver_4 : decode cX0_takeOver 4 = .ok (.aload_n 0, 1) := by decide +kernel
theorem dX0_takeOver_5 : decode cX0_takeOver 5 = .ok (.getfield 18, 3) := by decide +kernel
theorem dX0_takeOver_8 : decode cX0_takeOver 8 = .ok (.aload_n 1, 1) := by decide +kernel
theorem dX0_takeOver_9 : decode cX0_takeOver 9 = .ok (.invokevirtual 71, 3) := by decide +kernel
theorem dX0_takeOver_12 : decode cX0_takeOver 12 = .ok (.iconst 0, 1) := by decide +kernel
theorem dX0_takeOver_13 : decode cX0_takeOver 13 = .ok (.istore_n 2, 1) := by decide +kernel
theorem dX0_takeOver_14 : decode cX0_takeOver 14 = .ok (.iload_n 2, 1) := by decide +kernel
theorem dX0_takeOver_15 : decode cX0_takeOver 15 = .ok (.aload_n 0, 1) := by decide +kernel
theorem dX0_takeOver_16 : decode cX0_takeOver 16 = .ok (.getfield 18, 3) := by decide +kernel
theorem dX0_takeOver_19 : decode cX0_takeOver 19 = .ok (.invokevirtual 65, 3) := by decide +kernel
theorem dX0_takeOver_22 : decode cX0_takeOver 22 = .ok (.if_icmp .ge 27, 3) := by decide +kernel
theorem dX0_takeOver_25 : decode cX0_takeOver 25 = .ok (.aload_n 0, 1) := by decide +kernel
theorem dX0_takeOver_26 : decode cX0_takeOver 26 = .ok (.getfield 18, 3) := by decide +kernel
theorem dX0_takeOver_29 : decode cX0_takeOver 29 = .ok (.getfield 48, 3) := by decide +kernel
theorem dX0_takeOver_32 : decode cX0_takeOver 32 = .ok (.iload_n 2, 1) := by decide +kernel
theorem dX0_takeOver_33 : decode cX0_takeOver 33 = .ok (.invokevirtual 39, 3) := by decide +kernel
theorem dX0_takeOver_36 : decode cX0_takeOver 36 = .ok (.checkcast 56, 3) := by decide +kernel
theorem dX0_takeOver_39 : decode cX0_takeOver 39 = .ok (.aload_n 0, 1) := by decide +kernel
theorem dX0_takeOver_40 : decode cX0_takeOver 40 = .ok (.putfield 55, 3) := by decide +kernel
theorem dX0_takeOver_43 : decode cX0_takeOver 43 = .ok (.iinc 2 1, 3) := by decide +kernel
theorem dX0_takeOver_46 : decode cX0_takeOver 46 = .ok (.goto (-32), 3) := by decide +kernel
theorem dX0_takeOver_49 : decode cX0_takeOver 49 = .ok (.return_, 1) := by decide +kernel
theorem dX0_forgetPieces_0 : decode cX0_forgetPieces 0 = .ok (.iconst 0, 1) := by decide +kernel
theorem dX0_forgetPieces_1 : decode cX0_forgetPieces 1 = .ok (.istore_n 1, 1) := by decide +kernel
theorem dX0_forgetPieces_2 : decode cX0_forgetPieces 2 = .ok (.iload_n 1, 1) := by decide +kernel
theorem dX0_forgetPieces_3 : decode cX0_forgetPieces 3 = .ok (.aload_n 0, 1) := by decide +kernel
theorem dX0_forgetPieces_4 : decode cX0_forgetPieces 4 = .ok (.getfield 25, 3) := by decide +kernel
theorem dX0_forgetPieces_7 : decode cX0_forgetPieces 7 = .ok (.invokevirtual 35, 3) := by decide +kernel
theorem dX0_forgetPieces_10 : decode cX0_forgetPieces 10 = .ok (.if_icmp .ge 23, 3) := by decide +kernel
theorem dX0_forgetPieces_13 : decode cX0_forgetPieces 13 = .ok (.aload_n 0, 1) := by decide +kernel
theorem dX0_forgetPieces_14 : decode cX0_forgetPieces 14 = .ok (.getfield 25, 3) := by decide +kernel
theorem dX0_forgetPieces_17 : decode cX0_forgetPieces 17 = .ok (.iload_n 1, 1) := by decide +kernel
theorem dX0_forgetPieces_18 : decode cX0_forgetPieces 18 = .ok (.invokevirtual 39, 3) := by decide +kernel
theorem dX0_forgetPieces_21 : decode cX0_forgetPieces 21 = .ok (.checkcast 43, 3) := by decide +kernel
theorem dX0_forgetPieces_24 : decode cX0_forgetPieces 24 = .ok (.invokevirtual 75, 3) := by decide +kernel
theorem dX0_forgetPieces_27 : decode cX0_forgetPieces 27 = .ok (.iinc 1 1, 3) := by decide +kernel
theorem dX0_forgetPieces_30 : decode cX0_forgetPieces 30 = .ok (.goto (-28), 3) := by decide +kernel
theorem dX0_forgetPieces_33 : decode cX0_forgetPieces 33 = .ok (.aload_n 0, 1) := by decide +kernel
theorem dX0_forgetPieces_34 : decode cX0_forgetPieces 34 = .ok (.getfield 25, 3) := by decide +kernel
theorem dX0_forgetPieces_37 : decode cX0_forgetPieces 37 = .ok (.invokevirtual 78, 3) := by decide +kernel
theorem dX0_forgetPieces_40 : decode cX0_forgetPieces 40 = .ok (.iconst 0, 1) := by decide +kernel
theorem dX0_forgetPieces_41 : decode cX0_forgetPieces 41 = .ok (.istore_n 1, 1) := by decide +kernel
theorem dX0_forgetPieces_42 : decode cX0_forgetPieces 42 = .ok (.iload_n 1, 1) := by decide +kernel
theorem dX0_forgetPieces_43 : decode cX0_forgetPieces 43 = .ok (.aload_n 0, 1) := by decide +kernel
theorem dX0_forgetPieces_44 : decode cX0_forgetPieces 44 = .ok (.getfield 18, 3) := by decide +kernel
theorem dX0_forgetPieces_47 : decode cX0_forgetPieces 47 = .ok (.invokevirtual 65, 3) := by decide +kernel
theorem dX0_forgetPieces_50 : decode cX0_forgetPieces 50 = .ok (.if_icmp .ge 27, 3) := by decide +kernel
theorem dX0_forgetPieces_53 : decode cX0_forgetPieces 53 = .ok (.aload_n 0, 1) := by decide +kernel
theorem dX0_forgetPieces_54 : decode cX0_forgetPieces 54 = .ok (.getfield 18, 3) := by decide +kernel
theorem dX0_forgetPieces_57 : decode cX0_forgetPieces 57 = .ok (.getfield 48, 3) := by decide +kernel
theorem dX0_forgetPieces_60 : decode cX0_forgetPieces 60 = .ok (.iload_n 1, 1) := by decide +kernel
theorem dX0_forgetPieces_61 : decode cX0_forgetPieces 61 = .ok (.invokevirtual 39, 3) := by decide +kernel
theorem dX0_forgetPieces_64 : decode cX0_forgetPieces 64 = .ok (.checkcast 56, 3) := by decide +kernel
theorem dX0_forgetPieces_67 : decode cX0_forgetPieces 67 = .ok (.aconst_null, 1) := by decide +kernel
theorem dX0_forgetPieces_68 : decode cX0_forgetPieces 68 = .ok (.putfield 81, 3) := by decide +kernel
theorem dX0_forgetPieces_71 : decode cX0_forgetPieces 71 = .ok (.iinc 1 1, 3) := by decide +kernel
theorem dX0_forgetPieces_74 : decode cX0_forgetPieces 74 = .ok (.goto (-32), 3) := by decide +kernel
theorem dX0_forgetPieces_77 : decode cX0_forgetPieces 77 = .ok (.return_, 1) := by decide +kernel
theorem dX0_cutAt_0 : decode cX0_cutAt 0 = .ok (.aload_n 0, 1) := by decide +kernel
theorem dX0_cutAt_1 : decode cX0_cutAt 1 = .ok (.invokevirtual 45, 3) := by decide +kernel
theorem dX0_cutAt_4 : decode cX0_cutAt 4 = .ok (.iconst 0, 1) := by decide +kernel
theorem dX0_cutAt_5 : decode cX0_cutAt 5 = .ok (.istore_n 3, 1) := by decide +kernel
theorem dX0_cutAt_6 : decode cX0_cutAt 6 = .ok (.iconst 0, 1) := by decide +kernel
theorem dX0_cutAt_7 : decode cX0_cutAt 7 = .ok (.istore 4, 2) := by decide +kernel
theorem dX0_cutAt_9 : decode cX0_cutAt 9 = .ok (.iload 4, 2) := by decide +kernel
theorem dX0_cutAt_11 : decode cX0_cutAt 11 = .ok (.iload_n 2, 1) := by decide +kernel
theorem dX0_cutAt_12 : decode cX0_cutAt 12 = .ok (.if_icmp .ge 32, 3) := by decide +kernel
theorem dX0_cutAt_15 : decode cX0_cutAt 15 = .ok (.iload 4, 2) := by decide +kernel
theorem dX0_cutAt_17 : decode cX0_cutAt 17 = .ok (.aload_n 1, 1) := by decide +kernel
theorem dX0_cutAt_18 : decode cX0_cutAt 18 = .ok (.arraylength, 1) := by decide +kernel
theorem dX0_cutAt_19 : decode cX0_cutAt 19 = .ok (.if_icmp .ge 25, 3) := by decide +kernel
theorem dX0_cutAt_22 : decode cX0_cutAt 22 = .ok (.aload_n 0, 1) := by decide +kernel
theorem dX0_cutAt_23 : decode cX0_cutAt 23 = .ok (.iload_n 3, 1) := by decide +kernel
theorem dX0_cutAt_24 : decode cX0_cutAt 24 = .ok (.aload_n 1, 1) := by decide +kernel
theorem dX0_cutAt_25 : decode cX0_cutAt 25 = .ok (.iload 4, 2) := by decide +kernel
theorem dX0_cutAt_27 : decode cX0_cutAt 27 = .ok (.iaload, 1) := by decide +kernel
theorem dX0_cutAt_28 : decode cX0_cutAt 28 = .ok (.invokevirtual 85, 3) := by decide +kernel
theorem dX0_cutAt_31 : decode cX0_cutAt 31 = .ok (.aload_n 1, 1) := by decide +kernel
theorem dX0_cutAt_32 : decode cX0_cutAt 32 = .ok (.iload 4, 2) := by decide +kernel
theorem dX0_cutAt_34 : decode cX0_cutAt 34 = .ok (.iaload, 1) := by decide +kernel
theorem dX0_cutAt_35 : decode cX0_cutAt 35 = .ok (.iconst 1, 1) := by decide +kernel
theorem dX0_cutAt_36 : decode cX0_cutAt 36 = .ok (.iadd, 1) := by decide +kernel
theorem dX0_cutAt_37 : decode cX0_cutAt 37 = .ok (.istore_n 3, 1) := by decide +kernel
theorem dX0_cutAt_38 : decode cX0_cutAt 38 = .ok (.iinc 4 1, 3) := by decide +kernel
theorem dX0_cutAt_41 : decode cX0_cutAt 41 = .ok (.goto (-32), 3) := by decide +kernel
theorem dX0_cutAt_44 : decode cX0_cutAt 44 = .ok (.return_, 1) := by decide +kernel
theorem dX0_addPiece_0 : decode cX0_addPiece 0 = .ok (.aload_n 0, 1) := by decide +kernel
theorem dX0_addPiece_1 : decode cX0_addPiece 1 = .ok (.getfield 18, 3) := by decide +kernel
theorem dX0_addPiece_4 : decode cX0_addPiece 4 = .ok (.iload_n 1, 1) := by decide +kernel
theorem dX0_addPiece_5 : decode cX0_addPiece 5 = .ok (.invokevirtual 89, 3) := by decide +kernel
theorem dX0_addPiece_8 : decode cX0_addPiece 8 = .ok (.astore_n 3, 1) := by decide +kernel
theorem dX0_addPiece_9 : decode cX0_addPiece 9 = .ok (.aload_n 0, 1) := by decide +kernel
theorem dX0_addPiece_10 : decode cX0_addPiece 10 = .ok (.getfield 18, 3) := by decide +kernel
theorem dX0_addPiece_13 : decode cX0_addPiece 13 = .ok (.iload_n 2, 1) := by decide +kernel
theorem dX0_addPiece_14 : decode cX0_addPiece 14 = .ok (.invokevirtual 89, 3) := by decide +kernel
theorem dX0_addPiece_17 : decode cX0_addPiece 17 = .ok (.astore 4, 2) := by decide +kernel
theorem dX0_addPiece_19 : decode cX0_addPiece 19 = .ok (.aload_n 3, 1) := by decide +kernel
theorem dX0_addPiece_20 : decode cX0_addPiece 20 = .ok (.ifnull 8, 3) := by decide +kernel
theorem dX0_addPiece_23 : decode cX0_addPiece 23 = .ok (.aload 4, 2) := by decide +kernel
theorem dX0_addPiece_25 : decode cX0_addPiece 25 = .ok (.ifnonnull 4, 3) := by decide +kernel
theorem dX0_addPiece_28 : decode cX0_addPiece 28 = .ok (.return_, 1) := by decide +kernel
theorem dX0_addPiece_29 : decode cX0_addPiece 29 = .ok (.new 43, 3) := by decide +kernel
theorem dX0_addPiece_32 : decode cX0_addPiece 32 = .ok (.dup, 1) := by decide +kernel
theorem dX0_addPiece_33 : decode cX0_addPiece 33 = .ok (.aload_n 0, 1) := by decide +kernel
theorem dX0_addPiece_34 : decode cX0_addPiece 34 = .ok (.getfield 25, 3) := by decide +kernel
theorem dX0_addPiece_37 : decode cX0_addPiece 37 = .ok (.invokevirtual 35, 3) := by decide +kernel
theorem dX0_addPiece_40 : decode cX0_addPiece 40 = .ok (.aload_n 0, 1) := by decide +kernel
theorem dX0_addPiece_41 : decode cX0_addPiece 41 = .ok (.getfield 18, 3) := by decide +kernel
theorem dX0_addPiece_44 : decode cX0_addPiece 44 = .ok (.aload_n 3, 1) := by decide +kernel
theorem dX0_addPiece_45 : decode cX0_addPiece 45 = .ok (.aload 4, 2) := by decide +kernel
theorem dX0_addPiece_47 : decode cX0_addPiece 47 = .ok (.iload_n 2, 1) := by decide +kernel
theorem dX0_addPiece_48 : decode cX0_addPiece 48 = .ok (.iload_n 1, 1) := by decide +kernel
theorem dX0_addPiece_49 : decode cX0_addPiece 49 = .ok (.isub, 1) := by decide +kernel
theorem dX0_addPiece_50 : decode cX0_addPiece 50 = .ok (.iconst 1, 1) := by decide +kernel
theorem dX0_addPiece_51 : decode cX0_addPiece 51 = .ok (.iadd, 1) := by decide +kernel
theorem dX0_addPiece_52 : decode cX0_addPiece 52 = .ok (.invokespecial 92, 3) := by decide +kernel
theorem dX0_addPiece_55 : decode cX0_addPiece 55 = .ok (.astore 5, 2) := by decide +kernel
theorem dX0_addPiece_57 : decode cX0_addPiece 57 = .ok (.aload_n 0, 1) := by decide +kernel
theorem dX0_addPiece_58 : decode cX0_addPiece 58 = .ok (.getfield 25, 3) := by decide +kernel
theorem dX0_addPiece_61 : decode cX0_addPiece 61 = .ok (.aload 5, 2) := by decide +kernel
theorem dX0_addPiece_63 : decode cX0_addPiece 63 = .ok (.invokevirtual 51, 3) := by decide +kernel
theorem dX0_addPiece_66 : decode cX0_addPiece 66 = .ok (.pop, 1) := by decide +kernel
theorem dX0_addPiece_67 : decode cX0_addPiece 67 = .ok (.iload_n 1, 1) := by decide +kernel
theorem dX0_addPiece_68 : decode cX0_addPiece 68 = .ok (.istore 6, 2) := by decide +kernel
theorem dX0_addPiece_70 : decode cX0_addPiece 70 = .ok (.iload 6, 2) := by decide +kernel
theorem dX0_addPiece_72 : decode cX0_addPiece 72 = .ok (.iload_n 2, 1) := by decide +kernel
theorem dX0_addPiece_73 : decode cX0_addPiece 73 = .ok (.if_icmp .gt 29, 3) := by decide +kernel
theorem dX0_addPiece_76 : decode cX0_addPiece 76 = .ok (.aload_n 0, 1) := by decide +kernel
theorem dX0_addPiece_77 : decode cX0_addPiece 77 = .ok (.getfield 18, 3) := by decide +kernel
theorem dX0_addPiece_80 : decode cX0_addPiece 80 = .ok (.getfield 48, 3) := by decide +kernel
theorem dX0_addPiece_83 : decode cX0_addPiece 83 = .ok (.iload 6, 2) := by decide +kernel
theorem dX0_addPiece_85 : decode cX0_addPiece 85 = .ok (.invokevirtual 39, 3) := by decide +kernel
theorem dX0_addPiece_88 : decode cX0_addPiece 88 = .ok (.checkcast 56, 3) := by decide +kernel
theorem dX0_addPiece_91 : decode cX0_addPiece 91 = .ok (.aload 5, 2) := by decide +kernel
theorem dX0_addPiece_93 : decode cX0_addPiece 93 = .ok (.putfield 81, 3) := by decide +kernel
theorem dX0_addPiece_96 : decode cX0_addPiece 96 = .ok (.iinc 6 1, 3) := by decide +kernel
theorem dX0_addPiece_99 : decode cX0_addPiece 99 = .ok (.goto (-29), 3) := by decide +kernel
theorem dX0_addPiece_102 : decode cX0_addPiece 102 = .ok (.return_, 1) := by decide +kernel
theorem dX0_lostNow_0 : decode cX0_lostNow 0 = .ok (.aload_n 0, 1) := by decide +kernel
theorem dX0_lostNow_1 : decode cX0_lostNow 1 = .ok (.aload_n 0, 1) := by decide +kernel
theorem dX0_lostNow_2 : decode cX0_lostNow 2 = .ok (.getfield 9, 3) := by decide +kernel
theorem dX0_lostNow_5 : decode cX0_lostNow 5 = .ok (.aconst_null, 1) := by decide +kernel
theorem dX0_lostNow_6 : decode cX0_lostNow 6 = .ok (.iconst 0, 1) := by decide +kernel
theorem dX0_lostNow_7 : decode cX0_lostNow 7 = .ok (.invokevirtual 95, 3) := by decide +kernel
theorem dX0_lostNow_10 : decode cX0_lostNow 10 = .ok (.ireturn, 1) := by decide +kernel
theorem dX0_lostIf_0 : decode cX0_lostIf 0 = .ok (.iconst 0, 1) := by decide +kernel
theorem dX0_lostIf_1 : decode cX0_lostIf 1 = .ok (.istore 4, 2) := by decide +kernel
theorem dX0_lostIf_3 : decode cX0_lostIf 3 = .ok (.aconst_null, 1) := by decide +kernel
theorem dX0_lostIf_4 : decode cX0_lostIf 4 = .ok (.astore 5, 2) := by decide +kernel
theorem dX0_lostIf_6 : decode cX0_lostIf 6 = .ok (.iconst 0, 1) := by decide +kernel
theorem dX0_lostIf_7 : decode cX0_lostIf 7 = .ok (.istore 6, 2) := by decide +kernel
theorem dX0_lostIf_9 : decode cX0_lostIf 9 = .ok (.iload 6, 2) := by decide +kernel
theorem dX0_lostIf_11 : decode cX0_lostIf 11 = .ok (.aload_n 0, 1) := by decide +kernel
theorem dX0_lostIf_12 : decode cX0_lostIf 12 = .ok (.getfield 18, 3) := by decide +kernel
theorem dX0_lostIf_15 : decode cX0_lostIf 15 = .ok (.invokevirtual 65, 3) := by decide +kernel
theorem dX0_lostIf_18 : decode cX0_lostIf 18 = .ok (.if_icmp .ge 130, 3) := by decide +kernel
theorem dX0_lostIf_21 : decode cX0_lostIf 21 = .ok (.aload_n 0, 1) := by decide +kernel
theorem dX0_lostIf_22 : decode cX0_lostIf 22 = .ok (.getfield 18, 3) := by decide +kernel
theorem dX0_lostIf_25 : decode cX0_lostIf 25 = .ok (.getfield 48, 3) := by decide +kernel
theorem dX0_lostIf_28 : decode cX0_lostIf 28 = .ok (.iload 6, 2) := by decide +kernel
theorem dX0_lostIf_30 : decode cX0_lostIf 30 = .ok (.invokevirtual 39, 3) := by decide +kernel
theorem dX0_lostIf_33 : decode cX0_lostIf 33 = .ok (.checkcast 56, 3) := by decide +kernel
theorem dX0_lostIf_36 : decode cX0_lostIf 36 = .ok (.astore 7, 2) := by decide +kernel
theorem dX0_lostIf_38 : decode cX0_lostIf 38 = .ok (.aload 5, 2) := by decide +kernel
theorem dX0_lostIf_40 : decode cX0_lostIf 40 = .ok (.ifnonnull 7, 3) := by decide +kernel
theorem dX0_lostIf_43 : decode cX0_lostIf 43 = .ok (.iconst 0, 1) := by decide +kernel
theorem dX0_lostIf_44 : decode cX0_lostIf 44 = .ok (.goto 16, 3) := by decide +kernel
theorem dX0_lostIf_47 : decode cX0_lostIf 47 = .ok (.aload 5, 2) := by decide +kernel
theorem dX0_lostIf_49 : decode cX0_lostIf 49 = .ok (.getfield 99, 3) := by decide +kernel
theorem dX0_lostIf_52 : decode cX0_lostIf 52 = .ok (.aload 5, 2) := by decide +kernel
theorem dX0_lostIf_54 : decode cX0_lostIf 54 = .ok (.aload 7, 2) := by decide +kernel
theorem dX0_lostIf_56 : decode cX0_lostIf 56 = .ok (.invokevirtual 102, 3) := by decide +kernel
theorem dX0_lostIf_59 : decode cX0_lostIf 59 = .ok (.iadd, 1) := by decide +kernel
theorem dX0_lostIf_60 : decode cX0_lostIf 60 = .ok (.istore 8, 2) := by decide +kernel
theorem dX0_lostIf_62 : decode cX0_lostIf 62 = .ok (.aload 7, 2) := by decide +kernel
theorem dX0_lostIf_64 : decode cX0_lostIf 64 = .ok (.aload 7, 2) := by decide +kernel
theorem dX0_lostIf_66 : decode cX0_lostIf 66 = .ok (.getfield 106, 3) := by decide +kernel
theorem dX0_lostIf_69 : decode cX0_lostIf 69 = .ok (.iload 8, 2) := by decide +kernel
theorem dX0_lostIf_71 : decode cX0_lostIf 71 = .ok (.invokestatic 109, 3) := by decide +kernel
theorem dX0_lostIf_74 : decode cX0_lostIf 74 = .ok (.putfield 115, 3) := by decide +kernel
theorem dX0_lostIf_77 : decode cX0_lostIf 77 = .ok (.aload 7, 2) := by decide +kernel
theorem dX0_lostIf_79 : decode cX0_lostIf 79 = .ok (.aload 7, 2) := by decide +kernel
theorem dX0_lostIf_81 : decode cX0_lostIf 81 = .ok (.iload_n 1, 1) := by decide +kernel
theorem dX0_lostIf_82 : decode cX0_lostIf 82 = .ok (.invokevirtual 118, 3) := by decide +kernel
theorem dX0_lostIf_85 : decode cX0_lostIf 85 = .ok (.putfield 122, 3) := by decide +kernel
theorem dX0_lostIf_88 : decode cX0_lostIf 88 = .ok (.aload 7, 2) := by decide +kernel
theorem dX0_lostIf_90 : decode cX0_lostIf 90 = .ok (.invokevirtual 125, 3) := by decide +kernel
theorem dX0_lostIf_93 : decode cX0_lostIf 93 = .ok (.ifCond .eq 46, 3) := by decide +kernel
theorem dX0_lostIf_96 : decode cX0_lostIf 96 = .ok (.aload 7, 2) := by decide +kernel
theorem dX0_lostIf_98 : decode cX0_lostIf 98 = .ok (.aload_n 2, 1) := by decide +kernel
theorem dX0_lostIf_99 : decode cX0_lostIf 99 = .ok (.if_acmp .ne 7, 3) := by decide +kernel
theorem dX0_lostIf_102 : decode cX0_lostIf 102 = .ok (.iload_n 3, 1) := by decide +kernel
theorem dX0_lostIf_103 : decode cX0_lostIf 103 = .ok (.goto 8, 3) := by decide +kernel
theorem dX0_lostIf_106 : decode cX0_lostIf 106 = .ok (.aload 7, 2) := by decide +kernel
theorem dX0_lostIf_108 : decode cX0_lostIf 108 = .ok (.getfield 129, 3) := by decide +kernel
theorem dX0_lostIf_111 : decode cX0_lostIf 111 = .ok (.istore 9, 2) := by decide +kernel
theorem dX0_lostIf_113 : decode cX0_lostIf 113 = .ok (.aload 7, 2) := by decide +kernel
theorem dX0_lostIf_115 : decode cX0_lostIf 115 = .ok (.aload 7, 2) := by decide +kernel
theorem dX0_lostIf_117 : decode cX0_lostIf 117 = .ok (.getfield 115, 3) := by decide +kernel
theorem dX0_lostIf_120 : decode cX0_lostIf 120 = .ok (.aload 7, 2) := by decide +kernel
theorem dX0_lostIf_122 : decode cX0_lostIf 122 = .ok (.getfield 132, 3) := by decide +kernel
theorem dX0_lostIf_125 : decode cX0_lostIf 125 = .ok (.iadd, 1) := by decide +kernel
theorem dX0_lostIf_126 : decode cX0_lostIf 126 = .ok (.iload 9, 2) := by decide +kernel
theorem dX0_lostIf_128 : decode cX0_lostIf 128 = .ok (.iadd, 1) := by decide +kernel
theorem dX0_lostIf_129 : decode cX0_lostIf 129 = .ok (.putfield 99, 3) := by decide +kernel
theorem dX0_lostIf_132 : decode cX0_lostIf 132 = .ok (.aload 7, 2) := by decide +kernel
theorem dX0_lostIf_134 : decode cX0_lostIf 134 = .ok (.astore 5, 2) := by decide +kernel
theorem dX0_lostIf_136 : decode cX0_lostIf 136 = .ok (.goto 6, 3) := by decide +kernel
theorem dX0_lostIf_139 : decode cX0_lostIf 139 = .ok (.iinc 4 1, 3) := by decide +kernel
theorem dX0_lostIf_142 : decode cX0_lostIf 142 = .ok (.iinc 6 1, 3) := by decide +kernel
theorem dX0_lostIf_145 : decode cX0_lostIf 145 = .ok (.goto (-136), 3) := by decide +kernel
theorem dX0_lostIf_148 : decode cX0_lostIf 148 = .ok (.iload 4, 2) := by decide +kernel
theorem dX0_lostIf_150 : decode cX0_lostIf 150 = .ok (.ireturn, 1) := by decide +kernel
theorem dX1_init_0 : decode cX1_init 0 = .ok (.aload_n 0, 1) := by decide +kernel
theorem dX1_init_1 : decode cX1_init 1 = .ok (.invokespecial 3, 3) := by decide +kernel
theorem dX1_init_4 : decode cX1_init 4 = .ok (.aload_n 0, 1) := by decide +kernel
theorem dX1_init_5 : decode cX1_init 5 = .ok (.new 9, 3) := by decide +kernel
theorem dX1_init_8 : decode cX1_init 8 = .ok (.dup, 1) := by decide +kernel
theorem dX1_init_9 : decode cX1_init 9 = .ok (.invokespecial 11, 3) := by decide +kernel
theorem dX1_init_12 : decode cX1_init 12 = .ok (.putfield 12, 3) := by decide +kernel
theorem dX1_init_15 : decode cX1_init 15 = .ok (.aload_n 0, 1) := by decide +kernel
theorem dX1_init_16 : decode cX1_init 16 = .ok (.iload_n 1, 1) := by decide +kernel
theorem dX1_init_17 : decode cX1_init 17 = .ok (.putfield 18, 3) := by decide +kernel
theorem dX1_init_20 : decode cX1_init 20 = .ok (.return_, 1) := by decide +kernel
theorem dX1_canGet_0 : decode cX1_canGet 0 = .ok (.iconst 0, 1) := by decide +kernel
theorem dX1_canGet_1 : decode cX1_canGet 1 = .ok (.istore_n 2, 1) := by decide +kernel
theorem dX1_canGet_2 : decode cX1_canGet 2 = .ok (.iload_n 2, 1) := by decide +kernel
theorem dX1_canGet_3 : decode cX1_canGet 3 = .ok (.aload_n 0, 1) := by decide +kernel
theorem dX1_canGet_4 : decode cX1_canGet 4 = .ok (.getfield 12, 3) := by decide +kernel
theorem dX1_canGet_7 : decode cX1_canGet 7 = .ok (.invokevirtual 22, 3) := by decide +kernel
theorem dX1_canGet_10 : decode cX1_canGet 10 = .ok (.if_icmp .ge 29, 3) := by decide +kernel
theorem dX1_canGet_13 : decode cX1_canGet 13 = .ok (.aload_n 1, 1) := by decide +kernel
theorem dX1_canGet_14 : decode cX1_canGet 14 = .ok (.aload_n 0, 1) := by decide +kernel
theorem dX1_canGet_15 : decode cX1_canGet 15 = .ok (.getfield 12, 3) := by decide +kernel
theorem dX1_canGet_18 : decode cX1_canGet 18 = .ok (.iload_n 2, 1) := by decide +kernel
theorem dX1_canGet_19 : decode cX1_canGet 19 = .ok (.invokevirtual 26, 3) := by decide +kernel
theorem dX1_canGet_22 : decode cX1_canGet 22 = .ok (.checkcast 30, 3) := by decide +kernel
theorem dX1_canGet_25 : decode cX1_canGet 25 = .ok (.invokevirtual 32, 3) := by decide +kernel
theorem dX1_canGet_28 : decode cX1_canGet 28 = .ok (.ifCond .eq 5, 3) := by decide +kernel
theorem dX1_canGet_31 : decode cX1_canGet 31 = .ok (.iconst 0, 1) := by decide +kernel
theorem dX1_canGet_32 : decode cX1_canGet 32 = .ok (.ireturn, 1) := by decide +kernel
theorem dX1_canGet_33 : decode cX1_canGet 33 = .ok (.iinc 2 1, 3) := by decide +kernel
theorem dX1_canGet_36 : decode cX1_canGet 36 = .ok (.goto (-34), 3) := by decide +kernel
theorem dX1_canGet_39 : decode cX1_canGet 39 = .ok (.aload_n 0, 1) := by decide +kernel
theorem dX1_canGet_40 : decode cX1_canGet 40 = .ok (.invokevirtual 36, 3) := by decide +kernel
theorem dX1_canGet_43 : decode cX1_canGet 43 = .ok (.aload_n 1, 1) := by decide +kernel
theorem dX1_canGet_44 : decode cX1_canGet 44 = .ok (.invokevirtual 39, 3) := by decide +kernel
theorem dX1_canGet_47 : decode cX1_canGet 47 = .ok (.iadd, 1) := by decide +kernel
theorem dX1_canGet_48 : decode cX1_canGet 48 = .ok (.sipush 600, 3) := by decide +kernel
theorem dX1_canGet_51 : decode cX1_canGet 51 = .ok (.if_icmp .gt 7, 3) := by decide +kernel
theorem dX1_canGet_54 : decode cX1_canGet 54 = .ok (.iconst 1, 1) := by decide +kernel
theorem dX1_canGet_55 : decode cX1_canGet 55 = .ok (.goto 4, 3) := by decide +kernel
theorem dX1_canGet_58 : decode cX1_canGet 58 = .ok (.iconst 0, 1) := by decide +kernel
theorem dX1_canGet_59 : decode cX1_canGet 59 = .ok (.ireturn, 1) := by decide +kernel
theorem dX1_drop_0 : decode cX1_drop 0 = .ok (.iconst 0, 1) := by decide +kernel
theorem dX1_drop_1 : decode cX1_drop 1 = .ok (.istore_n 2, 1) := by decide +kernel
theorem dX1_drop_2 : decode cX1_drop 2 = .ok (.iload_n 2, 1) := by decide +kernel
theorem dX1_drop_3 : decode cX1_drop 3 = .ok (.aload_n 0, 1) := by decide +kernel
theorem dX1_drop_4 : decode cX1_drop 4 = .ok (.getfield 12, 3) := by decide +kernel
theorem dX1_drop_7 : decode cX1_drop 7 = .ok (.invokevirtual 22, 3) := by decide +kernel
theorem dX1_drop_10 : decode cX1_drop 10 = .ok (.if_icmp .ge 31, 3) := by decide +kernel
theorem dX1_drop_13 : decode cX1_drop 13 = .ok (.aload_n 0, 1) := by decide +kernel
theorem dX1_drop_14 : decode cX1_drop 14 = .ok (.getfield 12, 3) := by decide +kernel
theorem dX1_drop_17 : decode cX1_drop 17 = .ok (.iload_n 2, 1) := by decide +kernel
theorem dX1_drop_18 : decode cX1_drop 18 = .ok (.invokevirtual 26, 3) := by decide +kernel
theorem dX1_drop_21 : decode cX1_drop 21 = .ok (.aload_n 1, 1) := by decide +kernel
theorem dX1_drop_22 : decode cX1_drop 22 = .ok (.if_acmp .ne 13, 3) := by decide +kernel
theorem dX1_drop_25 : decode cX1_drop 25 = .ok (.aload_n 0, 1) := by decide +kernel
theorem dX1_drop_26 : decode cX1_drop 26 = .ok (.getfield 12, 3) := by decide +kernel
theorem dX1_drop_29 : decode cX1_drop 29 = .ok (.iload_n 2, 1) := by decide +kernel
theorem dX1_drop_30 : decode cX1_drop 30 = .ok (.invokevirtual 40, 3) := by decide +kernel
theorem dX1_drop_33 : decode cX1_drop 33 = .ok (.pop, 1) := by decide +kernel
theorem dX1_drop_34 : decode cX1_drop 34 = .ok (.return_, 1) := by decide +kernel
theorem dX1_drop_35 : decode cX1_drop 35 = .ok (.iinc 2 1, 3) := by decide +kernel
theorem dX1_drop_38 : decode cX1_drop 38 = .ok (.goto (-36), 3) := by decide +kernel
theorem dX1_drop_41 : decode cX1_drop 41 = .ok (.return_, 1) := by decide +kernel
theorem dX1_minutes_0 : decode cX1_minutes 0 = .ok (.iconst 0, 1) := by decide +kernel
theorem dX1_minutes_1 : decode cX1_minutes 1 = .ok (.istore_n 1, 1) := by decide +kernel
theorem dX1_minutes_2 : decode cX1_minutes 2 = .ok (.iconst 0, 1) := by decide +kernel
theorem dX1_minutes_3 : decode cX1_minutes 3 = .ok (.istore_n 2, 1) := by decide +kernel
theorem dX1_minutes_4 : decode cX1_minutes 4 = .ok (.iload_n 2, 1) := by decide +kernel
theorem dX1_minutes_5 : decode cX1_minutes 5 = .ok (.aload_n 0, 1) := by decide +kernel
theorem dX1_minutes_6 : decode cX1_minutes 6 = .ok (.getfield 12, 3) := by decide +kernel
theorem dX1_minutes_9 : decode cX1_minutes 9 = .ok (.invokevirtual 22, 3) := by decide +kernel
theorem dX1_minutes_12 : decode cX1_minutes 12 = .ok (.if_icmp .ge 26, 3) := by decide +kernel
theorem dX1_minutes_15 : decode cX1_minutes 15 = .ok (.iload_n 1, 1) := by decide +kernel
theorem dX1_minutes_16 : decode cX1_minutes 16 = .ok (.aload_n 0, 1) := by decide +kernel
theorem dX1_minutes_17 : decode cX1_minutes 17 = .ok (.getfield 12, 3) := by decide +kernel
theorem dX1_minutes_20 : decode cX1_minutes 20 = .ok (.iload_n 2, 1) := by decide +kernel
theorem dX1_minutes_21 : decode cX1_minutes 21 = .ok (.invokevirtual 26, 3) := by decide +kernel
theorem dX1_minutes_24 : decode cX1_minutes 24 = .ok (.checkcast 30, 3) := by decide +kernel
theorem dX1_minutes_27 : decode cX1_minutes 27 = .ok (.invokevirtual 39, 3) := by decide +kernel
theorem dX1_minutes_30 : decode cX1_minutes 30 = .ok (.iadd, 1) := by decide +kernel
theorem dX1_minutes_31 : decode cX1_minutes 31 = .ok (.istore_n 1, 1) := by decide +kernel
theorem dX1_minutes_32 : decode cX1_minutes 32 = .ok (.iinc 2 1, 3) := by decide +kernel
theorem dX1_minutes_35 : decode cX1_minutes 35 = .ok (.goto (-31), 3) := by decide +kernel
theorem dX1_minutes_38 : decode cX1_minutes 38 = .ok (.iload_n 1, 1) := by decide +kernel
theorem dX1_minutes_39 : decode cX1_minutes 39 = .ok (.ireturn, 1) := by decide +kernel
theorem dX1_worked_0 : decode cX1_worked 0 = .ok (.iconst 0, 1) := by decide +kernel
theorem dX1_worked_1 : decode cX1_worked 1 = .ok (.istore_n 1, 1) := by decide +kernel
theorem dX1_worked_2 : decode cX1_worked 2 = .ok (.iconst 0, 1) := by decide +kernel
theorem dX1_worked_3 : decode cX1_worked 3 = .ok (.istore_n 2, 1) := by decide +kernel
theorem dX1_worked_4 : decode cX1_worked 4 = .ok (.iload_n 2, 1) := by decide +kernel
theorem dX1_worked_5 : decode cX1_worked 5 = .ok (.aload_n 0, 1) := by decide +kernel
theorem dX1_worked_6 : decode cX1_worked 6 = .ok (.getfield 12, 3) := by decide +kernel
theorem dX1_worked_9 : decode cX1_worked 9 = .ok (.invokevirtual 22, 3) := by decide +kernel
theorem dX1_worked_12 : decode cX1_worked 12 = .ok (.if_icmp .ge 26, 3) := by decide +kernel
theorem dX1_worked_15 : decode cX1_worked 15 = .ok (.iload_n 1, 1) := by decide +kernel
theorem dX1_worked_16 : decode cX1_worked 16 = .ok (.aload_n 0, 1) := by decide +kernel
theorem dX1_worked_17 : decode cX1_worked 17 = .ok (.getfield 12, 3) := by decide +kernel
theorem dX1_worked_20 : decode cX1_worked 20 = .ok (.iload_n 2, 1) := by decide +kernel
theorem dX1_worked_21 : decode cX1_worked 21 = .ok (.invokevirtual 26, 3) := by decide +kernel
theorem dX1_worked_24 : decode cX1_worked 24 = .ok (.checkcast 30, 3) := by decide +kernel
theorem dX1_worked_27 : decode cX1_worked 27 = .ok (.invokevirtual 43, 3) := by decide +kernel
theorem dX1_worked_30 : decode cX1_worked 30 = .ok (.iadd, 1) := by decide +kernel
theorem dX1_worked_31 : decode cX1_worked 31 = .ok (.istore_n 1, 1) := by decide +kernel
theorem dX1_worked_32 : decode cX1_worked 32 = .ok (.iinc 2 1, 3) := by decide +kernel
theorem dX1_worked_35 : decode cX1_worked 35 = .ok (.goto (-31), 3) := by decide +kernel
theorem dX1_worked_38 : decode cX1_worked 38 = .ok (.iload_n 1, 1) := by decide +kernel
theorem dX1_worked_39 : decode cX1_worked 39 = .ok (.ireturn, 1) := by decide +kernel
theorem dX1_pay_0 : decode cX1_pay 0 = .ok (.aload_n 0, 1) := by decide +kernel
theorem dX1_pay_1 : decode cX1_pay 1 = .ok (.invokevirtual 46, 3) := by decide +kernel
theorem dX1_pay_4 : decode cX1_pay 4 = .ok (.istore_n 1, 1) := by decide +kernel
theorem dX1_pay_5 : decode cX1_pay 5 = .ok (.iconst 0, 1) := by decide +kernel
theorem dX1_pay_6 : decode cX1_pay 6 = .ok (.iload_n 1, 1) := by decide +kernel
theorem dX1_pay_7 : decode cX1_pay 7 = .ok (.sipush 480, 3) := by decide +kernel
theorem dX1_pay_10 : decode cX1_pay 10 = .ok (.isub, 1) := by decide +kernel
theorem dX1_pay_11 : decode cX1_pay 11 = .ok (.invokestatic 47, 3) := by decide +kernel
theorem dX1_pay_14 : decode cX1_pay 14 = .ok (.istore_n 2, 1) := by decide +kernel
theorem dX1_pay_15 : decode cX1_pay 15 = .ok (.iload_n 1, 1) := by decide +kernel
theorem dX1_pay_16 : decode cX1_pay 16 = .ok (.iconst 4, 1) := by decide +kernel
theorem dX1_pay_17 : decode cX1_pay 17 = .ok (.idiv, 1) := by decide +kernel
theorem dX1_pay_18 : decode cX1_pay 18 = .ok (.iload_n 2, 1) := by decide +kernel
theorem dX1_pay_19 : decode cX1_pay 19 = .ok (.iconst 4, 1) := by decide +kernel
theorem dX1_pay_20 : decode cX1_pay 20 = .ok (.idiv, 1) := by decide +kernel
theorem dX1_pay_21 : decode cX1_pay 21 = .ok (.iadd, 1) := by decide +kernel
theorem dX1_pay_22 : decode cX1_pay 22 = .ok (.ireturn, 1) := by decide +kernel
theorem dX2_init_0 : decode cX2_init 0 = .ok (.aload_n 0, 1) := by decide +kernel
theorem dX2_init_1 : decode cX2_init 1 = .ok (.invokespecial 3, 3) := by decide +kernel
theorem dX2_init_4 : decode cX2_init 4 = .ok (.aload_n 0, 1) := by decide +kernel
theorem dX2_init_5 : decode cX2_init 5 = .ok (.bipush 16, 2) := by decide +kernel
theorem dX2_init_7 : decode cX2_init 7 = .ok (.newarray .int, 2) := by decide +kernel
theorem dX2_init_9 : decode cX2_init 9 = .ok (.putfield 9, 3) := by decide +kernel
theorem dX2_init_12 : decode cX2_init 12 = .ok (.aload_n 0, 1) := by decide +kernel
theorem dX2_init_13 : decode cX2_init 13 = .ok (.bipush 16, 2) := by decide +kernel
theorem dX2_init_15 : decode cX2_init 15 = .ok (.newarray .boolean, 2) := by decide +kernel
theorem dX2_init_17 : decode cX2_init 17 = .ok (.putfield 15, 3) := by decide +kernel
theorem dX2_init_20 : decode cX2_init 20 = .ok (.return_, 1) := by decide +kernel
theorem dX2_mostPairs_0 : decode cX2_mostPairs 0 = .ok (.iconst 0, 1) := by decide +kernel
theorem dX2_mostPairs_1 : decode cX2_mostPairs 1 = .ok (.istore_n 2, 1) := by decide +kernel
theorem dX2_mostPairs_2 : decode cX2_mostPairs 2 = .ok (.iload_n 2, 1) := by decide +kernel
theorem dX2_mostPairs_3 : decode cX2_mostPairs 3 = .ok (.aload_n 0, 1) := by decide +kernel
theorem dX2_mostPairs_4 : decode cX2_mostPairs 4 = .ok (.getfield 9, 3) := by decide +kernel
theorem dX2_mostPairs_7 : decode cX2_mostPairs 7 = .ok (.arraylength, 1) := by decide +kernel
theorem dX2_mostPairs_8 : decode cX2_mostPairs 8 = .ok (.if_icmp .ge 16, 3) := by decide +kernel
theorem dX2_mostPairs_11 : decode cX2_mostPairs 11 = .ok (.aload_n 0, 1) := by decide +kernel
theorem dX2_mostPairs_12 : decode cX2_mostPairs 12 = .ok (.getfield 9, 3) := by decide +kernel
theorem dX2_mostPairs_15 : decode cX2_mostPairs 15 = .ok (.iload_n 2, 1) := by decide +kernel
theorem dX2_mostPairs_16 : decode cX2_mostPairs 16 = .ok (.iconst (-1), 1) := by decide +kernel
theorem dX2_mostPairs_17 : decode cX2_mostPairs 17 = .ok (.iastore, 1) := by decide +kernel
theorem dX2_mostPairs_18 : decode cX2_mostPairs 18 = .ok (.iinc 2 1, 3) := by decide +kernel
theorem dX2_mostPairs_21 : decode cX2_mostPairs 21 = .ok (.goto (-19), 3) := by decide +kernel
theorem dX2_mostPairs_24 : decode cX2_mostPairs 24 = .ok (.iconst 0, 1) := by decide +kernel
theorem dX2_mostPairs_25 : decode cX2_mostPairs 25 = .ok (.istore_n 2, 1) := by decide +kernel
theorem dX2_mostPairs_26 : decode cX2_mostPairs 26 = .ok (.iconst 0, 1) := by decide +kernel
theorem dX2_mostPairs_27 : decode cX2_mostPairs 27 = .ok (.istore_n 3, 1) := by decide +kernel
theorem dX2_mostPairs_28 : decode cX2_mostPairs 28 = .ok (.iload_n 3, 1) := by decide +kernel
theorem dX2_mostPairs_29 : decode cX2_mostPairs 29 = .ok (.aload_n 1, 1) := by decide +kernel
theorem dX2_mostPairs_30 : decode cX2_mostPairs 30 = .ok (.invokevirtual 19, 3) := by decide +kernel
theorem dX2_mostPairs_33 : decode cX2_mostPairs 33 = .ok (.if_icmp .ge 56, 3) := by decide +kernel
theorem dX2_mostPairs_36 : decode cX2_mostPairs 36 = .ok (.iconst 0, 1) := by decide +kernel
theorem dX2_mostPairs_37 : decode cX2_mostPairs 37 = .ok (.istore 4, 2) := by decide +kernel
theorem dX2_mostPairs_39 : decode cX2_mostPairs 39 = .ok (.iload 4, 2) := by decide +kernel
theorem dX2_mostPairs_41 : decode cX2_mostPairs 41 = .ok (.aload_n 0, 1) := by decide +kernel
theorem dX2_mostPairs_42 : decode cX2_mostPairs 42 = .ok (.getfield 15, 3) := by decide +kernel
theorem dX2_mostPairs_45 : decode cX2_mostPairs 45 = .ok (.arraylength, 1) := by decide +kernel
theorem dX2_mostPairs_46 : decode cX2_mostPairs 46 = .ok (.if_icmp .ge 17, 3) := by decide +kernel
theorem dX2_mostPairs_49 : decode cX2_mostPairs 49 = .ok (.aload_n 0, 1) := by decide +kernel
theorem dX2_mostPairs_50 : decode cX2_mostPairs 50 = .ok (.getfield 15, 3) := by decide +kernel
theorem dX2_mostPairs_53 : decode cX2_mostPairs 53 = .ok (.iload 4, 2) := by decide +kernel
theorem dX2_mostPairs_55 : decode cX2_mostPairs 55 = .ok (.iconst 0, 1) := by decide +kernel
theorem dX2_mostPairs_56 : decode cX2_mostPairs 56 = .ok (.bastore, 1) := by decide +kernel
theorem dX2_mostPairs_57 : decode cX2_mostPairs 57 = .ok (.iinc 4 1, 3) := by decide +kernel
theorem dX2_mostPairs_60 : decode cX2_mostPairs 60 = .ok (.goto (-21), 3) := by decide +kernel
theorem dX2_mostPairs_63 : decode cX2_mostPairs 63 = .ok (.aload_n 1, 1) := by decide +kernel
theorem dX2_mostPairs_64 : decode cX2_mostPairs 64 = .ok (.iload_n 3, 1) := by decide +kernel
theorem dX2_mostPairs_65 : decode cX2_mostPairs 65 = .ok (.aload_n 0, 1) := by decide +kernel
theorem dX2_mostPairs_66 : decode cX2_mostPairs 66 = .ok (.getfield 9, 3) := by decide +kernel
theorem dX2_mostPairs_69 : decode cX2_mostPairs 69 = .ok (.aload_n 0, 1) := by decide +kernel
theorem dX2_mostPairs_70 : decode cX2_mostPairs 70 = .ok (.getfield 15, 3) := by decide +kernel
theorem dX2_mostPairs_73 : decode cX2_mostPairs 73 = .ok (.iconst 0, 1) := by decide +kernel
theorem dX2_mostPairs_74 : decode cX2_mostPairs 74 = .ok (.invokestatic 25, 3) := by decide +kernel
theorem dX2_mostPairs_77 : decode cX2_mostPairs 77 = .ok (.ifCond .eq 6, 3) := by decide +kernel
theorem dX2_mostPairs_80 : decode cX2_mostPairs 80 = .ok (.iinc 2 1, 3) := by decide +kernel
theorem dX2_mostPairs_83 : decode cX2_mostPairs 83 = .ok (.iinc 3 1, 3) := by decide +kernel
theorem dX2_mostPairs_86 : decode cX2_mostPairs 86 = .ok (.goto (-58), 3) := by decide +kernel
theorem dX2_mostPairs_89 : decode cX2_mostPairs 89 = .ok (.iload_n 2, 1) := by decide +kernel
theorem dX2_mostPairs_90 : decode cX2_mostPairs 90 = .ok (.ireturn, 1) := by decide +kernel
theorem dX2_findsFollower_0 : decode cX2_findsFollower 0 = .ok (.iload 4, 2) := by decide +kernel
theorem dX2_findsFollower_2 : decode cX2_findsFollower 2 = .ok (.bipush 16, 2) := by decide +kernel
theorem dX2_findsFollower_4 : decode cX2_findsFollower 4 = .ok (.if_icmp .gt 15, 3) := by decide +kernel
theorem dX2_findsFollower_7 : decode cX2_findsFollower 7 = .ok (.iload_n 1, 1) := by decide +kernel
theorem dX2_findsFollower_8 : decode cX2_findsFollower 8 = .ok (.ifCond .lt 11, 3) := by decide +kernel
theorem dX2_findsFollower_11 : decode cX2_findsFollower 11 = .ok (.iload_n 1, 1) := by decide +kernel
theorem dX2_findsFollower_12 : decode cX2_findsFollower 12 = .ok (.aload_n 0, 1) := by decide +kernel
theorem dX2_findsFollower_13 : decode cX2_findsFollower 13 = .ok (.invokevirtual 19, 3) := by decide +kernel
theorem dX2_findsFollower_16 : decode cX2_findsFollower 16 = .ok (.if_icmp .lt 5, 3) := by decide +kernel
theorem dX2_findsFollower_19 : decode cX2_findsFollower 19 = .ok (.iconst 0, 1) := by decide +kernel
theorem dX2_findsFollower_20 : decode cX2_findsFollower 20 = .ok (.ireturn, 1) := by decide +kernel
theorem dX2_findsFollower_21 : decode cX2_findsFollower 21 = .ok (.aload_n 0, 1) := by decide +kernel
theorem dX2_findsFollower_22 : decode cX2_findsFollower 22 = .ok (.iload_n 1, 1) := by decide +kernel
theorem dX2_findsFollower_23 : decode cX2_findsFollower 23 = .ok (.invokevirtual 29, 3) := by decide +kernel
theorem dX2_findsFollower_26 : decode cX2_findsFollower 26 = .ok (.checkcast 33, 3) := by decide +kernel
theorem dX2_findsFollower_29 : decode cX2_findsFollower 29 = .ok (.astore 5, 2) := by decide +kernel
theorem dX2_findsFollower_31 : decode cX2_findsFollower 31 = .ok (.aload_n 0, 1) := by decide +kernel
theorem dX2_findsFollower_32 : decode cX2_findsFollower 32 = .ok (.invokevirtual 19, 3) := by decide +kernel
theorem dX2_findsFollower_35 : decode cX2_findsFollower 35 = .ok (.aload_n 2, 1) := by decide +kernel
theorem dX2_findsFollower_36 : decode cX2_findsFollower 36 = .ok (.arraylength, 1) := by decide +kernel
theorem dX2_findsFollower_37 : decode cX2_findsFollower 37 = .ok (.aload_n 3, 1) := by decide +kernel
theorem dX2_findsFollower_38 : decode cX2_findsFollower 38 = .ok (.arraylength, 1) := by decide +kernel
theorem dX2_findsFollower_39 : decode cX2_findsFollower 39 = .ok (.invokestatic 35, 3) := by decide +kernel
theorem dX2_findsFollower_42 : decode cX2_findsFollower 42 = .ok (.invokestatic 35, 3) := by decide +kernel
theorem dX2_findsFollower_45 : decode cX2_findsFollower 45 = .ok (.istore 6, 2) := by decide +kernel
theorem dX2_findsFollower_47 : decode cX2_findsFollower 47 = .ok (.iconst 0, 1) := by decide +kernel
theorem dX2_findsFollower_48 : decode cX2_findsFollower 48 = .ok (.istore 7, 2) := by decide +kernel
theorem dX2_findsFollower_50 : decode cX2_findsFollower 50 = .ok (.iload 7, 2) := by decide +kernel
theorem dX2_findsFollower_52 : decode cX2_findsFollower 52 = .ok (.iload 6, 2) := by decide +kernel
theorem dX2_findsFollower_54 : decode cX2_findsFollower 54 = .ok (.if_icmp .ge 73, 3) := by decide +kernel
theorem dX2_findsFollower_57 : decode cX2_findsFollower 57 = .ok (.aload_n 3, 1) := by decide +kernel
theorem dX2_findsFollower_58 : decode cX2_findsFollower 58 = .ok (.iload 7, 2) := by decide +kernel
theorem dX2_findsFollower_60 : decode cX2_findsFollower 60 = .ok (.baload, 1) := by decide +kernel
theorem dX2_findsFollower_61 : decode cX2_findsFollower 61 = .ok (.ifCond .ne 60, 3) := by decide +kernel
theorem dX2_findsFollower_64 : decode cX2_findsFollower 64 = .ok (.aload_n 0, 1) := by decide +kernel
theorem dX2_findsFollower_65 : decode cX2_findsFollower 65 = .ok (.iload 7, 2) := by decide +kernel
theorem dX2_findsFollower_67 : decode cX2_findsFollower 67 = .ok (.invokevirtual 29, 3) := by decide +kernel
theorem dX2_findsFollower_70 : decode cX2_findsFollower 70 = .ok (.checkcast 33, 3) := by decide +kernel
theorem dX2_findsFollower_73 : decode cX2_findsFollower 73 = .ok (.aload 5, 2) := by decide +kernel
theorem dX2_findsFollower_75 : decode cX2_findsFollower 75 = .ok (.invokevirtual 41, 3) := by decide +kernel
theorem dX2_findsFollower_78 : decode cX2_findsFollower 78 = .ok (.ifCond .ne 6, 3) := by decide +kernel
theorem dX2_findsFollower_81 : decode cX2_findsFollower 81 = .ok (.goto 40, 3) := by decide +kernel
theorem dX2_findsFollower_84 : decode cX2_findsFollower 84 = .ok (.aload_n 3, 1) := by decide +kernel
theorem dX2_findsFollower_85 : decode cX2_findsFollower 85 = .ok (.iload 7, 2) := by decide +kernel
theorem dX2_findsFollower_87 : decode cX2_findsFollower 87 = .ok (.iconst 1, 1) := by decide +kernel
theorem dX2_findsFollower_88 : decode cX2_findsFollower 88 = .ok (.bastore, 1) := by decide +kernel
theorem dX2_findsFollower_89 : decode cX2_findsFollower 89 = .ok (.aload_n 2, 1) := by decide +kernel
theorem dX2_findsFollower_90 : decode cX2_findsFollower 90 = .ok (.iload 7, 2) := by decide +kernel
theorem dX2_findsFollower_92 : decode cX2_findsFollower 92 = .ok (.iaload, 1) := by decide +kernel
theorem dX2_findsFollower_93 : decode cX2_findsFollower 93 = .ok (.iconst (-1), 1) := by decide +kernel
theorem dX2_findsFollower_94 : decode cX2_findsFollower 94 = .ok (.if_icmp .eq 20, 3) := by decide +kernel
theorem dX2_findsFollower_97 : decode cX2_findsFollower 97 = .ok (.aload_n 0, 1) := by decide +kernel
theorem dX2_findsFollower_98 : decode cX2_findsFollower 98 = .ok (.aload_n 2, 1) := by decide +kernel
theorem dX2_findsFollower_99 : decode cX2_findsFollower 99 = .ok (.iload 7, 2) := by decide +kernel
theorem dX2_findsFollower_101 : decode cX2_findsFollower 101 = .ok (.iaload, 1) := by decide +kernel
theorem dX2_findsFollower_102 : decode cX2_findsFollower 102 = .ok (.aload_n 2, 1) := by decide +kernel
theorem dX2_findsFollower_103 : decode cX2_findsFollower 103 = .ok (.aload_n 3, 1) := by decide +kernel
theorem dX2_findsFollower_104 : decode cX2_findsFollower 104 = .ok (.iload 4, 2) := by decide +kernel
theorem dX2_findsFollower_106 : decode cX2_findsFollower 106 = .ok (.iconst 1, 1) := by decide +kernel
theorem dX2_findsFollower_107 : decode cX2_findsFollower 107 = .ok (.iadd, 1) := by decide +kernel
theorem dX2_findsFollower_108 : decode cX2_findsFollower 108 = .ok (.invokestatic 25, 3) := by decide +kernel
theorem dX2_findsFollower_111 : decode cX2_findsFollower 111 = .ok (.ifCond .eq 10, 3) := by decide +kernel
theorem dX2_findsFollower_114 : decode cX2_findsFollower 114 = .ok (.aload_n 2, 1) := by decide +kernel
theorem dX2_findsFollower_115 : decode cX2_findsFollower 115 = .ok (.iload 7, 2) := by decide +kernel
theorem dX2_findsFollower_117 : decode cX2_findsFollower 117 = .ok (.iload_n 1, 1) := by decide +kernel
theorem dX2_findsFollower_118 : decode cX2_findsFollower 118 = .ok (.iastore, 1) := by decide +kernel
theorem dX2_findsFollower_119 : decode cX2_findsFollower 119 = .ok (.iconst 1, 1) := by decide +kernel
theorem dX2_findsFollower_120 : decode cX2_findsFollower 120 = .ok (.ireturn, 1) := by decide +kernel
theorem dX2_findsFollower_121 : decode cX2_findsFollower 121 = .ok (.iinc 7 1, 3) := by decide +kernel
theorem dX2_findsFollower_124 : decode cX2_findsFollower 124 = .ok (.goto (-74), 3) := by decide +kernel
theorem dX2_findsFollower_127 : decode cX2_findsFollower 127 = .ok (.iconst 0, 1) := by decide +kernel
theorem dX2_findsFollower_128 : decode cX2_findsFollower 128 = .ok (.ireturn, 1) := by decide +kernel
theorem dX3_init_0 : decode cX3_init 0 = .ok (.aload_n 0, 1) := by decide +kernel
theorem dX3_init_1 : decode cX3_init 1 = .ok (.invokespecial 3, 3) := by decide +kernel
theorem dX3_init_4 : decode cX3_init 4 = .ok (.aload_n 0, 1) := by decide +kernel
theorem dX3_init_5 : decode cX3_init 5 = .ok (.bipush 10, 2) := by decide +kernel
theorem dX3_init_7 : decode cX3_init 7 = .ok (.putfield 9, 3) := by decide +kernel
theorem dX3_init_10 : decode cX3_init 10 = .ok (.aload_n 0, 1) := by decide +kernel
theorem dX3_init_11 : decode cX3_init 11 = .ok (.iload_n 1, 1) := by decide +kernel
theorem dX3_init_12 : decode cX3_init 12 = .ok (.putfield 15, 3) := by decide +kernel
theorem dX3_init_15 : decode cX3_init 15 = .ok (.return_, 1) := by decide +kernel
theorem dX4_init_0 : decode cX4_init 0 = .ok (.aload_n 0, 1) := by decide +kernel
theorem dX4_init_1 : decode cX4_init 1 = .ok (.invokespecial 3, 3) := by decide +kernel
theorem dX4_init_4 : decode cX4_init 4 = .ok (.aload_n 0, 1) := by decide +kernel
theorem dX4_init_5 : decode cX4_init 5 = .ok (.iload_n 1, 1) := by decide +kernel
theorem dX4_init_6 : decode cX4_init 6 = .ok (.putfield 9, 3) := by decide +kernel
theorem dX4_init_9 : decode cX4_init 9 = .ok (.aload_n 0, 1) := by decide +kernel
theorem dX4_init_10 : decode cX4_init 10 = .ok (.aload_n 2, 1) := by decide +kernel
theorem dX4_init_11 : decode cX4_init 11 = .ok (.putfield 15, 3) := by decide +kernel
theorem dX4_init_14 : decode cX4_init 14 = .ok (.aload_n 0, 1) := by decide +kernel
theorem dX4_init_15 : decode cX4_init 15 = .ok (.aload_n 3, 1) := by decide +kernel
theorem dX4_init_16 : decode cX4_init 16 = .ok (.putfield 19, 3) := by decide +kernel
theorem dX4_init_19 : decode cX4_init 19 = .ok (.aload_n 0, 1) := by decide +kernel
theorem dX4_init_20 : decode cX4_init 20 = .ok (.aload 4, 2) := by decide +kernel
theorem dX4_init_22 : decode cX4_init 22 = .ok (.putfield 23, 3) := by decide +kernel
theorem dX4_init_25 : decode cX4_init 25 = .ok (.aload_n 0, 1) := by decide +kernel
theorem dX4_init_26 : decode cX4_init 26 = .ok (.iload 5, 2) := by decide +kernel
theorem dX4_init_28 : decode cX4_init 28 = .ok (.putfield 26, 3) := by decide +kernel
theorem dX4_init_31 : decode cX4_init 31 = .ok (.return_, 1) := by decide +kernel
theorem dX4_minutes_0 : decode cX4_minutes 0 = .ok (.aload_n 0, 1) := by decide +kernel
theorem dX4_minutes_1 : decode cX4_minutes 1 = .ok (.getfield 23, 3) := by decide +kernel
theorem dX4_minutes_4 : decode cX4_minutes 4 = .ok (.invokevirtual 29, 3) := by decide +kernel
theorem dX4_minutes_7 : decode cX4_minutes 7 = .ok (.aload_n 0, 1) := by decide +kernel
theorem dX4_minutes_8 : decode cX4_minutes 8 = .ok (.getfield 19, 3) := by decide +kernel
theorem dX4_minutes_11 : decode cX4_minutes 11 = .ok (.getfield 35, 3) := by decide +kernel
theorem dX4_minutes_14 : decode cX4_minutes 14 = .ok (.isub, 1) := by decide +kernel
theorem dX4_minutes_15 : decode cX4_minutes 15 = .ok (.ireturn, 1) := by decide +kernel
theorem dX4_isNear_0 : decode cX4_isNear 0 = .ok (.aload_n 1, 1) := by decide +kernel
theorem dX4_isNear_1 : decode cX4_isNear 1 = .ok (.getfield 19, 3) := by decide +kernel
theorem dX4_isNear_4 : decode cX4_isNear 4 = .ok (.getfield 35, 3) := by decide +kernel
theorem dX4_isNear_7 : decode cX4_isNear 7 = .ok (.aload_n 0, 1) := by decide +kernel
theorem dX4_isNear_8 : decode cX4_isNear 8 = .ok (.getfield 23, 3) := by decide +kernel
theorem dX4_isNear_11 : decode cX4_isNear 11 = .ok (.invokevirtual 29, 3) := by decide +kernel
theorem dX4_isNear_14 : decode cX4_isNear 14 = .ok (.bipush 10, 2) := by decide +kernel
theorem dX4_isNear_16 : decode cX4_isNear 16 = .ok (.iadd, 1) := by decide +kernel
theorem dX4_isNear_17 : decode cX4_isNear 17 = .ok (.if_icmp .gt 27, 3) := by decide +kernel
theorem dX4_isNear_20 : decode cX4_isNear 20 = .ok (.aload_n 1, 1) := by decide +kernel
theorem dX4_isNear_21 : decode cX4_isNear 21 = .ok (.getfield 23, 3) := by decide +kernel
theorem dX4_isNear_24 : decode cX4_isNear 24 = .ok (.invokevirtual 29, 3) := by decide +kernel
theorem dX4_isNear_27 : decode cX4_isNear 27 = .ok (.aload_n 0, 1) := by decide +kernel
theorem dX4_isNear_28 : decode cX4_isNear 28 = .ok (.getfield 19, 3) := by decide +kernel
theorem dX4_isNear_31 : decode cX4_isNear 31 = .ok (.getfield 35, 3) := by decide +kernel
theorem dX4_isNear_34 : decode cX4_isNear 34 = .ok (.bipush 10, 2) := by decide +kernel
theorem dX4_isNear_36 : decode cX4_isNear 36 = .ok (.isub, 1) := by decide +kernel
theorem dX4_isNear_37 : decode cX4_isNear 37 = .ok (.if_icmp .lt 7, 3) := by decide +kernel
theorem dX4_isNear_40 : decode cX4_isNear 40 = .ok (.iconst 1, 1) := by decide +kernel
theorem dX4_isNear_41 : decode cX4_isNear 41 = .ok (.goto 4, 3) := by decide +kernel
theorem dX4_isNear_44 : decode cX4_isNear 44 = .ok (.iconst 0, 1) := by decide +kernel
theorem dX4_isNear_45 : decode cX4_isNear 45 = .ok (.ireturn, 1) := by decide +kernel
theorem dX4_driverNumber_0 : decode cX4_driverNumber 0 = .ok (.aload_n 0, 1) := by decide +kernel
theorem dX4_driverNumber_1 : decode cX4_driverNumber 1 = .ok (.getfield 38, 3) := by decide +kernel
theorem dX4_driverNumber_4 : decode cX4_driverNumber 4 = .ok (.ifnonnull 7, 3) := by decide +kernel
theorem dX4_driverNumber_7 : decode cX4_driverNumber 7 = .ok (.iconst (-1), 1) := by decide +kernel
theorem dX4_driverNumber_8 : decode cX4_driverNumber 8 = .ok (.goto 10, 3) := by decide +kernel
theorem dX4_driverNumber_11 : decode cX4_driverNumber 11 = .ok (.aload_n 0, 1) := by decide +kernel
theorem dX4_driverNumber_12 : decode cX4_driverNumber 12 = .ok (.getfield 38, 3) := by decide +kernel
theorem dX4_driverNumber_15 : decode cX4_driverNumber 15 = .ok (.getfield 42, 3) := by decide +kernel
theorem dX4_driverNumber_18 : decode cX4_driverNumber 18 = .ok (.ireturn, 1) := by decide +kernel
theorem dX4_release_0 : decode cX4_release 0 = .ok (.aload_n 0, 1) := by decide +kernel
theorem dX4_release_1 : decode cX4_release 1 = .ok (.getfield 38, 3) := by decide +kernel
theorem dX4_release_4 : decode cX4_release 4 = .ok (.ifnull 16, 3) := by decide +kernel
theorem dX4_release_7 : decode cX4_release 7 = .ok (.aload_n 0, 1) := by decide +kernel
theorem dX4_release_8 : decode cX4_release 8 = .ok (.getfield 38, 3) := by decide +kernel
theorem dX4_release_11 : decode cX4_release 11 = .ok (.aload_n 0, 1) := by decide +kernel
theorem dX4_release_12 : decode cX4_release 12 = .ok (.invokevirtual 45, 3) := by decide +kernel
theorem dX4_release_15 : decode cX4_release 15 = .ok (.aload_n 0, 1) := by decide +kernel
theorem dX4_release_16 : decode cX4_release 16 = .ok (.aconst_null, 1) := by decide +kernel
theorem dX4_release_17 : decode cX4_release 17 = .ok (.putfield 38, 3) := by decide +kernel
theorem dX4_release_20 : decode cX4_release 20 = .ok (.return_, 1) := by decide +kernel
theorem dX4_worked_0 : decode cX4_worked 0 = .ok (.aload_n 0, 1) := by decide +kernel
theorem dX4_worked_1 : decode cX4_worked 1 = .ok (.getfield 38, 3) := by decide +kernel
theorem dX4_worked_4 : decode cX4_worked 4 = .ok (.ifnull 13, 3) := by decide +kernel
theorem dX4_worked_7 : decode cX4_worked 7 = .ok (.aload_n 0, 1) := by decide +kernel
theorem dX4_worked_8 : decode cX4_worked 8 = .ok (.getfield 38, 3) := by decide +kernel
theorem dX4_worked_11 : decode cX4_worked 11 = .ok (.getfield 49, 3) := by decide +kernel
theorem dX4_worked_14 : decode cX4_worked 14 = .ok (.ifCond .eq 5, 3) := by decide +kernel
theorem dX4_worked_17 : decode cX4_worked 17 = .ok (.iconst 0, 1) := by decide +kernel
theorem dX4_worked_18 : decode cX4_worked 18 = .ok (.ireturn, 1) := by decide +kernel
theorem dX4_worked_19 : decode cX4_worked 19 = .ok (.iconst 0, 1) := by decide +kernel
theorem dX4_worked_20 : decode cX4_worked 20 = .ok (.istore_n 1, 1) := by decide +kernel
theorem dX4_worked_21 : decode cX4_worked 21 = .ok (.iconst 0, 1) := by decide +kernel
theorem dX4_worked_22 : decode cX4_worked 22 = .ok (.istore_n 2, 1) := by decide +kernel
theorem dX4_worked_23 : decode cX4_worked 23 = .ok (.iload_n 2, 1) := by decide +kernel
theorem dX4_worked_24 : decode cX4_worked 24 = .ok (.aload_n 0, 1) := by decide +kernel
theorem dX4_worked_25 : decode cX4_worked 25 = .ok (.getfield 15, 3) := by decide +kernel
theorem dX4_worked_28 : decode cX4_worked 28 = .ok (.invokevirtual 53, 3) := by decide +kernel
theorem dX4_worked_31 : decode cX4_worked 31 = .ok (.if_icmp .ge 52, 3) := by decide +kernel
theorem dX4_worked_34 : decode cX4_worked 34 = .ok (.aload_n 0, 1) := by decide +kernel
theorem dX4_worked_35 : decode cX4_worked 35 = .ok (.getfield 15, 3) := by decide +kernel
theorem dX4_worked_38 : decode cX4_worked 38 = .ok (.getfield 58, 3) := by decide +kernel
theorem dX4_worked_41 : decode cX4_worked 41 = .ok (.iload_n 2, 1) := by decide +kernel
theorem dX4_worked_42 : decode cX4_worked 42 = .ok (.invokevirtual 62, 3) := by decide +kernel
theorem dX4_worked_45 : decode cX4_worked 45 = .ok (.checkcast 30, 3) := by decide +kernel
theorem dX4_worked_48 : decode cX4_worked 48 = .ok (.astore_n 3, 1) := by decide +kernel
theorem dX4_worked_49 : decode cX4_worked 49 = .ok (.aload_n 3, 1) := by decide +kernel
theorem dX4_worked_50 : decode cX4_worked 50 = .ok (.getfield 68, 3) := by decide +kernel
theorem dX4_worked_53 : decode cX4_worked 53 = .ok (.aload_n 0, 1) := by decide +kernel
theorem dX4_worked_54 : decode cX4_worked 54 = .ok (.if_acmp .ne 23, 3) := by decide +kernel
theorem dX4_worked_57 : decode cX4_worked 57 = .ok (.aload_n 3, 1) := by decide +kernel
theorem dX4_worked_58 : decode cX4_worked 58 = .ok (.invokevirtual 72, 3) := by decide +kernel
theorem dX4_worked_61 : decode cX4_worked 61 = .ok (.ifCond .eq 16, 3) := by decide +kernel
theorem dX4_worked_64 : decode cX4_worked 64 = .ok (.aload_n 3, 1) := by decide +kernel
theorem dX4_worked_65 : decode cX4_worked 65 = .ok (.getfield 76, 3) := by decide +kernel
theorem dX4_worked_68 : decode cX4_worked 68 = .ok (.aload_n 0, 1) := by decide +kernel
theorem dX4_worked_69 : decode cX4_worked 69 = .ok (.getfield 19, 3) := by decide +kernel
theorem dX4_worked_72 : decode cX4_worked 72 = .ok (.getfield 35, 3) := by decide +kernel
theorem dX4_worked_75 : decode cX4_worked 75 = .ok (.isub, 1) := by decide +kernel
theorem dX4_worked_76 : decode cX4_worked 76 = .ok (.istore_n 1, 1) := by decide +kernel
theorem dX4_worked_77 : decode cX4_worked 77 = .ok (.iinc 2 1, 3) := by decide +kernel
theorem dX4_worked_80 : decode cX4_worked 80 = .ok (.goto (-57), 3) := by decide +kernel
theorem dX4_worked_83 : decode cX4_worked 83 = .ok (.iload_n 1, 1) := by decide +kernel
theorem dX4_worked_84 : decode cX4_worked 84 = .ok (.ifCond .le 10, 3) := by decide +kernel
theorem dX4_worked_87 : decode cX4_worked 87 = .ok (.iload_n 1, 1) := by decide +kernel
theorem dX4_worked_88 : decode cX4_worked 88 = .ok (.bipush 10, 2) := by decide +kernel
theorem dX4_worked_90 : decode cX4_worked 90 = .ok (.iadd, 1) := by decide +kernel
theorem dX4_worked_91 : decode cX4_worked 91 = .ok (.goto 4, 3) := by decide +kernel
theorem dX4_worked_94 : decode cX4_worked 94 = .ok (.iconst 0, 1) := by decide +kernel
theorem dX4_worked_95 : decode cX4_worked 95 = .ok (.ireturn, 1) := by decide +kernel
theorem dX5_init_0 : decode cX5_init 0 = .ok (.aload_n 0, 1) := by decide +kernel
theorem dX5_init_1 : decode cX5_init 1 = .ok (.invokespecial 3, 3) := by decide +kernel
theorem dX5_init_4 : decode cX5_init 4 = .ok (.aload_n 0, 1) := by decide +kernel
theorem dX5_init_5 : decode cX5_init 5 = .ok (.iload_n 1, 1) := by decide +kernel
theorem dX5_init_6 : decode cX5_init 6 = .ok (.putfield 9, 3) := by decide +kernel
theorem dX5_init_9 : decode cX5_init 9 = .ok (.aload_n 0, 1) := by decide +kernel
theorem dX5_init_10 : decode cX5_init 10 = .ok (.iload_n 1, 1) := by decide +kernel
theorem dX5_init_11 : decode cX5_init 11 = .ok (.ifCond .ne 7, 3) := by decide +kernel
theorem dX5_init_14 : decode cX5_init 14 = .ok (.iconst 1, 1) := by decide +kernel
theorem dX5_init_15 : decode cX5_init 15 = .ok (.goto 4, 3) := by decide +kernel
theorem dX5_init_18 : decode cX5_init 18 = .ok (.iconst 0, 1) := by decide +kernel
theorem dX5_init_19 : decode cX5_init 19 = .ok (.putfield 15, 3) := by decide +kernel
theorem dX5_init_22 : decode cX5_init 22 = .ok (.return_, 1) := by decide +kernel
theorem dX5_emptyTo_0 : decode cX5_emptyTo 0 = .ok (.aload_n 0, 1) := by decide +kernel
theorem dX5_emptyTo_1 : decode cX5_emptyTo 1 = .ok (.getfield 19, 3) := by decide +kernel
theorem dX5_emptyTo_4 : decode cX5_emptyTo 4 = .ok (.aload_n 1, 1) := by decide +kernel
theorem dX5_emptyTo_5 : decode cX5_emptyTo 5 = .ok (.getfield 19, 3) := by decide +kernel
theorem dX5_emptyTo_8 : decode cX5_emptyTo 8 = .ok (.if_icmp .ge 15, 3) := by decide +kernel
theorem dX5_emptyTo_11 : decode cX5_emptyTo 11 = .ok (.aload_n 1, 1) := by decide +kernel
theorem dX5_emptyTo_12 : decode cX5_emptyTo 12 = .ok (.getfield 19, 3) := by decide +kernel
theorem dX5_emptyTo_15 : decode cX5_emptyTo 15 = .ok (.aload_n 0, 1) := by decide +kernel
theorem dX5_emptyTo_16 : decode cX5_emptyTo 16 = .ok (.getfield 19, 3) := by decide +kernel
theorem dX5_emptyTo_19 : decode cX5_emptyTo 19 = .ok (.isub, 1) := by decide +kernel
theorem dX5_emptyTo_20 : decode cX5_emptyTo 20 = .ok (.goto 12, 3) := by decide +kernel
theorem dX5_emptyTo_23 : decode cX5_emptyTo 23 = .ok (.aload_n 0, 1) := by decide +kernel
theorem dX5_emptyTo_24 : decode cX5_emptyTo 24 = .ok (.getfield 19, 3) := by decide +kernel
theorem dX5_emptyTo_27 : decode cX5_emptyTo 27 = .ok (.aload_n 1, 1) := by decide +kernel
theorem dX5_emptyTo_28 : decode cX5_emptyTo 28 = .ok (.getfield 19, 3) := by decide +kernel
theorem dX5_emptyTo_31 : decode cX5_emptyTo 31 = .ok (.isub, 1) := by decide +kernel
theorem dX5_emptyTo_32 : decode cX5_emptyTo 32 = .ok (.ireturn, 1) := by decide +kernel
theorem dX6_init_0 : decode cX6_init 0 = .ok (.aload_n 0, 1) := by decide +kernel
theorem dX6_init_1 : decode cX6_init 1 = .ok (.invokespecial 3, 3) := by decide +kernel
theorem dX6_init_4 : decode cX6_init 4 = .ok (.aload_n 0, 1) := by decide +kernel
theorem dX6_init_5 : decode cX6_init 5 = .ok (.new 9, 3) := by decide +kernel
theorem dX6_init_8 : decode cX6_init 8 = .ok (.dup, 1) := by decide +kernel
theorem dX6_init_9 : decode cX6_init 9 = .ok (.invokespecial 11, 3) := by decide +kernel
theorem dX6_init_12 : decode cX6_init 12 = .ok (.putfield 12, 3) := by decide +kernel
theorem dX6_init_15 : decode cX6_init 15 = .ok (.return_, 1) := by decide +kernel
theorem dX6_count_0 : decode cX6_count 0 = .ok (.aload_n 0, 1) := by decide +kernel
theorem dX6_count_1 : decode cX6_count 1 = .ok (.getfield 12, 3) := by decide +kernel
theorem dX6_count_4 : decode cX6_count 4 = .ok (.invokevirtual 18, 3) := by decide +kernel
theorem dX6_count_7 : decode cX6_count 7 = .ok (.ireturn, 1) := by decide +kernel
theorem dX6_get_0 : decode cX6_get 0 = .ok (.iload_n 1, 1) := by decide +kernel
theorem dX6_get_1 : decode cX6_get 1 = .ok (.ifCond .lt 28, 3) := by decide +kernel
theorem dX6_get_4 : decode cX6_get 4 = .ok (.iload_n 1, 1) := by decide +kernel
theorem dX6_get_5 : decode cX6_get 5 = .ok (.aload_n 0, 1) := by decide +kernel
theorem dX6_get_6 : decode cX6_get 6 = .ok (.getfield 12, 3) := by decide +kernel
theorem dX6_get_9 : decode cX6_get 9 = .ok (.invokevirtual 18, 3) := by decide +kernel
theorem dX6_get_12 : decode cX6_get 12 = .ok (.if_icmp .ge 17, 3) := by decide +kernel
theorem dX6_get_15 : decode cX6_get 15 = .ok (.aload_n 0, 1) := by decide +kernel
theorem dX6_get_16 : decode cX6_get 16 = .ok (.getfield 12, 3) := by decide +kernel
theorem dX6_get_19 : decode cX6_get 19 = .ok (.iload_n 1, 1) := by decide +kernel
theorem dX6_get_20 : decode cX6_get 20 = .ok (.invokevirtual 22, 3) := by decide +kernel
theorem dX6_get_23 : decode cX6_get 23 = .ok (.checkcast 26, 3) := by decide +kernel
theorem dX6_get_26 : decode cX6_get 26 = .ok (.goto 4, 3) := by decide +kernel
theorem dX6_get_29 : decode cX6_get 29 = .ok (.aconst_null, 1) := by decide +kernel
theorem dX6_get_30 : decode cX6_get 30 = .ok (.areturn, 1) := by decide +kernel
theorem dX6_last_0 : decode cX6_last 0 = .ok (.aload_n 0, 1) := by decide +kernel
theorem dX6_last_1 : decode cX6_last 1 = .ok (.aload_n 0, 1) := by decide +kernel
theorem dX6_last_2 : decode cX6_last 2 = .ok (.getfield 12, 3) := by decide +kernel
theorem dX6_last_5 : decode cX6_last 5 = .ok (.invokevirtual 18, 3) := by decide +kernel
theorem dX6_last_8 : decode cX6_last 8 = .ok (.iconst 1, 1) := by decide +kernel
theorem dX6_last_9 : decode cX6_last 9 = .ok (.isub, 1) := by decide +kernel
theorem dX6_last_10 : decode cX6_last 10 = .ok (.invokevirtual 28, 3) := by decide +kernel
theorem dX6_last_13 : decode cX6_last 13 = .ok (.areturn, 1) := by decide +kernel
theorem dX6_join_0 : decode cX6_join 0 = .ok (.aload_n 0, 1) := by decide +kernel
theorem dX6_join_1 : decode cX6_join 1 = .ok (.getfield 12, 3) := by decide +kernel
theorem dX6_join_4 : decode cX6_join 4 = .ok (.invokevirtual 31, 3) := by decide +kernel
theorem dX6_join_7 : decode cX6_join 7 = .ok (.aload_n 0, 1) := by decide +kernel
theorem dX6_join_8 : decode cX6_join 8 = .ok (.aload_n 1, 1) := by decide +kernel
theorem dX6_join_9 : decode cX6_join 9 = .ok (.iconst 0, 1) := by decide +kernel
theorem dX6_join_10 : decode cX6_join 10 = .ok (.iload_n 2, 1) := by decide +kernel
theorem dX6_join_11 : decode cX6_join 11 = .ok (.invokevirtual 34, 3) := by decide +kernel
theorem dX6_join_14 : decode cX6_join 14 = .ok (.aload_n 0, 1) := by decide +kernel
theorem dX6_join_15 : decode cX6_join 15 = .ok (.aload_n 3, 1) := by decide +kernel
theorem dX6_join_16 : decode cX6_join 16 = .ok (.iload 4, 2) := by decide +kernel
theorem dX6_join_18 : decode cX6_join 18 = .ok (.aload_n 3, 1) := by decide +kernel
theorem dX6_join_19 : decode cX6_join 19 = .ok (.invokevirtual 38, 3) := by decide +kernel
theorem dX6_join_22 : decode cX6_join 22 = .ok (.invokevirtual 34, 3) := by decide +kernel
theorem dX6_join_25 : decode cX6_join 25 = .ok (.return_, 1) := by decide +kernel
theorem dX6_copy_0 : decode cX6_copy 0 = .ok (.aload_n 0, 1) := by decide +kernel
theorem dX6_copy_1 : decode cX6_copy 1 = .ok (.getfield 12, 3) := by decide +kernel
theorem dX6_copy_4 : decode cX6_copy 4 = .ok (.invokevirtual 31, 3) := by decide +kernel
theorem dX6_copy_7 : decode cX6_copy 7 = .ok (.aload_n 0, 1) := by decide +kernel
theorem dX6_copy_8 : decode cX6_copy 8 = .ok (.aload_n 1, 1) := by decide +kernel
theorem dX6_copy_9 : decode cX6_copy 9 = .ok (.iconst 0, 1) := by decide +kernel
theorem dX6_copy_10 : decode cX6_copy 10 = .ok (.aload_n 1, 1) := by decide +kernel
theorem dX6_copy_11 : decode cX6_copy 11 = .ok (.invokevirtual 38, 3) := by decide +kernel
theorem dX6_copy_14 : decode cX6_copy 14 = .ok (.invokevirtual 34, 3) := by decide +kernel
theorem dX6_copy_17 : decode cX6_copy 17 = .ok (.return_, 1) := by decide +kernel
theorem dX6_addPart_0 : decode cX6_addPart 0 = .ok (.iload_n 2, 1) := by decide +kernel
theorem dX6_addPart_1 : decode cX6_addPart 1 = .ok (.iconst 0, 1) := by decide +kernel
theorem dX6_addPart_2 : decode cX6_addPart 2 = .ok (.invokestatic 41, 3) := by decide +kernel
theorem dX6_addPart_5 : decode cX6_addPart 5 = .ok (.istore 4, 2) := by decide +kernel
theorem dX6_addPart_7 : decode cX6_addPart 7 = .ok (.iload 4, 2) := by decide +kernel
theorem dX6_addPart_9 : decode cX6_addPart 9 = .ok (.iload_n 3, 1) := by decide +kernel
theorem dX6_addPart_10 : decode cX6_addPart 10 = .ok (.if_icmp .ge 41, 3) := by decide +kernel
theorem dX6_addPart_13 : decode cX6_addPart 13 = .ok (.iload 4, 2) := by decide +kernel
theorem dX6_addPart_15 : decode cX6_addPart 15 = .ok (.aload_n 1, 1) := by decide +kernel
theorem dX6_addPart_16 : decode cX6_addPart 16 = .ok (.getfield 12, 3) := by decide +kernel
theorem dX6_addPart_19 : decode cX6_addPart 19 = .ok (.invokevirtual 18, 3) := by decide +kernel
theorem dX6_addPart_22 : decode cX6_addPart 22 = .ok (.if_icmp .ge 29, 3) := by decide +kernel
theorem dX6_addPart_25 : decode cX6_addPart 25 = .ok (.aload_n 0, 1) := by decide +kernel
theorem dX6_addPart_26 : decode cX6_addPart 26 = .ok (.getfield 12, 3) := by decide +kernel
theorem dX6_addPart_29 : decode cX6_addPart 29 = .ok (.aload_n 1, 1) := by decide +kernel
theorem dX6_addPart_30 : decode cX6_addPart 30 = .ok (.getfield 12, 3) := by decide +kernel
theorem dX6_addPart_33 : decode cX6_addPart 33 = .ok (.iload 4, 2) := by decide +kernel
theorem dX6_addPart_35 : decode cX6_addPart 35 = .ok (.invokevirtual 22, 3) := by decide +kernel
theorem dX6_addPart_38 : decode cX6_addPart 38 = .ok (.checkcast 26, 3) := by decide +kernel
theorem dX6_addPart_41 : decode cX6_addPart 41 = .ok (.invokevirtual 47, 3) := by decide +kernel
theorem dX6_addPart_44 : decode cX6_addPart 44 = .ok (.pop, 1) := by decide +kernel
theorem dX6_addPart_45 : decode cX6_addPart 45 = .ok (.iinc 4 1, 3) := by decide +kernel
theorem dX6_addPart_48 : decode cX6_addPart 48 = .ok (.goto (-41), 3) := by decide +kernel
theorem dX6_addPart_51 : decode cX6_addPart 51 = .ok (.return_, 1) := by decide +kernel
theorem dX6_empty_0 : decode cX6_empty 0 = .ok (.iconst 0, 1) := by decide +kernel
theorem dX6_empty_1 : decode cX6_empty 1 = .ok (.istore_n 2, 1) := by decide +kernel
theorem dX6_empty_2 : decode cX6_empty 2 = .ok (.aload_n 1, 1) := by decide +kernel
theorem dX6_empty_3 : decode cX6_empty 3 = .ok (.astore_n 3, 1) := by decide +kernel
theorem dX6_empty_4 : decode cX6_empty 4 = .ok (.iconst 0, 1) := by decide +kernel
theorem dX6_empty_5 : decode cX6_empty 5 = .ok (.istore 4, 2) := by decide +kernel
theorem dX6_empty_7 : decode cX6_empty 7 = .ok (.iload 4, 2) := by decide +kernel
theorem dX6_empty_9 : decode cX6_empty 9 = .ok (.aload_n 0, 1) := by decide +kernel
theorem dX6_empty_10 : decode cX6_empty 10 = .ok (.getfield 12, 3) := by decide +kernel
theorem dX6_empty_13 : decode cX6_empty 13 = .ok (.invokevirtual 18, 3) := by decide +kernel
theorem dX6_empty_16 : decode cX6_empty 16 = .ok (.if_icmp .ge 41, 3) := by decide +kernel
theorem dX6_empty_19 : decode cX6_empty 19 = .ok (.aload_n 0, 1) := by decide +kernel
theorem dX6_empty_20 : decode cX6_empty 20 = .ok (.getfield 12, 3) := by decide +kernel
theorem dX6_empty_23 : decode cX6_empty 23 = .ok (.iload 4, 2) := by decide +kernel
theorem dX6_empty_25 : decode cX6_empty 25 = .ok (.invokevirtual 22, 3) := by decide +kernel
theorem dX6_empty_28 : decode cX6_empty 28 = .ok (.checkcast 26, 3) := by decide +kernel
theorem dX6_empty_31 : decode cX6_empty 31 = .ok (.astore 5, 2) := by decide +kernel
theorem dX6_empty_33 : decode cX6_empty 33 = .ok (.iload_n 2, 1) := by decide +kernel
theorem dX6_empty_34 : decode cX6_empty 34 = .ok (.aload_n 3, 1) := by decide +kernel
theorem dX6_empty_35 : decode cX6_empty 35 = .ok (.aload 5, 2) := by decide +kernel
theorem dX6_empty_37 : decode cX6_empty 37 = .ok (.getfield 51, 3) := by decide +kernel
theorem dX6_empty_40 : decode cX6_empty 40 = .ok (.invokevirtual 55, 3) := by decide +kernel
theorem dX6_empty_43 : decode cX6_empty 43 = .ok (.iadd, 1) := by decide +kernel
theorem dX6_empty_44 : decode cX6_empty 44 = .ok (.istore_n 2, 1) := by decide +kernel
theorem dX6_empty_45 : decode cX6_empty 45 = .ok (.aload 5, 2) := by decide +kernel
theorem dX6_empty_47 : decode cX6_empty 47 = .ok (.getfield 61, 3) := by decide +kernel
theorem dX6_empty_50 : decode cX6_empty 50 = .ok (.astore_n 3, 1) := by decide +kernel
theorem dX6_empty_51 : decode cX6_empty 51 = .ok (.iinc 4 1, 3) := by decide +kernel
theorem dX6_empty_54 : decode cX6_empty 54 = .ok (.goto (-47), 3) := by decide +kernel
theorem dX6_empty_57 : decode cX6_empty 57 = .ok (.iload_n 2, 1) := by decide +kernel
theorem dX6_empty_58 : decode cX6_empty 58 = .ok (.aload_n 3, 1) := by decide +kernel
theorem dX6_empty_59 : decode cX6_empty 59 = .ok (.aload_n 1, 1) := by decide +kernel
theorem dX6_empty_60 : decode cX6_empty 60 = .ok (.invokevirtual 55, 3) := by decide +kernel
theorem dX6_empty_63 : decode cX6_empty 63 = .ok (.iadd, 1) := by decide +kernel
theorem dX6_empty_64 : decode cX6_empty 64 = .ok (.ireturn, 1) := by decide +kernel
theorem dX6_leastCharge_0 : decode cX6_leastCharge 0 = .ok (.iload_n 2, 1) := by decide +kernel
theorem dX6_leastCharge_1 : decode cX6_leastCharge 1 = .ok (.istore 4, 2) := by decide +kernel
theorem dX6_leastCharge_3 : decode cX6_leastCharge 3 = .ok (.iload_n 2, 1) := by decide +kernel
theorem dX6_leastCharge_4 : decode cX6_leastCharge 4 = .ok (.istore 5, 2) := by decide +kernel
theorem dX6_leastCharge_6 : decode cX6_leastCharge 6 = .ok (.aload_n 1, 1) := by decide +kernel
theorem dX6_leastCharge_7 : decode cX6_leastCharge 7 = .ok (.astore 6, 2) := by decide +kernel
theorem dX6_leastCharge_9 : decode cX6_leastCharge 9 = .ok (.aconst_null, 1) := by decide +kernel
theorem dX6_leastCharge_10 : decode cX6_leastCharge 10 = .ok (.astore 7, 2) := by decide +kernel
theorem dX6_leastCharge_12 : decode cX6_leastCharge 12 = .ok (.iconst 0, 1) := by decide +kernel
theorem dX6_leastCharge_13 : decode cX6_leastCharge 13 = .ok (.istore 8, 2) := by decide +kernel
theorem dX6_leastCharge_15 : decode cX6_leastCharge 15 = .ok (.iload 8, 2) := by decide +kernel
theorem dX6_leastCharge_17 : decode cX6_leastCharge 17 = .ok (.aload_n 0, 1) := by decide +kernel
theorem dX6_leastCharge_18 : decode cX6_leastCharge 18 = .ok (.getfield 12, 3) := by decide +kernel
theorem dX6_leastCharge_21 : decode cX6_leastCharge 21 = .ok (.invokevirtual 18, 3) := by decide +kernel
theorem dX6_leastCharge_24 : decode cX6_leastCharge 24 = .ok (.if_icmp .ge 126, 3) := by decide +kernel
theorem dX6_leastCharge_27 : decode cX6_leastCharge 27 = .ok (.aload_n 0, 1) := by decide +kernel
theorem dX6_leastCharge_28 : decode cX6_leastCharge 28 = .ok (.getfield 12, 3) := by decide +kernel
theorem dX6_leastCharge_31 : decode cX6_leastCharge 31 = .ok (.iload 8, 2) := by decide +kernel
theorem dX6_leastCharge_33 : decode cX6_leastCharge 33 = .ok (.invokevirtual 22, 3) := by decide +kernel
theorem dX6_leastCharge_36 : decode cX6_leastCharge 36 = .ok (.checkcast 26, 3) := by decide +kernel
theorem dX6_leastCharge_39 : decode cX6_leastCharge 39 = .ok (.astore 9, 2) := by decide +kernel
theorem dX6_leastCharge_41 : decode cX6_leastCharge 41 = .ok (.aload 6, 2) := by decide +kernel
theorem dX6_leastCharge_43 : decode cX6_leastCharge 43 = .ok (.aload 9, 2) := by decide +kernel
theorem dX6_leastCharge_45 : decode cX6_leastCharge 45 = .ok (.getfield 51, 3) := by decide +kernel
theorem dX6_leastCharge_48 : decode cX6_leastCharge 48 = .ok (.invokevirtual 55, 3) := by decide +kernel
theorem dX6_leastCharge_51 : decode cX6_leastCharge 51 = .ok (.istore 10, 2) := by decide +kernel
theorem dX6_leastCharge_53 : decode cX6_leastCharge 53 = .ok (.iload 4, 2) := by decide +kernel
theorem dX6_leastCharge_55 : decode cX6_leastCharge 55 = .ok (.iload 10, 2) := by decide +kernel
theorem dX6_leastCharge_57 : decode cX6_leastCharge 57 = .ok (.isub, 1) := by decide +kernel
theorem dX6_leastCharge_58 : decode cX6_leastCharge 58 = .ok (.istore 4, 2) := by decide +kernel
theorem dX6_leastCharge_60 : decode cX6_leastCharge 60 = .ok (.iload 5, 2) := by decide +kernel
theorem dX6_leastCharge_62 : decode cX6_leastCharge 62 = .ok (.iload 4, 2) := by decide +kernel
theorem dX6_leastCharge_64 : decode cX6_leastCharge 64 = .ok (.invokestatic 64, 3) := by decide +kernel
theorem dX6_leastCharge_67 : decode cX6_leastCharge 67 = .ok (.istore 5, 2) := by decide +kernel
theorem dX6_leastCharge_69 : decode cX6_leastCharge 69 = .ok (.aload 7, 2) := by decide +kernel
theorem dX6_leastCharge_71 : decode cX6_leastCharge 71 = .ok (.ifnull 39, 3) := by decide +kernel
theorem dX6_leastCharge_74 : decode cX6_leastCharge 74 = .ok (.aload 9, 2) := by decide +kernel
theorem dX6_leastCharge_76 : decode cX6_leastCharge 76 = .ok (.getfield 67, 3) := by decide +kernel
theorem dX6_leastCharge_79 : decode cX6_leastCharge 79 = .ok (.aload 7, 2) := by decide +kernel
theorem dX6_leastCharge_81 : decode cX6_leastCharge 81 = .ok (.invokevirtual 71, 3) := by decide +kernel
theorem dX6_leastCharge_84 : decode cX6_leastCharge 84 = .ok (.isub, 1) := by decide +kernel
theorem dX6_leastCharge_85 : decode cX6_leastCharge 85 = .ok (.iload 10, 2) := by decide +kernel
theorem dX6_leastCharge_87 : decode cX6_leastCharge 87 = .ok (.isub, 1) := by decide +kernel
theorem dX6_leastCharge_88 : decode cX6_leastCharge 88 = .ok (.istore 11, 2) := by decide +kernel
theorem dX6_leastCharge_90 : decode cX6_leastCharge 90 = .ok (.iload_n 2, 1) := by decide +kernel
theorem dX6_leastCharge_91 : decode cX6_leastCharge 91 = .ok (.iload 4, 2) := by decide +kernel
theorem dX6_leastCharge_93 : decode cX6_leastCharge 93 = .ok (.aload 9, 2) := by decide +kernel
theorem dX6_leastCharge_95 : decode cX6_leastCharge 95 = .ok (.getfield 51, 3) := by decide +kernel
theorem dX6_leastCharge_98 : decode cX6_leastCharge 98 = .ok (.getfield 74, 3) := by decide +kernel
theorem dX6_leastCharge_101 : decode cX6_leastCharge 101 = .ok (.iload 11, 2) := by decide +kernel
theorem dX6_leastCharge_103 : decode cX6_leastCharge 103 = .ok (.imul, 1) := by decide +kernel
theorem dX6_leastCharge_104 : decode cX6_leastCharge 104 = .ok (.iadd, 1) := by decide +kernel
theorem dX6_leastCharge_105 : decode cX6_leastCharge 105 = .ok (.invokestatic 64, 3) := by decide +kernel
theorem dX6_leastCharge_108 : decode cX6_leastCharge 108 = .ok (.istore 4, 2) := by decide +kernel
theorem dX6_leastCharge_110 : decode cX6_leastCharge 110 = .ok (.iload 4, 2) := by decide +kernel
theorem dX6_leastCharge_112 : decode cX6_leastCharge 112 = .ok (.aload 9, 2) := by decide +kernel
theorem dX6_leastCharge_114 : decode cX6_leastCharge 114 = .ok (.getfield 77, 3) := by decide +kernel
theorem dX6_leastCharge_117 : decode cX6_leastCharge 117 = .ok (.iconst 2, 1) := by decide +kernel
theorem dX6_leastCharge_118 : decode cX6_leastCharge 118 = .ok (.iload_n 3, 1) := by decide +kernel
theorem dX6_leastCharge_119 : decode cX6_leastCharge 119 = .ok (.iadd, 1) := by decide +kernel
theorem dX6_leastCharge_120 : decode cX6_leastCharge 120 = .ok (.imul, 1) := by decide +kernel
theorem dX6_leastCharge_121 : decode cX6_leastCharge 121 = .ok (.isub, 1) := by decide +kernel
theorem dX6_leastCharge_122 : decode cX6_leastCharge 122 = .ok (.istore 4, 2) := by decide +kernel
theorem dX6_leastCharge_124 : decode cX6_leastCharge 124 = .ok (.iload 5, 2) := by decide +kernel
theorem dX6_leastCharge_126 : decode cX6_leastCharge 126 = .ok (.iload 4, 2) := by decide +kernel
theorem dX6_leastCharge_128 : decode cX6_leastCharge 128 = .ok (.invokestatic 64, 3) := by decide +kernel
theorem dX6_leastCharge_131 : decode cX6_leastCharge 131 = .ok (.istore 5, 2) := by decide +kernel
theorem dX6_leastCharge_133 : decode cX6_leastCharge 133 = .ok (.aload 9, 2) := by decide +kernel
theorem dX6_leastCharge_135 : decode cX6_leastCharge 135 = .ok (.getfield 61, 3) := by decide +kernel
theorem dX6_leastCharge_138 : decode cX6_leastCharge 138 = .ok (.astore 6, 2) := by decide +kernel
theorem dX6_leastCharge_140 : decode cX6_leastCharge 140 = .ok (.aload 9, 2) := by decide +kernel
theorem dX6_leastCharge_142 : decode cX6_leastCharge 142 = .ok (.astore 7, 2) := by decide +kernel
theorem dX6_leastCharge_144 : decode cX6_leastCharge 144 = .ok (.iinc 8 1, 3) := by decide +kernel
theorem dX6_leastCharge_147 : decode cX6_leastCharge 147 = .ok (.goto (-132), 3) := by decide +kernel
theorem dX6_leastCharge_150 : decode cX6_leastCharge 150 = .ok (.iload 5, 2) := by decide +kernel
theorem dX6_leastCharge_152 : decode cX6_leastCharge 152 = .ok (.iload 4, 2) := by decide +kernel
theorem dX6_leastCharge_154 : decode cX6_leastCharge 154 = .ok (.aload 6, 2) := by decide +kernel
theorem dX6_leastCharge_156 : decode cX6_leastCharge 156 = .ok (.aload_n 1, 1) := by decide +kernel
theorem dX6_leastCharge_157 : decode cX6_leastCharge 157 = .ok (.invokevirtual 55, 3) := by decide +kernel
theorem dX6_leastCharge_160 : decode cX6_leastCharge 160 = .ok (.isub, 1) := by decide +kernel
theorem dX6_leastCharge_161 : decode cX6_leastCharge 161 = .ok (.invokestatic 64, 3) := by decide +kernel
theorem dX6_leastCharge_164 : decode cX6_leastCharge 164 = .ok (.ireturn, 1) := by decide +kernel
theorem dX7_init_0 : decode cX7_init 0 = .ok (.aload_n 0, 1) := by decide +kernel
theorem dX7_init_1 : decode cX7_init 1 = .ok (.invokespecial 3, 3) := by decide +kernel
theorem dX7_init_4 : decode cX7_init 4 = .ok (.aload_n 0, 1) := by decide +kernel
theorem dX7_init_5 : decode cX7_init 5 = .ok (.iload_n 1, 1) := by decide +kernel
theorem dX7_init_6 : decode cX7_init 6 = .ok (.putfield 9, 3) := by decide +kernel
theorem dX7_init_9 : decode cX7_init 9 = .ok (.aload_n 0, 1) := by decide +kernel
theorem dX7_init_10 : decode cX7_init 10 = .ok (.aload_n 2, 1) := by decide +kernel
theorem dX7_init_11 : decode cX7_init 11 = .ok (.putfield 15, 3) := by decide +kernel
theorem dX7_init_14 : decode cX7_init 14 = .ok (.aload_n 0, 1) := by decide +kernel
theorem dX7_init_15 : decode cX7_init 15 = .ok (.aload_n 3, 1) := by decide +kernel
theorem dX7_init_16 : decode cX7_init 16 = .ok (.putfield 19, 3) := by decide +kernel
theorem dX7_init_19 : decode cX7_init 19 = .ok (.aload_n 0, 1) := by decide +kernel
theorem dX7_init_20 : decode cX7_init 20 = .ok (.aload 4, 2) := by decide +kernel
theorem dX7_init_22 : decode cX7_init 22 = .ok (.putfield 23, 3) := by decide +kernel
theorem dX7_init_25 : decode cX7_init 25 = .ok (.aload_n 0, 1) := by decide +kernel
theorem dX7_init_26 : decode cX7_init 26 = .ok (.iload 5, 2) := by decide +kernel
theorem dX7_init_28 : decode cX7_init 28 = .ok (.putfield 26, 3) := by decide +kernel
theorem dX7_init_31 : decode cX7_init 31 = .ok (.aload_n 0, 1) := by decide +kernel
theorem dX7_init_32 : decode cX7_init 32 = .ok (.iload 6, 2) := by decide +kernel
theorem dX7_init_34 : decode cX7_init 34 = .ok (.putfield 29, 3) := by decide +kernel
theorem dX7_init_37 : decode cX7_init 37 = .ok (.return_, 1) := by decide +kernel
theorem dX7_end_0 : decode cX7_end 0 = .ok (.aload_n 0, 1) := by decide +kernel
theorem dX7_end_1 : decode cX7_end 1 = .ok (.getfield 26, 3) := by decide +kernel
theorem dX7_end_4 : decode cX7_end 4 = .ok (.aload_n 0, 1) := by decide +kernel
theorem dX7_end_5 : decode cX7_end 5 = .ok (.getfield 29, 3) := by decide +kernel
theorem dX7_end_8 : decode cX7_end 8 = .ok (.iadd, 1) := by decide +kernel
theorem dX7_end_9 : decode cX7_end 9 = .ok (.ireturn, 1) := by decide +kernel
theorem dX7_emptyTo_0 : decode cX7_emptyTo 0 = .ok (.aload_n 0, 1) := by decide +kernel
theorem dX7_emptyTo_1 : decode cX7_emptyTo 1 = .ok (.getfield 23, 3) := by decide +kernel
theorem dX7_emptyTo_4 : decode cX7_emptyTo 4 = .ok (.aload_n 1, 1) := by decide +kernel
theorem dX7_emptyTo_5 : decode cX7_emptyTo 5 = .ok (.getfield 19, 3) := by decide +kernel
theorem dX7_emptyTo_8 : decode cX7_emptyTo 8 = .ok (.invokevirtual 32, 3) := by decide +kernel
theorem dX7_emptyTo_11 : decode cX7_emptyTo 11 = .ok (.ireturn, 1) := by decide +kernel
theorem dX7_waitBehind_0 : decode cX7_waitBehind 0 = .ok (.aload_n 0, 1) := by decide +kernel
theorem dX7_waitBehind_1 : decode cX7_waitBehind 1 = .ok (.getfield 26, 3) := by decide +kernel
theorem dX7_waitBehind_4 : decode cX7_waitBehind 4 = .ok (.aload_n 1, 1) := by decide +kernel
theorem dX7_waitBehind_5 : decode cX7_waitBehind 5 = .ok (.invokevirtual 38, 3) := by decide +kernel
theorem dX7_waitBehind_8 : decode cX7_waitBehind 8 = .ok (.isub, 1) := by decide +kernel
theorem dX7_waitBehind_9 : decode cX7_waitBehind 9 = .ok (.aload_n 1, 1) := by decide +kernel
theorem dX7_waitBehind_10 : decode cX7_waitBehind 10 = .ok (.getfield 23, 3) := by decide +kernel
theorem dX7_waitBehind_13 : decode cX7_waitBehind 13 = .ok (.aload_n 0, 1) := by decide +kernel
theorem dX7_waitBehind_14 : decode cX7_waitBehind 14 = .ok (.getfield 19, 3) := by decide +kernel
theorem dX7_waitBehind_17 : decode cX7_waitBehind 17 = .ok (.invokevirtual 32, 3) := by decide +kernel
theorem dX7_waitBehind_20 : decode cX7_waitBehind 20 = .ok (.isub, 1) := by decide +kernel
theorem dX7_waitBehind_21 : decode cX7_waitBehind 21 = .ok (.ireturn, 1) := by decide +kernel
theorem dX7_canFollow_0 : decode cX7_canFollow 0 = .ok (.aload_n 1, 1) := by decide +kernel
theorem dX7_canFollow_1 : decode cX7_canFollow 1 = .ok (.invokevirtual 38, 3) := by decide +kernel
theorem dX7_canFollow_4 : decode cX7_canFollow 4 = .ok (.aload_n 1, 1) := by decide +kernel
theorem dX7_canFollow_5 : decode cX7_canFollow 5 = .ok (.getfield 23, 3) := by decide +kernel
theorem dX7_canFollow_8 : decode cX7_canFollow 8 = .ok (.aload_n 0, 1) := by decide +kernel
theorem dX7_canFollow_9 : decode cX7_canFollow 9 = .ok (.getfield 19, 3) := by decide +kernel
theorem dX7_canFollow_12 : decode cX7_canFollow 12 = .ok (.invokevirtual 32, 3) := by decide +kernel
theorem dX7_canFollow_15 : decode cX7_canFollow 15 = .ok (.iadd, 1) := by decide +kernel
theorem dX7_canFollow_16 : decode cX7_canFollow 16 = .ok (.iconst 4, 1) := by decide +kernel
theorem dX7_canFollow_17 : decode cX7_canFollow 17 = .ok (.iadd, 1) := by decide +kernel
theorem dX7_canFollow_18 : decode cX7_canFollow 18 = .ok (.aload_n 0, 1) := by decide +kernel
theorem dX7_canFollow_19 : decode cX7_canFollow 19 = .ok (.getfield 26, 3) := by decide +kernel
theorem dX7_canFollow_22 : decode cX7_canFollow 22 = .ok (.if_icmp .gt 7, 3) := by decide +kernel
theorem dX7_canFollow_25 : decode cX7_canFollow 25 = .ok (.iconst 1, 1) := by decide +kernel
theorem dX7_canFollow_26 : decode cX7_canFollow 26 = .ok (.goto 4, 3) := by decide +kernel
theorem dX7_canFollow_29 : decode cX7_canFollow 29 = .ok (.iconst 0, 1) := by decide +kernel
theorem dX7_canFollow_30 : decode cX7_canFollow 30 = .ok (.ireturn, 1) := by decide +kernel
theorem dX7_blockNumber_0 : decode cX7_blockNumber 0 = .ok (.aload_n 0, 1) := by decide +kernel
theorem dX7_blockNumber_1 : decode cX7_blockNumber 1 = .ok (.getfield 42, 3) := by decide +kernel
theorem dX7_blockNumber_4 : decode cX7_blockNumber 4 = .ok (.ifnonnull 7, 3) := by decide +kernel
theorem dX7_blockNumber_7 : decode cX7_blockNumber 7 = .ok (.iconst (-1), 1) := by decide +kernel
theorem dX7_blockNumber_8 : decode cX7_blockNumber 8 = .ok (.goto 10, 3) := by decide +kernel
theorem dX7_blockNumber_11 : decode cX7_blockNumber 11 = .ok (.aload_n 0, 1) := by decide +kernel
theorem dX7_blockNumber_12 : decode cX7_blockNumber 12 = .ok (.getfield 42, 3) := by decide +kernel
theorem dX7_blockNumber_15 : decode cX7_blockNumber 15 = .ok (.getfield 46, 3) := by decide +kernel
theorem dX7_blockNumber_18 : decode cX7_blockNumber 18 = .ok (.ireturn, 1) := by decide +kernel
theorem dX7_pieceNumber_0 : decode cX7_pieceNumber 0 = .ok (.aload_n 0, 1) := by decide +kernel
theorem dX7_pieceNumber_1 : decode cX7_pieceNumber 1 = .ok (.getfield 49, 3) := by decide +kernel
theorem dX7_pieceNumber_4 : decode cX7_pieceNumber 4 = .ok (.ifnonnull 7, 3) := by decide +kernel
theorem dX7_pieceNumber_7 : decode cX7_pieceNumber 7 = .ok (.iconst (-1), 1) := by decide +kernel
theorem dX7_pieceNumber_8 : decode cX7_pieceNumber 8 = .ok (.goto 10, 3) := by decide +kernel
theorem dX7_pieceNumber_11 : decode cX7_pieceNumber 11 = .ok (.aload_n 0, 1) := by decide +kernel
theorem dX7_pieceNumber_12 : decode cX7_pieceNumber 12 = .ok (.getfield 49, 3) := by decide +kernel
theorem dX7_pieceNumber_15 : decode cX7_pieceNumber 15 = .ok (.getfield 53, 3) := by decide +kernel
theorem dX7_pieceNumber_18 : decode cX7_pieceNumber 18 = .ok (.ireturn, 1) := by decide +kernel
theorem dX7_runs_0 : decode cX7_runs 0 = .ok (.aload_n 0, 1) := by decide +kernel
theorem dX7_runs_1 : decode cX7_runs 1 = .ok (.getfield 56, 3) := by decide +kernel
theorem dX7_runs_4 : decode cX7_runs 4 = .ok (.ifCond .ne 7, 3) := by decide +kernel
theorem dX7_runs_7 : decode cX7_runs 7 = .ok (.iconst 1, 1) := by decide +kernel
theorem dX7_runs_8 : decode cX7_runs 8 = .ok (.goto 4, 3) := by decide +kernel
theorem dX7_runs_11 : decode cX7_runs 11 = .ok (.iconst 0, 1) := by decide +kernel
theorem dX7_runs_12 : decode cX7_runs 12 = .ok (.ireturn, 1) := by decide +kernel
theorem dX7_late_0 : decode cX7_late 0 = .ok (.aload_n 0, 1) := by decide +kernel
theorem dX7_late_1 : decode cX7_late 1 = .ok (.getfield 59, 3) := by decide +kernel
theorem dX7_late_4 : decode cX7_late 4 = .ok (.aload_n 0, 1) := by decide +kernel
theorem dX7_late_5 : decode cX7_late 5 = .ok (.getfield 26, 3) := by decide +kernel
theorem dX7_late_8 : decode cX7_late 8 = .ok (.isub, 1) := by decide +kernel
theorem dX7_late_9 : decode cX7_late 9 = .ok (.ireturn, 1) := by decide +kernel
theorem dX7_causeIf_0 : decode cX7_causeIf 0 = .ok (.aload_n 0, 1) := by decide +kernel
theorem dX7_causeIf_1 : decode cX7_causeIf 1 = .ok (.getfield 15, 3) := by decide +kernel
theorem dX7_causeIf_4 : decode cX7_causeIf 4 = .ok (.getfield 62, 3) := by decide +kernel
theorem dX7_causeIf_7 : decode cX7_causeIf 7 = .ok (.ifCond .eq 5, 3) := by decide +kernel
theorem dX7_causeIf_10 : decode cX7_causeIf 10 = .ok (.iconst 2, 1) := by decide +kernel
theorem dX7_causeIf_11 : decode cX7_causeIf 11 = .ok (.ireturn, 1) := by decide +kernel
theorem dX7_causeIf_12 : decode cX7_causeIf 12 = .ok (.iload_n 1, 1) := by decide +kernel
theorem dX7_causeIf_13 : decode cX7_causeIf 13 = .ok (.iconst (-1), 1) := by decide +kernel
theorem dX7_causeIf_14 : decode cX7_causeIf 14 = .ok (.if_icmp .eq 13, 3) := by decide +kernel
theorem dX7_causeIf_17 : decode cX7_causeIf 17 = .ok (.aload_n 0, 1) := by decide +kernel
theorem dX7_causeIf_18 : decode cX7_causeIf 18 = .ok (.getfield 59, 3) := by decide +kernel
theorem dX7_causeIf_21 : decode cX7_causeIf 21 = .ok (.iload_n 1, 1) := by decide +kernel
theorem dX7_causeIf_22 : decode cX7_causeIf 22 = .ok (.if_icmp .lt 5, 3) := by decide +kernel
theorem dX7_causeIf_25 : decode cX7_causeIf 25 = .ok (.iconst 3, 1) := by decide +kernel
theorem dX7_causeIf_26 : decode cX7_causeIf 26 = .ok (.ireturn, 1) := by decide +kernel
theorem dX7_causeIf_27 : decode cX7_causeIf 27 = .ok (.aload_n 0, 1) := by decide +kernel
theorem dX7_causeIf_28 : decode cX7_causeIf 28 = .ok (.getfield 49, 3) := by decide +kernel
theorem dX7_causeIf_31 : decode cX7_causeIf 31 = .ok (.ifnonnull 7, 3) := by decide +kernel
theorem dX7_causeIf_34 : decode cX7_causeIf 34 = .ok (.aconst_null, 1) := by decide +kernel
theorem dX7_causeIf_35 : decode cX7_causeIf 35 = .ok (.goto 10, 3) := by decide +kernel
theorem dX7_causeIf_38 : decode cX7_causeIf 38 = .ok (.aload_n 0, 1) := by decide +kernel
theorem dX7_causeIf_39 : decode cX7_causeIf 39 = .ok (.getfield 49, 3) := by decide +kernel
theorem dX7_causeIf_42 : decode cX7_causeIf 42 = .ok (.getfield 68, 3) := by decide +kernel
theorem dX7_causeIf_45 : decode cX7_causeIf 45 = .ok (.astore_n 2, 1) := by decide +kernel
theorem dX7_causeIf_46 : decode cX7_causeIf 46 = .ok (.aload_n 2, 1) := by decide +kernel
theorem dX7_causeIf_47 : decode cX7_causeIf 47 = .ok (.ifnonnull 5, 3) := by decide +kernel
theorem dX7_causeIf_50 : decode cX7_causeIf 50 = .ok (.iconst 4, 1) := by decide +kernel
theorem dX7_causeIf_51 : decode cX7_causeIf 51 = .ok (.ireturn, 1) := by decide +kernel
theorem dX7_causeIf_52 : decode cX7_causeIf 52 = .ok (.aload_n 2, 1) := by decide +kernel
theorem dX7_causeIf_53 : decode cX7_causeIf 53 = .ok (.getfield 72, 3) := by decide +kernel
theorem dX7_causeIf_56 : decode cX7_causeIf 56 = .ok (.ifCond .eq 5, 3) := by decide +kernel
theorem dX7_causeIf_59 : decode cX7_causeIf 59 = .ok (.iconst 5, 1) := by decide +kernel
theorem dX7_causeIf_60 : decode cX7_causeIf 60 = .ok (.ireturn, 1) := by decide +kernel
theorem dX7_causeIf_61 : decode cX7_causeIf 61 = .ok (.aload_n 0, 1) := by decide +kernel
theorem dX7_causeIf_62 : decode cX7_causeIf 62 = .ok (.invokevirtual 77, 3) := by decide +kernel
theorem dX7_causeIf_65 : decode cX7_causeIf 65 = .ok (.bipush 30, 2) := by decide +kernel
theorem dX7_causeIf_67 : decode cX7_causeIf 67 = .ok (.if_icmp .le 8, 3) := by decide +kernel
theorem dX7_causeIf_70 : decode cX7_causeIf 70 = .ok (.bipush 6, 2) := by decide +kernel
theorem dX7_causeIf_72 : decode cX7_causeIf 72 = .ok (.goto 4, 3) := by decide +kernel
theorem dX7_causeIf_75 : decode cX7_causeIf 75 = .ok (.iconst 0, 1) := by decide +kernel
theorem dX7_causeIf_76 : decode cX7_causeIf 76 = .ok (.ireturn, 1) := by decide +kernel
theorem dX7_pay_0 : decode cX7_pay 0 = .ok (.aload_n 0, 1) := by decide +kernel
theorem dX7_pay_1 : decode cX7_pay 1 = .ok (.invokevirtual 80, 3) := by decide +kernel
theorem dX7_pay_4 : decode cX7_pay 4 = .ok (.ifCond .eq 18, 3) := by decide +kernel
theorem dX7_pay_7 : decode cX7_pay 7 = .ok (.aload_n 0, 1) := by decide +kernel
theorem dX7_pay_8 : decode cX7_pay 8 = .ok (.getfield 15, 3) := by decide +kernel
theorem dX7_pay_11 : decode cX7_pay 11 = .ok (.getfield 84, 3) := by decide +kernel
theorem dX7_pay_14 : decode cX7_pay 14 = .ok (.aload_n 0, 1) := by decide +kernel
theorem dX7_pay_15 : decode cX7_pay 15 = .ok (.invokevirtual 77, 3) := by decide +kernel
theorem dX7_pay_18 : decode cX7_pay 18 = .ok (.iconst 2, 1) := by decide +kernel
theorem dX7_pay_19 : decode cX7_pay 19 = .ok (.idiv, 1) := by decide +kernel
theorem dX7_pay_20 : decode cX7_pay 20 = .ok (.isub, 1) := by decide +kernel
theorem dX7_pay_21 : decode cX7_pay 21 = .ok (.ireturn, 1) := by decide +kernel
theorem dX7_pay_22 : decode cX7_pay 22 = .ok (.aload_n 0, 1) := by decide +kernel
theorem dX7_pay_23 : decode cX7_pay 23 = .ok (.getfield 56, 3) := by decide +kernel
theorem dX7_pay_26 : decode cX7_pay 26 = .ok (.iconst 2, 1) := by decide +kernel
theorem dX7_pay_27 : decode cX7_pay 27 = .ok (.if_icmp .ne 7, 3) := by decide +kernel
theorem dX7_pay_30 : decode cX7_pay 30 = .ok (.iconst 0, 1) := by decide +kernel
theorem dX7_pay_31 : decode cX7_pay 31 = .ok (.goto 5, 3) := by decide +kernel
theorem dX7_pay_34 : decode cX7_pay 34 = .ok (.iload_n 1, 1) := by decide +kernel
theorem dX7_pay_35 : decode cX7_pay 35 = .ok (.ineg, 1) := by decide +kernel
theorem dX7_pay_36 : decode cX7_pay 36 = .ok (.ireturn, 1) := by decide +kernel
theorem dX8_init_0 : decode cX8_init 0 = .ok (.aload_n 0, 1) := by decide +kernel
theorem dX8_init_1 : decode cX8_init 1 = .ok (.invokespecial 3, 3) := by decide +kernel
theorem dX8_init_4 : decode cX8_init 4 = .ok (.aload_n 0, 1) := by decide +kernel
theorem dX8_init_5 : decode cX8_init 5 = .ok (.sipush 600, 3) := by decide +kernel
theorem dX8_init_8 : decode cX8_init 8 = .ok (.putfield 9, 3) := by decide +kernel
theorem dX8_init_11 : decode cX8_init 11 = .ok (.aload_n 0, 1) := by decide +kernel
theorem dX8_init_12 : decode cX8_init 12 = .ok (.sipush 240, 3) := by decide +kernel
theorem dX8_init_15 : decode cX8_init 15 = .ok (.putfield 15, 3) := by decide +kernel
theorem dX8_init_18 : decode cX8_init 18 = .ok (.return_, 1) := by decide +kernel
theorem dX8_planPieces_0 : decode cX8_planPieces 0 = .ok (.iconst 0, 1) := by decide +kernel
theorem dX8_planPieces_1 : decode cX8_planPieces 1 = .ok (.istore_n 3, 1) := by decide +kernel
theorem dX8_planPieces_2 : decode cX8_planPieces 2 = .ok (.iconst 0, 1) := by decide +kernel
theorem dX8_planPieces_3 : decode cX8_planPieces 3 = .ok (.istore 4, 2) := by decide +kernel
theorem dX8_planPieces_5 : decode cX8_planPieces 5 = .ok (.iload_n 3, 1) := by decide +kernel
theorem dX8_planPieces_6 : decode cX8_planPieces 6 = .ok (.aload_n 1, 1) := by decide +kernel
theorem dX8_planPieces_7 : decode cX8_planPieces 7 = .ok (.invokevirtual 18, 3) := by decide +kernel
theorem dX8_planPieces_10 : decode cX8_planPieces 10 = .ok (.if_icmp .ge 43, 3) := by decide +kernel
theorem dX8_planPieces_13 : decode cX8_planPieces 13 = .ok (.iload 4, 2) := by decide +kernel
theorem dX8_planPieces_15 : decode cX8_planPieces 15 = .ok (.aload_n 2, 1) := by decide +kernel
theorem dX8_planPieces_16 : decode cX8_planPieces 16 = .ok (.arraylength, 1) := by decide +kernel
theorem dX8_planPieces_17 : decode cX8_planPieces 17 = .ok (.if_icmp .ge 36, 3) := by decide +kernel
theorem dX8_planPieces_20 : decode cX8_planPieces 20 = .ok (.aload_n 0, 1) := by decide +kernel
theorem dX8_planPieces_21 : decode cX8_planPieces 21 = .ok (.aload_n 1, 1) := by decide +kernel
theorem dX8_planPieces_22 : decode cX8_planPieces 22 = .ok (.iload_n 3, 1) := by decide +kernel
theorem dX8_planPieces_23 : decode cX8_planPieces 23 = .ok (.invokevirtual 24, 3) := by decide +kernel
theorem dX8_planPieces_26 : decode cX8_planPieces 26 = .ok (.istore 5, 2) := by decide +kernel
theorem dX8_planPieces_28 : decode cX8_planPieces 28 = .ok (.iload 5, 2) := by decide +kernel
theorem dX8_planPieces_30 : decode cX8_planPieces 30 = .ok (.iload_n 3, 1) := by decide +kernel
theorem dX8_planPieces_31 : decode cX8_planPieces 31 = .ok (.if_icmp .ge 5, 3) := by decide +kernel
theorem dX8_planPieces_34 : decode cX8_planPieces 34 = .ok (.iconst 0, 1) := by decide +kernel
theorem dX8_planPieces_35 : decode cX8_planPieces 35 = .ok (.ireturn, 1) := by decide +kernel
theorem dX8_planPieces_36 : decode cX8_planPieces 36 = .ok (.aload_n 2, 1) := by decide +kernel
theorem dX8_planPieces_37 : decode cX8_planPieces 37 = .ok (.iload 4, 2) := by decide +kernel
theorem dX8_planPieces_39 : decode cX8_planPieces 39 = .ok (.iload 5, 2) := by decide +kernel
theorem dX8_planPieces_41 : decode cX8_planPieces 41 = .ok (.iastore, 1) := by decide +kernel
theorem dX8_planPieces_42 : decode cX8_planPieces 42 = .ok (.iinc 4 1, 3) := by decide +kernel
theorem dX8_planPieces_45 : decode cX8_planPieces 45 = .ok (.iload 5, 2) := by decide +kernel
theorem dX8_planPieces_47 : decode cX8_planPieces 47 = .ok (.iconst 1, 1) := by decide +kernel
theorem dX8_planPieces_48 : decode cX8_planPieces 48 = .ok (.iadd, 1) := by decide +kernel
theorem dX8_planPieces_49 : decode cX8_planPieces 49 = .ok (.istore_n 3, 1) := by decide +kernel
theorem dX8_planPieces_50 : decode cX8_planPieces 50 = .ok (.goto (-45), 3) := by decide +kernel
theorem dX8_planPieces_53 : decode cX8_planPieces 53 = .ok (.iload 4, 2) := by decide +kernel
theorem dX8_planPieces_55 : decode cX8_planPieces 55 = .ok (.ireturn, 1) := by decide +kernel
theorem dX8_endOfLongest_0 : decode cX8_endOfLongest 0 = .ok (.iconst (-1), 1) := by decide +kernel
theorem dX8_endOfLongest_1 : decode cX8_endOfLongest 1 = .ok (.istore_n 3, 1) := by decide +kernel
theorem dX8_endOfLongest_2 : decode cX8_endOfLongest 2 = .ok (.iconst 0, 1) := by decide +kernel
theorem dX8_endOfLongest_3 : decode cX8_endOfLongest 3 = .ok (.istore 4, 2) := by decide +kernel
theorem dX8_endOfLongest_5 : decode cX8_endOfLongest 5 = .ok (.aload_n 1, 1) := by decide +kernel
theorem dX8_endOfLongest_6 : decode cX8_endOfLongest 6 = .ok (.iload_n 2, 1) := by decide +kernel
theorem dX8_endOfLongest_7 : decode cX8_endOfLongest 7 = .ok (.invokevirtual 28, 3) := by decide +kernel
theorem dX8_endOfLongest_10 : decode cX8_endOfLongest 10 = .ok (.astore 5, 2) := by decide +kernel
theorem dX8_endOfLongest_12 : decode cX8_endOfLongest 12 = .ok (.aconst_null, 1) := by decide +kernel
theorem dX8_endOfLongest_13 : decode cX8_endOfLongest 13 = .ok (.astore 6, 2) := by decide +kernel
theorem dX8_endOfLongest_15 : decode cX8_endOfLongest 15 = .ok (.iload_n 2, 1) := by decide +kernel
theorem dX8_endOfLongest_16 : decode cX8_endOfLongest 16 = .ok (.istore 7, 2) := by decide +kernel
theorem dX8_endOfLongest_18 : decode cX8_endOfLongest 18 = .ok (.iload 7, 2) := by decide +kernel
theorem dX8_endOfLongest_20 : decode cX8_endOfLongest 20 = .ok (.aload_n 1, 1) := by decide +kernel
theorem dX8_endOfLongest_21 : decode cX8_endOfLongest 21 = .ok (.invokevirtual 18, 3) := by decide +kernel
theorem dX8_endOfLongest_24 : decode cX8_endOfLongest 24 = .ok (.if_icmp .ge 141, 3) := by decide +kernel
theorem dX8_endOfLongest_27 : decode cX8_endOfLongest 27 = .ok (.aload 5, 2) := by decide +kernel
theorem dX8_endOfLongest_29 : decode cX8_endOfLongest 29 = .ok (.ifnull 136, 3) := by decide +kernel
theorem dX8_endOfLongest_32 : decode cX8_endOfLongest 32 = .ok (.aload_n 1, 1) := by decide +kernel
theorem dX8_endOfLongest_33 : decode cX8_endOfLongest 33 = .ok (.getfield 32, 3) := by decide +kernel
theorem dX8_endOfLongest_36 : decode cX8_endOfLongest 36 = .ok (.iload 7, 2) := by decide +kernel
theorem dX8_endOfLongest_38 : decode cX8_endOfLongest 38 = .ok (.invokevirtual 36, 3) := by decide +kernel
theorem dX8_endOfLongest_41 : decode cX8_endOfLongest 41 = .ok (.checkcast 41, 3) := by decide +kernel
theorem dX8_endOfLongest_44 : decode cX8_endOfLongest 44 = .ok (.astore 8, 2) := by decide +kernel
theorem dX8_endOfLongest_46 : decode cX8_endOfLongest 46 = .ok (.aload 6, 2) := by decide +kernel
theorem dX8_endOfLongest_48 : decode cX8_endOfLongest 48 = .ok (.ifnull 42, 3) := by decide +kernel
theorem dX8_endOfLongest_51 : decode cX8_endOfLongest 51 = .ok (.iload 4, 2) := by decide +kernel
theorem dX8_endOfLongest_53 : decode cX8_endOfLongest 53 = .ok (.aload 6, 2) := by decide +kernel
theorem dX8_endOfLongest_55 : decode cX8_endOfLongest 55 = .ok (.aload 8, 2) := by decide +kernel
theorem dX8_endOfLongest_57 : decode cX8_endOfLongest 57 = .ok (.invokevirtual 43, 3) := by decide +kernel
theorem dX8_endOfLongest_60 : decode cX8_endOfLongest 60 = .ok (.iadd, 1) := by decide +kernel
theorem dX8_endOfLongest_61 : decode cX8_endOfLongest 61 = .ok (.istore 4, 2) := by decide +kernel
theorem dX8_endOfLongest_63 : decode cX8_endOfLongest 63 = .ok (.iload 4, 2) := by decide +kernel
theorem dX8_endOfLongest_65 : decode cX8_endOfLongest 65 = .ok (.aload_n 0, 1) := by decide +kernel
theorem dX8_endOfLongest_66 : decode cX8_endOfLongest 66 = .ok (.getfield 15, 3) := by decide +kernel
theorem dX8_endOfLongest_69 : decode cX8_endOfLongest 69 = .ok (.if_icmp .le 6, 3) := by decide +kernel
theorem dX8_endOfLongest_72 : decode cX8_endOfLongest 72 = .ok (.goto 93, 3) := by decide +kernel
theorem dX8_endOfLongest_75 : decode cX8_endOfLongest 75 = .ok (.aload 8, 2) := by decide +kernel
theorem dX8_endOfLongest_77 : decode cX8_endOfLongest 77 = .ok (.aload 6, 2) := by decide +kernel
theorem dX8_endOfLongest_79 : decode cX8_endOfLongest 79 = .ok (.invokevirtual 47, 3) := by decide +kernel
theorem dX8_endOfLongest_82 : decode cX8_endOfLongest 82 = .ok (.bipush 20, 2) := by decide +kernel
theorem dX8_endOfLongest_84 : decode cX8_endOfLongest 84 = .ok (.if_icmp .lt 6, 3) := by decide +kernel
theorem dX8_endOfLongest_87 : decode cX8_endOfLongest 87 = .ok (.iconst 0, 1) := by decide +kernel
theorem dX8_endOfLongest_88 : decode cX8_endOfLongest 88 = .ok (.istore 4, 2) := by decide +kernel
theorem dX8_endOfLongest_90 : decode cX8_endOfLongest 90 = .ok (.iload 4, 2) := by decide +kernel
theorem dX8_endOfLongest_92 : decode cX8_endOfLongest 92 = .ok (.aload 8, 2) := by decide +kernel
theorem dX8_endOfLongest_94 : decode cX8_endOfLongest 94 = .ok (.getfield 50, 3) := by decide +kernel
theorem dX8_endOfLongest_97 : decode cX8_endOfLongest 97 = .ok (.iadd, 1) := by decide +kernel
theorem dX8_endOfLongest_98 : decode cX8_endOfLongest 98 = .ok (.istore 4, 2) := by decide +kernel
theorem dX8_endOfLongest_100 : decode cX8_endOfLongest 100 = .ok (.iload 4, 2) := by decide +kernel
theorem dX8_endOfLongest_102 : decode cX8_endOfLongest 102 = .ok (.aload_n 0, 1) := by decide +kernel
theorem dX8_endOfLongest_103 : decode cX8_endOfLongest 103 = .ok (.getfield 15, 3) := by decide +kernel
theorem dX8_endOfLongest_106 : decode cX8_endOfLongest 106 = .ok (.if_icmp .gt 59, 3) := by decide +kernel
theorem dX8_endOfLongest_109 : decode cX8_endOfLongest 109 = .ok (.aload 8, 2) := by decide +kernel
theorem dX8_endOfLongest_111 : decode cX8_endOfLongest 111 = .ok (.invokevirtual 53, 3) := by decide +kernel
theorem dX8_endOfLongest_114 : decode cX8_endOfLongest 114 = .ok (.aload 5, 2) := by decide +kernel
theorem dX8_endOfLongest_116 : decode cX8_endOfLongest 116 = .ok (.getfield 56, 3) := by decide +kernel
theorem dX8_endOfLongest_119 : decode cX8_endOfLongest 119 = .ok (.isub, 1) := by decide +kernel
theorem dX8_endOfLongest_120 : decode cX8_endOfLongest 120 = .ok (.aload_n 0, 1) := by decide +kernel
theorem dX8_endOfLongest_121 : decode cX8_endOfLongest 121 = .ok (.getfield 9, 3) := by decide +kernel
theorem dX8_endOfLongest_124 : decode cX8_endOfLongest 124 = .ok (.if_icmp .le 6, 3) := by decide +kernel
theorem dX8_endOfLongest_127 : decode cX8_endOfLongest 127 = .ok (.goto 38, 3) := by decide +kernel
theorem dX8_endOfLongest_130 : decode cX8_endOfLongest 130 = .ok (.aload 8, 2) := by decide +kernel
theorem dX8_endOfLongest_132 : decode cX8_endOfLongest 132 = .ok (.getfield 59, 3) := by decide +kernel
theorem dX8_endOfLongest_135 : decode cX8_endOfLongest 135 = .ok (.getfield 63, 3) := by decide +kernel
theorem dX8_endOfLongest_138 : decode cX8_endOfLongest 138 = .ok (.ifCond .ne 14, 3) := by decide +kernel
theorem dX8_endOfLongest_141 : decode cX8_endOfLongest 141 = .ok (.iload 7, 2) := by decide +kernel
theorem dX8_endOfLongest_143 : decode cX8_endOfLongest 143 = .ok (.aload_n 1, 1) := by decide +kernel
theorem dX8_endOfLongest_144 : decode cX8_endOfLongest 144 = .ok (.invokevirtual 18, 3) := by decide +kernel
theorem dX8_endOfLongest_147 : decode cX8_endOfLongest 147 = .ok (.iconst 1, 1) := by decide +kernel
theorem dX8_endOfLongest_148 : decode cX8_endOfLongest 148 = .ok (.isub, 1) := by decide +kernel
theorem dX8_endOfLongest_149 : decode cX8_endOfLongest 149 = .ok (.if_icmp .ne 6, 3) := by decide +kernel
theorem dX8_endOfLongest_152 : decode cX8_endOfLongest 152 = .ok (.iload 7, 2) := by decide +kernel
theorem dX8_endOfLongest_154 : decode cX8_endOfLongest 154 = .ok (.istore_n 3, 1) := by decide +kernel
theorem dX8_endOfLongest_155 : decode cX8_endOfLongest 155 = .ok (.aload 8, 2) := by decide +kernel
theorem dX8_endOfLongest_157 : decode cX8_endOfLongest 157 = .ok (.astore 6, 2) := by decide +kernel
theorem dX8_endOfLongest_159 : decode cX8_endOfLongest 159 = .ok (.iinc 7 1, 3) := by decide +kernel
theorem dX8_endOfLongest_162 : decode cX8_endOfLongest 162 = .ok (.goto (-144), 3) := by decide +kernel
theorem dX8_endOfLongest_165 : decode cX8_endOfLongest 165 = .ok (.iload_n 3, 1) := by decide +kernel
theorem dX8_endOfLongest_166 : decode cX8_endOfLongest 166 = .ok (.ireturn, 1) := by decide +kernel
theorem dX9_init_0 : decode cX9_init 0 = .ok (.aload_n 0, 1) := by decide +kernel
theorem dX9_init_1 : decode cX9_init 1 = .ok (.invokespecial 1, 3) := by decide +kernel
theorem dX9_init_4 : decode cX9_init 4 = .ok (.aload_n 0, 1) := by decide +kernel
theorem dX9_init_5 : decode cX9_init 5 = .ok (.new 7, 3) := by decide +kernel
theorem dX9_init_8 : decode cX9_init 8 = .ok (.dup, 1) := by decide +kernel
theorem dX9_init_9 : decode cX9_init 9 = .ok (.invokespecial 9, 3) := by decide +kernel
theorem dX9_init_12 : decode cX9_init 12 = .ok (.putfield 10, 3) := by decide +kernel
theorem dX9_init_15 : decode cX9_init 15 = .ok (.aload_n 0, 1) := by decide +kernel
theorem dX9_init_16 : decode cX9_init 16 = .ok (.new 7, 3) := by decide +kernel
theorem dX9_init_19 : decode cX9_init 19 = .ok (.dup, 1) := by decide +kernel
theorem dX9_init_20 : decode cX9_init 20 = .ok (.invokespecial 9, 3) := by decide +kernel
theorem dX9_init_23 : decode cX9_init 23 = .ok (.putfield 16, 3) := by decide +kernel
theorem dX9_init_26 : decode cX9_init 26 = .ok (.aload_n 0, 1) := by decide +kernel
theorem dX9_init_27 : decode cX9_init 27 = .ok (.new 7, 3) := by decide +kernel
theorem dX9_init_30 : decode cX9_init 30 = .ok (.dup, 1) := by decide +kernel
theorem dX9_init_31 : decode cX9_init 31 = .ok (.invokespecial 9, 3) := by decide +kernel
theorem dX9_init_34 : decode cX9_init 34 = .ok (.putfield 19, 3) := by decide +kernel
theorem dX9_init_37 : decode cX9_init 37 = .ok (.aload_n 0, 1) := by decide +kernel
theorem dX9_init_38 : decode cX9_init 38 = .ok (.new 7, 3) := by decide +kernel
