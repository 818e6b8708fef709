theorem dX0_init_0 : decode cX0_init 0 = .ok (.aload_n 0, 1) := by decide +kernel
theorem dX0_init_1 : decode cX0_init 1 = .ok (.invokespecial 1, 3) := by decide +kernel
theorem dX0_init_4 : decode cX0_init 4 = .ok (.aload_n 0, 1) := by decide +kernel
theorem dX0_init_5 : decode cX0_init 5 = .ok (.new 7, 3) := by decide +kernel
theorem dX0_init_8 : decode cX0_init 8 = .ok (.dup, 1) := by decide +kernel
theorem dX0_init_9 : decode cX0_init 9 = .ok (.invokespecial 9, 3) := by decide +kernel
theorem dX0_init_12 : decode cX0_init 12 = .ok (.putfield 10, 3) := by decide +kernel
theorem dX0_init_15 : decode cX0_init 15 = .ok (.aload_n 0, 1) := by decide +kernel
theorem dX0_init_16 : decode cX0_init 16 = .ok (.new 7, 3) := by decide +kernel
theorem dX0_init_19 : decode cX0_init 19 = .ok (.dup, 1) := by decide +kernel
theorem dX0_init_20 : decode cX0_init 20 = .ok (.invokespecial 9, 3) := by decide +kernel
theorem dX0_init_23 : decode cX0_init 23 = .ok (.putfield 16, 3) := by decide +kernel
theorem dX0_init_26 : decode cX0_init 26 = .ok (.aload_n 0, 1) := by decide +kernel
theorem dX0_init_27 : decode cX0_init 27 = .ok (.iload_n 1, 1) := by decide +kernel
theorem dX0_init_28 : decode cX0_init 28 = .ok (.putfield 19, 3) := by decide +kernel
theorem dX0_init_31 : decode cX0_init 31 = .ok (.aload_n 0, 1) := by decide +kernel
theorem dX0_init_32 : decode cX0_init 32 = .ok (.iload_n 2, 1) := by decide +kernel
theorem dX0_init_33 : decode cX0_init 33 = .ok (.putfield 23, 3) := by decide +kernel
theorem dX0_init_36 : decode cX0_init 36 = .ok (.aload_n 0, 1) := by decide +kernel
theorem dX0_init_37 : decode cX0_init 37 = .ok (.iload_n 3, 1) := by decide +kernel
theorem dX0_init_38 : decode cX0_init 38 = .ok (.putfield 26, 3) := by decide +kernel
theorem dX0_init_41 : decode cX0_init 41 = .ok (.return_, 1) := by decide +kernel
theorem dX0_insertDefect_0 : decode cX0_insertDefect 0 = .ok (.iconst 0, 1) := by decide +kernel
theorem dX0_insertDefect_1 : decode cX0_insertDefect 1 = .ok (.istore_n 2, 1) := by decide +kernel
theorem dX0_insertDefect_2 : decode cX0_insertDefect 2 = .ok (.iload_n 2, 1) := by decide +kernel
theorem dX0_insertDefect_3 : decode cX0_insertDefect 3 = .ok (.aload_n 0, 1) := by decide +kernel
theorem dX0_insertDefect_4 : decode cX0_insertDefect 4 = .ok (.getfield 10, 3) := by decide +kernel
theorem dX0_insertDefect_7 : decode cX0_insertDefect 7 = .ok (.invokevirtual 29, 3) := by decide +kernel
theorem dX0_insertDefect_10 : decode cX0_insertDefect 10 = .ok (.if_icmp .ge 30, 3) := by decide +kernel
theorem dX0_insertDefect_13 : decode cX0_insertDefect 13 = .ok (.aload_n 0, 1) := by decide +kernel
theorem dX0_insertDefect_14 : decode cX0_insertDefect 14 = .ok (.getfield 10, 3) := by decide +kernel
theorem dX0_insertDefect_17 : decode cX0_insertDefect 17 = .ok (.iload_n 2, 1) := by decide +kernel
theorem dX0_insertDefect_18 : decode cX0_insertDefect 18 = .ok (.invokevirtual 33, 3) := by decide +kernel
theorem dX0_insertDefect_21 : decode cX0_insertDefect 21 = .ok (.checkcast 37, 3) := by decide +kernel
theorem dX0_insertDefect_24 : decode cX0_insertDefect 24 = .ok (.getfield 39, 3) := by decide +kernel
theorem dX0_insertDefect_27 : decode cX0_insertDefect 27 = .ok (.aload_n 1, 1) := by decide +kernel
theorem dX0_insertDefect_28 : decode cX0_insertDefect 28 = .ok (.getfield 39, 3) := by decide +kernel
theorem dX0_insertDefect_31 : decode cX0_insertDefect 31 = .ok (.if_icmp .gt 9, 3) := by decide +kernel
theorem dX0_insertDefect_34 : decode cX0_insertDefect 34 = .ok (.iinc 2 1, 3) := by decide +kernel
theorem dX0_insertDefect_37 : decode cX0_insertDefect 37 = .ok (.goto (-35), 3) := by decide +kernel
theorem dX0_insertDefect_40 : decode cX0_insertDefect 40 = .ok (.aload_n 0, 1) := by decide +kernel
theorem dX0_insertDefect_41 : decode cX0_insertDefect 41 = .ok (.getfield 10, 3) := by decide +kernel
theorem dX0_insertDefect_44 : decode cX0_insertDefect 44 = .ok (.iload_n 2, 1) := by decide +kernel
theorem dX0_insertDefect_45 : decode cX0_insertDefect 45 = .ok (.aload_n 1, 1) := by decide +kernel
theorem dX0_insertDefect_46 : decode cX0_insertDefect 46 = .ok (.invokevirtual 42, 3) := by decide +kernel
theorem dX0_insertDefect_49 : decode cX0_insertDefect 49 = .ok (.return_, 1) := by decide +kernel
theorem dX0_insertPiece_0 : decode cX0_insertPiece 0 = .ok (.iconst 0, 1) := by decide +kernel
theorem dX0_insertPiece_1 : decode cX0_insertPiece 1 = .ok (.istore_n 2, 1) := by decide +kernel
theorem dX0_insertPiece_2 : decode cX0_insertPiece 2 = .ok (.iload_n 2, 1) := by decide +kernel
theorem dX0_insertPiece_3 : decode cX0_insertPiece 3 = .ok (.aload_n 0, 1) := by decide +kernel
theorem dX0_insertPiece_4 : decode cX0_insertPiece 4 = .ok (.getfield 16, 3) := by decide +kernel
theorem dX0_insertPiece_7 : decode cX0_insertPiece 7 = .ok (.invokevirtual 29, 3) := by decide +kernel
theorem dX0_insertPiece_10 : decode cX0_insertPiece 10 = .ok (.if_icmp .ge 30, 3) := by decide +kernel
theorem dX0_insertPiece_13 : decode cX0_insertPiece 13 = .ok (.aload_n 0, 1) := by decide +kernel
theorem dX0_insertPiece_14 : decode cX0_insertPiece 14 = .ok (.getfield 16, 3) := by decide +kernel
theorem dX0_insertPiece_17 : decode cX0_insertPiece 17 = .ok (.iload_n 2, 1) := by decide +kernel
theorem dX0_insertPiece_18 : decode cX0_insertPiece 18 = .ok (.invokevirtual 33, 3) := by decide +kernel
theorem dX0_insertPiece_21 : decode cX0_insertPiece 21 = .ok (.checkcast 46, 3) := by decide +kernel
theorem dX0_insertPiece_24 : decode cX0_insertPiece 24 = .ok (.getfield 48, 3) := by decide +kernel
theorem dX0_insertPiece_27 : decode cX0_insertPiece 27 = .ok (.aload_n 1, 1) := by decide +kernel
theorem dX0_insertPiece_28 : decode cX0_insertPiece 28 = .ok (.getfield 48, 3) := by decide +kernel
theorem dX0_insertPiece_31 : decode cX0_insertPiece 31 = .ok (.if_icmp .ge 9, 3) := by decide +kernel
theorem dX0_insertPiece_34 : decode cX0_insertPiece 34 = .ok (.iinc 2 1, 3) := by decide +kernel
theorem dX0_insertPiece_37 : decode cX0_insertPiece 37 = .ok (.goto (-35), 3) := by decide +kernel
theorem dX0_insertPiece_40 : decode cX0_insertPiece 40 = .ok (.aload_n 0, 1) := by decide +kernel
theorem dX0_insertPiece_41 : decode cX0_insertPiece 41 = .ok (.getfield 16, 3) := by decide +kernel
theorem dX0_insertPiece_44 : decode cX0_insertPiece 44 = .ok (.iload_n 2, 1) := by decide +kernel
theorem dX0_insertPiece_45 : decode cX0_insertPiece 45 = .ok (.aload_n 1, 1) := by decide +kernel
theorem dX0_insertPiece_46 : decode cX0_insertPiece 46 = .ok (.invokevirtual 42, 3) := by decide +kernel
theorem dX0_insertPiece_49 : decode cX0_insertPiece 49 = .ok (.return_, 1) := by decide +kernel
theorem dX0_removePiece_0 : decode cX0_removePiece 0 = .ok (.iconst 0, 1) := by decide +kernel
theorem dX0_removePiece_1 : decode cX0_removePiece 1 = .ok (.istore_n 2, 1) := by decide +kernel
theorem dX0_removePiece_2 : decode cX0_removePiece 2 = .ok (.iload_n 2, 1) := by decide +kernel
theorem dX0_removePiece_3 : decode cX0_removePiece 3 = .ok (.aload_n 0, 1) := by decide +kernel
theorem dX0_removePiece_4 : decode cX0_removePiece 4 = .ok (.getfield 16, 3) := by decide +kernel
theorem dX0_removePiece_7 : decode cX0_removePiece 7 = .ok (.invokevirtual 29, 3) := by decide +kernel
theorem dX0_removePiece_10 : decode cX0_removePiece 10 = .ok (.if_icmp .ge 31, 3) := by decide +kernel
theorem dX0_removePiece_13 : decode cX0_removePiece 13 = .ok (.aload_n 0, 1) := by decide +kernel
theorem dX0_removePiece_14 : decode cX0_removePiece 14 = .ok (.getfield 16, 3) := by decide +kernel
theorem dX0_removePiece_17 : decode cX0_removePiece 17 = .ok (.iload_n 2, 1) := by decide +kernel
theorem dX0_removePiece_18 : decode cX0_removePiece 18 = .ok (.invokevirtual 33, 3) := by decide +kernel
theorem dX0_removePiece_21 : decode cX0_removePiece 21 = .ok (.aload_n 1, 1) := by decide +kernel
theorem dX0_removePiece_22 : decode cX0_removePiece 22 = .ok (.if_acmp .ne 13, 3) := by decide +kernel
theorem dX0_removePiece_25 : decode cX0_removePiece 25 = .ok (.aload_n 0, 1) := by decide +kernel
theorem dX0_removePiece_26 : decode cX0_removePiece 26 = .ok (.getfield 16, 3) := by decide +kernel
theorem dX0_removePiece_29 : decode cX0_removePiece 29 = .ok (.iload_n 2, 1) := by decide +kernel
theorem dX0_removePiece_30 : decode cX0_removePiece 30 = .ok (.invokevirtual 49, 3) := by decide +kernel
theorem dX0_removePiece_33 : decode cX0_removePiece 33 = .ok (.pop, 1) := by decide +kernel
theorem dX0_removePiece_34 : decode cX0_removePiece 34 = .ok (.return_, 1) := by decide +kernel
theorem dX0_removePiece_35 : decode cX0_removePiece 35 = .ok (.iinc 2 1, 3) := by decide +kernel
theorem dX0_removePiece_38 : decode cX0_removePiece 38 = .ok (.goto (-36), 3) := by decide +kernel
theorem dX0_removePiece_41 : decode cX0_removePiece 41 = .ok (.return_, 1) := by decide +kernel
theorem dX0_hasPieceSpoiledBy_0 : decode cX0_hasPieceSpoiledBy 0 = .ok (.iconst 0, 1) := by decide +kernel
theorem dX0_hasPieceSpoiledBy_1 : decode cX0_hasPieceSpoiledBy 1 = .ok (.istore 4, 2) := by decide +kernel
theorem dX0_hasPieceSpoiledBy_3 : decode cX0_hasPieceSpoiledBy 3 = .ok (.iload 4, 2) := by decide +kernel
theorem dX0_hasPieceSpoiledBy_5 : decode cX0_hasPieceSpoiledBy 5 = .ok (.aload_n 0, 1) := by decide +kernel
theorem dX0_hasPieceSpoiledBy_6 : decode cX0_hasPieceSpoiledBy 6 = .ok (.getfield 16, 3) := by decide +kernel
theorem dX0_hasPieceSpoiledBy_9 : decode cX0_hasPieceSpoiledBy 9 = .ok (.invokevirtual 29, 3) := by decide +kernel
theorem dX0_hasPieceSpoiledBy_12 : decode cX0_hasPieceSpoiledBy 12 = .ok (.if_icmp .ge 55, 3) := by decide +kernel
theorem dX0_hasPieceSpoiledBy_15 : decode cX0_hasPieceSpoiledBy 15 = .ok (.aload_n 0, 1) := by decide +kernel
theorem dX0_hasPieceSpoiledBy_16 : decode cX0_hasPieceSpoiledBy 16 = .ok (.getfield 16, 3) := by decide +kernel
theorem dX0_hasPieceSpoiledBy_19 : decode cX0_hasPieceSpoiledBy 19 = .ok (.iload 4, 2) := by decide +kernel
theorem dX0_hasPieceSpoiledBy_21 : decode cX0_hasPieceSpoiledBy 21 = .ok (.invokevirtual 33, 3) := by decide +kernel
theorem dX0_hasPieceSpoiledBy_24 : decode cX0_hasPieceSpoiledBy 24 = .ok (.checkcast 46, 3) := by decide +kernel
theorem dX0_hasPieceSpoiledBy_27 : decode cX0_hasPieceSpoiledBy 27 = .ok (.astore 5, 2) := by decide +kernel
theorem dX0_hasPieceSpoiledBy_29 : decode cX0_hasPieceSpoiledBy 29 = .ok (.aload 5, 2) := by decide +kernel
theorem dX0_hasPieceSpoiledBy_31 : decode cX0_hasPieceSpoiledBy 31 = .ok (.getfield 48, 3) := by decide +kernel
theorem dX0_hasPieceSpoiledBy_34 : decode cX0_hasPieceSpoiledBy 34 = .ok (.iload_n 2, 1) := by decide +kernel
theorem dX0_hasPieceSpoiledBy_35 : decode cX0_hasPieceSpoiledBy 35 = .ok (.if_icmp .ge 26, 3) := by decide +kernel
theorem dX0_hasPieceSpoiledBy_38 : decode cX0_hasPieceSpoiledBy 38 = .ok (.iload_n 1, 1) := by decide +kernel
theorem dX0_hasPieceSpoiledBy_39 : decode cX0_hasPieceSpoiledBy 39 = .ok (.aload 5, 2) := by decide +kernel
theorem dX0_hasPieceSpoiledBy_41 : decode cX0_hasPieceSpoiledBy 41 = .ok (.getfield 52, 3) := by decide +kernel
theorem dX0_hasPieceSpoiledBy_44 : decode cX0_hasPieceSpoiledBy 44 = .ok (.if_icmp .ge 17, 3) := by decide +kernel
theorem dX0_hasPieceSpoiledBy_47 : decode cX0_hasPieceSpoiledBy 47 = .ok (.iload_n 3, 1) := by decide +kernel
theorem dX0_hasPieceSpoiledBy_48 : decode cX0_hasPieceSpoiledBy 48 = .ok (.aload 5, 2) := by decide +kernel
theorem dX0_hasPieceSpoiledBy_50 : decode cX0_hasPieceSpoiledBy 50 = .ok (.getfield 55, 3) := by decide +kernel
theorem dX0_hasPieceSpoiledBy_53 : decode cX0_hasPieceSpoiledBy 53 = .ok (.getfield 59, 3) := by decide +kernel
theorem dX0_hasPieceSpoiledBy_56 : decode cX0_hasPieceSpoiledBy 56 = .ok (.if_icmp .le 5, 3) := by decide +kernel
theorem dX0_hasPieceSpoiledBy_59 : decode cX0_hasPieceSpoiledBy 59 = .ok (.iconst 1, 1) := by decide +kernel
theorem dX0_hasPieceSpoiledBy_60 : decode cX0_hasPieceSpoiledBy 60 = .ok (.ireturn, 1) := by decide +kernel
theorem dX0_hasPieceSpoiledBy_61 : decode cX0_hasPieceSpoiledBy 61 = .ok (.iinc 4 1, 3) := by decide +kernel
theorem dX0_hasPieceSpoiledBy_64 : decode cX0_hasPieceSpoiledBy 64 = .ok (.goto (-61), 3) := by decide +kernel
theorem dX0_hasPieceSpoiledBy_67 : decode cX0_hasPieceSpoiledBy 67 = .ok (.iconst 0, 1) := by decide +kernel
theorem dX0_hasPieceSpoiledBy_68 : decode cX0_hasPieceSpoiledBy 68 = .ok (.ireturn, 1) := by decide +kernel
theorem dX0_gradeAt_0 : decode cX0_gradeAt 0 = .ok (.aload_n 0, 1) := by decide +kernel
theorem dX0_gradeAt_1 : decode cX0_gradeAt 1 = .ok (.getfield 26, 3) := by decide +kernel
theorem dX0_gradeAt_4 : decode cX0_gradeAt 4 = .ok (.istore_n 2, 1) := by decide +kernel
theorem dX0_gradeAt_5 : decode cX0_gradeAt 5 = .ok (.iconst 0, 1) := by decide +kernel
theorem dX0_gradeAt_6 : decode cX0_gradeAt 6 = .ok (.istore_n 3, 1) := by decide +kernel
theorem dX0_gradeAt_7 : decode cX0_gradeAt 7 = .ok (.iload_n 3, 1) := by decide +kernel
theorem dX0_gradeAt_8 : decode cX0_gradeAt 8 = .ok (.aload_n 0, 1) := by decide +kernel
theorem dX0_gradeAt_9 : decode cX0_gradeAt 9 = .ok (.getfield 10, 3) := by decide +kernel
theorem dX0_gradeAt_12 : decode cX0_gradeAt 12 = .ok (.invokevirtual 29, 3) := by decide +kernel
theorem dX0_gradeAt_15 : decode cX0_gradeAt 15 = .ok (.if_icmp .ge 50, 3) := by decide +kernel
theorem dX0_gradeAt_18 : decode cX0_gradeAt 18 = .ok (.aload_n 0, 1) := by decide +kernel
theorem dX0_gradeAt_19 : decode cX0_gradeAt 19 = .ok (.getfield 10, 3) := by decide +kernel
theorem dX0_gradeAt_22 : decode cX0_gradeAt 22 = .ok (.iload_n 3, 1) := by decide +kernel
theorem dX0_gradeAt_23 : decode cX0_gradeAt 23 = .ok (.invokevirtual 33, 3) := by decide +kernel
theorem dX0_gradeAt_26 : decode cX0_gradeAt 26 = .ok (.checkcast 37, 3) := by decide +kernel
theorem dX0_gradeAt_29 : decode cX0_gradeAt 29 = .ok (.astore 4, 2) := by decide +kernel
theorem dX0_gradeAt_31 : decode cX0_gradeAt 31 = .ok (.aload 4, 2) := by decide +kernel
theorem dX0_gradeAt_33 : decode cX0_gradeAt 33 = .ok (.getfield 39, 3) := by decide +kernel
theorem dX0_gradeAt_36 : decode cX0_gradeAt 36 = .ok (.iload_n 1, 1) := by decide +kernel
theorem dX0_gradeAt_37 : decode cX0_gradeAt 37 = .ok (.if_icmp .gt 22, 3) := by decide +kernel
theorem dX0_gradeAt_40 : decode cX0_gradeAt 40 = .ok (.iload_n 1, 1) := by decide +kernel
theorem dX0_gradeAt_41 : decode cX0_gradeAt 41 = .ok (.aload 4, 2) := by decide +kernel
theorem dX0_gradeAt_43 : decode cX0_gradeAt 43 = .ok (.getfield 62, 3) := by decide +kernel
theorem dX0_gradeAt_46 : decode cX0_gradeAt 46 = .ok (.if_icmp .ge 13, 3) := by decide +kernel
theorem dX0_gradeAt_49 : decode cX0_gradeAt 49 = .ok (.iload_n 2, 1) := by decide +kernel
theorem dX0_gradeAt_50 : decode cX0_gradeAt 50 = .ok (.aload 4, 2) := by decide +kernel
theorem dX0_gradeAt_52 : decode cX0_gradeAt 52 = .ok (.getfield 63, 3) := by decide +kernel
theorem dX0_gradeAt_55 : decode cX0_gradeAt 55 = .ok (.invokestatic 64, 3) := by decide +kernel
theorem dX0_gradeAt_58 : decode cX0_gradeAt 58 = .ok (.istore_n 2, 1) := by decide +kernel
theorem dX0_gradeAt_59 : decode cX0_gradeAt 59 = .ok (.iinc 3 1, 3) := by decide +kernel
theorem dX0_gradeAt_62 : decode cX0_gradeAt 62 = .ok (.goto (-55), 3) := by decide +kernel
theorem dX0_gradeAt_65 : decode cX0_gradeAt 65 = .ok (.iload_n 2, 1) := by decide +kernel
theorem dX0_gradeAt_66 : decode cX0_gradeAt 66 = .ok (.ireturn, 1) := by decide +kernel
theorem dX0_firstWorse_0 : decode cX0_firstWorse 0 = .ok (.aload_n 0, 1) := by decide +kernel
theorem dX0_firstWorse_1 : decode cX0_firstWorse 1 = .ok (.getfield 26, 3) := by decide +kernel
theorem dX0_firstWorse_4 : decode cX0_firstWorse 4 = .ok (.iload_n 2, 1) := by decide +kernel
theorem dX0_firstWorse_5 : decode cX0_firstWorse 5 = .ok (.if_icmp .le 5, 3) := by decide +kernel
theorem dX0_firstWorse_8 : decode cX0_firstWorse 8 = .ok (.iload_n 1, 1) := by decide +kernel
theorem dX0_firstWorse_9 : decode cX0_firstWorse 9 = .ok (.ireturn, 1) := by decide +kernel
theorem dX0_firstWorse_10 : decode cX0_firstWorse 10 = .ok (.iconst 0, 1) := by decide +kernel
theorem dX0_firstWorse_11 : decode cX0_firstWorse 11 = .ok (.istore_n 3, 1) := by decide +kernel
theorem dX0_firstWorse_12 : decode cX0_firstWorse 12 = .ok (.iload_n 3, 1) := by decide +kernel
theorem dX0_firstWorse_13 : decode cX0_firstWorse 13 = .ok (.aload_n 0, 1) := by decide +kernel
theorem dX0_firstWorse_14 : decode cX0_firstWorse 14 = .ok (.getfield 10, 3) := by decide +kernel
theorem dX0_firstWorse_17 : decode cX0_firstWorse 17 = .ok (.invokevirtual 29, 3) := by decide +kernel
theorem dX0_firstWorse_20 : decode cX0_firstWorse 20 = .ok (.if_icmp .ge 50, 3) := by decide +kernel
theorem dX0_firstWorse_23 : decode cX0_firstWorse 23 = .ok (.aload_n 0, 1) := by decide +kernel
theorem dX0_firstWorse_24 : decode cX0_firstWorse 24 = .ok (.getfield 10, 3) := by decide +kernel
theorem dX0_firstWorse_27 : decode cX0_firstWorse 27 = .ok (.iload_n 3, 1) := by decide +kernel
theorem dX0_firstWorse_28 : decode cX0_firstWorse 28 = .ok (.invokevirtual 33, 3) := by decide +kernel
theorem dX0_firstWorse_31 : decode cX0_firstWorse 31 = .ok (.checkcast 37, 3) := by decide +kernel
theorem dX0_firstWorse_34 : decode cX0_firstWorse 34 = .ok (.astore 4, 2) := by decide +kernel
theorem dX0_firstWorse_36 : decode cX0_firstWorse 36 = .ok (.aload 4, 2) := by decide +kernel
theorem dX0_firstWorse_38 : decode cX0_firstWorse 38 = .ok (.getfield 63, 3) := by decide +kernel
theorem dX0_firstWorse_41 : decode cX0_firstWorse 41 = .ok (.iload_n 2, 1) := by decide +kernel
theorem dX0_firstWorse_42 : decode cX0_firstWorse 42 = .ok (.if_icmp .le 22, 3) := by decide +kernel
theorem dX0_firstWorse_45 : decode cX0_firstWorse 45 = .ok (.aload 4, 2) := by decide +kernel
theorem dX0_firstWorse_47 : decode cX0_firstWorse 47 = .ok (.getfield 62, 3) := by decide +kernel
theorem dX0_firstWorse_50 : decode cX0_firstWorse 50 = .ok (.iload_n 1, 1) := by decide +kernel
theorem dX0_firstWorse_51 : decode cX0_firstWorse 51 = .ok (.if_icmp .le 13, 3) := by decide +kernel
theorem dX0_firstWorse_54 : decode cX0_firstWorse 54 = .ok (.aload 4, 2) := by decide +kernel
theorem dX0_firstWorse_56 : decode cX0_firstWorse 56 = .ok (.getfield 39, 3) := by decide +kernel
theorem dX0_firstWorse_59 : decode cX0_firstWorse 59 = .ok (.iload_n 1, 1) := by decide +kernel
theorem dX0_firstWorse_60 : decode cX0_firstWorse 60 = .ok (.invokestatic 64, 3) := by decide +kernel
theorem dX0_firstWorse_63 : decode cX0_firstWorse 63 = .ok (.ireturn, 1) := by decide +kernel
theorem dX0_firstWorse_64 : decode cX0_firstWorse 64 = .ok (.iinc 3 1, 3) := by decide +kernel
theorem dX0_firstWorse_67 : decode cX0_firstWorse 67 = .ok (.goto (-55), 3) := by decide +kernel
theorem dX0_firstWorse_70 : decode cX0_firstWorse 70 = .ok (.aload_n 0, 1) := by decide +kernel
theorem dX0_firstWorse_71 : decode cX0_firstWorse 71 = .ok (.getfield 19, 3) := by decide +kernel
theorem dX0_firstWorse_74 : decode cX0_firstWorse 74 = .ok (.ireturn, 1) := by decide +kernel
theorem dX0_firstGood_0 : decode cX0_firstGood 0 = .ok (.aload_n 0, 1) := by decide +kernel
theorem dX0_firstGood_1 : decode cX0_firstGood 1 = .ok (.getfield 26, 3) := by decide +kernel
theorem dX0_firstGood_4 : decode cX0_firstGood 4 = .ok (.iload_n 2, 1) := by decide +kernel
theorem dX0_firstGood_5 : decode cX0_firstGood 5 = .ok (.if_icmp .le 8, 3) := by decide +kernel
theorem dX0_firstGood_8 : decode cX0_firstGood 8 = .ok (.aload_n 0, 1) := by decide +kernel
theorem dX0_firstGood_9 : decode cX0_firstGood 9 = .ok (.getfield 19, 3) := by decide +kernel
theorem dX0_firstGood_12 : decode cX0_firstGood 12 = .ok (.ireturn, 1) := by decide +kernel
theorem dX0_firstGood_13 : decode cX0_firstGood 13 = .ok (.iload_n 1, 1) := by decide +kernel
theorem dX0_firstGood_14 : decode cX0_firstGood 14 = .ok (.istore_n 3, 1) := by decide +kernel
theorem dX0_firstGood_15 : decode cX0_firstGood 15 = .ok (.iconst 0, 1) := by decide +kernel
theorem dX0_firstGood_16 : decode cX0_firstGood 16 = .ok (.istore 4, 2) := by decide +kernel
theorem dX0_firstGood_18 : decode cX0_firstGood 18 = .ok (.iload 4, 2) := by decide +kernel
theorem dX0_firstGood_20 : decode cX0_firstGood 20 = .ok (.aload_n 0, 1) := by decide +kernel
theorem dX0_firstGood_21 : decode cX0_firstGood 21 = .ok (.getfield 10, 3) := by decide +kernel
theorem dX0_firstGood_24 : decode cX0_firstGood 24 = .ok (.invokevirtual 29, 3) := by decide +kernel
theorem dX0_firstGood_27 : decode cX0_firstGood 27 = .ok (.if_icmp .ge 56, 3) := by decide +kernel
theorem dX0_firstGood_30 : decode cX0_firstGood 30 = .ok (.aload_n 0, 1) := by decide +kernel
theorem dX0_firstGood_31 : decode cX0_firstGood 31 = .ok (.getfield 10, 3) := by decide +kernel
theorem dX0_firstGood_34 : decode cX0_firstGood 34 = .ok (.iload 4, 2) := by decide +kernel
theorem dX0_firstGood_36 : decode cX0_firstGood 36 = .ok (.invokevirtual 33, 3) := by decide +kernel
theorem dX0_firstGood_39 : decode cX0_firstGood 39 = .ok (.checkcast 37, 3) := by decide +kernel
theorem dX0_firstGood_42 : decode cX0_firstGood 42 = .ok (.astore 5, 2) := by decide +kernel
theorem dX0_firstGood_44 : decode cX0_firstGood 44 = .ok (.aload 5, 2) := by decide +kernel
theorem dX0_firstGood_46 : decode cX0_firstGood 46 = .ok (.getfield 63, 3) := by decide +kernel
theorem dX0_firstGood_49 : decode cX0_firstGood 49 = .ok (.iload_n 2, 1) := by decide +kernel
theorem dX0_firstGood_50 : decode cX0_firstGood 50 = .ok (.if_icmp .le 27, 3) := by decide +kernel
theorem dX0_firstGood_53 : decode cX0_firstGood 53 = .ok (.aload 5, 2) := by decide +kernel
theorem dX0_firstGood_55 : decode cX0_firstGood 55 = .ok (.getfield 39, 3) := by decide +kernel
theorem dX0_firstGood_58 : decode cX0_firstGood 58 = .ok (.iload_n 3, 1) := by decide +kernel
theorem dX0_firstGood_59 : decode cX0_firstGood 59 = .ok (.if_icmp .gt 18, 3) := by decide +kernel
theorem dX0_firstGood_62 : decode cX0_firstGood 62 = .ok (.iload_n 3, 1) := by decide +kernel
theorem dX0_firstGood_63 : decode cX0_firstGood 63 = .ok (.aload 5, 2) := by decide +kernel
theorem dX0_firstGood_65 : decode cX0_firstGood 65 = .ok (.getfield 62, 3) := by decide +kernel
theorem dX0_firstGood_68 : decode cX0_firstGood 68 = .ok (.if_icmp .ge 9, 3) := by decide +kernel
theorem dX0_firstGood_71 : decode cX0_firstGood 71 = .ok (.aload 5, 2) := by decide +kernel
theorem dX0_firstGood_73 : decode cX0_firstGood 73 = .ok (.getfield 62, 3) := by decide +kernel
theorem dX0_firstGood_76 : decode cX0_firstGood 76 = .ok (.istore_n 3, 1) := by decide +kernel
theorem dX0_firstGood_77 : decode cX0_firstGood 77 = .ok (.iinc 4 1, 3) := by decide +kernel
theorem dX0_firstGood_80 : decode cX0_firstGood 80 = .ok (.goto (-62), 3) := by decide +kernel
theorem dX0_firstGood_83 : decode cX0_firstGood 83 = .ok (.iload_n 3, 1) := by decide +kernel
theorem dX0_firstGood_84 : decode cX0_firstGood 84 = .ok (.ireturn, 1) := by decide +kernel
theorem dX0_nextStretchStart_0 : decode cX0_nextStretchStart 0 = .ok (.aload_n 0, 1) := by decide +kernel
theorem dX0_nextStretchStart_1 : decode cX0_nextStretchStart 1 = .ok (.aload_n 0, 1) := by decide +kernel
theorem dX0_nextStretchStart_2 : decode cX0_nextStretchStart 2 = .ok (.iload_n 1, 1) := by decide +kernel
theorem dX0_nextStretchStart_3 : decode cX0_nextStretchStart 3 = .ok (.iload_n 2, 1) := by decide +kernel
theorem dX0_nextStretchStart_4 : decode cX0_nextStretchStart 4 = .ok (.invokevirtual 70, 3) := by decide +kernel
theorem dX0_nextStretchStart_7 : decode cX0_nextStretchStart 7 = .ok (.iload_n 2, 1) := by decide +kernel
theorem dX0_nextStretchStart_8 : decode cX0_nextStretchStart 8 = .ok (.invokevirtual 73, 3) := by decide +kernel
theorem dX0_nextStretchStart_11 : decode cX0_nextStretchStart 11 = .ok (.ireturn, 1) := by decide +kernel
theorem dX0_countStretches_0 : decode cX0_countStretches 0 = .ok (.iconst 0, 1) := by decide +kernel
theorem dX0_countStretches_1 : decode cX0_countStretches 1 = .ok (.istore_n 2, 1) := by decide +kernel
theorem dX0_countStretches_2 : decode cX0_countStretches 2 = .ok (.aload_n 0, 1) := by decide +kernel
theorem dX0_countStretches_3 : decode cX0_countStretches 3 = .ok (.iconst 0, 1) := by decide +kernel
theorem dX0_countStretches_4 : decode cX0_countStretches 4 = .ok (.iload_n 1, 1) := by decide +kernel
theorem dX0_countStretches_5 : decode cX0_countStretches 5 = .ok (.invokevirtual 73, 3) := by decide +kernel
theorem dX0_countStretches_8 : decode cX0_countStretches 8 = .ok (.istore_n 3, 1) := by decide +kernel
theorem dX0_countStretches_9 : decode cX0_countStretches 9 = .ok (.iload_n 3, 1) := by decide +kernel
theorem dX0_countStretches_10 : decode cX0_countStretches 10 = .ok (.aload_n 0, 1) := by decide +kernel
theorem dX0_countStretches_11 : decode cX0_countStretches 11 = .ok (.getfield 19, 3) := by decide +kernel
theorem dX0_countStretches_14 : decode cX0_countStretches 14 = .ok (.if_icmp .ge 27, 3) := by decide +kernel
theorem dX0_countStretches_17 : decode cX0_countStretches 17 = .ok (.iload_n 2, 1) := by decide +kernel
theorem dX0_countStretches_18 : decode cX0_countStretches 18 = .ok (.aload_n 0, 1) := by decide +kernel
theorem dX0_countStretches_19 : decode cX0_countStretches 19 = .ok (.getfield 10, 3) := by decide +kernel
theorem dX0_countStretches_22 : decode cX0_countStretches 22 = .ok (.invokevirtual 29, 3) := by decide +kernel
theorem dX0_countStretches_25 : decode cX0_countStretches 25 = .ok (.if_icmp .gt 16, 3) := by decide +kernel
theorem dX0_countStretches_28 : decode cX0_countStretches 28 = .ok (.iinc 2 1, 3) := by decide +kernel
theorem dX0_countStretches_31 : decode cX0_countStretches 31 = .ok (.aload_n 0, 1) := by decide +kernel
theorem dX0_countStretches_32 : decode cX0_countStretches 32 = .ok (.iload_n 3, 1) := by decide +kernel
theorem dX0_countStretches_33 : decode cX0_countStretches 33 = .ok (.iload_n 1, 1) := by decide +kernel
theorem dX0_countStretches_34 : decode cX0_countStretches 34 = .ok (.invokevirtual 76, 3) := by decide +kernel
theorem dX0_countStretches_37 : decode cX0_countStretches 37 = .ok (.istore_n 3, 1) := by decide +kernel
theorem dX0_countStretches_38 : decode cX0_countStretches 38 = .ok (.goto (-29), 3) := by decide +kernel
theorem dX0_countStretches_41 : decode cX0_countStretches 41 = .ok (.iload_n 2, 1) := by decide +kernel
theorem dX0_countStretches_42 : decode cX0_countStretches 42 = .ok (.ireturn, 1) := by decide +kernel
theorem dX0_stretchStart_0 : decode cX0_stretchStart 0 = .ok (.aload_n 0, 1) := by decide +kernel
theorem dX0_stretchStart_1 : decode cX0_stretchStart 1 = .ok (.iconst 0, 1) := by decide +kernel
theorem dX0_stretchStart_2 : decode cX0_stretchStart 2 = .ok (.iload_n 2, 1) := by decide +kernel
theorem dX0_stretchStart_3 : decode cX0_stretchStart 3 = .ok (.invokevirtual 73, 3) := by decide +kernel
theorem dX0_stretchStart_6 : decode cX0_stretchStart 6 = .ok (.istore_n 3, 1) := by decide +kernel
theorem dX0_stretchStart_7 : decode cX0_stretchStart 7 = .ok (.iconst 0, 1) := by decide +kernel
theorem dX0_stretchStart_8 : decode cX0_stretchStart 8 = .ok (.istore 4, 2) := by decide +kernel
theorem dX0_stretchStart_10 : decode cX0_stretchStart 10 = .ok (.iload 4, 2) := by decide +kernel
theorem dX0_stretchStart_12 : decode cX0_stretchStart 12 = .ok (.iload_n 1, 1) := by decide +kernel
theorem dX0_stretchStart_13 : decode cX0_stretchStart 13 = .ok (.if_icmp .ge 24, 3) := by decide +kernel
theorem dX0_stretchStart_16 : decode cX0_stretchStart 16 = .ok (.iload_n 3, 1) := by decide +kernel
theorem dX0_stretchStart_17 : decode cX0_stretchStart 17 = .ok (.aload_n 0, 1) := by decide +kernel
theorem dX0_stretchStart_18 : decode cX0_stretchStart 18 = .ok (.getfield 19, 3) := by decide +kernel
theorem dX0_stretchStart_21 : decode cX0_stretchStart 21 = .ok (.if_icmp .ge 16, 3) := by decide +kernel
theorem dX0_stretchStart_24 : decode cX0_stretchStart 24 = .ok (.aload_n 0, 1) := by decide +kernel
theorem dX0_stretchStart_25 : decode cX0_stretchStart 25 = .ok (.iload_n 3, 1) := by decide +kernel
theorem dX0_stretchStart_26 : decode cX0_stretchStart 26 = .ok (.iload_n 2, 1) := by decide +kernel
theorem dX0_stretchStart_27 : decode cX0_stretchStart 27 = .ok (.invokevirtual 76, 3) := by decide +kernel
theorem dX0_stretchStart_30 : decode cX0_stretchStart 30 = .ok (.istore_n 3, 1) := by decide +kernel
theorem dX0_stretchStart_31 : decode cX0_stretchStart 31 = .ok (.iinc 4 1, 3) := by decide +kernel
theorem dX0_stretchStart_34 : decode cX0_stretchStart 34 = .ok (.goto (-24), 3) := by decide +kernel
theorem dX0_stretchStart_37 : decode cX0_stretchStart 37 = .ok (.iload_n 3, 1) := by decide +kernel
theorem dX0_stretchStart_38 : decode cX0_stretchStart 38 = .ok (.ireturn, 1) := by decide +kernel
theorem dX0_canGive_0 : decode cX0_canGive 0 = .ok (.iload_n 2, 1) := by decide +kernel
theorem dX0_canGive_1 : decode cX0_canGive 1 = .ok (.ifCond .lt 56, 3) := by decide +kernel
theorem dX0_canGive_4 : decode cX0_canGive 4 = .ok (.iload_n 2, 1) := by decide +kernel
theorem dX0_canGive_5 : decode cX0_canGive 5 = .ok (.aload_n 0, 1) := by decide +kernel
theorem dX0_canGive_6 : decode cX0_canGive 6 = .ok (.getfield 19, 3) := by decide +kernel
theorem dX0_canGive_9 : decode cX0_canGive 9 = .ok (.iload_n 3, 1) := by decide +kernel
theorem dX0_canGive_10 : decode cX0_canGive 10 = .ok (.isub, 1) := by decide +kernel
theorem dX0_canGive_11 : decode cX0_canGive 11 = .ok (.if_icmp .gt 46, 3) := by decide +kernel
theorem dX0_canGive_14 : decode cX0_canGive 14 = .ok (.aload_n 1, 1) := by decide +kernel
theorem dX0_canGive_15 : decode cX0_canGive 15 = .ok (.getfield 79, 3) := by decide +kernel
theorem dX0_canGive_18 : decode cX0_canGive 18 = .ok (.aload_n 0, 1) := by decide +kernel
theorem dX0_canGive_19 : decode cX0_canGive 19 = .ok (.getfield 23, 3) := by decide +kernel
theorem dX0_canGive_22 : decode cX0_canGive 22 = .ok (.if_icmp .gt 35, 3) := by decide +kernel
theorem dX0_canGive_25 : decode cX0_canGive 25 = .ok (.aload_n 0, 1) := by decide +kernel
theorem dX0_canGive_26 : decode cX0_canGive 26 = .ok (.iload_n 2, 1) := by decide +kernel
theorem dX0_canGive_27 : decode cX0_canGive 27 = .ok (.aload_n 1, 1) := by decide +kernel
theorem dX0_canGive_28 : decode cX0_canGive 28 = .ok (.getfield 59, 3) := by decide +kernel
theorem dX0_canGive_31 : decode cX0_canGive 31 = .ok (.invokevirtual 70, 3) := by decide +kernel
theorem dX0_canGive_34 : decode cX0_canGive 34 = .ok (.iload_n 2, 1) := by decide +kernel
theorem dX0_canGive_35 : decode cX0_canGive 35 = .ok (.iload_n 3, 1) := by decide +kernel
theorem dX0_canGive_36 : decode cX0_canGive 36 = .ok (.iadd, 1) := by decide +kernel
theorem dX0_canGive_37 : decode cX0_canGive 37 = .ok (.if_icmp .lt 20, 3) := by decide +kernel
theorem dX0_canGive_40 : decode cX0_canGive 40 = .ok (.aload_n 0, 1) := by decide +kernel
theorem dX0_canGive_41 : decode cX0_canGive 41 = .ok (.iload_n 2, 1) := by decide +kernel
theorem dX0_canGive_42 : decode cX0_canGive 42 = .ok (.iload_n 2, 1) := by decide +kernel
theorem dX0_canGive_43 : decode cX0_canGive 43 = .ok (.iload_n 3, 1) := by decide +kernel
theorem dX0_canGive_44 : decode cX0_canGive 44 = .ok (.iadd, 1) := by decide +kernel
theorem dX0_canGive_45 : decode cX0_canGive 45 = .ok (.iload 4, 2) := by decide +kernel
theorem dX0_canGive_47 : decode cX0_canGive 47 = .ok (.invokevirtual 80, 3) := by decide +kernel
theorem dX0_canGive_50 : decode cX0_canGive 50 = .ok (.ifCond .eq 7, 3) := by decide +kernel
theorem dX0_canGive_53 : decode cX0_canGive 53 = .ok (.iconst 1, 1) := by decide +kernel
theorem dX0_canGive_54 : decode cX0_canGive 54 = .ok (.goto 4, 3) := by decide +kernel
theorem dX0_canGive_57 : decode cX0_canGive 57 = .ok (.iconst 0, 1) := by decide +kernel
theorem dX0_canGive_58 : decode cX0_canGive 58 = .ok (.ireturn, 1) := by decide +kernel
theorem dX0_isClearOfPieces_0 : decode cX0_isClearOfPieces 0 = .ok (.iconst 0, 1) := by decide +kernel
theorem dX0_isClearOfPieces_1 : decode cX0_isClearOfPieces 1 = .ok (.istore 4, 2) := by decide +kernel
theorem dX0_isClearOfPieces_3 : decode cX0_isClearOfPieces 3 = .ok (.iload 4, 2) := by decide +kernel
theorem dX0_isClearOfPieces_5 : decode cX0_isClearOfPieces 5 = .ok (.aload_n 0, 1) := by decide +kernel
theorem dX0_isClearOfPieces_6 : decode cX0_isClearOfPieces 6 = .ok (.getfield 16, 3) := by decide +kernel
theorem dX0_isClearOfPieces_9 : decode cX0_isClearOfPieces 9 = .ok (.invokevirtual 29, 3) := by decide +kernel
theorem dX0_isClearOfPieces_12 : decode cX0_isClearOfPieces 12 = .ok (.if_icmp .ge 32, 3) := by decide +kernel
theorem dX0_isClearOfPieces_15 : decode cX0_isClearOfPieces 15 = .ok (.aload_n 0, 1) := by decide +kernel
theorem dX0_isClearOfPieces_16 : decode cX0_isClearOfPieces 16 = .ok (.getfield 16, 3) := by decide +kernel
theorem dX0_isClearOfPieces_19 : decode cX0_isClearOfPieces 19 = .ok (.iload 4, 2) := by decide +kernel
theorem dX0_isClearOfPieces_21 : decode cX0_isClearOfPieces 21 = .ok (.invokevirtual 33, 3) := by decide +kernel
theorem dX0_isClearOfPieces_24 : decode cX0_isClearOfPieces 24 = .ok (.checkcast 46, 3) := by decide +kernel
theorem dX0_isClearOfPieces_27 : decode cX0_isClearOfPieces 27 = .ok (.iload_n 1, 1) := by decide +kernel
theorem dX0_isClearOfPieces_28 : decode cX0_isClearOfPieces 28 = .ok (.iload_n 2, 1) := by decide +kernel
theorem dX0_isClearOfPieces_29 : decode cX0_isClearOfPieces 29 = .ok (.iload_n 3, 1) := by decide +kernel
theorem dX0_isClearOfPieces_30 : decode cX0_isClearOfPieces 30 = .ok (.invokevirtual 84, 3) := by decide +kernel
theorem dX0_isClearOfPieces_33 : decode cX0_isClearOfPieces 33 = .ok (.ifCond .ne 5, 3) := by decide +kernel
theorem dX0_isClearOfPieces_36 : decode cX0_isClearOfPieces 36 = .ok (.iconst 0, 1) := by decide +kernel
theorem dX0_isClearOfPieces_37 : decode cX0_isClearOfPieces 37 = .ok (.ireturn, 1) := by decide +kernel
theorem dX0_isClearOfPieces_38 : decode cX0_isClearOfPieces 38 = .ok (.iinc 4 1, 3) := by decide +kernel
theorem dX0_isClearOfPieces_41 : decode cX0_isClearOfPieces 41 = .ok (.goto (-38), 3) := by decide +kernel
theorem dX0_isClearOfPieces_44 : decode cX0_isClearOfPieces 44 = .ok (.iconst 1, 1) := by decide +kernel
theorem dX0_isClearOfPieces_45 : decode cX0_isClearOfPieces 45 = .ok (.ireturn, 1) := by decide +kernel
theorem dX0_earliestPlace_0 : decode cX0_earliestPlace 0 = .ok (.aload_n 1, 1) := by decide +kernel
theorem dX0_earliestPlace_1 : decode cX0_earliestPlace 1 = .ok (.getfield 79, 3) := by decide +kernel
theorem dX0_earliestPlace_4 : decode cX0_earliestPlace 4 = .ok (.aload_n 0, 1) := by decide +kernel
theorem dX0_earliestPlace_5 : decode cX0_earliestPlace 5 = .ok (.getfield 23, 3) := by decide +kernel
theorem dX0_earliestPlace_8 : decode cX0_earliestPlace 8 = .ok (.if_icmp .gt 14, 3) := by decide +kernel
theorem dX0_earliestPlace_11 : decode cX0_earliestPlace 11 = .ok (.aload_n 1, 1) := by decide +kernel
theorem dX0_earliestPlace_12 : decode cX0_earliestPlace 12 = .ok (.getfield 59, 3) := by decide +kernel
theorem dX0_earliestPlace_15 : decode cX0_earliestPlace 15 = .ok (.aload_n 0, 1) := by decide +kernel
theorem dX0_earliestPlace_16 : decode cX0_earliestPlace 16 = .ok (.getfield 26, 3) := by decide +kernel
theorem dX0_earliestPlace_19 : decode cX0_earliestPlace 19 = .ok (.if_icmp .ge 5, 3) := by decide +kernel
theorem dX0_earliestPlace_22 : decode cX0_earliestPlace 22 = .ok (.iconst (-1), 1) := by decide +kernel
theorem dX0_earliestPlace_23 : decode cX0_earliestPlace 23 = .ok (.ireturn, 1) := by decide +kernel
theorem dX0_earliestPlace_24 : decode cX0_earliestPlace 24 = .ok (.iconst 0, 1) := by decide +kernel
theorem dX0_earliestPlace_25 : decode cX0_earliestPlace 25 = .ok (.istore_n 3, 1) := by decide +kernel
theorem dX0_earliestPlace_26 : decode cX0_earliestPlace 26 = .ok (.iload_n 3, 1) := by decide +kernel
theorem dX0_earliestPlace_27 : decode cX0_earliestPlace 27 = .ok (.aload_n 0, 1) := by decide +kernel
theorem dX0_earliestPlace_28 : decode cX0_earliestPlace 28 = .ok (.getfield 16, 3) := by decide +kernel
theorem dX0_earliestPlace_31 : decode cX0_earliestPlace 31 = .ok (.invokevirtual 29, 3) := by decide +kernel
theorem dX0_earliestPlace_34 : decode cX0_earliestPlace 34 = .ok (.if_icmp .gt 36, 3) := by decide +kernel
theorem dX0_earliestPlace_37 : decode cX0_earliestPlace 37 = .ok (.aload_n 0, 1) := by decide +kernel
theorem dX0_earliestPlace_38 : decode cX0_earliestPlace 38 = .ok (.aload_n 0, 1) := by decide +kernel
theorem dX0_earliestPlace_39 : decode cX0_earliestPlace 39 = .ok (.iload_n 3, 1) := by decide +kernel
theorem dX0_earliestPlace_40 : decode cX0_earliestPlace 40 = .ok (.iload_n 2, 1) := by decide +kernel
theorem dX0_earliestPlace_41 : decode cX0_earliestPlace 41 = .ok (.invokevirtual 87, 3) := by decide +kernel
theorem dX0_earliestPlace_44 : decode cX0_earliestPlace 44 = .ok (.aload_n 0, 1) := by decide +kernel
theorem dX0_earliestPlace_45 : decode cX0_earliestPlace 45 = .ok (.iload_n 3, 1) := by decide +kernel
theorem dX0_earliestPlace_46 : decode cX0_earliestPlace 46 = .ok (.iload_n 2, 1) := by decide +kernel
theorem dX0_earliestPlace_47 : decode cX0_earliestPlace 47 = .ok (.invokevirtual 90, 3) := by decide +kernel
theorem dX0_earliestPlace_50 : decode cX0_earliestPlace 50 = .ok (.aload_n 1, 1) := by decide +kernel
theorem dX0_earliestPlace_51 : decode cX0_earliestPlace 51 = .ok (.invokevirtual 93, 3) := by decide +kernel
theorem dX0_earliestPlace_54 : decode cX0_earliestPlace 54 = .ok (.istore 4, 2) := by decide +kernel
theorem dX0_earliestPlace_56 : decode cX0_earliestPlace 56 = .ok (.iload 4, 2) := by decide +kernel
theorem dX0_earliestPlace_58 : decode cX0_earliestPlace 58 = .ok (.ifCond .lt 6, 3) := by decide +kernel
theorem dX0_earliestPlace_61 : decode cX0_earliestPlace 61 = .ok (.iload 4, 2) := by decide +kernel
theorem dX0_earliestPlace_63 : decode cX0_earliestPlace 63 = .ok (.ireturn, 1) := by decide +kernel
theorem dX0_earliestPlace_64 : decode cX0_earliestPlace 64 = .ok (.iinc 3 1, 3) := by decide +kernel
theorem dX0_earliestPlace_67 : decode cX0_earliestPlace 67 = .ok (.goto (-41), 3) := by decide +kernel
theorem dX0_earliestPlace_70 : decode cX0_earliestPlace 70 = .ok (.iconst (-1), 1) := by decide +kernel
theorem dX0_earliestPlace_71 : decode cX0_earliestPlace 71 = .ok (.ireturn, 1) := by decide +kernel
theorem dX0_earliestWithin_0 : decode cX0_earliestWithin 0 = .ok (.iload_n 1, 1) := by decide +kernel
theorem dX0_earliestWithin_1 : decode cX0_earliestWithin 1 = .ok (.istore 4, 2) := by decide +kernel
theorem dX0_earliestWithin_3 : decode cX0_earliestWithin 3 = .ok (.iconst 0, 1) := by decide +kernel
theorem dX0_earliestWithin_4 : decode cX0_earliestWithin 4 = .ok (.istore 5, 2) := by decide +kernel
theorem dX0_earliestWithin_6 : decode cX0_earliestWithin 6 = .ok (.iload 5, 2) := by decide +kernel
theorem dX0_earliestWithin_8 : decode cX0_earliestWithin 8 = .ok (.aload_n 0, 1) := by decide +kernel
theorem dX0_earliestWithin_9 : decode cX0_earliestWithin 9 = .ok (.getfield 10, 3) := by decide +kernel
theorem dX0_earliestWithin_12 : decode cX0_earliestWithin 12 = .ok (.invokevirtual 29, 3) := by decide +kernel
theorem dX0_earliestWithin_15 : decode cX0_earliestWithin 15 = .ok (.if_icmp .gt 59, 3) := by decide +kernel
theorem dX0_earliestWithin_18 : decode cX0_earliestWithin 18 = .ok (.iload 4, 2) := by decide +kernel
theorem dX0_earliestWithin_20 : decode cX0_earliestWithin 20 = .ok (.aload_n 3, 1) := by decide +kernel
theorem dX0_earliestWithin_21 : decode cX0_earliestWithin 21 = .ok (.getfield 97, 3) := by decide +kernel
theorem dX0_earliestWithin_24 : decode cX0_earliestWithin 24 = .ok (.iadd, 1) := by decide +kernel
theorem dX0_earliestWithin_25 : decode cX0_earliestWithin 25 = .ok (.iload_n 2, 1) := by decide +kernel
theorem dX0_earliestWithin_26 : decode cX0_earliestWithin 26 = .ok (.if_icmp .gt 48, 3) := by decide +kernel
theorem dX0_earliestWithin_29 : decode cX0_earliestWithin 29 = .ok (.aload_n 0, 1) := by decide +kernel
theorem dX0_earliestWithin_30 : decode cX0_earliestWithin 30 = .ok (.iload 4, 2) := by decide +kernel
theorem dX0_earliestWithin_32 : decode cX0_earliestWithin 32 = .ok (.aload_n 3, 1) := by decide +kernel
theorem dX0_earliestWithin_33 : decode cX0_earliestWithin 33 = .ok (.getfield 59, 3) := by decide +kernel
theorem dX0_earliestWithin_36 : decode cX0_earliestWithin 36 = .ok (.invokevirtual 70, 3) := by decide +kernel
theorem dX0_earliestWithin_39 : decode cX0_earliestWithin 39 = .ok (.istore 6, 2) := by decide +kernel
theorem dX0_earliestWithin_41 : decode cX0_earliestWithin 41 = .ok (.iload 6, 2) := by decide +kernel
theorem dX0_earliestWithin_43 : decode cX0_earliestWithin 43 = .ok (.iload 4, 2) := by decide +kernel
theorem dX0_earliestWithin_45 : decode cX0_earliestWithin 45 = .ok (.aload_n 3, 1) := by decide +kernel
theorem dX0_earliestWithin_46 : decode cX0_earliestWithin 46 = .ok (.getfield 97, 3) := by decide +kernel
theorem dX0_earliestWithin_49 : decode cX0_earliestWithin 49 = .ok (.iadd, 1) := by decide +kernel
theorem dX0_earliestWithin_50 : decode cX0_earliestWithin 50 = .ok (.if_icmp .lt 6, 3) := by decide +kernel
theorem dX0_earliestWithin_53 : decode cX0_earliestWithin 53 = .ok (.iload 4, 2) := by decide +kernel
theorem dX0_earliestWithin_55 : decode cX0_earliestWithin 55 = .ok (.ireturn, 1) := by decide +kernel
theorem dX0_earliestWithin_56 : decode cX0_earliestWithin 56 = .ok (.aload_n 0, 1) := by decide +kernel
theorem dX0_earliestWithin_57 : decode cX0_earliestWithin 57 = .ok (.iload 6, 2) := by decide +kernel
theorem dX0_earliestWithin_59 : decode cX0_earliestWithin 59 = .ok (.aload_n 3, 1) := by decide +kernel
theorem dX0_earliestWithin_60 : decode cX0_earliestWithin 60 = .ok (.getfield 59, 3) := by decide +kernel
theorem dX0_earliestWithin_63 : decode cX0_earliestWithin 63 = .ok (.invokevirtual 73, 3) := by decide +kernel
theorem dX0_earliestWithin_66 : decode cX0_earliestWithin 66 = .ok (.istore 4, 2) := by decide +kernel
theorem dX0_earliestWithin_68 : decode cX0_earliestWithin 68 = .ok (.iinc 5 1, 3) := by decide +kernel
theorem dX0_earliestWithin_71 : decode cX0_earliestWithin 71 = .ok (.goto (-65), 3) := by decide +kernel
theorem dX0_earliestWithin_74 : decode cX0_earliestWithin 74 = .ok (.iconst (-1), 1) := by decide +kernel
theorem dX0_earliestWithin_75 : decode cX0_earliestWithin 75 = .ok (.ireturn, 1) := by decide +kernel
theorem dX0_roomStart_0 : decode cX0_roomStart 0 = .ok (.iload_n 1, 1) := by decide +kernel
theorem dX0_roomStart_1 : decode cX0_roomStart 1 = .ok (.iconst 1, 1) := by decide +kernel
theorem dX0_roomStart_2 : decode cX0_roomStart 2 = .ok (.if_icmp .lt 14, 3) := by decide +kernel
theorem dX0_roomStart_5 : decode cX0_roomStart 5 = .ok (.iload_n 1, 1) := by decide +kernel
theorem dX0_roomStart_6 : decode cX0_roomStart 6 = .ok (.aload_n 0, 1) := by decide +kernel
theorem dX0_roomStart_7 : decode cX0_roomStart 7 = .ok (.getfield 16, 3) := by decide +kernel
theorem dX0_roomStart_10 : decode cX0_roomStart 10 = .ok (.invokevirtual 29, 3) := by decide +kernel
theorem dX0_roomStart_13 : decode cX0_roomStart 13 = .ok (.if_icmp .le 7, 3) := by decide +kernel
theorem dX0_roomStart_16 : decode cX0_roomStart 16 = .ok (.iconst 0, 1) := by decide +kernel
theorem dX0_roomStart_17 : decode cX0_roomStart 17 = .ok (.goto 21, 3) := by decide +kernel
theorem dX0_roomStart_20 : decode cX0_roomStart 20 = .ok (.aload_n 0, 1) := by decide +kernel
theorem dX0_roomStart_21 : decode cX0_roomStart 21 = .ok (.getfield 16, 3) := by decide +kernel
theorem dX0_roomStart_24 : decode cX0_roomStart 24 = .ok (.iload_n 1, 1) := by decide +kernel
theorem dX0_roomStart_25 : decode cX0_roomStart 25 = .ok (.iconst 1, 1) := by decide +kernel
theorem dX0_roomStart_26 : decode cX0_roomStart 26 = .ok (.isub, 1) := by decide +kernel
theorem dX0_roomStart_27 : decode cX0_roomStart 27 = .ok (.invokevirtual 33, 3) := by decide +kernel
theorem dX0_roomStart_30 : decode cX0_roomStart 30 = .ok (.checkcast 46, 3) := by decide +kernel
theorem dX0_roomStart_33 : decode cX0_roomStart 33 = .ok (.getfield 52, 3) := by decide +kernel
theorem dX0_roomStart_36 : decode cX0_roomStart 36 = .ok (.iload_n 2, 1) := by decide +kernel
theorem dX0_roomStart_37 : decode cX0_roomStart 37 = .ok (.iadd, 1) := by decide +kernel
theorem dX0_roomStart_38 : decode cX0_roomStart 38 = .ok (.ireturn, 1) := by decide +kernel
theorem dX0_roomEnd_0 : decode cX0_roomEnd 0 = .ok (.iload_n 1, 1) := by decide +kernel
theorem dX0_roomEnd_1 : decode cX0_roomEnd 1 = .ok (.ifCond .lt 14, 3) := by decide +kernel
theorem dX0_roomEnd_4 : decode cX0_roomEnd 4 = .ok (.iload_n 1, 1) := by decide +kernel
theorem dX0_roomEnd_5 : decode cX0_roomEnd 5 = .ok (.aload_n 0, 1) := by decide +kernel
theorem dX0_roomEnd_6 : decode cX0_roomEnd 6 = .ok (.getfield 16, 3) := by decide +kernel
theorem dX0_roomEnd_9 : decode cX0_roomEnd 9 = .ok (.invokevirtual 29, 3) := by decide +kernel
theorem dX0_roomEnd_12 : decode cX0_roomEnd 12 = .ok (.if_icmp .lt 10, 3) := by decide +kernel
theorem dX0_roomEnd_15 : decode cX0_roomEnd 15 = .ok (.aload_n 0, 1) := by decide +kernel
theorem dX0_roomEnd_16 : decode cX0_roomEnd 16 = .ok (.getfield 19, 3) := by decide +kernel
theorem dX0_roomEnd_19 : decode cX0_roomEnd 19 = .ok (.goto 19, 3) := by decide +kernel
theorem dX0_roomEnd_22 : decode cX0_roomEnd 22 = .ok (.aload_n 0, 1) := by decide +kernel
theorem dX0_roomEnd_23 : decode cX0_roomEnd 23 = .ok (.getfield 16, 3) := by decide +kernel
theorem dX0_roomEnd_26 : decode cX0_roomEnd 26 = .ok (.iload_n 1, 1) := by decide +kernel
theorem dX0_roomEnd_27 : decode cX0_roomEnd 27 = .ok (.invokevirtual 33, 3) := by decide +kernel
theorem dX0_roomEnd_30 : decode cX0_roomEnd 30 = .ok (.checkcast 46, 3) := by decide +kernel
theorem dX0_roomEnd_33 : decode cX0_roomEnd 33 = .ok (.getfield 48, 3) := by decide +kernel
theorem dX0_roomEnd_36 : decode cX0_roomEnd 36 = .ok (.iload_n 2, 1) := by decide +kernel
theorem dX0_roomEnd_37 : decode cX0_roomEnd 37 = .ok (.isub, 1) := by decide +kernel
theorem dX0_roomEnd_38 : decode cX0_roomEnd 38 = .ok (.ireturn, 1) := by decide +kernel
theorem dX0_roomLengthAround_0 : decode cX0_roomLengthAround 0 = .ok (.iconst 0, 1) := by decide +kernel
theorem dX0_roomLengthAround_1 : decode cX0_roomLengthAround 1 = .ok (.istore_n 3, 1) := by decide +kernel
theorem dX0_roomLengthAround_2 : decode cX0_roomLengthAround 2 = .ok (.iload_n 3, 1) := by decide +kernel
theorem dX0_roomLengthAround_3 : decode cX0_roomLengthAround 3 = .ok (.aload_n 0, 1) := by decide +kernel
theorem dX0_roomLengthAround_4 : decode cX0_roomLengthAround 4 = .ok (.getfield 16, 3) := by decide +kernel
theorem dX0_roomLengthAround_7 : decode cX0_roomLengthAround 7 = .ok (.invokevirtual 29, 3) := by decide +kernel
theorem dX0_roomLengthAround_10 : decode cX0_roomLengthAround 10 = .ok (.if_icmp .gt 43, 3) := by decide +kernel
theorem dX0_roomLengthAround_13 : decode cX0_roomLengthAround 13 = .ok (.aload_n 0, 1) := by decide +kernel
theorem dX0_roomLengthAround_14 : decode cX0_roomLengthAround 14 = .ok (.iload_n 3, 1) := by decide +kernel
theorem dX0_roomLengthAround_15 : decode cX0_roomLengthAround 15 = .ok (.iload_n 2, 1) := by decide +kernel
theorem dX0_roomLengthAround_16 : decode cX0_roomLengthAround 16 = .ok (.invokevirtual 87, 3) := by decide +kernel
theorem dX0_roomLengthAround_19 : decode cX0_roomLengthAround 19 = .ok (.istore 4, 2) := by decide +kernel
theorem dX0_roomLengthAround_21 : decode cX0_roomLengthAround 21 = .ok (.aload_n 0, 1) := by decide +kernel
theorem dX0_roomLengthAround_22 : decode cX0_roomLengthAround 22 = .ok (.iload_n 3, 1) := by decide +kernel
theorem dX0_roomLengthAround_23 : decode cX0_roomLengthAround 23 = .ok (.iload_n 2, 1) := by decide +kernel
theorem dX0_roomLengthAround_24 : decode cX0_roomLengthAround 24 = .ok (.invokevirtual 90, 3) := by decide +kernel
theorem dX0_roomLengthAround_27 : decode cX0_roomLengthAround 27 = .ok (.istore 5, 2) := by decide +kernel
theorem dX0_roomLengthAround_29 : decode cX0_roomLengthAround 29 = .ok (.iload 4, 2) := by decide +kernel
theorem dX0_roomLengthAround_31 : decode cX0_roomLengthAround 31 = .ok (.iload_n 1, 1) := by decide +kernel
theorem dX0_roomLengthAround_32 : decode cX0_roomLengthAround 32 = .ok (.if_icmp .gt 15, 3) := by decide +kernel
theorem dX0_roomLengthAround_35 : decode cX0_roomLengthAround 35 = .ok (.iload_n 1, 1) := by decide +kernel
theorem dX0_roomLengthAround_36 : decode cX0_roomLengthAround 36 = .ok (.iload 5, 2) := by decide +kernel
theorem dX0_roomLengthAround_38 : decode cX0_roomLengthAround 38 = .ok (.if_icmp .ge 9, 3) := by decide +kernel
theorem dX0_roomLengthAround_41 : decode cX0_roomLengthAround 41 = .ok (.iload 5, 2) := by decide +kernel
theorem dX0_roomLengthAround_43 : decode cX0_roomLengthAround 43 = .ok (.iload 4, 2) := by decide +kernel
theorem dX0_roomLengthAround_45 : decode cX0_roomLengthAround 45 = .ok (.isub, 1) := by decide +kernel
theorem dX0_roomLengthAround_46 : decode cX0_roomLengthAround 46 = .ok (.ireturn, 1) := by decide +kernel
theorem dX0_roomLengthAround_47 : decode cX0_roomLengthAround 47 = .ok (.iinc 3 1, 3) := by decide +kernel
theorem dX0_roomLengthAround_50 : decode cX0_roomLengthAround 50 = .ok (.goto (-48), 3) := by decide +kernel
theorem dX0_roomLengthAround_53 : decode cX0_roomLengthAround 53 = .ok (.iconst 0, 1) := by decide +kernel
theorem dX0_roomLengthAround_54 : decode cX0_roomLengthAround 54 = .ok (.ireturn, 1) := by decide +kernel
theorem dX0_longestRoomLength_0 : decode cX0_longestRoomLength 0 = .ok (.iconst 0, 1) := by decide +kernel
theorem dX0_longestRoomLength_1 : decode cX0_longestRoomLength 1 = .ok (.istore_n 2, 1) := by decide +kernel
theorem dX0_longestRoomLength_2 : decode cX0_longestRoomLength 2 = .ok (.iconst 0, 1) := by decide +kernel
theorem dX0_longestRoomLength_3 : decode cX0_longestRoomLength 3 = .ok (.istore_n 3, 1) := by decide +kernel
theorem dX0_longestRoomLength_4 : decode cX0_longestRoomLength 4 = .ok (.iload_n 3, 1) := by decide +kernel
theorem dX0_longestRoomLength_5 : decode cX0_longestRoomLength 5 = .ok (.aload_n 0, 1) := by decide +kernel
theorem dX0_longestRoomLength_6 : decode cX0_longestRoomLength 6 = .ok (.getfield 16, 3) := by decide +kernel
theorem dX0_longestRoomLength_9 : decode cX0_longestRoomLength 9 = .ok (.invokevirtual 29, 3) := by decide +kernel
theorem dX0_longestRoomLength_12 : decode cX0_longestRoomLength 12 = .ok (.if_icmp .gt 27, 3) := by decide +kernel
theorem dX0_longestRoomLength_15 : decode cX0_longestRoomLength 15 = .ok (.iload_n 2, 1) := by decide +kernel
theorem dX0_longestRoomLength_16 : decode cX0_longestRoomLength 16 = .ok (.aload_n 0, 1) := by decide +kernel
theorem dX0_longestRoomLength_17 : decode cX0_longestRoomLength 17 = .ok (.iload_n 3, 1) := by decide +kernel
theorem dX0_longestRoomLength_18 : decode cX0_longestRoomLength 18 = .ok (.iload_n 1, 1) := by decide +kernel
theorem dX0_longestRoomLength_19 : decode cX0_longestRoomLength 19 = .ok (.invokevirtual 90, 3) := by decide +kernel
theorem dX0_longestRoomLength_22 : decode cX0_longestRoomLength 22 = .ok (.aload_n 0, 1) := by decide +kernel
theorem dX0_longestRoomLength_23 : decode cX0_longestRoomLength 23 = .ok (.iload_n 3, 1) := by decide +kernel
theorem dX0_longestRoomLength_24 : decode cX0_longestRoomLength 24 = .ok (.iload_n 1, 1) := by decide +kernel
theorem dX0_longestRoomLength_25 : decode cX0_longestRoomLength 25 = .ok (.invokevirtual 87, 3) := by decide +kernel
theorem dX0_longestRoomLength_28 : decode cX0_longestRoomLength 28 = .ok (.isub, 1) := by decide +kernel
theorem dX0_longestRoomLength_29 : decode cX0_longestRoomLength 29 = .ok (.invokestatic 64, 3) := by decide +kernel
theorem dX0_longestRoomLength_32 : decode cX0_longestRoomLength 32 = .ok (.istore_n 2, 1) := by decide +kernel
theorem dX0_longestRoomLength_33 : decode cX0_longestRoomLength 33 = .ok (.iinc 3 1, 3) := by decide +kernel
theorem dX0_longestRoomLength_36 : decode cX0_longestRoomLength 36 = .ok (.goto (-32), 3) := by decide +kernel
theorem dX0_longestRoomLength_39 : decode cX0_longestRoomLength 39 = .ok (.iload_n 2, 1) := by decide +kernel
theorem dX0_longestRoomLength_40 : decode cX0_longestRoomLength 40 = .ok (.ireturn, 1) := by decide +kernel
theorem dX0_countCuts_0 : decode cX0_countCuts 0 = .ok (.iconst 0, 1) := by decide +kernel
theorem dX0_countCuts_1 : decode cX0_countCuts 1 = .ok (.istore_n 2, 1) := by decide +kernel
theorem dX0_countCuts_2 : decode cX0_countCuts 2 = .ok (.iconst 0, 1) := by decide +kernel
theorem dX0_countCuts_3 : decode cX0_countCuts 3 = .ok (.istore_n 3, 1) := by decide +kernel
theorem dX0_countCuts_4 : decode cX0_countCuts 4 = .ok (.iload_n 3, 1) := by decide +kernel
theorem dX0_countCuts_5 : decode cX0_countCuts 5 = .ok (.aload_n 0, 1) := by decide +kernel
theorem dX0_countCuts_6 : decode cX0_countCuts 6 = .ok (.getfield 16, 3) := by decide +kernel
theorem dX0_countCuts_9 : decode cX0_countCuts 9 = .ok (.invokevirtual 29, 3) := by decide +kernel
theorem dX0_countCuts_12 : decode cX0_countCuts 12 = .ok (.if_icmp .ge 78, 3) := by decide +kernel
theorem dX0_countCuts_15 : decode cX0_countCuts 15 = .ok (.aload_n 0, 1) := by decide +kernel
theorem dX0_countCuts_16 : decode cX0_countCuts 16 = .ok (.getfield 16, 3) := by decide +kernel
theorem dX0_countCuts_19 : decode cX0_countCuts 19 = .ok (.iload_n 3, 1) := by decide +kernel
theorem dX0_countCuts_20 : decode cX0_countCuts 20 = .ok (.invokevirtual 33, 3) := by decide +kernel
theorem dX0_countCuts_23 : decode cX0_countCuts 23 = .ok (.checkcast 46, 3) := by decide +kernel
theorem dX0_countCuts_26 : decode cX0_countCuts 26 = .ok (.astore 4, 2) := by decide +kernel
theorem dX0_countCuts_28 : decode cX0_countCuts 28 = .ok (.aload 4, 2) := by decide +kernel
theorem dX0_countCuts_30 : decode cX0_countCuts 30 = .ok (.getfield 48, 3) := by decide +kernel
theorem dX0_countCuts_33 : decode cX0_countCuts 33 = .ok (.ifCond .le 36, 3) := by decide +kernel
theorem dX0_countCuts_36 : decode cX0_countCuts 36 = .ok (.iload_n 3, 1) := by decide +kernel
theorem dX0_countCuts_37 : decode cX0_countCuts 37 = .ok (.ifCond .le 29, 3) := by decide +kernel
theorem dX0_countCuts_40 : decode cX0_countCuts 40 = .ok (.aload 4, 2) := by decide +kernel
theorem dX0_countCuts_42 : decode cX0_countCuts 42 = .ok (.getfield 48, 3) := by decide +kernel
theorem dX0_countCuts_45 : decode cX0_countCuts 45 = .ok (.aload_n 0, 1) := by decide +kernel
theorem dX0_countCuts_46 : decode cX0_countCuts 46 = .ok (.getfield 16, 3) := by decide +kernel
theorem dX0_countCuts_49 : decode cX0_countCuts 49 = .ok (.iload_n 3, 1) := by decide +kernel
theorem dX0_countCuts_50 : decode cX0_countCuts 50 = .ok (.iconst 1, 1) := by decide +kernel
theorem dX0_countCuts_51 : decode cX0_countCuts 51 = .ok (.isub, 1) := by decide +kernel
theorem dX0_countCuts_52 : decode cX0_countCuts 52 = .ok (.invokevirtual 33, 3) := by decide +kernel
theorem dX0_countCuts_55 : decode cX0_countCuts 55 = .ok (.checkcast 46, 3) := by decide +kernel
theorem dX0_countCuts_58 : decode cX0_countCuts 58 = .ok (.getfield 52, 3) := by decide +kernel
theorem dX0_countCuts_61 : decode cX0_countCuts 61 = .ok (.isub, 1) := by decide +kernel
theorem dX0_countCuts_62 : decode cX0_countCuts 62 = .ok (.iload_n 1, 1) := by decide +kernel
theorem dX0_countCuts_63 : decode cX0_countCuts 63 = .ok (.if_icmp .eq 6, 3) := by decide +kernel
theorem dX0_countCuts_66 : decode cX0_countCuts 66 = .ok (.iinc 2 1, 3) := by decide +kernel
theorem dX0_countCuts_69 : decode cX0_countCuts 69 = .ok (.aload 4, 2) := by decide +kernel
theorem dX0_countCuts_71 : decode cX0_countCuts 71 = .ok (.getfield 52, 3) := by decide +kernel
theorem dX0_countCuts_74 : decode cX0_countCuts 74 = .ok (.aload_n 0, 1) := by decide +kernel
theorem dX0_countCuts_75 : decode cX0_countCuts 75 = .ok (.getfield 19, 3) := by decide +kernel
theorem dX0_countCuts_78 : decode cX0_countCuts 78 = .ok (.if_icmp .ge 6, 3) := by decide +kernel
theorem dX0_countCuts_81 : decode cX0_countCuts 81 = .ok (.iinc 2 1, 3) := by decide +kernel
theorem dX0_countCuts_84 : decode cX0_countCuts 84 = .ok (.iinc 3 1, 3) := by decide +kernel
theorem dX0_countCuts_87 : decode cX0_countCuts 87 = .ok (.goto (-83), 3) := by decide +kernel
theorem dX0_countCuts_90 : decode cX0_countCuts 90 = .ok (.iload_n 2, 1) := by decide +kernel
theorem dX0_countCuts_91 : decode cX0_countCuts 91 = .ok (.ireturn, 1) := by decide +kernel
theorem dX0_areaOfPieces_0 : decode cX0_areaOfPieces 0 = .ok (.iconst 0, 1) := by decide +kernel
theorem dX0_areaOfPieces_1 : decode cX0_areaOfPieces 1 = .ok (.istore_n 1, 1) := by decide +kernel
theorem dX0_areaOfPieces_2 : decode cX0_areaOfPieces 2 = .ok (.iconst 0, 1) := by decide +kernel
theorem dX0_areaOfPieces_3 : decode cX0_areaOfPieces 3 = .ok (.istore_n 2, 1) := by decide +kernel
theorem dX0_areaOfPieces_4 : decode cX0_areaOfPieces 4 = .ok (.iload_n 2, 1) := by decide +kernel
theorem dX0_areaOfPieces_5 : decode cX0_areaOfPieces 5 = .ok (.aload_n 0, 1) := by decide +kernel
theorem dX0_areaOfPieces_6 : decode cX0_areaOfPieces 6 = .ok (.getfield 16, 3) := by decide +kernel
theorem dX0_areaOfPieces_9 : decode cX0_areaOfPieces 9 = .ok (.invokevirtual 29, 3) := by decide +kernel
theorem dX0_areaOfPieces_12 : decode cX0_areaOfPieces 12 = .ok (.if_icmp .ge 41, 3) := by decide +kernel
theorem dX0_areaOfPieces_15 : decode cX0_areaOfPieces 15 = .ok (.aload_n 0, 1) := by decide +kernel
theorem dX0_areaOfPieces_16 : decode cX0_areaOfPieces 16 = .ok (.getfield 16, 3) := by decide +kernel
theorem dX0_areaOfPieces_19 : decode cX0_areaOfPieces 19 = .ok (.iload_n 2, 1) := by decide +kernel
theorem dX0_areaOfPieces_20 : decode cX0_areaOfPieces 20 = .ok (.invokevirtual 33, 3) := by decide +kernel
theorem dX0_areaOfPieces_23 : decode cX0_areaOfPieces 23 = .ok (.checkcast 46, 3) := by decide +kernel
theorem dX0_areaOfPieces_26 : decode cX0_areaOfPieces 26 = .ok (.astore_n 3, 1) := by decide +kernel
theorem dX0_areaOfPieces_27 : decode cX0_areaOfPieces 27 = .ok (.iload_n 1, 1) := by decide +kernel
theorem dX0_areaOfPieces_28 : decode cX0_areaOfPieces 28 = .ok (.aload_n 3, 1) := by decide +kernel
theorem dX0_areaOfPieces_29 : decode cX0_areaOfPieces 29 = .ok (.getfield 52, 3) := by decide +kernel
theorem dX0_areaOfPieces_32 : decode cX0_areaOfPieces 32 = .ok (.aload_n 3, 1) := by decide +kernel
theorem dX0_areaOfPieces_33 : decode cX0_areaOfPieces 33 = .ok (.getfield 48, 3) := by decide +kernel
theorem dX0_areaOfPieces_36 : decode cX0_areaOfPieces 36 = .ok (.isub, 1) := by decide +kernel
theorem dX0_areaOfPieces_37 : decode cX0_areaOfPieces 37 = .ok (.aload_n 3, 1) := by decide +kernel
theorem dX0_areaOfPieces_38 : decode cX0_areaOfPieces 38 = .ok (.getfield 55, 3) := by decide +kernel
theorem dX0_areaOfPieces_41 : decode cX0_areaOfPieces 41 = .ok (.getfield 79, 3) := by decide +kernel
theorem dX0_areaOfPieces_44 : decode cX0_areaOfPieces 44 = .ok (.imul, 1) := by decide +kernel
theorem dX0_areaOfPieces_45 : decode cX0_areaOfPieces 45 = .ok (.iadd, 1) := by decide +kernel
theorem dX0_areaOfPieces_46 : decode cX0_areaOfPieces 46 = .ok (.istore_n 1, 1) := by decide +kernel
theorem dX0_areaOfPieces_47 : decode cX0_areaOfPieces 47 = .ok (.iinc 2 1, 3) := by decide +kernel
theorem dX0_areaOfPieces_50 : decode cX0_areaOfPieces 50 = .ok (.goto (-46), 3) := by decide +kernel
theorem dX0_areaOfPieces_53 : decode cX0_areaOfPieces 53 = .ok (.iload_n 1, 1) := by decide +kernel
theorem dX0_areaOfPieces_54 : decode cX0_areaOfPieces 54 = .ok (.ireturn, 1) := by decide +kernel
theorem dX1_init_0 : decode cX1_init 0 = .ok (.aload_n 0, 1) := by decide +kernel
theorem dX1_init_1 : decode cX1_init 1 = .ok (.invokespecial 1, 3) := by decide +kernel
theorem dX1_init_4 : decode cX1_init 4 = .ok (.aload_n 0, 1) := by decide +kernel
theorem dX1_init_5 : decode cX1_init 5 = .ok (.aload_n 1, 1) := by decide +kernel
theorem dX1_init_6 : decode cX1_init 6 = .ok (.putfield 7, 3) := by decide +kernel
theorem dX1_init_9 : decode cX1_init 9 = .ok (.aload_n 0, 1) := by decide +kernel
theorem dX1_init_10 : decode cX1_init 10 = .ok (.aload_n 2, 1) := by decide +kernel
theorem dX1_init_11 : decode cX1_init 11 = .ok (.putfield 13, 3) := by decide +kernel
theorem dX1_init_14 : decode cX1_init 14 = .ok (.aload_n 0, 1) := by decide +kernel
theorem dX1_init_15 : decode cX1_init 15 = .ok (.aload_n 3, 1) := by decide +kernel
theorem dX1_init_16 : decode cX1_init 16 = .ok (.putfield 17, 3) := by decide +kernel
theorem dX1_init_19 : decode cX1_init 19 = .ok (.return_, 1) := by decide +kernel
theorem dX2_init_0 : decode cX2_init 0 = .ok (.aload_n 0, 1) := by decide +kernel
theorem dX2_init_1 : decode cX2_init 1 = .ok (.invokespecial 1, 3) := by decide +kernel
theorem dX2_init_4 : decode cX2_init 4 = .ok (.aload_n 0, 1) := by decide +kernel
theorem dX2_init_5 : decode cX2_init 5 = .ok (.iload_n 1, 1) := by decide +kernel
theorem dX2_init_6 : decode cX2_init 6 = .ok (.putfield 7, 3) := by decide +kernel
theorem dX2_init_9 : decode cX2_init 9 = .ok (.aload_n 0, 1) := by decide +kernel
theorem dX2_init_10 : decode cX2_init 10 = .ok (.iload_n 2, 1) := by decide +kernel
theorem dX2_init_11 : decode cX2_init 11 = .ok (.putfield 13, 3) := by decide +kernel
theorem dX2_init_14 : decode cX2_init 14 = .ok (.aload_n 0, 1) := by decide +kernel
theorem dX2_init_15 : decode cX2_init 15 = .ok (.iload_n 3, 1) := by decide +kernel
theorem dX2_init_16 : decode cX2_init 16 = .ok (.putfield 16, 3) := by decide +kernel
theorem dX2_init_19 : decode cX2_init 19 = .ok (.return_, 1) := by decide +kernel
theorem dX3_init_0 : decode cX3_init 0 = .ok (.aload_n 0, 1) := by decide +kernel
theorem dX3_init_1 : decode cX3_init 1 = .ok (.invokespecial 1, 3) := by decide +kernel
theorem dX3_init_4 : decode cX3_init 4 = .ok (.aload_n 0, 1) := by decide +kernel
theorem dX3_init_5 : decode cX3_init 5 = .ok (.iload_n 1, 1) := by decide +kernel
theorem dX3_init_6 : decode cX3_init 6 = .ok (.putfield 7, 3) := by decide +kernel
theorem dX3_init_9 : decode cX3_init 9 = .ok (.aload_n 0, 1) := by decide +kernel
theorem dX3_init_10 : decode cX3_init 10 = .ok (.iload_n 2, 1) := by decide +kernel
theorem dX3_init_11 : decode cX3_init 11 = .ok (.putfield 13, 3) := by decide +kernel
theorem dX3_init_14 : decode cX3_init 14 = .ok (.aload_n 0, 1) := by decide +kernel
theorem dX3_init_15 : decode cX3_init 15 = .ok (.iload_n 3, 1) := by decide +kernel
theorem dX3_init_16 : decode cX3_init 16 = .ok (.putfield 16, 3) := by decide +kernel
theorem dX3_init_19 : decode cX3_init 19 = .ok (.aload_n 0, 1) := by decide +kernel
theorem dX3_init_20 : decode cX3_init 20 = .ok (.iload 4, 2) := by decide +kernel
theorem dX3_init_22 : decode cX3_init 22 = .ok (.putfield 19, 3) := by decide +kernel
theorem dX3_init_25 : decode cX3_init 25 = .ok (.aload_n 0, 1) := by decide +kernel
theorem dX3_init_26 : decode cX3_init 26 = .ok (.iload 6, 2) := by decide +kernel
theorem dX3_init_28 : decode cX3_init 28 = .ok (.putfield 22, 3) := by decide +kernel
theorem dX3_init_31 : decode cX3_init 31 = .ok (.aload_n 0, 1) := by decide +kernel
theorem dX3_init_32 : decode cX3_init 32 = .ok (.iload 5, 2) := by decide +kernel
theorem dX3_init_34 : decode cX3_init 34 = .ok (.putfield 26, 3) := by decide +kernel
theorem dX3_init_37 : decode cX3_init 37 = .ok (.return_, 1) := by decide +kernel
theorem dX3_isPlannedAhead_0 : decode cX3_isPlannedAhead 0 = .ok (.aload_n 0, 1) := by decide +kernel
theorem dX3_isPlannedAhead_1 : decode cX3_isPlannedAhead 1 = .ok (.getfield 13, 3) := by decide +kernel
theorem dX3_isPlannedAhead_4 : decode cX3_isPlannedAhead 4 = .ok (.aload_n 1, 1) := by decide +kernel
theorem dX3_isPlannedAhead_5 : decode cX3_isPlannedAhead 5 = .ok (.getfield 13, 3) := by decide +kernel
theorem dX3_isPlannedAhead_8 : decode cX3_isPlannedAhead 8 = .ok (.if_icmp .gt 25, 3) := by decide +kernel
theorem dX3_isPlannedAhead_11 : decode cX3_isPlannedAhead 11 = .ok (.aload_n 0, 1) := by decide +kernel
theorem dX3_isPlannedAhead_12 : decode cX3_isPlannedAhead 12 = .ok (.getfield 13, 3) := by decide +kernel
theorem dX3_isPlannedAhead_15 : decode cX3_isPlannedAhead 15 = .ok (.aload_n 1, 1) := by decide +kernel
theorem dX3_isPlannedAhead_16 : decode cX3_isPlannedAhead 16 = .ok (.getfield 13, 3) := by decide +kernel
theorem dX3_isPlannedAhead_19 : decode cX3_isPlannedAhead 19 = .ok (.if_icmp .ne 18, 3) := by decide +kernel
theorem dX3_isPlannedAhead_22 : decode cX3_isPlannedAhead 22 = .ok (.aload_n 0, 1) := by decide +kernel
theorem dX3_isPlannedAhead_23 : decode cX3_isPlannedAhead 23 = .ok (.getfield 19, 3) := by decide +kernel
theorem dX3_isPlannedAhead_26 : decode cX3_isPlannedAhead 26 = .ok (.aload_n 1, 1) := by decide +kernel
theorem dX3_isPlannedAhead_27 : decode cX3_isPlannedAhead 27 = .ok (.getfield 19, 3) := by decide +kernel
theorem dX3_isPlannedAhead_30 : decode cX3_isPlannedAhead 30 = .ok (.if_icmp .ge 7, 3) := by decide +kernel
theorem dX3_isPlannedAhead_33 : decode cX3_isPlannedAhead 33 = .ok (.iconst 1, 1) := by decide +kernel
theorem dX3_isPlannedAhead_34 : decode cX3_isPlannedAhead 34 = .ok (.goto 4, 3) := by decide +kernel
theorem dX3_isPlannedAhead_37 : decode cX3_isPlannedAhead 37 = .ok (.iconst 0, 1) := by decide +kernel
theorem dX3_isPlannedAhead_38 : decode cX3_isPlannedAhead 38 = .ok (.ireturn, 1) := by decide +kernel
theorem dX4_init_0 : decode cX4_init 0 = .ok (.aload_n 0, 1) := by decide +kernel
theorem dX4_init_1 : decode cX4_init 1 = .ok (.invokespecial 1, 3) := by decide +kernel
theorem dX4_init_4 : decode cX4_init 4 = .ok (.aload_n 0, 1) := by decide +kernel
theorem dX4_init_5 : decode cX4_init 5 = .ok (.aload_n 1, 1) := by decide +kernel
theorem dX4_init_6 : decode cX4_init 6 = .ok (.putfield 7, 3) := by decide +kernel
theorem dX4_init_9 : decode cX4_init 9 = .ok (.aload_n 0, 1) := by decide +kernel
theorem dX4_init_10 : decode cX4_init 10 = .ok (.aload_n 2, 1) := by decide +kernel
theorem dX4_init_11 : decode cX4_init 11 = .ok (.putfield 13, 3) := by decide +kernel
theorem dX4_init_14 : decode cX4_init 14 = .ok (.aload_n 0, 1) := by decide +kernel
theorem dX4_init_15 : decode cX4_init 15 = .ok (.iload_n 3, 1) := by decide +kernel
theorem dX4_init_16 : decode cX4_init 16 = .ok (.putfield 17, 3) := by decide +kernel
theorem dX4_init_19 : decode cX4_init 19 = .ok (.aload_n 0, 1) := by decide +kernel
theorem dX4_init_20 : decode cX4_init 20 = .ok (.iload 4, 2) := by decide +kernel
theorem dX4_init_22 : decode cX4_init 22 = .ok (.putfield 21, 3) := by decide +kernel
theorem dX4_init_25 : decode cX4_init 25 = .ok (.aload_n 0, 1) := by decide +kernel
theorem dX4_init_26 : decode cX4_init 26 = .ok (.iload 5, 2) := by decide +kernel
theorem dX4_init_28 : decode cX4_init 28 = .ok (.putfield 24, 3) := by decide +kernel
theorem dX4_init_31 : decode cX4_init 31 = .ok (.return_, 1) := by decide +kernel
theorem dX4_isClearOf_0 : decode cX4_isClearOf 0 = .ok (.iload_n 2, 1) := by decide +kernel
theorem dX4_isClearOf_1 : decode cX4_isClearOf 1 = .ok (.iload_n 3, 1) := by decide +kernel
theorem dX4_isClearOf_2 : decode cX4_isClearOf 2 = .ok (.iadd, 1) := by decide +kernel
theorem dX4_isClearOf_3 : decode cX4_isClearOf 3 = .ok (.aload_n 0, 1) := by decide +kernel
theorem dX4_isClearOf_4 : decode cX4_isClearOf 4 = .ok (.getfield 17, 3) := by decide +kernel
theorem dX4_isClearOf_7 : decode cX4_isClearOf 7 = .ok (.if_icmp .le 13, 3) := by decide +kernel
theorem dX4_isClearOf_10 : decode cX4_isClearOf 10 = .ok (.aload_n 0, 1) := by decide +kernel
theorem dX4_isClearOf_11 : decode cX4_isClearOf 11 = .ok (.getfield 21, 3) := by decide +kernel
theorem dX4_isClearOf_14 : decode cX4_isClearOf 14 = .ok (.iload_n 3, 1) := by decide +kernel
theorem dX4_isClearOf_15 : decode cX4_isClearOf 15 = .ok (.iadd, 1) := by decide +kernel
theorem dX4_isClearOf_16 : decode cX4_isClearOf 16 = .ok (.iload_n 1, 1) := by decide +kernel
theorem dX4_isClearOf_17 : decode cX4_isClearOf 17 = .ok (.if_icmp .gt 7, 3) := by decide +kernel
theorem dX4_isClearOf_20 : decode cX4_isClearOf 20 = .ok (.iconst 1, 1) := by decide +kernel
theorem dX4_isClearOf_21 : decode cX4_isClearOf 21 = .ok (.goto 4, 3) := by decide +kernel
theorem dX4_isClearOf_24 : decode cX4_isClearOf 24 = .ok (.iconst 0, 1) := by decide +kernel
theorem dX4_isClearOf_25 : decode cX4_isClearOf 25 = .ok (.ireturn, 1) := by decide +kernel
theorem dX4_tell_0 : decode cX4_tell 0 = .ok (.iload_n 1, 1) := by decide +kernel
theorem dX4_tell_1 : decode cX4_tell 1 = .ok (.tableswitch 45 0 2 #[27, 35, 40], 27) := by decide +kernel
theorem dX4_tell_28 : decode cX4_tell 28 = .ok (.aload_n 0, 1) := by decide +kernel
theorem dX4_tell_29 : decode cX4_tell 29 = .ok (.getfield 7, 3) := by decide +kernel
theorem dX4_tell_32 : decode cX4_tell 32 = .ok (.getfield 28, 3) := by decide +kernel
theorem dX4_tell_35 : decode cX4_tell 35 = .ok (.ireturn, 1) := by decide +kernel
theorem dX4_tell_36 : decode cX4_tell 36 = .ok (.aload_n 0, 1) := by decide +kernel
theorem dX4_tell_37 : decode cX4_tell 37 = .ok (.getfield 17, 3) := by decide +kernel
theorem dX4_tell_40 : decode cX4_tell 40 = .ok (.ireturn, 1) := by decide +kernel
theorem dX4_tell_41 : decode cX4_tell 41 = .ok (.aload_n 0, 1) := by decide +kernel
theorem dX4_tell_42 : decode cX4_tell 42 = .ok (.getfield 21, 3) := by decide +kernel
theorem dX4_tell_45 : decode cX4_tell 45 = .ok (.ireturn, 1) := by decide +kernel
theorem dX4_tell_46 : decode cX4_tell 46 = .ok (.aload_n 0, 1) := by decide +kernel
theorem dX4_tell_47 : decode cX4_tell 47 = .ok (.getfield 24, 3) := by decide +kernel
theorem dX4_tell_50 : decode cX4_tell 50 = .ok (.ifCond .eq 7, 3) := by decide +kernel
theorem dX4_tell_53 : decode cX4_tell 53 = .ok (.iconst 1, 1) := by decide +kernel
theorem dX4_tell_54 : decode cX4_tell 54 = .ok (.goto 4, 3) := by decide +kernel
theorem dX4_tell_57 : decode cX4_tell 57 = .ok (.iconst 0, 1) := by decide +kernel
theorem dX4_tell_58 : decode cX4_tell 58 = .ok (.ireturn, 1) := by decide +kernel
