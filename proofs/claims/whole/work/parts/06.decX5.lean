theorem dX5_init_0 : decode cX5_init 0 = .ok (.aload_n 0, 1) := by decide +kernel
theorem dX5_init_1 : decode cX5_init 1 = .ok (.invokespecial 1, 3) := by decide +kernel
theorem dX5_init_4 : decode cX5_init 4 = .ok (.aload_n 0, 1) := by decide +kernel
theorem dX5_init_5 : decode cX5_init 5 = .ok (.new 7, 3) := by decide +kernel
theorem dX5_init_8 : decode cX5_init 8 = .ok (.dup, 1) := by decide +kernel
theorem dX5_init_9 : decode cX5_init 9 = .ok (.invokespecial 9, 3) := by decide +kernel
theorem dX5_init_12 : decode cX5_init 12 = .ok (.putfield 10, 3) := by decide +kernel
theorem dX5_init_15 : decode cX5_init 15 = .ok (.aload_n 0, 1) := by decide +kernel
theorem dX5_init_16 : decode cX5_init 16 = .ok (.new 7, 3) := by decide +kernel
theorem dX5_init_19 : decode cX5_init 19 = .ok (.dup, 1) := by decide +kernel
theorem dX5_init_20 : decode cX5_init 20 = .ok (.invokespecial 9, 3) := by decide +kernel
theorem dX5_init_23 : decode cX5_init 23 = .ok (.putfield 16, 3) := by decide +kernel
theorem dX5_init_26 : decode cX5_init 26 = .ok (.aload_n 0, 1) := by decide +kernel
theorem dX5_init_27 : decode cX5_init 27 = .ok (.new 7, 3) := by decide +kernel
theorem dX5_init_30 : decode cX5_init 30 = .ok (.dup, 1) := by decide +kernel
theorem dX5_init_31 : decode cX5_init 31 = .ok (.invokespecial 9, 3) := by decide +kernel
theorem dX5_init_34 : decode cX5_init 34 = .ok (.putfield 19, 3) := by decide +kernel
theorem dX5_init_37 : decode cX5_init 37 = .ok (.aload_n 0, 1) := by decide +kernel
theorem dX5_init_38 : decode cX5_init 38 = .ok (.new 7, 3) := by decide +kernel
theorem dX5_init_41 : decode cX5_init 41 = .ok (.dup, 1) := by decide +kernel
theorem dX5_init_42 : decode cX5_init 42 = .ok (.invokespecial 9, 3) := by decide +kernel
theorem dX5_init_45 : decode cX5_init 45 = .ok (.putfield 22, 3) := by decide +kernel
theorem dX5_init_48 : decode cX5_init 48 = .ok (.aload_n 0, 1) := by decide +kernel
theorem dX5_init_49 : decode cX5_init 49 = .ok (.sipush 3011, 3) := by decide +kernel
theorem dX5_init_52 : decode cX5_init 52 = .ok (.newarray .int, 2) := by decide +kernel
theorem dX5_init_54 : decode cX5_init 54 = .ok (.putfield 25, 3) := by decide +kernel
theorem dX5_init_57 : decode cX5_init 57 = .ok (.aload_n 0, 1) := by decide +kernel
theorem dX5_init_58 : decode cX5_init 58 = .ok (.iconst 0, 1) := by decide +kernel
theorem dX5_init_59 : decode cX5_init 59 = .ok (.putfield 29, 3) := by decide +kernel
theorem dX5_init_62 : decode cX5_init 62 = .ok (.aload_n 0, 1) := by decide +kernel
theorem dX5_init_63 : decode cX5_init 63 = .ok (.iconst 3, 1) := by decide +kernel
theorem dX5_init_64 : decode cX5_init 64 = .ok (.putfield 33, 3) := by decide +kernel
theorem dX5_init_67 : decode cX5_init 67 = .ok (.aload_n 0, 1) := by decide +kernel
theorem dX5_init_68 : decode cX5_init 68 = .ok (.bipush 10, 2) := by decide +kernel
theorem dX5_init_70 : decode cX5_init 70 = .ok (.putfield 36, 3) := by decide +kernel
theorem dX5_init_73 : decode cX5_init 73 = .ok (.return_, 1) := by decide +kernel
theorem dX5_addBoard_0 : decode cX5_addBoard 0 = .ok (.iload_n 1, 1) := by decide +kernel
theorem dX5_addBoard_1 : decode cX5_addBoard 1 = .ok (.bipush 100, 2) := by decide +kernel
theorem dX5_addBoard_3 : decode cX5_addBoard 3 = .ok (.sipush 3000, 3) := by decide +kernel
theorem dX5_addBoard_6 : decode cX5_addBoard 6 = .ok (.invokestatic 39, 3) := by decide +kernel
theorem dX5_addBoard_9 : decode cX5_addBoard 9 = .ok (.ifCond .eq 22, 3) := by decide +kernel
theorem dX5_addBoard_12 : decode cX5_addBoard 12 = .ok (.iload_n 2, 1) := by decide +kernel
theorem dX5_addBoard_13 : decode cX5_addBoard 13 = .ok (.bipush 10, 2) := by decide +kernel
theorem dX5_addBoard_15 : decode cX5_addBoard 15 = .ok (.sipush 400, 3) := by decide +kernel
theorem dX5_addBoard_18 : decode cX5_addBoard 18 = .ok (.invokestatic 39, 3) := by decide +kernel
theorem dX5_addBoard_21 : decode cX5_addBoard 21 = .ok (.ifCond .eq 10, 3) := by decide +kernel
theorem dX5_addBoard_24 : decode cX5_addBoard 24 = .ok (.iload_n 3, 1) := by decide +kernel
theorem dX5_addBoard_25 : decode cX5_addBoard 25 = .ok (.invokestatic 43, 3) := by decide +kernel
theorem dX5_addBoard_28 : decode cX5_addBoard 28 = .ok (.ifCond .ne 13, 3) := by decide +kernel
theorem dX5_addBoard_31 : decode cX5_addBoard 31 = .ok (.new 47, 3) := by decide +kernel
theorem dX5_addBoard_34 : decode cX5_addBoard 34 = .ok (.dup, 1) := by decide +kernel
theorem dX5_addBoard_35 : decode cX5_addBoard 35 = .ok (.ldc 49, 2) := by decide +kernel
theorem dX5_addBoard_37 : decode cX5_addBoard 37 = .ok (.invokespecial 51, 3) := by decide +kernel
theorem dX5_addBoard_40 : decode cX5_addBoard 40 = .ok (.athrow, 1) := by decide +kernel
theorem dX5_addBoard_41 : decode cX5_addBoard 41 = .ok (.aload_n 0, 1) := by decide +kernel
theorem dX5_addBoard_42 : decode cX5_addBoard 42 = .ok (.getfield 10, 3) := by decide +kernel
theorem dX5_addBoard_45 : decode cX5_addBoard 45 = .ok (.invokevirtual 54, 3) := by decide +kernel
theorem dX5_addBoard_48 : decode cX5_addBoard 48 = .ok (.bipush 10, 2) := by decide +kernel
theorem dX5_addBoard_50 : decode cX5_addBoard 50 = .ok (.if_icmp .lt 13, 3) := by decide +kernel
theorem dX5_addBoard_53 : decode cX5_addBoard 53 = .ok (.new 58, 3) := by decide +kernel
theorem dX5_addBoard_56 : decode cX5_addBoard 56 = .ok (.dup, 1) := by decide +kernel
theorem dX5_addBoard_57 : decode cX5_addBoard 57 = .ok (.ldc 60, 2) := by decide +kernel
theorem dX5_addBoard_59 : decode cX5_addBoard 59 = .ok (.invokespecial 62, 3) := by decide +kernel
theorem dX5_addBoard_62 : decode cX5_addBoard 62 = .ok (.athrow, 1) := by decide +kernel
theorem dX5_addBoard_63 : decode cX5_addBoard 63 = .ok (.aload_n 0, 1) := by decide +kernel
theorem dX5_addBoard_64 : decode cX5_addBoard 64 = .ok (.getfield 10, 3) := by decide +kernel
theorem dX5_addBoard_67 : decode cX5_addBoard 67 = .ok (.new 63, 3) := by decide +kernel
theorem dX5_addBoard_70 : decode cX5_addBoard 70 = .ok (.dup, 1) := by decide +kernel
theorem dX5_addBoard_71 : decode cX5_addBoard 71 = .ok (.iload_n 1, 1) := by decide +kernel
theorem dX5_addBoard_72 : decode cX5_addBoard 72 = .ok (.iload_n 2, 1) := by decide +kernel
theorem dX5_addBoard_73 : decode cX5_addBoard 73 = .ok (.iload_n 3, 1) := by decide +kernel
theorem dX5_addBoard_74 : decode cX5_addBoard 74 = .ok (.invokespecial 65, 3) := by decide +kernel
theorem dX5_addBoard_77 : decode cX5_addBoard 77 = .ok (.invokevirtual 68, 3) := by decide +kernel
theorem dX5_addBoard_80 : decode cX5_addBoard 80 = .ok (.pop, 1) := by decide +kernel
theorem dX5_addBoard_81 : decode cX5_addBoard 81 = .ok (.aload_n 0, 1) := by decide +kernel
theorem dX5_addBoard_82 : decode cX5_addBoard 82 = .ok (.getfield 10, 3) := by decide +kernel
theorem dX5_addBoard_85 : decode cX5_addBoard 85 = .ok (.invokevirtual 54, 3) := by decide +kernel
theorem dX5_addBoard_88 : decode cX5_addBoard 88 = .ok (.iconst 1, 1) := by decide +kernel
theorem dX5_addBoard_89 : decode cX5_addBoard 89 = .ok (.isub, 1) := by decide +kernel
theorem dX5_addBoard_90 : decode cX5_addBoard 90 = .ok (.ireturn, 1) := by decide +kernel
theorem dX5_addDefect_0 : decode cX5_addDefect 0 = .ok (.aload_n 0, 1) := by decide +kernel
theorem dX5_addDefect_1 : decode cX5_addDefect 1 = .ok (.iload_n 1, 1) := by decide +kernel
theorem dX5_addDefect_2 : decode cX5_addDefect 2 = .ok (.invokevirtual 72, 3) := by decide +kernel
theorem dX5_addDefect_5 : decode cX5_addDefect 5 = .ok (.astore 5, 2) := by decide +kernel
theorem dX5_addDefect_7 : decode cX5_addDefect 7 = .ok (.iload_n 2, 1) := by decide +kernel
theorem dX5_addDefect_8 : decode cX5_addDefect 8 = .ok (.ifCond .lt 27, 3) := by decide +kernel
theorem dX5_addDefect_11 : decode cX5_addDefect 11 = .ok (.iload_n 3, 1) := by decide +kernel
theorem dX5_addDefect_12 : decode cX5_addDefect 12 = .ok (.iload_n 2, 1) := by decide +kernel
theorem dX5_addDefect_13 : decode cX5_addDefect 13 = .ok (.if_icmp .le 22, 3) := by decide +kernel
theorem dX5_addDefect_16 : decode cX5_addDefect 16 = .ok (.iload_n 3, 1) := by decide +kernel
theorem dX5_addDefect_17 : decode cX5_addDefect 17 = .ok (.aload 5, 2) := by decide +kernel
theorem dX5_addDefect_19 : decode cX5_addDefect 19 = .ok (.getfield 76, 3) := by decide +kernel
theorem dX5_addDefect_22 : decode cX5_addDefect 22 = .ok (.if_icmp .gt 13, 3) := by decide +kernel
theorem dX5_addDefect_25 : decode cX5_addDefect 25 = .ok (.iload 4, 2) := by decide +kernel
theorem dX5_addDefect_27 : decode cX5_addDefect 27 = .ok (.iconst 1, 1) := by decide +kernel
theorem dX5_addDefect_28 : decode cX5_addDefect 28 = .ok (.iconst 3, 1) := by decide +kernel
theorem dX5_addDefect_29 : decode cX5_addDefect 29 = .ok (.invokestatic 39, 3) := by decide +kernel
theorem dX5_addDefect_32 : decode cX5_addDefect 32 = .ok (.ifCond .ne 13, 3) := by decide +kernel
theorem dX5_addDefect_35 : decode cX5_addDefect 35 = .ok (.new 47, 3) := by decide +kernel
theorem dX5_addDefect_38 : decode cX5_addDefect 38 = .ok (.dup, 1) := by decide +kernel
theorem dX5_addDefect_39 : decode cX5_addDefect 39 = .ok (.ldc 79, 2) := by decide +kernel
theorem dX5_addDefect_41 : decode cX5_addDefect 41 = .ok (.invokespecial 51, 3) := by decide +kernel
theorem dX5_addDefect_44 : decode cX5_addDefect 44 = .ok (.athrow, 1) := by decide +kernel
theorem dX5_addDefect_45 : decode cX5_addDefect 45 = .ok (.aload_n 0, 1) := by decide +kernel
theorem dX5_addDefect_46 : decode cX5_addDefect 46 = .ok (.getfield 29, 3) := by decide +kernel
theorem dX5_addDefect_49 : decode cX5_addDefect 49 = .ok (.bipush 24, 2) := by decide +kernel
theorem dX5_addDefect_51 : decode cX5_addDefect 51 = .ok (.if_icmp .lt 13, 3) := by decide +kernel
theorem dX5_addDefect_54 : decode cX5_addDefect 54 = .ok (.new 58, 3) := by decide +kernel
theorem dX5_addDefect_57 : decode cX5_addDefect 57 = .ok (.dup, 1) := by decide +kernel
theorem dX5_addDefect_58 : decode cX5_addDefect 58 = .ok (.ldc 81, 2) := by decide +kernel
theorem dX5_addDefect_60 : decode cX5_addDefect 60 = .ok (.invokespecial 62, 3) := by decide +kernel
theorem dX5_addDefect_63 : decode cX5_addDefect 63 = .ok (.athrow, 1) := by decide +kernel
theorem dX5_addDefect_64 : decode cX5_addDefect 64 = .ok (.aload 5, 2) := by decide +kernel
theorem dX5_addDefect_66 : decode cX5_addDefect 66 = .ok (.iload_n 2, 1) := by decide +kernel
theorem dX5_addDefect_67 : decode cX5_addDefect 67 = .ok (.iload_n 3, 1) := by decide +kernel
theorem dX5_addDefect_68 : decode cX5_addDefect 68 = .ok (.iload 4, 2) := by decide +kernel
theorem dX5_addDefect_70 : decode cX5_addDefect 70 = .ok (.invokevirtual 83, 3) := by decide +kernel
theorem dX5_addDefect_73 : decode cX5_addDefect 73 = .ok (.ifCond .eq 13, 3) := by decide +kernel
theorem dX5_addDefect_76 : decode cX5_addDefect 76 = .ok (.new 58, 3) := by decide +kernel
theorem dX5_addDefect_79 : decode cX5_addDefect 79 = .ok (.dup, 1) := by decide +kernel
theorem dX5_addDefect_80 : decode cX5_addDefect 80 = .ok (.ldc 86, 2) := by decide +kernel
theorem dX5_addDefect_82 : decode cX5_addDefect 82 = .ok (.invokespecial 62, 3) := by decide +kernel
theorem dX5_addDefect_85 : decode cX5_addDefect 85 = .ok (.athrow, 1) := by decide +kernel
theorem dX5_addDefect_86 : decode cX5_addDefect 86 = .ok (.aload 5, 2) := by decide +kernel
theorem dX5_addDefect_88 : decode cX5_addDefect 88 = .ok (.new 88, 3) := by decide +kernel
theorem dX5_addDefect_91 : decode cX5_addDefect 91 = .ok (.dup, 1) := by decide +kernel
theorem dX5_addDefect_92 : decode cX5_addDefect 92 = .ok (.iload_n 2, 1) := by decide +kernel
theorem dX5_addDefect_93 : decode cX5_addDefect 93 = .ok (.iload_n 3, 1) := by decide +kernel
theorem dX5_addDefect_94 : decode cX5_addDefect 94 = .ok (.iload 4, 2) := by decide +kernel
theorem dX5_addDefect_96 : decode cX5_addDefect 96 = .ok (.invokespecial 90, 3) := by decide +kernel
theorem dX5_addDefect_99 : decode cX5_addDefect 99 = .ok (.invokevirtual 91, 3) := by decide +kernel
theorem dX5_addDefect_102 : decode cX5_addDefect 102 = .ok (.aload_n 0, 1) := by decide +kernel
theorem dX5_addDefect_103 : decode cX5_addDefect 103 = .ok (.dup, 1) := by decide +kernel
theorem dX5_addDefect_104 : decode cX5_addDefect 104 = .ok (.getfield 29, 3) := by decide +kernel
theorem dX5_addDefect_107 : decode cX5_addDefect 107 = .ok (.iconst 1, 1) := by decide +kernel
theorem dX5_addDefect_108 : decode cX5_addDefect 108 = .ok (.iadd, 1) := by decide +kernel
theorem dX5_addDefect_109 : decode cX5_addDefect 109 = .ok (.putfield 29, 3) := by decide +kernel
theorem dX5_addDefect_112 : decode cX5_addDefect 112 = .ok (.aload_n 0, 1) := by decide +kernel
theorem dX5_addDefect_113 : decode cX5_addDefect 113 = .ok (.getfield 29, 3) := by decide +kernel
theorem dX5_addDefect_116 : decode cX5_addDefect 116 = .ok (.ireturn, 1) := by decide +kernel
theorem dX5_addPart_0 : decode cX5_addPart 0 = .ok (.iload_n 1, 1) := by decide +kernel
theorem dX5_addPart_1 : decode cX5_addPart 1 = .ok (.bipush 20, 2) := by decide +kernel
theorem dX5_addPart_3 : decode cX5_addPart 3 = .ok (.sipush 3000, 3) := by decide +kernel
theorem dX5_addPart_6 : decode cX5_addPart 6 = .ok (.invokestatic 39, 3) := by decide +kernel
theorem dX5_addPart_9 : decode cX5_addPart 9 = .ok (.ifCond .eq 33, 3) := by decide +kernel
theorem dX5_addPart_12 : decode cX5_addPart 12 = .ok (.iload_n 2, 1) := by decide +kernel
theorem dX5_addPart_13 : decode cX5_addPart 13 = .ok (.bipush 10, 2) := by decide +kernel
theorem dX5_addPart_15 : decode cX5_addPart 15 = .ok (.sipush 400, 3) := by decide +kernel
theorem dX5_addPart_18 : decode cX5_addPart 18 = .ok (.invokestatic 39, 3) := by decide +kernel
theorem dX5_addPart_21 : decode cX5_addPart 21 = .ok (.ifCond .eq 21, 3) := by decide +kernel
theorem dX5_addPart_24 : decode cX5_addPart 24 = .ok (.iload_n 3, 1) := by decide +kernel
theorem dX5_addPart_25 : decode cX5_addPart 25 = .ok (.invokestatic 43, 3) := by decide +kernel
theorem dX5_addPart_28 : decode cX5_addPart 28 = .ok (.ifCond .eq 14, 3) := by decide +kernel
theorem dX5_addPart_31 : decode cX5_addPart 31 = .ok (.iload 4, 2) := by decide +kernel
theorem dX5_addPart_33 : decode cX5_addPart 33 = .ok (.iconst 1, 1) := by decide +kernel
theorem dX5_addPart_34 : decode cX5_addPart 34 = .ok (.bipush 9, 2) := by decide +kernel
theorem dX5_addPart_36 : decode cX5_addPart 36 = .ok (.invokestatic 39, 3) := by decide +kernel
theorem dX5_addPart_39 : decode cX5_addPart 39 = .ok (.ifCond .ne 13, 3) := by decide +kernel
theorem dX5_addPart_42 : decode cX5_addPart 42 = .ok (.new 47, 3) := by decide +kernel
theorem dX5_addPart_45 : decode cX5_addPart 45 = .ok (.dup, 1) := by decide +kernel
theorem dX5_addPart_46 : decode cX5_addPart 46 = .ok (.ldc 95, 2) := by decide +kernel
theorem dX5_addPart_48 : decode cX5_addPart 48 = .ok (.invokespecial 51, 3) := by decide +kernel
theorem dX5_addPart_51 : decode cX5_addPart 51 = .ok (.athrow, 1) := by decide +kernel
theorem dX5_addPart_52 : decode cX5_addPart 52 = .ok (.aload_n 0, 1) := by decide +kernel
theorem dX5_addPart_53 : decode cX5_addPart 53 = .ok (.getfield 16, 3) := by decide +kernel
theorem dX5_addPart_56 : decode cX5_addPart 56 = .ok (.invokevirtual 54, 3) := by decide +kernel
theorem dX5_addPart_59 : decode cX5_addPart 59 = .ok (.bipush 12, 2) := by decide +kernel
theorem dX5_addPart_61 : decode cX5_addPart 61 = .ok (.if_icmp .lt 13, 3) := by decide +kernel
theorem dX5_addPart_64 : decode cX5_addPart 64 = .ok (.new 58, 3) := by decide +kernel
theorem dX5_addPart_67 : decode cX5_addPart 67 = .ok (.dup, 1) := by decide +kernel
theorem dX5_addPart_68 : decode cX5_addPart 68 = .ok (.ldc 97, 2) := by decide +kernel
theorem dX5_addPart_70 : decode cX5_addPart 70 = .ok (.invokespecial 62, 3) := by decide +kernel
theorem dX5_addPart_73 : decode cX5_addPart 73 = .ok (.athrow, 1) := by decide +kernel
theorem dX5_addPart_74 : decode cX5_addPart 74 = .ok (.new 99, 3) := by decide +kernel
theorem dX5_addPart_77 : decode cX5_addPart 77 = .ok (.dup, 1) := by decide +kernel
theorem dX5_addPart_78 : decode cX5_addPart 78 = .ok (.aload_n 0, 1) := by decide +kernel
theorem dX5_addPart_79 : decode cX5_addPart 79 = .ok (.getfield 16, 3) := by decide +kernel
theorem dX5_addPart_82 : decode cX5_addPart 82 = .ok (.invokevirtual 54, 3) := by decide +kernel
theorem dX5_addPart_85 : decode cX5_addPart 85 = .ok (.iload_n 1, 1) := by decide +kernel
theorem dX5_addPart_86 : decode cX5_addPart 86 = .ok (.iload_n 2, 1) := by decide +kernel
theorem dX5_addPart_87 : decode cX5_addPart 87 = .ok (.iload_n 3, 1) := by decide +kernel
theorem dX5_addPart_88 : decode cX5_addPart 88 = .ok (.iload 4, 2) := by decide +kernel
theorem dX5_addPart_90 : decode cX5_addPart 90 = .ok (.iload 5, 2) := by decide +kernel
theorem dX5_addPart_92 : decode cX5_addPart 92 = .ok (.invokespecial 101, 3) := by decide +kernel
theorem dX5_addPart_95 : decode cX5_addPart 95 = .ok (.astore 6, 2) := by decide +kernel
theorem dX5_addPart_97 : decode cX5_addPart 97 = .ok (.aload_n 0, 1) := by decide +kernel
theorem dX5_addPart_98 : decode cX5_addPart 98 = .ok (.getfield 16, 3) := by decide +kernel
theorem dX5_addPart_101 : decode cX5_addPart 101 = .ok (.aload 6, 2) := by decide +kernel
theorem dX5_addPart_103 : decode cX5_addPart 103 = .ok (.invokevirtual 68, 3) := by decide +kernel
theorem dX5_addPart_106 : decode cX5_addPart 106 = .ok (.pop, 1) := by decide +kernel
theorem dX5_addPart_107 : decode cX5_addPart 107 = .ok (.aload_n 0, 1) := by decide +kernel
theorem dX5_addPart_108 : decode cX5_addPart 108 = .ok (.aload 6, 2) := by decide +kernel
theorem dX5_addPart_110 : decode cX5_addPart 110 = .ok (.invokevirtual 104, 3) := by decide +kernel
theorem dX5_addPart_113 : decode cX5_addPart 113 = .ok (.aload 6, 2) := by decide +kernel
theorem dX5_addPart_115 : decode cX5_addPart 115 = .ok (.getfield 108, 3) := by decide +kernel
theorem dX5_addPart_118 : decode cX5_addPart 118 = .ok (.ireturn, 1) := by decide +kernel
theorem dX5_setSaw_0 : decode cX5_setSaw 0 = .ok (.iload_n 1, 1) := by decide +kernel
theorem dX5_setSaw_1 : decode cX5_setSaw 1 = .ok (.iconst 0, 1) := by decide +kernel
theorem dX5_setSaw_2 : decode cX5_setSaw 2 = .ok (.bipush 10, 2) := by decide +kernel
theorem dX5_setSaw_4 : decode cX5_setSaw 4 = .ok (.invokestatic 39, 3) := by decide +kernel
theorem dX5_setSaw_7 : decode cX5_setSaw 7 = .ok (.ifCond .ne 13, 3) := by decide +kernel
theorem dX5_setSaw_10 : decode cX5_setSaw 10 = .ok (.new 47, 3) := by decide +kernel
theorem dX5_setSaw_13 : decode cX5_setSaw 13 = .ok (.dup, 1) := by decide +kernel
theorem dX5_setSaw_14 : decode cX5_setSaw 14 = .ok (.ldc 111, 2) := by decide +kernel
theorem dX5_setSaw_16 : decode cX5_setSaw 16 = .ok (.invokespecial 51, 3) := by decide +kernel
theorem dX5_setSaw_19 : decode cX5_setSaw 19 = .ok (.athrow, 1) := by decide +kernel
theorem dX5_setSaw_20 : decode cX5_setSaw 20 = .ok (.aload_n 0, 1) := by decide +kernel
theorem dX5_setSaw_21 : decode cX5_setSaw 21 = .ok (.getfield 22, 3) := by decide +kernel
theorem dX5_setSaw_24 : decode cX5_setSaw 24 = .ok (.invokevirtual 113, 3) := by decide +kernel
theorem dX5_setSaw_27 : decode cX5_setSaw 27 = .ok (.ifCond .ne 13, 3) := by decide +kernel
theorem dX5_setSaw_30 : decode cX5_setSaw 30 = .ok (.new 58, 3) := by decide +kernel
theorem dX5_setSaw_33 : decode cX5_setSaw 33 = .ok (.dup, 1) := by decide +kernel
theorem dX5_setSaw_34 : decode cX5_setSaw 34 = .ok (.ldc 117, 2) := by decide +kernel
theorem dX5_setSaw_36 : decode cX5_setSaw 36 = .ok (.invokespecial 62, 3) := by decide +kernel
theorem dX5_setSaw_39 : decode cX5_setSaw 39 = .ok (.athrow, 1) := by decide +kernel
theorem dX5_setSaw_40 : decode cX5_setSaw 40 = .ok (.aload_n 0, 1) := by decide +kernel
theorem dX5_setSaw_41 : decode cX5_setSaw 41 = .ok (.getfield 33, 3) := by decide +kernel
theorem dX5_setSaw_44 : decode cX5_setSaw 44 = .ok (.istore_n 2, 1) := by decide +kernel
theorem dX5_setSaw_45 : decode cX5_setSaw 45 = .ok (.aload_n 0, 1) := by decide +kernel
theorem dX5_setSaw_46 : decode cX5_setSaw 46 = .ok (.iload_n 1, 1) := by decide +kernel
theorem dX5_setSaw_47 : decode cX5_setSaw 47 = .ok (.putfield 33, 3) := by decide +kernel
theorem dX5_setSaw_50 : decode cX5_setSaw 50 = .ok (.iload_n 2, 1) := by decide +kernel
theorem dX5_setSaw_51 : decode cX5_setSaw 51 = .ok (.ireturn, 1) := by decide +kernel
theorem dX5_setJoint_0 : decode cX5_setJoint 0 = .ok (.iload_n 1, 1) := by decide +kernel
theorem dX5_setJoint_1 : decode cX5_setJoint 1 = .ok (.iconst 0, 1) := by decide +kernel
theorem dX5_setJoint_2 : decode cX5_setJoint 2 = .ok (.bipush 50, 2) := by decide +kernel
theorem dX5_setJoint_4 : decode cX5_setJoint 4 = .ok (.invokestatic 39, 3) := by decide +kernel
theorem dX5_setJoint_7 : decode cX5_setJoint 7 = .ok (.ifCond .ne 13, 3) := by decide +kernel
theorem dX5_setJoint_10 : decode cX5_setJoint 10 = .ok (.new 47, 3) := by decide +kernel
theorem dX5_setJoint_13 : decode cX5_setJoint 13 = .ok (.dup, 1) := by decide +kernel
theorem dX5_setJoint_14 : decode cX5_setJoint 14 = .ok (.ldc 119, 2) := by decide +kernel
theorem dX5_setJoint_16 : decode cX5_setJoint 16 = .ok (.invokespecial 51, 3) := by decide +kernel
theorem dX5_setJoint_19 : decode cX5_setJoint 19 = .ok (.athrow, 1) := by decide +kernel
theorem dX5_setJoint_20 : decode cX5_setJoint 20 = .ok (.aload_n 0, 1) := by decide +kernel
theorem dX5_setJoint_21 : decode cX5_setJoint 21 = .ok (.getfield 36, 3) := by decide +kernel
theorem dX5_setJoint_24 : decode cX5_setJoint 24 = .ok (.istore_n 2, 1) := by decide +kernel
theorem dX5_setJoint_25 : decode cX5_setJoint 25 = .ok (.aload_n 0, 1) := by decide +kernel
theorem dX5_setJoint_26 : decode cX5_setJoint 26 = .ok (.iload_n 1, 1) := by decide +kernel
theorem dX5_setJoint_27 : decode cX5_setJoint 27 = .ok (.putfield 36, 3) := by decide +kernel
theorem dX5_setJoint_30 : decode cX5_setJoint 30 = .ok (.iload_n 2, 1) := by decide +kernel
theorem dX5_setJoint_31 : decode cX5_setJoint 31 = .ok (.ireturn, 1) := by decide +kernel
theorem dX5_grade_0 : decode cX5_grade 0 = .ok (.aload_n 0, 1) := by decide +kernel
theorem dX5_grade_1 : decode cX5_grade 1 = .ok (.iload_n 1, 1) := by decide +kernel
theorem dX5_grade_2 : decode cX5_grade 2 = .ok (.invokevirtual 72, 3) := by decide +kernel
theorem dX5_grade_5 : decode cX5_grade 5 = .ok (.astore_n 3, 1) := by decide +kernel
theorem dX5_grade_6 : decode cX5_grade 6 = .ok (.iload_n 2, 1) := by decide +kernel
theorem dX5_grade_7 : decode cX5_grade 7 = .ok (.ifCond .lt 11, 3) := by decide +kernel
theorem dX5_grade_10 : decode cX5_grade 10 = .ok (.iload_n 2, 1) := by decide +kernel
theorem dX5_grade_11 : decode cX5_grade 11 = .ok (.aload_n 3, 1) := by decide +kernel
theorem dX5_grade_12 : decode cX5_grade 12 = .ok (.getfield 76, 3) := by decide +kernel
theorem dX5_grade_15 : decode cX5_grade 15 = .ok (.if_icmp .lt 13, 3) := by decide +kernel
theorem dX5_grade_18 : decode cX5_grade 18 = .ok (.new 121, 3) := by decide +kernel
theorem dX5_grade_21 : decode cX5_grade 21 = .ok (.dup, 1) := by decide +kernel
theorem dX5_grade_22 : decode cX5_grade 22 = .ok (.ldc 123, 2) := by decide +kernel
theorem dX5_grade_24 : decode cX5_grade 24 = .ok (.invokespecial 125, 3) := by decide +kernel
theorem dX5_grade_27 : decode cX5_grade 27 = .ok (.athrow, 1) := by decide +kernel
theorem dX5_grade_28 : decode cX5_grade 28 = .ok (.aload_n 3, 1) := by decide +kernel
theorem dX5_grade_29 : decode cX5_grade 29 = .ok (.iload_n 2, 1) := by decide +kernel
theorem dX5_grade_30 : decode cX5_grade 30 = .ok (.invokevirtual 126, 3) := by decide +kernel
theorem dX5_grade_33 : decode cX5_grade 33 = .ok (.ireturn, 1) := by decide +kernel
theorem dX5_stretches_0 : decode cX5_stretches 0 = .ok (.aload_n 0, 1) := by decide +kernel
theorem dX5_stretches_1 : decode cX5_stretches 1 = .ok (.iload_n 1, 1) := by decide +kernel
theorem dX5_stretches_2 : decode cX5_stretches 2 = .ok (.invokevirtual 72, 3) := by decide +kernel
theorem dX5_stretches_5 : decode cX5_stretches 5 = .ok (.astore_n 3, 1) := by decide +kernel
theorem dX5_stretches_6 : decode cX5_stretches 6 = .ok (.iload_n 2, 1) := by decide +kernel
theorem dX5_stretches_7 : decode cX5_stretches 7 = .ok (.invokestatic 130, 3) := by decide +kernel
theorem dX5_stretches_10 : decode cX5_stretches 10 = .ok (.aload_n 3, 1) := by decide +kernel
theorem dX5_stretches_11 : decode cX5_stretches 11 = .ok (.iload_n 2, 1) := by decide +kernel
theorem dX5_stretches_12 : decode cX5_stretches 12 = .ok (.invokevirtual 134, 3) := by decide +kernel
theorem dX5_stretches_15 : decode cX5_stretches 15 = .ok (.ireturn, 1) := by decide +kernel
theorem dX5_stretch_0 : decode cX5_stretch 0 = .ok (.aload_n 0, 1) := by decide +kernel
theorem dX5_stretch_1 : decode cX5_stretch 1 = .ok (.iload_n 1, 1) := by decide +kernel
theorem dX5_stretch_2 : decode cX5_stretch 2 = .ok (.invokevirtual 72, 3) := by decide +kernel
theorem dX5_stretch_5 : decode cX5_stretch 5 = .ok (.astore 5, 2) := by decide +kernel
theorem dX5_stretch_7 : decode cX5_stretch 7 = .ok (.iload_n 2, 1) := by decide +kernel
theorem dX5_stretch_8 : decode cX5_stretch 8 = .ok (.invokestatic 130, 3) := by decide +kernel
theorem dX5_stretch_11 : decode cX5_stretch 11 = .ok (.iload_n 3, 1) := by decide +kernel
theorem dX5_stretch_12 : decode cX5_stretch 12 = .ok (.ifCond .lt 13, 3) := by decide +kernel
theorem dX5_stretch_15 : decode cX5_stretch 15 = .ok (.iload_n 3, 1) := by decide +kernel
theorem dX5_stretch_16 : decode cX5_stretch 16 = .ok (.aload 5, 2) := by decide +kernel
theorem dX5_stretch_18 : decode cX5_stretch 18 = .ok (.iload_n 2, 1) := by decide +kernel
theorem dX5_stretch_19 : decode cX5_stretch 19 = .ok (.invokevirtual 134, 3) := by decide +kernel
theorem dX5_stretch_22 : decode cX5_stretch 22 = .ok (.if_icmp .lt 13, 3) := by decide +kernel
theorem dX5_stretch_25 : decode cX5_stretch 25 = .ok (.new 47, 3) := by decide +kernel
theorem dX5_stretch_28 : decode cX5_stretch 28 = .ok (.dup, 1) := by decide +kernel
theorem dX5_stretch_29 : decode cX5_stretch 29 = .ok (.ldc 137, 2) := by decide +kernel
theorem dX5_stretch_31 : decode cX5_stretch 31 = .ok (.invokespecial 51, 3) := by decide +kernel
theorem dX5_stretch_34 : decode cX5_stretch 34 = .ok (.athrow, 1) := by decide +kernel
theorem dX5_stretch_35 : decode cX5_stretch 35 = .ok (.aload 5, 2) := by decide +kernel
theorem dX5_stretch_37 : decode cX5_stretch 37 = .ok (.iload_n 3, 1) := by decide +kernel
theorem dX5_stretch_38 : decode cX5_stretch 38 = .ok (.iload_n 2, 1) := by decide +kernel
theorem dX5_stretch_39 : decode cX5_stretch 39 = .ok (.invokevirtual 139, 3) := by decide +kernel
theorem dX5_stretch_42 : decode cX5_stretch 42 = .ok (.istore 6, 2) := by decide +kernel
theorem dX5_stretch_44 : decode cX5_stretch 44 = .ok (.iload 4, 2) := by decide +kernel
theorem dX5_stretch_46 : decode cX5_stretch 46 = .ok (.ifCond .eq 14, 3) := by decide +kernel
theorem dX5_stretch_49 : decode cX5_stretch 49 = .ok (.aload 5, 2) := by decide +kernel
theorem dX5_stretch_51 : decode cX5_stretch 51 = .ok (.iload 6, 2) := by decide +kernel
theorem dX5_stretch_53 : decode cX5_stretch 53 = .ok (.iload_n 2, 1) := by decide +kernel
theorem dX5_stretch_54 : decode cX5_stretch 54 = .ok (.invokevirtual 143, 3) := by decide +kernel
theorem dX5_stretch_57 : decode cX5_stretch 57 = .ok (.goto 5, 3) := by decide +kernel
theorem dX5_stretch_60 : decode cX5_stretch 60 = .ok (.iload 6, 2) := by decide +kernel
theorem dX5_stretch_62 : decode cX5_stretch 62 = .ok (.ireturn, 1) := by decide +kernel
theorem dX5_fits_0 : decode cX5_fits 0 = .ok (.aload_n 0, 1) := by decide +kernel
theorem dX5_fits_1 : decode cX5_fits 1 = .ok (.iload_n 1, 1) := by decide +kernel
theorem dX5_fits_2 : decode cX5_fits 2 = .ok (.invokevirtual 146, 3) := by decide +kernel
theorem dX5_fits_5 : decode cX5_fits 5 = .ok (.astore 4, 2) := by decide +kernel
theorem dX5_fits_7 : decode cX5_fits 7 = .ok (.aload_n 0, 1) := by decide +kernel
theorem dX5_fits_8 : decode cX5_fits 8 = .ok (.iload_n 2, 1) := by decide +kernel
theorem dX5_fits_9 : decode cX5_fits 9 = .ok (.invokevirtual 72, 3) := by decide +kernel
theorem dX5_fits_12 : decode cX5_fits 12 = .ok (.aload 4, 2) := by decide +kernel
theorem dX5_fits_14 : decode cX5_fits 14 = .ok (.iload_n 3, 1) := by decide +kernel
theorem dX5_fits_15 : decode cX5_fits 15 = .ok (.aload 4, 2) := by decide +kernel
theorem dX5_fits_17 : decode cX5_fits 17 = .ok (.getfield 150, 3) := by decide +kernel
theorem dX5_fits_20 : decode cX5_fits 20 = .ok (.aload_n 0, 1) := by decide +kernel
theorem dX5_fits_21 : decode cX5_fits 21 = .ok (.getfield 33, 3) := by decide +kernel
theorem dX5_fits_24 : decode cX5_fits 24 = .ok (.invokevirtual 151, 3) := by decide +kernel
theorem dX5_fits_27 : decode cX5_fits 27 = .ok (.ireturn, 1) := by decide +kernel
theorem dX5_earliest_0 : decode cX5_earliest 0 = .ok (.aload_n 0, 1) := by decide +kernel
theorem dX5_earliest_1 : decode cX5_earliest 1 = .ok (.iload_n 1, 1) := by decide +kernel
theorem dX5_earliest_2 : decode cX5_earliest 2 = .ok (.invokevirtual 146, 3) := by decide +kernel
theorem dX5_earliest_5 : decode cX5_earliest 5 = .ok (.astore_n 3, 1) := by decide +kernel
theorem dX5_earliest_6 : decode cX5_earliest 6 = .ok (.aload_n 0, 1) := by decide +kernel
theorem dX5_earliest_7 : decode cX5_earliest 7 = .ok (.iload_n 2, 1) := by decide +kernel
theorem dX5_earliest_8 : decode cX5_earliest 8 = .ok (.invokevirtual 72, 3) := by decide +kernel
theorem dX5_earliest_11 : decode cX5_earliest 11 = .ok (.aload_n 3, 1) := by decide +kernel
theorem dX5_earliest_12 : decode cX5_earliest 12 = .ok (.aload_n 0, 1) := by decide +kernel
theorem dX5_earliest_13 : decode cX5_earliest 13 = .ok (.getfield 33, 3) := by decide +kernel
theorem dX5_earliest_16 : decode cX5_earliest 16 = .ok (.invokevirtual 155, 3) := by decide +kernel
theorem dX5_earliest_19 : decode cX5_earliest 19 = .ok (.ireturn, 1) := by decide +kernel
theorem dX5_cut_0 : decode cX5_cut 0 = .ok (.aload_n 0, 1) := by decide +kernel
theorem dX5_cut_1 : decode cX5_cut 1 = .ok (.iload_n 1, 1) := by decide +kernel
theorem dX5_cut_2 : decode cX5_cut 2 = .ok (.invokevirtual 146, 3) := by decide +kernel
theorem dX5_cut_5 : decode cX5_cut 5 = .ok (.astore 4, 2) := by decide +kernel
theorem dX5_cut_7 : decode cX5_cut 7 = .ok (.aload_n 0, 1) := by decide +kernel
theorem dX5_cut_8 : decode cX5_cut 8 = .ok (.iload_n 2, 1) := by decide +kernel
theorem dX5_cut_9 : decode cX5_cut 9 = .ok (.invokevirtual 72, 3) := by decide +kernel
theorem dX5_cut_12 : decode cX5_cut 12 = .ok (.astore 5, 2) := by decide +kernel
theorem dX5_cut_14 : decode cX5_cut 14 = .ok (.aload 4, 2) := by decide +kernel
theorem dX5_cut_16 : decode cX5_cut 16 = .ok (.getfield 159, 3) := by decide +kernel
theorem dX5_cut_19 : decode cX5_cut 19 = .ok (.ifCond .gt 13, 3) := by decide +kernel
theorem dX5_cut_22 : decode cX5_cut 22 = .ok (.new 58, 3) := by decide +kernel
theorem dX5_cut_25 : decode cX5_cut 25 = .ok (.dup, 1) := by decide +kernel
theorem dX5_cut_26 : decode cX5_cut 26 = .ok (.ldc 162, 2) := by decide +kernel
theorem dX5_cut_28 : decode cX5_cut 28 = .ok (.invokespecial 62, 3) := by decide +kernel
theorem dX5_cut_31 : decode cX5_cut 31 = .ok (.athrow, 1) := by decide +kernel
theorem dX5_cut_32 : decode cX5_cut 32 = .ok (.aload 5, 2) := by decide +kernel
theorem dX5_cut_34 : decode cX5_cut 34 = .ok (.aload 4, 2) := by decide +kernel
theorem dX5_cut_36 : decode cX5_cut 36 = .ok (.iload_n 3, 1) := by decide +kernel
theorem dX5_cut_37 : decode cX5_cut 37 = .ok (.aload 4, 2) := by decide +kernel
theorem dX5_cut_39 : decode cX5_cut 39 = .ok (.getfield 150, 3) := by decide +kernel
theorem dX5_cut_42 : decode cX5_cut 42 = .ok (.aload_n 0, 1) := by decide +kernel
theorem dX5_cut_43 : decode cX5_cut 43 = .ok (.getfield 33, 3) := by decide +kernel
theorem dX5_cut_46 : decode cX5_cut 46 = .ok (.invokevirtual 151, 3) := by decide +kernel
theorem dX5_cut_49 : decode cX5_cut 49 = .ok (.ifCond .ne 13, 3) := by decide +kernel
theorem dX5_cut_52 : decode cX5_cut 52 = .ok (.new 58, 3) := by decide +kernel
theorem dX5_cut_55 : decode cX5_cut 55 = .ok (.dup, 1) := by decide +kernel
theorem dX5_cut_56 : decode cX5_cut 56 = .ok (.ldc 164, 2) := by decide +kernel
theorem dX5_cut_58 : decode cX5_cut 58 = .ok (.invokespecial 62, 3) := by decide +kernel
theorem dX5_cut_61 : decode cX5_cut 61 = .ok (.athrow, 1) := by decide +kernel
theorem dX5_cut_62 : decode cX5_cut 62 = .ok (.aload_n 0, 1) := by decide +kernel
theorem dX5_cut_63 : decode cX5_cut 63 = .ok (.aload 4, 2) := by decide +kernel
theorem dX5_cut_65 : decode cX5_cut 65 = .ok (.aload 5, 2) := by decide +kernel
theorem dX5_cut_67 : decode cX5_cut 67 = .ok (.iload_n 3, 1) := by decide +kernel
theorem dX5_cut_68 : decode cX5_cut 68 = .ok (.invokevirtual 166, 3) := by decide +kernel
theorem dX5_cut_71 : decode cX5_cut 71 = .ok (.aload 4, 2) := by decide +kernel
theorem dX5_cut_73 : decode cX5_cut 73 = .ok (.getfield 159, 3) := by decide +kernel
theorem dX5_cut_76 : decode cX5_cut 76 = .ok (.ireturn, 1) := by decide +kernel
theorem dX5_join_0 : decode cX5_join 0 = .ok (.aload_n 0, 1) := by decide +kernel
theorem dX5_join_1 : decode cX5_join 1 = .ok (.iload_n 1, 1) := by decide +kernel
theorem dX5_join_2 : decode cX5_join 2 = .ok (.invokevirtual 146, 3) := by decide +kernel
theorem dX5_join_5 : decode cX5_join 5 = .ok (.astore 7, 2) := by decide +kernel
theorem dX5_join_7 : decode cX5_join 7 = .ok (.aload_n 0, 1) := by decide +kernel
theorem dX5_join_8 : decode cX5_join 8 = .ok (.iload_n 2, 1) := by decide +kernel
theorem dX5_join_9 : decode cX5_join 9 = .ok (.invokevirtual 72, 3) := by decide +kernel
theorem dX5_join_12 : decode cX5_join 12 = .ok (.astore 8, 2) := by decide +kernel
theorem dX5_join_14 : decode cX5_join 14 = .ok (.aload_n 0, 1) := by decide +kernel
theorem dX5_join_15 : decode cX5_join 15 = .ok (.iload 5, 2) := by decide +kernel
theorem dX5_join_17 : decode cX5_join 17 = .ok (.invokevirtual 72, 3) := by decide +kernel
theorem dX5_join_20 : decode cX5_join 20 = .ok (.astore 9, 2) := by decide +kernel
theorem dX5_join_22 : decode cX5_join 22 = .ok (.aload 7, 2) := by decide +kernel
theorem dX5_join_24 : decode cX5_join 24 = .ok (.getfield 150, 3) := by decide +kernel
theorem dX5_join_27 : decode cX5_join 27 = .ok (.aload_n 0, 1) := by decide +kernel
theorem dX5_join_28 : decode cX5_join 28 = .ok (.getfield 36, 3) := by decide +kernel
theorem dX5_join_31 : decode cX5_join 31 = .ok (.iadd, 1) := by decide +kernel
theorem dX5_join_32 : decode cX5_join 32 = .ok (.iload 4, 2) := by decide +kernel
theorem dX5_join_34 : decode cX5_join 34 = .ok (.isub, 1) := by decide +kernel
theorem dX5_join_35 : decode cX5_join 35 = .ok (.istore 10, 2) := by decide +kernel
theorem dX5_join_37 : decode cX5_join 37 = .ok (.iload 4, 2) := by decide +kernel
theorem dX5_join_39 : decode cX5_join 39 = .ok (.bipush 50, 2) := by decide +kernel
theorem dX5_join_41 : decode cX5_join 41 = .ok (.if_icmp .lt 10, 3) := by decide +kernel
theorem dX5_join_44 : decode cX5_join 44 = .ok (.iload 10, 2) := by decide +kernel
theorem dX5_join_46 : decode cX5_join 46 = .ok (.bipush 50, 2) := by decide +kernel
theorem dX5_join_48 : decode cX5_join 48 = .ok (.if_icmp .ge 13, 3) := by decide +kernel
theorem dX5_join_51 : decode cX5_join 51 = .ok (.new 47, 3) := by decide +kernel
theorem dX5_join_54 : decode cX5_join 54 = .ok (.dup, 1) := by decide +kernel
theorem dX5_join_55 : decode cX5_join 55 = .ok (.ldc 170, 2) := by decide +kernel
theorem dX5_join_57 : decode cX5_join 57 = .ok (.invokespecial 51, 3) := by decide +kernel
theorem dX5_join_60 : decode cX5_join 60 = .ok (.athrow, 1) := by decide +kernel
theorem dX5_join_61 : decode cX5_join 61 = .ok (.aload 7, 2) := by decide +kernel
theorem dX5_join_63 : decode cX5_join 63 = .ok (.getfield 159, 3) := by decide +kernel
theorem dX5_join_66 : decode cX5_join 66 = .ok (.ifCond .le 11, 3) := by decide +kernel
theorem dX5_join_69 : decode cX5_join 69 = .ok (.aload 7, 2) := by decide +kernel
theorem dX5_join_71 : decode cX5_join 71 = .ok (.getfield 172, 3) := by decide +kernel
theorem dX5_join_74 : decode cX5_join 74 = .ok (.ifCond .ne 13, 3) := by decide +kernel
theorem dX5_join_77 : decode cX5_join 77 = .ok (.new 58, 3) := by decide +kernel
theorem dX5_join_80 : decode cX5_join 80 = .ok (.dup, 1) := by decide +kernel
theorem dX5_join_81 : decode cX5_join 81 = .ok (.ldc 176, 2) := by decide +kernel
theorem dX5_join_83 : decode cX5_join 83 = .ok (.invokespecial 62, 3) := by decide +kernel
theorem dX5_join_86 : decode cX5_join 86 = .ok (.athrow, 1) := by decide +kernel
theorem dX5_join_87 : decode cX5_join 87 = .ok (.aload 8, 2) := by decide +kernel
theorem dX5_join_89 : decode cX5_join 89 = .ok (.aload 7, 2) := by decide +kernel
theorem dX5_join_91 : decode cX5_join 91 = .ok (.iload_n 3, 1) := by decide +kernel
theorem dX5_join_92 : decode cX5_join 92 = .ok (.iload 4, 2) := by decide +kernel
theorem dX5_join_94 : decode cX5_join 94 = .ok (.aload_n 0, 1) := by decide +kernel
theorem dX5_join_95 : decode cX5_join 95 = .ok (.getfield 33, 3) := by decide +kernel
theorem dX5_join_98 : decode cX5_join 98 = .ok (.invokevirtual 151, 3) := by decide +kernel
theorem dX5_join_101 : decode cX5_join 101 = .ok (.ifCond .eq 21, 3) := by decide +kernel
theorem dX5_join_104 : decode cX5_join 104 = .ok (.aload 9, 2) := by decide +kernel
theorem dX5_join_106 : decode cX5_join 106 = .ok (.aload 7, 2) := by decide +kernel
theorem dX5_join_108 : decode cX5_join 108 = .ok (.iload 6, 2) := by decide +kernel
theorem dX5_join_110 : decode cX5_join 110 = .ok (.iload 10, 2) := by decide +kernel
theorem dX5_join_112 : decode cX5_join 112 = .ok (.aload_n 0, 1) := by decide +kernel
theorem dX5_join_113 : decode cX5_join 113 = .ok (.getfield 33, 3) := by decide +kernel
theorem dX5_join_116 : decode cX5_join 116 = .ok (.invokevirtual 151, 3) := by decide +kernel
theorem dX5_join_119 : decode cX5_join 119 = .ok (.ifCond .ne 13, 3) := by decide +kernel
theorem dX5_join_122 : decode cX5_join 122 = .ok (.new 58, 3) := by decide +kernel
theorem dX5_join_125 : decode cX5_join 125 = .ok (.dup, 1) := by decide +kernel
theorem dX5_join_126 : decode cX5_join 126 = .ok (.ldc 178, 2) := by decide +kernel
theorem dX5_join_128 : decode cX5_join 128 = .ok (.invokespecial 62, 3) := by decide +kernel
theorem dX5_join_131 : decode cX5_join 131 = .ok (.athrow, 1) := by decide +kernel
theorem dX5_join_132 : decode cX5_join 132 = .ok (.new 180, 3) := by decide +kernel
theorem dX5_join_135 : decode cX5_join 135 = .ok (.dup, 1) := by decide +kernel
theorem dX5_join_136 : decode cX5_join 136 = .ok (.aload 7, 2) := by decide +kernel
theorem dX5_join_138 : decode cX5_join 138 = .ok (.aload 8, 2) := by decide +kernel
theorem dX5_join_140 : decode cX5_join 140 = .ok (.iload_n 3, 1) := by decide +kernel
theorem dX5_join_141 : decode cX5_join 141 = .ok (.iload_n 3, 1) := by decide +kernel
theorem dX5_join_142 : decode cX5_join 142 = .ok (.iload 4, 2) := by decide +kernel
theorem dX5_join_144 : decode cX5_join 144 = .ok (.iadd, 1) := by decide +kernel
theorem dX5_join_145 : decode cX5_join 145 = .ok (.iconst 1, 1) := by decide +kernel
theorem dX5_join_146 : decode cX5_join 146 = .ok (.invokespecial 182, 3) := by decide +kernel
theorem dX5_join_149 : decode cX5_join 149 = .ok (.astore 11, 2) := by decide +kernel
theorem dX5_join_151 : decode cX5_join 151 = .ok (.new 180, 3) := by decide +kernel
theorem dX5_join_154 : decode cX5_join 154 = .ok (.dup, 1) := by decide +kernel
theorem dX5_join_155 : decode cX5_join 155 = .ok (.aload 7, 2) := by decide +kernel
theorem dX5_join_157 : decode cX5_join 157 = .ok (.aload 9, 2) := by decide +kernel
theorem dX5_join_159 : decode cX5_join 159 = .ok (.iload 6, 2) := by decide +kernel
theorem dX5_join_161 : decode cX5_join 161 = .ok (.iload 6, 2) := by decide +kernel
theorem dX5_join_163 : decode cX5_join 163 = .ok (.iload 10, 2) := by decide +kernel
theorem dX5_join_165 : decode cX5_join 165 = .ok (.iadd, 1) := by decide +kernel
theorem dX5_join_166 : decode cX5_join 166 = .ok (.iconst 1, 1) := by decide +kernel
theorem dX5_join_167 : decode cX5_join 167 = .ok (.invokespecial 182, 3) := by decide +kernel
theorem dX5_join_170 : decode cX5_join 170 = .ok (.astore 12, 2) := by decide +kernel
theorem dX5_join_172 : decode cX5_join 172 = .ok (.aload 8, 2) := by decide +kernel
theorem dX5_join_174 : decode cX5_join 174 = .ok (.aload 9, 2) := by decide +kernel
theorem dX5_join_176 : decode cX5_join 176 = .ok (.if_acmp .ne 35, 3) := by decide +kernel
theorem dX5_join_179 : decode cX5_join 179 = .ok (.aload 11, 2) := by decide +kernel
theorem dX5_join_181 : decode cX5_join 181 = .ok (.aload 12, 2) := by decide +kernel
theorem dX5_join_183 : decode cX5_join 183 = .ok (.getfield 185, 3) := by decide +kernel
theorem dX5_join_186 : decode cX5_join 186 = .ok (.aload 12, 2) := by decide +kernel
theorem dX5_join_188 : decode cX5_join 188 = .ok (.getfield 188, 3) := by decide +kernel
theorem dX5_join_191 : decode cX5_join 191 = .ok (.aload_n 0, 1) := by decide +kernel
theorem dX5_join_192 : decode cX5_join 192 = .ok (.getfield 33, 3) := by decide +kernel
theorem dX5_join_195 : decode cX5_join 195 = .ok (.invokevirtual 191, 3) := by decide +kernel
theorem dX5_join_198 : decode cX5_join 198 = .ok (.ifCond .ne 13, 3) := by decide +kernel
theorem dX5_join_201 : decode cX5_join 201 = .ok (.new 58, 3) := by decide +kernel
theorem dX5_join_204 : decode cX5_join 204 = .ok (.dup, 1) := by decide +kernel
theorem dX5_join_205 : decode cX5_join 205 = .ok (.ldc 194, 2) := by decide +kernel
theorem dX5_join_207 : decode cX5_join 207 = .ok (.invokespecial 62, 3) := by decide +kernel
theorem dX5_join_210 : decode cX5_join 210 = .ok (.athrow, 1) := by decide +kernel
theorem dX5_join_211 : decode cX5_join 211 = .ok (.aload_n 0, 1) := by decide +kernel
theorem dX5_join_212 : decode cX5_join 212 = .ok (.new 196, 3) := by decide +kernel
theorem dX5_join_215 : decode cX5_join 215 = .ok (.dup, 1) := by decide +kernel
theorem dX5_join_216 : decode cX5_join 216 = .ok (.aload 7, 2) := by decide +kernel
theorem dX5_join_218 : decode cX5_join 218 = .ok (.aload 11, 2) := by decide +kernel
theorem dX5_join_220 : decode cX5_join 220 = .ok (.aload 12, 2) := by decide +kernel
theorem dX5_join_222 : decode cX5_join 222 = .ok (.invokespecial 198, 3) := by decide +kernel
theorem dX5_join_225 : decode cX5_join 225 = .ok (.invokevirtual 201, 3) := by decide +kernel
theorem dX5_join_228 : decode cX5_join 228 = .ok (.aload 7, 2) := by decide +kernel
theorem dX5_join_230 : decode cX5_join 230 = .ok (.getfield 159, 3) := by decide +kernel
theorem dX5_join_233 : decode cX5_join 233 = .ok (.ireturn, 1) := by decide +kernel
theorem dX5_undo_0 : decode cX5_undo 0 = .ok (.aload_n 0, 1) := by decide +kernel
theorem dX5_undo_1 : decode cX5_undo 1 = .ok (.getfield 22, 3) := by decide +kernel
theorem dX5_undo_4 : decode cX5_undo 4 = .ok (.invokevirtual 113, 3) := by decide +kernel
theorem dX5_undo_7 : decode cX5_undo 7 = .ok (.ifCond .eq 13, 3) := by decide +kernel
theorem dX5_undo_10 : decode cX5_undo 10 = .ok (.new 58, 3) := by decide +kernel
theorem dX5_undo_13 : decode cX5_undo 13 = .ok (.dup, 1) := by decide +kernel
theorem dX5_undo_14 : decode cX5_undo 14 = .ok (.ldc 205, 2) := by decide +kernel
theorem dX5_undo_16 : decode cX5_undo 16 = .ok (.invokespecial 62, 3) := by decide +kernel
theorem dX5_undo_19 : decode cX5_undo 19 = .ok (.athrow, 1) := by decide +kernel
theorem dX5_undo_20 : decode cX5_undo 20 = .ok (.aload_n 0, 1) := by decide +kernel
theorem dX5_undo_21 : decode cX5_undo 21 = .ok (.getfield 22, 3) := by decide +kernel
theorem dX5_undo_24 : decode cX5_undo 24 = .ok (.aload_n 0, 1) := by decide +kernel
theorem dX5_undo_25 : decode cX5_undo 25 = .ok (.getfield 22, 3) := by decide +kernel
theorem dX5_undo_28 : decode cX5_undo 28 = .ok (.invokevirtual 54, 3) := by decide +kernel
theorem dX5_undo_31 : decode cX5_undo 31 = .ok (.iconst 1, 1) := by decide +kernel
theorem dX5_undo_32 : decode cX5_undo 32 = .ok (.isub, 1) := by decide +kernel
theorem dX5_undo_33 : decode cX5_undo 33 = .ok (.invokevirtual 207, 3) := by decide +kernel
theorem dX5_undo_36 : decode cX5_undo 36 = .ok (.checkcast 196, 3) := by decide +kernel
theorem dX5_undo_39 : decode cX5_undo 39 = .ok (.astore_n 1, 1) := by decide +kernel
theorem dX5_undo_40 : decode cX5_undo 40 = .ok (.aload_n 1, 1) := by decide +kernel
theorem dX5_undo_41 : decode cX5_undo 41 = .ok (.getfield 211, 3) := by decide +kernel
theorem dX5_undo_44 : decode cX5_undo 44 = .ok (.getfield 215, 3) := by decide +kernel
theorem dX5_undo_47 : decode cX5_undo 47 = .ok (.aload_n 1, 1) := by decide +kernel
theorem dX5_undo_48 : decode cX5_undo 48 = .ok (.getfield 211, 3) := by decide +kernel
theorem dX5_undo_51 : decode cX5_undo 51 = .ok (.invokevirtual 219, 3) := by decide +kernel
theorem dX5_undo_54 : decode cX5_undo 54 = .ok (.aload_n 1, 1) := by decide +kernel
theorem dX5_undo_55 : decode cX5_undo 55 = .ok (.getfield 223, 3) := by decide +kernel
theorem dX5_undo_58 : decode cX5_undo 58 = .ok (.ifnull 17, 3) := by decide +kernel
theorem dX5_undo_61 : decode cX5_undo 61 = .ok (.aload_n 1, 1) := by decide +kernel
theorem dX5_undo_62 : decode cX5_undo 62 = .ok (.getfield 223, 3) := by decide +kernel
theorem dX5_undo_65 : decode cX5_undo 65 = .ok (.getfield 215, 3) := by decide +kernel
theorem dX5_undo_68 : decode cX5_undo 68 = .ok (.aload_n 1, 1) := by decide +kernel
theorem dX5_undo_69 : decode cX5_undo 69 = .ok (.getfield 223, 3) := by decide +kernel
theorem dX5_undo_72 : decode cX5_undo 72 = .ok (.invokevirtual 219, 3) := by decide +kernel
theorem dX5_undo_75 : decode cX5_undo 75 = .ok (.aload_n 1, 1) := by decide +kernel
theorem dX5_undo_76 : decode cX5_undo 76 = .ok (.getfield 226, 3) := by decide +kernel
theorem dX5_undo_79 : decode cX5_undo 79 = .ok (.dup, 1) := by decide +kernel
theorem dX5_undo_80 : decode cX5_undo 80 = .ok (.getfield 159, 3) := by decide +kernel
theorem dX5_undo_83 : decode cX5_undo 83 = .ok (.iconst 1, 1) := by decide +kernel
theorem dX5_undo_84 : decode cX5_undo 84 = .ok (.iadd, 1) := by decide +kernel
theorem dX5_undo_85 : decode cX5_undo 85 = .ok (.putfield 159, 3) := by decide +kernel
theorem dX5_undo_88 : decode cX5_undo 88 = .ok (.aload_n 1, 1) := by decide +kernel
theorem dX5_undo_89 : decode cX5_undo 89 = .ok (.getfield 226, 3) := by decide +kernel
theorem dX5_undo_92 : decode cX5_undo 92 = .ok (.getfield 108, 3) := by decide +kernel
theorem dX5_undo_95 : decode cX5_undo 95 = .ok (.ireturn, 1) := by decide +kernel
theorem dX5_plan_0 : decode cX5_plan 0 = .ok (.iconst 0, 1) := by decide +kernel
theorem dX5_plan_1 : decode cX5_plan 1 = .ok (.istore_n 1, 1) := by decide +kernel
theorem dX5_plan_2 : decode cX5_plan 2 = .ok (.iconst 0, 1) := by decide +kernel
theorem dX5_plan_3 : decode cX5_plan 3 = .ok (.istore_n 2, 1) := by decide +kernel
theorem dX5_plan_4 : decode cX5_plan 4 = .ok (.iload_n 2, 1) := by decide +kernel
theorem dX5_plan_5 : decode cX5_plan 5 = .ok (.aload_n 0, 1) := by decide +kernel
theorem dX5_plan_6 : decode cX5_plan 6 = .ok (.getfield 19, 3) := by decide +kernel
theorem dX5_plan_9 : decode cX5_plan 9 = .ok (.invokevirtual 54, 3) := by decide +kernel
theorem dX5_plan_12 : decode cX5_plan 12 = .ok (.if_icmp .ge 27, 3) := by decide +kernel
theorem dX5_plan_15 : decode cX5_plan 15 = .ok (.iload_n 1, 1) := by decide +kernel
theorem dX5_plan_16 : decode cX5_plan 16 = .ok (.aload_n 0, 1) := by decide +kernel
theorem dX5_plan_17 : decode cX5_plan 17 = .ok (.aload_n 0, 1) := by decide +kernel
theorem dX5_plan_18 : decode cX5_plan 18 = .ok (.getfield 19, 3) := by decide +kernel
theorem dX5_plan_21 : decode cX5_plan 21 = .ok (.iload_n 2, 1) := by decide +kernel
theorem dX5_plan_22 : decode cX5_plan 22 = .ok (.invokevirtual 230, 3) := by decide +kernel
theorem dX5_plan_25 : decode cX5_plan 25 = .ok (.checkcast 99, 3) := by decide +kernel
theorem dX5_plan_28 : decode cX5_plan 28 = .ok (.invokevirtual 233, 3) := by decide +kernel
theorem dX5_plan_31 : decode cX5_plan 31 = .ok (.iadd, 1) := by decide +kernel
theorem dX5_plan_32 : decode cX5_plan 32 = .ok (.istore_n 1, 1) := by decide +kernel
theorem dX5_plan_33 : decode cX5_plan 33 = .ok (.iinc 2 1, 3) := by decide +kernel
theorem dX5_plan_36 : decode cX5_plan 36 = .ok (.goto (-32), 3) := by decide +kernel
theorem dX5_plan_39 : decode cX5_plan 39 = .ok (.iload_n 1, 1) := by decide +kernel
theorem dX5_plan_40 : decode cX5_plan 40 = .ok (.ireturn, 1) := by decide +kernel
theorem dX5_left_0 : decode cX5_left 0 = .ok (.aload_n 0, 1) := by decide +kernel
theorem dX5_left_1 : decode cX5_left 1 = .ok (.iload_n 1, 1) := by decide +kernel
theorem dX5_left_2 : decode cX5_left 2 = .ok (.invokevirtual 146, 3) := by decide +kernel
theorem dX5_left_5 : decode cX5_left 5 = .ok (.getfield 159, 3) := by decide +kernel
theorem dX5_left_8 : decode cX5_left 8 = .ok (.ireturn, 1) := by decide +kernel
theorem dX5_pieces_0 : decode cX5_pieces 0 = .ok (.aload_n 0, 1) := by decide +kernel
theorem dX5_pieces_1 : decode cX5_pieces 1 = .ok (.iload_n 1, 1) := by decide +kernel
theorem dX5_pieces_2 : decode cX5_pieces 2 = .ok (.invokevirtual 72, 3) := by decide +kernel
theorem dX5_pieces_5 : decode cX5_pieces 5 = .ok (.getfield 237, 3) := by decide +kernel
theorem dX5_pieces_8 : decode cX5_pieces 8 = .ok (.invokevirtual 54, 3) := by decide +kernel
theorem dX5_pieces_11 : decode cX5_pieces 11 = .ok (.ireturn, 1) := by decide +kernel
theorem dX5_piece_0 : decode cX5_piece 0 = .ok (.aload_n 0, 1) := by decide +kernel
theorem dX5_piece_1 : decode cX5_piece 1 = .ok (.iload_n 1, 1) := by decide +kernel
theorem dX5_piece_2 : decode cX5_piece 2 = .ok (.invokevirtual 72, 3) := by decide +kernel
theorem dX5_piece_5 : decode cX5_piece 5 = .ok (.getfield 237, 3) := by decide +kernel
theorem dX5_piece_8 : decode cX5_piece 8 = .ok (.astore 4, 2) := by decide +kernel
theorem dX5_piece_10 : decode cX5_piece 10 = .ok (.iload_n 2, 1) := by decide +kernel
theorem dX5_piece_11 : decode cX5_piece 11 = .ok (.ifCond .lt 12, 3) := by decide +kernel
theorem dX5_piece_14 : decode cX5_piece 14 = .ok (.iload_n 2, 1) := by decide +kernel
theorem dX5_piece_15 : decode cX5_piece 15 = .ok (.aload 4, 2) := by decide +kernel
theorem dX5_piece_17 : decode cX5_piece 17 = .ok (.invokevirtual 54, 3) := by decide +kernel
theorem dX5_piece_20 : decode cX5_piece 20 = .ok (.if_icmp .lt 13, 3) := by decide +kernel
theorem dX5_piece_23 : decode cX5_piece 23 = .ok (.new 121, 3) := by decide +kernel
theorem dX5_piece_26 : decode cX5_piece 26 = .ok (.dup, 1) := by decide +kernel
theorem dX5_piece_27 : decode cX5_piece 27 = .ok (.ldc 240, 2) := by decide +kernel
theorem dX5_piece_29 : decode cX5_piece 29 = .ok (.invokespecial 125, 3) := by decide +kernel
theorem dX5_piece_32 : decode cX5_piece 32 = .ok (.athrow, 1) := by decide +kernel
theorem dX5_piece_33 : decode cX5_piece 33 = .ok (.iload_n 3, 1) := by decide +kernel
theorem dX5_piece_34 : decode cX5_piece 34 = .ok (.iconst 0, 1) := by decide +kernel
theorem dX5_piece_35 : decode cX5_piece 35 = .ok (.iconst 3, 1) := by decide +kernel
theorem dX5_piece_36 : decode cX5_piece 36 = .ok (.invokestatic 39, 3) := by decide +kernel
theorem dX5_piece_39 : decode cX5_piece 39 = .ok (.ifCond .ne 13, 3) := by decide +kernel
theorem dX5_piece_42 : decode cX5_piece 42 = .ok (.new 121, 3) := by decide +kernel
theorem dX5_piece_45 : decode cX5_piece 45 = .ok (.dup, 1) := by decide +kernel
theorem dX5_piece_46 : decode cX5_piece 46 = .ok (.ldc 242, 2) := by decide +kernel
theorem dX5_piece_48 : decode cX5_piece 48 = .ok (.invokespecial 125, 3) := by decide +kernel
theorem dX5_piece_51 : decode cX5_piece 51 = .ok (.athrow, 1) := by decide +kernel
theorem dX5_piece_52 : decode cX5_piece 52 = .ok (.aload 4, 2) := by decide +kernel
theorem dX5_piece_54 : decode cX5_piece 54 = .ok (.iload_n 2, 1) := by decide +kernel
theorem dX5_piece_55 : decode cX5_piece 55 = .ok (.invokevirtual 230, 3) := by decide +kernel
theorem dX5_piece_58 : decode cX5_piece 58 = .ok (.checkcast 180, 3) := by decide +kernel
theorem dX5_piece_61 : decode cX5_piece 61 = .ok (.iload_n 3, 1) := by decide +kernel
theorem dX5_piece_62 : decode cX5_piece 62 = .ok (.invokevirtual 244, 3) := by decide +kernel
theorem dX5_piece_65 : decode cX5_piece 65 = .ok (.ireturn, 1) := by decide +kernel
theorem dX5_cuts_0 : decode cX5_cuts 0 = .ok (.aload_n 0, 1) := by decide +kernel
theorem dX5_cuts_1 : decode cX5_cuts 1 = .ok (.iload_n 1, 1) := by decide +kernel
theorem dX5_cuts_2 : decode cX5_cuts 2 = .ok (.invokevirtual 72, 3) := by decide +kernel
theorem dX5_cuts_5 : decode cX5_cuts 5 = .ok (.aload_n 0, 1) := by decide +kernel
theorem dX5_cuts_6 : decode cX5_cuts 6 = .ok (.getfield 33, 3) := by decide +kernel
theorem dX5_cuts_9 : decode cX5_cuts 9 = .ok (.invokevirtual 247, 3) := by decide +kernel
theorem dX5_cuts_12 : decode cX5_cuts 12 = .ok (.ireturn, 1) := by decide +kernel
theorem dX5_longestRoom_0 : decode cX5_longestRoom 0 = .ok (.aload_n 0, 1) := by decide +kernel
theorem dX5_longestRoom_1 : decode cX5_longestRoom 1 = .ok (.iload_n 1, 1) := by decide +kernel
theorem dX5_longestRoom_2 : decode cX5_longestRoom 2 = .ok (.invokevirtual 72, 3) := by decide +kernel
theorem dX5_longestRoom_5 : decode cX5_longestRoom 5 = .ok (.aload_n 0, 1) := by decide +kernel
theorem dX5_longestRoom_6 : decode cX5_longestRoom 6 = .ok (.getfield 33, 3) := by decide +kernel
theorem dX5_longestRoom_9 : decode cX5_longestRoom 9 = .ok (.invokevirtual 250, 3) := by decide +kernel
theorem dX5_longestRoom_12 : decode cX5_longestRoom 12 = .ok (.ireturn, 1) := by decide +kernel
theorem dX5_bestUse_0 : decode cX5_bestUse 0 = .ok (.aload_n 0, 1) := by decide +kernel
theorem dX5_bestUse_1 : decode cX5_bestUse 1 = .ok (.iload_n 1, 1) := by decide +kernel
theorem dX5_bestUse_2 : decode cX5_bestUse 2 = .ok (.invokevirtual 72, 3) := by decide +kernel
theorem dX5_bestUse_5 : decode cX5_bestUse 5 = .ok (.astore 4, 2) := by decide +kernel
theorem dX5_bestUse_7 : decode cX5_bestUse 7 = .ok (.iload_n 2, 1) := by decide +kernel
theorem dX5_bestUse_8 : decode cX5_bestUse 8 = .ok (.invokestatic 130, 3) := by decide +kernel
theorem dX5_bestUse_11 : decode cX5_bestUse 11 = .ok (.iload_n 3, 1) := by decide +kernel
theorem dX5_bestUse_12 : decode cX5_bestUse 12 = .ok (.iconst 0, 1) := by decide +kernel
theorem dX5_bestUse_13 : decode cX5_bestUse 13 = .ok (.sipush 3000, 3) := by decide +kernel
theorem dX5_bestUse_16 : decode cX5_bestUse 16 = .ok (.invokestatic 39, 3) := by decide +kernel
theorem dX5_bestUse_19 : decode cX5_bestUse 19 = .ok (.ifCond .ne 13, 3) := by decide +kernel
theorem dX5_bestUse_22 : decode cX5_bestUse 22 = .ok (.new 47, 3) := by decide +kernel
theorem dX5_bestUse_25 : decode cX5_bestUse 25 = .ok (.dup, 1) := by decide +kernel
theorem dX5_bestUse_26 : decode cX5_bestUse 26 = .ok (.ldc 253, 2) := by decide +kernel
theorem dX5_bestUse_28 : decode cX5_bestUse 28 = .ok (.invokespecial 51, 3) := by decide +kernel
theorem dX5_bestUse_31 : decode cX5_bestUse 31 = .ok (.athrow, 1) := by decide +kernel
theorem dX5_bestUse_32 : decode cX5_bestUse 32 = .ok (.iload_n 3, 1) := by decide +kernel
theorem dX5_bestUse_33 : decode cX5_bestUse 33 = .ok (.aload_n 0, 1) := by decide +kernel
theorem dX5_bestUse_34 : decode cX5_bestUse 34 = .ok (.getfield 33, 3) := by decide +kernel
theorem dX5_bestUse_37 : decode cX5_bestUse 37 = .ok (.iadd, 1) := by decide +kernel
theorem dX5_bestUse_38 : decode cX5_bestUse 38 = .ok (.aload_n 0, 1) := by decide +kernel
theorem dX5_bestUse_39 : decode cX5_bestUse 39 = .ok (.getfield 25, 3) := by decide +kernel
theorem dX5_bestUse_42 : decode cX5_bestUse 42 = .ok (.arraylength, 1) := by decide +kernel
theorem dX5_bestUse_43 : decode cX5_bestUse 43 = .ok (.iconst 1, 1) := by decide +kernel
theorem dX5_bestUse_44 : decode cX5_bestUse 44 = .ok (.isub, 1) := by decide +kernel
theorem dX5_bestUse_45 : decode cX5_bestUse 45 = .ok (.invokestatic 255, 3) := by decide +kernel
theorem dX5_bestUse_48 : decode cX5_bestUse 48 = .ok (.istore 5, 2) := by decide +kernel
theorem dX5_bestUse_50 : decode cX5_bestUse 50 = .ok (.aload_n 0, 1) := by decide +kernel
theorem dX5_bestUse_51 : decode cX5_bestUse 51 = .ok (.invokevirtual 260, 3) := by decide +kernel
theorem dX5_bestUse_54 : decode cX5_bestUse 54 = .ok (.iconst 0, 1) := by decide +kernel
theorem dX5_bestUse_55 : decode cX5_bestUse 55 = .ok (.istore 6, 2) := by decide +kernel
theorem dX5_bestUse_57 : decode cX5_bestUse 57 = .ok (.iload 6, 2) := by decide +kernel
theorem dX5_bestUse_59 : decode cX5_bestUse 59 = .ok (.aload_n 0, 1) := by decide +kernel
theorem dX5_bestUse_60 : decode cX5_bestUse 60 = .ok (.getfield 16, 3) := by decide +kernel
theorem dX5_bestUse_63 : decode cX5_bestUse 63 = .ok (.invokevirtual 54, 3) := by decide +kernel
theorem dX5_bestUse_66 : decode cX5_bestUse 66 = .ok (.if_icmp .ge 53, 3) := by decide +kernel
theorem dX5_bestUse_69 : decode cX5_bestUse 69 = .ok (.aload_n 0, 1) := by decide +kernel
theorem dX5_bestUse_70 : decode cX5_bestUse 70 = .ok (.getfield 16, 3) := by decide +kernel
theorem dX5_bestUse_73 : decode cX5_bestUse 73 = .ok (.iload 6, 2) := by decide +kernel
theorem dX5_bestUse_75 : decode cX5_bestUse 75 = .ok (.invokevirtual 230, 3) := by decide +kernel
theorem dX5_bestUse_78 : decode cX5_bestUse 78 = .ok (.checkcast 99, 3) := by decide +kernel
theorem dX5_bestUse_81 : decode cX5_bestUse 81 = .ok (.astore 7, 2) := by decide +kernel
theorem dX5_bestUse_83 : decode cX5_bestUse 83 = .ok (.aload 7, 2) := by decide +kernel
theorem dX5_bestUse_85 : decode cX5_bestUse 85 = .ok (.getfield 263, 3) := by decide +kernel
theorem dX5_bestUse_88 : decode cX5_bestUse 88 = .ok (.aload 4, 2) := by decide +kernel
theorem dX5_bestUse_90 : decode cX5_bestUse 90 = .ok (.getfield 266, 3) := by decide +kernel
theorem dX5_bestUse_93 : decode cX5_bestUse 93 = .ok (.if_icmp .gt 20, 3) := by decide +kernel
theorem dX5_bestUse_96 : decode cX5_bestUse 96 = .ok (.aload 7, 2) := by decide +kernel
theorem dX5_bestUse_98 : decode cX5_bestUse 98 = .ok (.getfield 267, 3) := by decide +kernel
theorem dX5_bestUse_101 : decode cX5_bestUse 101 = .ok (.iload_n 2, 1) := by decide +kernel
theorem dX5_bestUse_102 : decode cX5_bestUse 102 = .ok (.if_icmp .lt 11, 3) := by decide +kernel
theorem dX5_bestUse_105 : decode cX5_bestUse 105 = .ok (.aload_n 0, 1) := by decide +kernel
theorem dX5_bestUse_106 : decode cX5_bestUse 106 = .ok (.aload 7, 2) := by decide +kernel
theorem dX5_bestUse_108 : decode cX5_bestUse 108 = .ok (.iload 5, 2) := by decide +kernel
theorem dX5_bestUse_110 : decode cX5_bestUse 110 = .ok (.invokevirtual 270, 3) := by decide +kernel
theorem dX5_bestUse_113 : decode cX5_bestUse 113 = .ok (.iinc 6 1, 3) := by decide +kernel
theorem dX5_bestUse_116 : decode cX5_bestUse 116 = .ok (.goto (-59), 3) := by decide +kernel
theorem dX5_bestUse_119 : decode cX5_bestUse 119 = .ok (.aload_n 0, 1) := by decide +kernel
theorem dX5_bestUse_120 : decode cX5_bestUse 120 = .ok (.getfield 25, 3) := by decide +kernel
theorem dX5_bestUse_123 : decode cX5_bestUse 123 = .ok (.iload 5, 2) := by decide +kernel
theorem dX5_bestUse_125 : decode cX5_bestUse 125 = .ok (.iaload, 1) := by decide +kernel
theorem dX5_bestUse_126 : decode cX5_bestUse 126 = .ok (.ireturn, 1) := by decide +kernel
theorem dX5_used_0 : decode cX5_used 0 = .ok (.iconst 0, 1) := by decide +kernel
theorem dX5_used_1 : decode cX5_used 1 = .ok (.istore_n 1, 1) := by decide +kernel
theorem dX5_used_2 : decode cX5_used 2 = .ok (.iconst 0, 1) := by decide +kernel
theorem dX5_used_3 : decode cX5_used 3 = .ok (.istore_n 2, 1) := by decide +kernel
theorem dX5_used_4 : decode cX5_used 4 = .ok (.iconst 0, 1) := by decide +kernel
theorem dX5_used_5 : decode cX5_used 5 = .ok (.istore_n 3, 1) := by decide +kernel
theorem dX5_used_6 : decode cX5_used 6 = .ok (.iload_n 3, 1) := by decide +kernel
theorem dX5_used_7 : decode cX5_used 7 = .ok (.aload_n 0, 1) := by decide +kernel
theorem dX5_used_8 : decode cX5_used 8 = .ok (.getfield 10, 3) := by decide +kernel
theorem dX5_used_11 : decode cX5_used 11 = .ok (.invokevirtual 54, 3) := by decide +kernel
theorem dX5_used_14 : decode cX5_used 14 = .ok (.if_icmp .ge 55, 3) := by decide +kernel
theorem dX5_used_17 : decode cX5_used 17 = .ok (.aload_n 0, 1) := by decide +kernel
theorem dX5_used_18 : decode cX5_used 18 = .ok (.getfield 10, 3) := by decide +kernel
theorem dX5_used_21 : decode cX5_used 21 = .ok (.iload_n 3, 1) := by decide +kernel
theorem dX5_used_22 : decode cX5_used 22 = .ok (.invokevirtual 230, 3) := by decide +kernel
theorem dX5_used_25 : decode cX5_used 25 = .ok (.checkcast 63, 3) := by decide +kernel
theorem dX5_used_28 : decode cX5_used 28 = .ok (.astore 4, 2) := by decide +kernel
theorem dX5_used_30 : decode cX5_used 30 = .ok (.aload 4, 2) := by decide +kernel
theorem dX5_used_32 : decode cX5_used 32 = .ok (.getfield 237, 3) := by decide +kernel
theorem dX5_used_35 : decode cX5_used 35 = .ok (.invokevirtual 113, 3) := by decide +kernel
theorem dX5_used_38 : decode cX5_used 38 = .ok (.ifCond .ne 25, 3) := by decide +kernel
theorem dX5_used_41 : decode cX5_used 41 = .ok (.iload_n 1, 1) := by decide +kernel
theorem dX5_used_42 : decode cX5_used 42 = .ok (.aload 4, 2) := by decide +kernel
theorem dX5_used_44 : decode cX5_used 44 = .ok (.invokevirtual 274, 3) := by decide +kernel
theorem dX5_used_47 : decode cX5_used 47 = .ok (.iadd, 1) := by decide +kernel
theorem dX5_used_48 : decode cX5_used 48 = .ok (.istore_n 1, 1) := by decide +kernel
theorem dX5_used_49 : decode cX5_used 49 = .ok (.iload_n 2, 1) := by decide +kernel
theorem dX5_used_50 : decode cX5_used 50 = .ok (.aload 4, 2) := by decide +kernel
theorem dX5_used_52 : decode cX5_used 52 = .ok (.getfield 76, 3) := by decide +kernel
theorem dX5_used_55 : decode cX5_used 55 = .ok (.aload 4, 2) := by decide +kernel
theorem dX5_used_57 : decode cX5_used 57 = .ok (.getfield 266, 3) := by decide +kernel
theorem dX5_used_60 : decode cX5_used 60 = .ok (.imul, 1) := by decide +kernel
theorem dX5_used_61 : decode cX5_used 61 = .ok (.iadd, 1) := by decide +kernel
theorem dX5_used_62 : decode cX5_used 62 = .ok (.istore_n 2, 1) := by decide +kernel
theorem dX5_used_63 : decode cX5_used 63 = .ok (.iinc 3 1, 3) := by decide +kernel
theorem dX5_used_66 : decode cX5_used 66 = .ok (.goto (-60), 3) := by decide +kernel
theorem dX5_used_69 : decode cX5_used 69 = .ok (.iload_n 2, 1) := by decide +kernel
theorem dX5_used_70 : decode cX5_used 70 = .ok (.ifCond .ne 7, 3) := by decide +kernel
theorem dX5_used_73 : decode cX5_used 73 = .ok (.dconst 0, 1) := by decide +kernel
theorem dX5_used_74 : decode cX5_used 74 = .ok (.goto 8, 3) := by decide +kernel
theorem dX5_used_77 : decode cX5_used 77 = .ok (.iload_n 1, 1) := by decide +kernel
theorem dX5_used_78 : decode cX5_used 78 = .ok (.i2d, 1) := by decide +kernel
theorem dX5_used_79 : decode cX5_used 79 = .ok (.iload_n 2, 1) := by decide +kernel
theorem dX5_used_80 : decode cX5_used 80 = .ok (.i2d, 1) := by decide +kernel
theorem dX5_used_81 : decode cX5_used 81 = .ok (.ddiv, 1) := by decide +kernel
theorem dX5_used_82 : decode cX5_used 82 = .ok (.dreturn, 1) := by decide +kernel
theorem dX5_digest_0 : decode cX5_digest 0 = .ok (.ldc2_w 277, 3) := by decide +kernel
theorem dX5_digest_3 : decode cX5_digest 3 = .ok (.lstore_n 1, 1) := by decide +kernel
theorem dX5_digest_4 : decode cX5_digest 4 = .ok (.lload_n 1, 1) := by decide +kernel
theorem dX5_digest_5 : decode cX5_digest 5 = .ok (.aload_n 0, 1) := by decide +kernel
theorem dX5_digest_6 : decode cX5_digest 6 = .ok (.getfield 33, 3) := by decide +kernel
theorem dX5_digest_9 : decode cX5_digest 9 = .ok (.i2l, 1) := by decide +kernel
theorem dX5_digest_10 : decode cX5_digest 10 = .ok (.invokestatic 279, 3) := by decide +kernel
theorem dX5_digest_13 : decode cX5_digest 13 = .ok (.lstore_n 1, 1) := by decide +kernel
theorem dX5_digest_14 : decode cX5_digest 14 = .ok (.lload_n 1, 1) := by decide +kernel
theorem dX5_digest_15 : decode cX5_digest 15 = .ok (.aload_n 0, 1) := by decide +kernel
theorem dX5_digest_16 : decode cX5_digest 16 = .ok (.getfield 36, 3) := by decide +kernel
theorem dX5_digest_19 : decode cX5_digest 19 = .ok (.i2l, 1) := by decide +kernel
theorem dX5_digest_20 : decode cX5_digest 20 = .ok (.invokestatic 279, 3) := by decide +kernel
theorem dX5_digest_23 : decode cX5_digest 23 = .ok (.lstore_n 1, 1) := by decide +kernel
theorem dX5_digest_24 : decode cX5_digest 24 = .ok (.lload_n 1, 1) := by decide +kernel
theorem dX5_digest_25 : decode cX5_digest 25 = .ok (.aload_n 0, 1) := by decide +kernel
theorem dX5_digest_26 : decode cX5_digest 26 = .ok (.getfield 29, 3) := by decide +kernel
theorem dX5_digest_29 : decode cX5_digest 29 = .ok (.i2l, 1) := by decide +kernel
theorem dX5_digest_30 : decode cX5_digest 30 = .ok (.invokestatic 279, 3) := by decide +kernel
theorem dX5_digest_33 : decode cX5_digest 33 = .ok (.lstore_n 1, 1) := by decide +kernel
theorem dX5_digest_34 : decode cX5_digest 34 = .ok (.lload_n 1, 1) := by decide +kernel
theorem dX5_digest_35 : decode cX5_digest 35 = .ok (.aload_n 0, 1) := by decide +kernel
theorem dX5_digest_36 : decode cX5_digest 36 = .ok (.getfield 16, 3) := by decide +kernel
theorem dX5_digest_39 : decode cX5_digest 39 = .ok (.invokevirtual 54, 3) := by decide +kernel
theorem dX5_digest_42 : decode cX5_digest 42 = .ok (.i2l, 1) := by decide +kernel
theorem dX5_digest_43 : decode cX5_digest 43 = .ok (.invokestatic 279, 3) := by decide +kernel
theorem dX5_digest_46 : decode cX5_digest 46 = .ok (.lstore_n 1, 1) := by decide +kernel
theorem dX5_digest_47 : decode cX5_digest 47 = .ok (.iconst 0, 1) := by decide +kernel
theorem dX5_digest_48 : decode cX5_digest 48 = .ok (.istore_n 3, 1) := by decide +kernel
theorem dX5_digest_49 : decode cX5_digest 49 = .ok (.iload_n 3, 1) := by decide +kernel
theorem dX5_digest_50 : decode cX5_digest 50 = .ok (.aload_n 0, 1) := by decide +kernel
theorem dX5_digest_51 : decode cX5_digest 51 = .ok (.getfield 16, 3) := by decide +kernel
theorem dX5_digest_54 : decode cX5_digest 54 = .ok (.invokevirtual 54, 3) := by decide +kernel
theorem dX5_digest_57 : decode cX5_digest 57 = .ok (.if_icmp .ge 29, 3) := by decide +kernel
theorem dX5_digest_60 : decode cX5_digest 60 = .ok (.lload_n 1, 1) := by decide +kernel
theorem dX5_digest_61 : decode cX5_digest 61 = .ok (.aload_n 0, 1) := by decide +kernel
theorem dX5_digest_62 : decode cX5_digest 62 = .ok (.getfield 16, 3) := by decide +kernel
theorem dX5_digest_65 : decode cX5_digest 65 = .ok (.iload_n 3, 1) := by decide +kernel
theorem dX5_digest_66 : decode cX5_digest 66 = .ok (.invokevirtual 230, 3) := by decide +kernel
theorem dX5_digest_69 : decode cX5_digest 69 = .ok (.checkcast 99, 3) := by decide +kernel
theorem dX5_digest_72 : decode cX5_digest 72 = .ok (.getfield 159, 3) := by decide +kernel
theorem dX5_digest_75 : decode cX5_digest 75 = .ok (.i2l, 1) := by decide +kernel
theorem dX5_digest_76 : decode cX5_digest 76 = .ok (.invokestatic 279, 3) := by decide +kernel
theorem dX5_digest_79 : decode cX5_digest 79 = .ok (.lstore_n 1, 1) := by decide +kernel
theorem dX5_digest_80 : decode cX5_digest 80 = .ok (.iinc 3 1, 3) := by decide +kernel
theorem dX5_digest_83 : decode cX5_digest 83 = .ok (.goto (-34), 3) := by decide +kernel
theorem dX5_digest_86 : decode cX5_digest 86 = .ok (.lload_n 1, 1) := by decide +kernel
theorem dX5_digest_87 : decode cX5_digest 87 = .ok (.aload_n 0, 1) := by decide +kernel
theorem dX5_digest_88 : decode cX5_digest 88 = .ok (.getfield 10, 3) := by decide +kernel
theorem dX5_digest_91 : decode cX5_digest 91 = .ok (.invokevirtual 54, 3) := by decide +kernel
theorem dX5_digest_94 : decode cX5_digest 94 = .ok (.i2l, 1) := by decide +kernel
theorem dX5_digest_95 : decode cX5_digest 95 = .ok (.invokestatic 279, 3) := by decide +kernel
theorem dX5_digest_98 : decode cX5_digest 98 = .ok (.lstore_n 1, 1) := by decide +kernel
theorem dX5_digest_99 : decode cX5_digest 99 = .ok (.iconst 0, 1) := by decide +kernel
theorem dX5_digest_100 : decode cX5_digest 100 = .ok (.istore_n 3, 1) := by decide +kernel
theorem dX5_digest_101 : decode cX5_digest 101 = .ok (.iload_n 3, 1) := by decide +kernel
theorem dX5_digest_102 : decode cX5_digest 102 = .ok (.aload_n 0, 1) := by decide +kernel
theorem dX5_digest_103 : decode cX5_digest 103 = .ok (.getfield 10, 3) := by decide +kernel
theorem dX5_digest_106 : decode cX5_digest 106 = .ok (.invokevirtual 54, 3) := by decide +kernel
theorem dX5_digest_109 : decode cX5_digest 109 = .ok (.if_icmp .ge 28, 3) := by decide +kernel
theorem dX5_digest_112 : decode cX5_digest 112 = .ok (.lload_n 1, 1) := by decide +kernel
theorem dX5_digest_113 : decode cX5_digest 113 = .ok (.aload_n 0, 1) := by decide +kernel
theorem dX5_digest_114 : decode cX5_digest 114 = .ok (.getfield 10, 3) := by decide +kernel
theorem dX5_digest_117 : decode cX5_digest 117 = .ok (.iload_n 3, 1) := by decide +kernel
theorem dX5_digest_118 : decode cX5_digest 118 = .ok (.invokevirtual 230, 3) := by decide +kernel
theorem dX5_digest_121 : decode cX5_digest 121 = .ok (.checkcast 63, 3) := by decide +kernel
theorem dX5_digest_124 : decode cX5_digest 124 = .ok (.getfield 237, 3) := by decide +kernel
theorem dX5_digest_127 : decode cX5_digest 127 = .ok (.invokestatic 283, 3) := by decide +kernel
theorem dX5_digest_130 : decode cX5_digest 130 = .ok (.lstore_n 1, 1) := by decide +kernel
theorem dX5_digest_131 : decode cX5_digest 131 = .ok (.iinc 3 1, 3) := by decide +kernel
theorem dX5_digest_134 : decode cX5_digest 134 = .ok (.goto (-33), 3) := by decide +kernel
theorem dX5_digest_137 : decode cX5_digest 137 = .ok (.lload_n 1, 1) := by decide +kernel
theorem dX5_digest_138 : decode cX5_digest 138 = .ok (.lreturn, 1) := by decide +kernel
theorem dX5_isWithin_0 : decode cX5_isWithin 0 = .ok (.iload_n 0, 1) := by decide +kernel
theorem dX5_isWithin_1 : decode cX5_isWithin 1 = .ok (.iload_n 1, 1) := by decide +kernel
theorem dX5_isWithin_2 : decode cX5_isWithin 2 = .ok (.if_icmp .lt 12, 3) := by decide +kernel
theorem dX5_isWithin_5 : decode cX5_isWithin 5 = .ok (.iload_n 0, 1) := by decide +kernel
theorem dX5_isWithin_6 : decode cX5_isWithin 6 = .ok (.iload_n 2, 1) := by decide +kernel
theorem dX5_isWithin_7 : decode cX5_isWithin 7 = .ok (.if_icmp .gt 7, 3) := by decide +kernel
theorem dX5_isWithin_10 : decode cX5_isWithin 10 = .ok (.iconst 1, 1) := by decide +kernel
theorem dX5_isWithin_11 : decode cX5_isWithin 11 = .ok (.goto 4, 3) := by decide +kernel
theorem dX5_isWithin_14 : decode cX5_isWithin 14 = .ok (.iconst 0, 1) := by decide +kernel
theorem dX5_isWithin_15 : decode cX5_isWithin 15 = .ok (.ireturn, 1) := by decide +kernel
theorem dX5_isGrade_0 : decode cX5_isGrade 0 = .ok (.iload_n 0, 1) := by decide +kernel
theorem dX5_isGrade_1 : decode cX5_isGrade 1 = .ok (.iconst 0, 1) := by decide +kernel
theorem dX5_isGrade_2 : decode cX5_isGrade 2 = .ok (.iconst 3, 1) := by decide +kernel
theorem dX5_isGrade_3 : decode cX5_isGrade 3 = .ok (.invokestatic 39, 3) := by decide +kernel
theorem dX5_isGrade_6 : decode cX5_isGrade 6 = .ok (.ireturn, 1) := by decide +kernel
theorem dX5_checkGrade_0 : decode cX5_checkGrade 0 = .ok (.iload_n 0, 1) := by decide +kernel
theorem dX5_checkGrade_1 : decode cX5_checkGrade 1 = .ok (.invokestatic 43, 3) := by decide +kernel
theorem dX5_checkGrade_4 : decode cX5_checkGrade 4 = .ok (.ifCond .ne 14, 3) := by decide +kernel
theorem dX5_checkGrade_7 : decode cX5_checkGrade 7 = .ok (.new 47, 3) := by decide +kernel
theorem dX5_checkGrade_10 : decode cX5_checkGrade 10 = .ok (.dup, 1) := by decide +kernel
theorem dX5_checkGrade_11 : decode cX5_checkGrade 11 = .ok (.ldc_w 287, 3) := by decide +kernel
theorem dX5_checkGrade_14 : decode cX5_checkGrade 14 = .ok (.invokespecial 51, 3) := by decide +kernel
theorem dX5_checkGrade_17 : decode cX5_checkGrade 17 = .ok (.athrow, 1) := by decide +kernel
theorem dX5_checkGrade_18 : decode cX5_checkGrade 18 = .ok (.return_, 1) := by decide +kernel
theorem dX5_boardNumbered_0 : decode cX5_boardNumbered 0 = .ok (.iload_n 1, 1) := by decide +kernel
theorem dX5_boardNumbered_1 : decode cX5_boardNumbered 1 = .ok (.ifCond .lt 14, 3) := by decide +kernel
theorem dX5_boardNumbered_4 : decode cX5_boardNumbered 4 = .ok (.iload_n 1, 1) := by decide +kernel
theorem dX5_boardNumbered_5 : decode cX5_boardNumbered 5 = .ok (.aload_n 0, 1) := by decide +kernel
theorem dX5_boardNumbered_6 : decode cX5_boardNumbered 6 = .ok (.getfield 10, 3) := by decide +kernel
theorem dX5_boardNumbered_9 : decode cX5_boardNumbered 9 = .ok (.invokevirtual 54, 3) := by decide +kernel
theorem dX5_boardNumbered_12 : decode cX5_boardNumbered 12 = .ok (.if_icmp .lt 14, 3) := by decide +kernel
theorem dX5_boardNumbered_15 : decode cX5_boardNumbered 15 = .ok (.new 121, 3) := by decide +kernel
theorem dX5_boardNumbered_18 : decode cX5_boardNumbered 18 = .ok (.dup, 1) := by decide +kernel
theorem dX5_boardNumbered_19 : decode cX5_boardNumbered 19 = .ok (.ldc_w 289, 3) := by decide +kernel
theorem dX5_boardNumbered_22 : decode cX5_boardNumbered 22 = .ok (.invokespecial 125, 3) := by decide +kernel
theorem dX5_boardNumbered_25 : decode cX5_boardNumbered 25 = .ok (.athrow, 1) := by decide +kernel
theorem dX5_boardNumbered_26 : decode cX5_boardNumbered 26 = .ok (.aload_n 0, 1) := by decide +kernel
theorem dX5_boardNumbered_27 : decode cX5_boardNumbered 27 = .ok (.getfield 10, 3) := by decide +kernel
theorem dX5_boardNumbered_30 : decode cX5_boardNumbered 30 = .ok (.iload_n 1, 1) := by decide +kernel
theorem dX5_boardNumbered_31 : decode cX5_boardNumbered 31 = .ok (.invokevirtual 230, 3) := by decide +kernel
theorem dX5_boardNumbered_34 : decode cX5_boardNumbered 34 = .ok (.checkcast 63, 3) := by decide +kernel
theorem dX5_boardNumbered_37 : decode cX5_boardNumbered 37 = .ok (.areturn, 1) := by decide +kernel
theorem dX5_partNumbered_0 : decode cX5_partNumbered 0 = .ok (.iload_n 1, 1) := by decide +kernel
theorem dX5_partNumbered_1 : decode cX5_partNumbered 1 = .ok (.ifCond .lt 14, 3) := by decide +kernel
theorem dX5_partNumbered_4 : decode cX5_partNumbered 4 = .ok (.iload_n 1, 1) := by decide +kernel
theorem dX5_partNumbered_5 : decode cX5_partNumbered 5 = .ok (.aload_n 0, 1) := by decide +kernel
theorem dX5_partNumbered_6 : decode cX5_partNumbered 6 = .ok (.getfield 16, 3) := by decide +kernel
theorem dX5_partNumbered_9 : decode cX5_partNumbered 9 = .ok (.invokevirtual 54, 3) := by decide +kernel
theorem dX5_partNumbered_12 : decode cX5_partNumbered 12 = .ok (.if_icmp .lt 14, 3) := by decide +kernel
theorem dX5_partNumbered_15 : decode cX5_partNumbered 15 = .ok (.new 121, 3) := by decide +kernel
theorem dX5_partNumbered_18 : decode cX5_partNumbered 18 = .ok (.dup, 1) := by decide +kernel
theorem dX5_partNumbered_19 : decode cX5_partNumbered 19 = .ok (.ldc_w 291, 3) := by decide +kernel
theorem dX5_partNumbered_22 : decode cX5_partNumbered 22 = .ok (.invokespecial 125, 3) := by decide +kernel
theorem dX5_partNumbered_25 : decode cX5_partNumbered 25 = .ok (.athrow, 1) := by decide +kernel
theorem dX5_partNumbered_26 : decode cX5_partNumbered 26 = .ok (.aload_n 0, 1) := by decide +kernel
theorem dX5_partNumbered_27 : decode cX5_partNumbered 27 = .ok (.getfield 16, 3) := by decide +kernel
theorem dX5_partNumbered_30 : decode cX5_partNumbered 30 = .ok (.iload_n 1, 1) := by decide +kernel
theorem dX5_partNumbered_31 : decode cX5_partNumbered 31 = .ok (.invokevirtual 230, 3) := by decide +kernel
theorem dX5_partNumbered_34 : decode cX5_partNumbered 34 = .ok (.checkcast 99, 3) := by decide +kernel
theorem dX5_partNumbered_37 : decode cX5_partNumbered 37 = .ok (.areturn, 1) := by decide +kernel
theorem dX5_insertIntoPlanningOrder_0 : decode cX5_insertIntoPlanningOrder 0 = .ok (.iconst 0, 1) := by decide +kernel
theorem dX5_insertIntoPlanningOrder_1 : decode cX5_insertIntoPlanningOrder 1 = .ok (.istore_n 2, 1) := by decide +kernel
theorem dX5_insertIntoPlanningOrder_2 : decode cX5_insertIntoPlanningOrder 2 = .ok (.iload_n 2, 1) := by decide +kernel
theorem dX5_insertIntoPlanningOrder_3 : decode cX5_insertIntoPlanningOrder 3 = .ok (.aload_n 0, 1) := by decide +kernel
theorem dX5_insertIntoPlanningOrder_4 : decode cX5_insertIntoPlanningOrder 4 = .ok (.getfield 19, 3) := by decide +kernel
theorem dX5_insertIntoPlanningOrder_7 : decode cX5_insertIntoPlanningOrder 7 = .ok (.invokevirtual 54, 3) := by decide +kernel
theorem dX5_insertIntoPlanningOrder_10 : decode cX5_insertIntoPlanningOrder 10 = .ok (.if_icmp .ge 27, 3) := by decide +kernel
theorem dX5_insertIntoPlanningOrder_13 : decode cX5_insertIntoPlanningOrder 13 = .ok (.aload_n 1, 1) := by decide +kernel
theorem dX5_insertIntoPlanningOrder_14 : decode cX5_insertIntoPlanningOrder 14 = .ok (.aload_n 0, 1) := by decide +kernel
theorem dX5_insertIntoPlanningOrder_15 : decode cX5_insertIntoPlanningOrder 15 = .ok (.getfield 19, 3) := by decide +kernel
theorem dX5_insertIntoPlanningOrder_18 : decode cX5_insertIntoPlanningOrder 18 = .ok (.iload_n 2, 1) := by decide +kernel
theorem dX5_insertIntoPlanningOrder_19 : decode cX5_insertIntoPlanningOrder 19 = .ok (.invokevirtual 230, 3) := by decide +kernel
theorem dX5_insertIntoPlanningOrder_22 : decode cX5_insertIntoPlanningOrder 22 = .ok (.checkcast 99, 3) := by decide +kernel
theorem dX5_insertIntoPlanningOrder_25 : decode cX5_insertIntoPlanningOrder 25 = .ok (.invokevirtual 293, 3) := by decide +kernel
theorem dX5_insertIntoPlanningOrder_28 : decode cX5_insertIntoPlanningOrder 28 = .ok (.ifCond .ne 9, 3) := by decide +kernel
theorem dX5_insertIntoPlanningOrder_31 : decode cX5_insertIntoPlanningOrder 31 = .ok (.iinc 2 1, 3) := by decide +kernel
theorem dX5_insertIntoPlanningOrder_34 : decode cX5_insertIntoPlanningOrder 34 = .ok (.goto (-32), 3) := by decide +kernel
theorem dX5_insertIntoPlanningOrder_37 : decode cX5_insertIntoPlanningOrder 37 = .ok (.aload_n 0, 1) := by decide +kernel
theorem dX5_insertIntoPlanningOrder_38 : decode cX5_insertIntoPlanningOrder 38 = .ok (.getfield 19, 3) := by decide +kernel
theorem dX5_insertIntoPlanningOrder_41 : decode cX5_insertIntoPlanningOrder 41 = .ok (.iload_n 2, 1) := by decide +kernel
theorem dX5_insertIntoPlanningOrder_42 : decode cX5_insertIntoPlanningOrder 42 = .ok (.aload_n 1, 1) := by decide +kernel
theorem dX5_insertIntoPlanningOrder_43 : decode cX5_insertIntoPlanningOrder 43 = .ok (.invokevirtual 297, 3) := by decide +kernel
theorem dX5_insertIntoPlanningOrder_46 : decode cX5_insertIntoPlanningOrder 46 = .ok (.return_, 1) := by decide +kernel
theorem dX5_cutWhilePossible_0 : decode cX5_cutWhilePossible 0 = .ok (.iconst 0, 1) := by decide +kernel
theorem dX5_cutWhilePossible_1 : decode cX5_cutWhilePossible 1 = .ok (.istore_n 2, 1) := by decide +kernel
theorem dX5_cutWhilePossible_2 : decode cX5_cutWhilePossible 2 = .ok (.aload_n 1, 1) := by decide +kernel
theorem dX5_cutWhilePossible_3 : decode cX5_cutWhilePossible 3 = .ok (.getfield 159, 3) := by decide +kernel
theorem dX5_cutWhilePossible_6 : decode cX5_cutWhilePossible 6 = .ok (.istore_n 3, 1) := by decide +kernel
theorem dX5_cutWhilePossible_7 : decode cX5_cutWhilePossible 7 = .ok (.iload_n 3, 1) := by decide +kernel
theorem dX5_cutWhilePossible_8 : decode cX5_cutWhilePossible 8 = .ok (.ifCond .le 44, 3) := by decide +kernel
theorem dX5_cutWhilePossible_11 : decode cX5_cutWhilePossible 11 = .ok (.aload_n 0, 1) := by decide +kernel
theorem dX5_cutWhilePossible_12 : decode cX5_cutWhilePossible 12 = .ok (.aload_n 1, 1) := by decide +kernel
theorem dX5_cutWhilePossible_13 : decode cX5_cutWhilePossible 13 = .ok (.invokevirtual 300, 3) := by decide +kernel
theorem dX5_cutWhilePossible_16 : decode cX5_cutWhilePossible 16 = .ok (.astore 4, 2) := by decide +kernel
theorem dX5_cutWhilePossible_18 : decode cX5_cutWhilePossible 18 = .ok (.aload 4, 2) := by decide +kernel
theorem dX5_cutWhilePossible_20 : decode cX5_cutWhilePossible 20 = .ok (.ifnonnull 6, 3) := by decide +kernel
theorem dX5_cutWhilePossible_23 : decode cX5_cutWhilePossible 23 = .ok (.goto 29, 3) := by decide +kernel
theorem dX5_cutWhilePossible_26 : decode cX5_cutWhilePossible 26 = .ok (.aload_n 0, 1) := by decide +kernel
theorem dX5_cutWhilePossible_27 : decode cX5_cutWhilePossible 27 = .ok (.aload_n 1, 1) := by decide +kernel
theorem dX5_cutWhilePossible_28 : decode cX5_cutWhilePossible 28 = .ok (.aload 4, 2) := by decide +kernel
theorem dX5_cutWhilePossible_30 : decode cX5_cutWhilePossible 30 = .ok (.aload 4, 2) := by decide +kernel
theorem dX5_cutWhilePossible_32 : decode cX5_cutWhilePossible 32 = .ok (.aload_n 1, 1) := by decide +kernel
theorem dX5_cutWhilePossible_33 : decode cX5_cutWhilePossible 33 = .ok (.aload_n 0, 1) := by decide +kernel
theorem dX5_cutWhilePossible_34 : decode cX5_cutWhilePossible 34 = .ok (.getfield 33, 3) := by decide +kernel
theorem dX5_cutWhilePossible_37 : decode cX5_cutWhilePossible 37 = .ok (.invokevirtual 155, 3) := by decide +kernel
theorem dX5_cutWhilePossible_40 : decode cX5_cutWhilePossible 40 = .ok (.invokevirtual 166, 3) := by decide +kernel
theorem dX5_cutWhilePossible_43 : decode cX5_cutWhilePossible 43 = .ok (.iinc 2 1, 3) := by decide +kernel
theorem dX5_cutWhilePossible_46 : decode cX5_cutWhilePossible 46 = .ok (.iinc 3 (-1), 3) := by decide +kernel
theorem dX5_cutWhilePossible_49 : decode cX5_cutWhilePossible 49 = .ok (.goto (-42), 3) := by decide +kernel
theorem dX5_cutWhilePossible_52 : decode cX5_cutWhilePossible 52 = .ok (.iload_n 2, 1) := by decide +kernel
theorem dX5_cutWhilePossible_53 : decode cX5_cutWhilePossible 53 = .ok (.ireturn, 1) := by decide +kernel
theorem dX5_tightestBoard_0 : decode cX5_tightestBoard 0 = .ok (.aconst_null, 1) := by decide +kernel
theorem dX5_tightestBoard_1 : decode cX5_tightestBoard 1 = .ok (.astore_n 2, 1) := by decide +kernel
theorem dX5_tightestBoard_2 : decode cX5_tightestBoard 2 = .ok (.iconst 0, 1) := by decide +kernel
theorem dX5_tightestBoard_3 : decode cX5_tightestBoard 3 = .ok (.istore_n 3, 1) := by decide +kernel
theorem dX5_tightestBoard_4 : decode cX5_tightestBoard 4 = .ok (.iconst 0, 1) := by decide +kernel
theorem dX5_tightestBoard_5 : decode cX5_tightestBoard 5 = .ok (.istore 4, 2) := by decide +kernel
theorem dX5_tightestBoard_7 : decode cX5_tightestBoard 7 = .ok (.iload 4, 2) := by decide +kernel
theorem dX5_tightestBoard_9 : decode cX5_tightestBoard 9 = .ok (.aload_n 0, 1) := by decide +kernel
theorem dX5_tightestBoard_10 : decode cX5_tightestBoard 10 = .ok (.getfield 10, 3) := by decide +kernel
theorem dX5_tightestBoard_13 : decode cX5_tightestBoard 13 = .ok (.invokevirtual 54, 3) := by decide +kernel
theorem dX5_tightestBoard_16 : decode cX5_tightestBoard 16 = .ok (.if_icmp .ge 72, 3) := by decide +kernel
theorem dX5_tightestBoard_19 : decode cX5_tightestBoard 19 = .ok (.aload_n 0, 1) := by decide +kernel
theorem dX5_tightestBoard_20 : decode cX5_tightestBoard 20 = .ok (.getfield 10, 3) := by decide +kernel
theorem dX5_tightestBoard_23 : decode cX5_tightestBoard 23 = .ok (.iload 4, 2) := by decide +kernel
theorem dX5_tightestBoard_25 : decode cX5_tightestBoard 25 = .ok (.invokevirtual 230, 3) := by decide +kernel
theorem dX5_tightestBoard_28 : decode cX5_tightestBoard 28 = .ok (.checkcast 63, 3) := by decide +kernel
theorem dX5_tightestBoard_31 : decode cX5_tightestBoard 31 = .ok (.astore 5, 2) := by decide +kernel
theorem dX5_tightestBoard_33 : decode cX5_tightestBoard 33 = .ok (.aload 5, 2) := by decide +kernel
theorem dX5_tightestBoard_35 : decode cX5_tightestBoard 35 = .ok (.aload_n 1, 1) := by decide +kernel
theorem dX5_tightestBoard_36 : decode cX5_tightestBoard 36 = .ok (.aload_n 0, 1) := by decide +kernel
theorem dX5_tightestBoard_37 : decode cX5_tightestBoard 37 = .ok (.getfield 33, 3) := by decide +kernel
theorem dX5_tightestBoard_40 : decode cX5_tightestBoard 40 = .ok (.invokevirtual 155, 3) := by decide +kernel
theorem dX5_tightestBoard_43 : decode cX5_tightestBoard 43 = .ok (.istore 6, 2) := by decide +kernel
theorem dX5_tightestBoard_45 : decode cX5_tightestBoard 45 = .ok (.iload 6, 2) := by decide +kernel
theorem dX5_tightestBoard_47 : decode cX5_tightestBoard 47 = .ok (.ifCond .ge 6, 3) := by decide +kernel
theorem dX5_tightestBoard_50 : decode cX5_tightestBoard 50 = .ok (.goto 32, 3) := by decide +kernel
theorem dX5_tightestBoard_53 : decode cX5_tightestBoard 53 = .ok (.aload 5, 2) := by decide +kernel
theorem dX5_tightestBoard_55 : decode cX5_tightestBoard 55 = .ok (.iload 6, 2) := by decide +kernel
theorem dX5_tightestBoard_57 : decode cX5_tightestBoard 57 = .ok (.aload_n 0, 1) := by decide +kernel
theorem dX5_tightestBoard_58 : decode cX5_tightestBoard 58 = .ok (.getfield 33, 3) := by decide +kernel
theorem dX5_tightestBoard_61 : decode cX5_tightestBoard 61 = .ok (.invokevirtual 304, 3) := by decide +kernel
theorem dX5_tightestBoard_64 : decode cX5_tightestBoard 64 = .ok (.istore 7, 2) := by decide +kernel
theorem dX5_tightestBoard_66 : decode cX5_tightestBoard 66 = .ok (.aload_n 2, 1) := by decide +kernel
theorem dX5_tightestBoard_67 : decode cX5_tightestBoard 67 = .ok (.ifnull 9, 3) := by decide +kernel
theorem dX5_tightestBoard_70 : decode cX5_tightestBoard 70 = .ok (.iload 7, 2) := by decide +kernel
theorem dX5_tightestBoard_72 : decode cX5_tightestBoard 72 = .ok (.iload_n 3, 1) := by decide +kernel
theorem dX5_tightestBoard_73 : decode cX5_tightestBoard 73 = .ok (.if_icmp .ge 9, 3) := by decide +kernel
theorem dX5_tightestBoard_76 : decode cX5_tightestBoard 76 = .ok (.aload 5, 2) := by decide +kernel
theorem dX5_tightestBoard_78 : decode cX5_tightestBoard 78 = .ok (.astore_n 2, 1) := by decide +kernel
theorem dX5_tightestBoard_79 : decode cX5_tightestBoard 79 = .ok (.iload 7, 2) := by decide +kernel
theorem dX5_tightestBoard_81 : decode cX5_tightestBoard 81 = .ok (.istore_n 3, 1) := by decide +kernel
theorem dX5_tightestBoard_82 : decode cX5_tightestBoard 82 = .ok (.iinc 4 1, 3) := by decide +kernel
theorem dX5_tightestBoard_85 : decode cX5_tightestBoard 85 = .ok (.goto (-78), 3) := by decide +kernel
theorem dX5_tightestBoard_88 : decode cX5_tightestBoard 88 = .ok (.aload_n 2, 1) := by decide +kernel
theorem dX5_tightestBoard_89 : decode cX5_tightestBoard 89 = .ok (.areturn, 1) := by decide +kernel
theorem dX5_cutSingle_0 : decode cX5_cutSingle 0 = .ok (.aload_n 0, 1) := by decide +kernel
theorem dX5_cutSingle_1 : decode cX5_cutSingle 1 = .ok (.new 196, 3) := by decide +kernel
theorem dX5_cutSingle_4 : decode cX5_cutSingle 4 = .ok (.dup, 1) := by decide +kernel
theorem dX5_cutSingle_5 : decode cX5_cutSingle 5 = .ok (.aload_n 1, 1) := by decide +kernel
theorem dX5_cutSingle_6 : decode cX5_cutSingle 6 = .ok (.new 180, 3) := by decide +kernel
theorem dX5_cutSingle_9 : decode cX5_cutSingle 9 = .ok (.dup, 1) := by decide +kernel
theorem dX5_cutSingle_10 : decode cX5_cutSingle 10 = .ok (.aload_n 1, 1) := by decide +kernel
theorem dX5_cutSingle_11 : decode cX5_cutSingle 11 = .ok (.aload_n 2, 1) := by decide +kernel
theorem dX5_cutSingle_12 : decode cX5_cutSingle 12 = .ok (.iload_n 3, 1) := by decide +kernel
theorem dX5_cutSingle_13 : decode cX5_cutSingle 13 = .ok (.iload_n 3, 1) := by decide +kernel
theorem dX5_cutSingle_14 : decode cX5_cutSingle 14 = .ok (.aload_n 1, 1) := by decide +kernel
theorem dX5_cutSingle_15 : decode cX5_cutSingle 15 = .ok (.getfield 150, 3) := by decide +kernel
theorem dX5_cutSingle_18 : decode cX5_cutSingle 18 = .ok (.iadd, 1) := by decide +kernel
theorem dX5_cutSingle_19 : decode cX5_cutSingle 19 = .ok (.iconst 0, 1) := by decide +kernel
theorem dX5_cutSingle_20 : decode cX5_cutSingle 20 = .ok (.invokespecial 182, 3) := by decide +kernel
theorem dX5_cutSingle_23 : decode cX5_cutSingle 23 = .ok (.aconst_null, 1) := by decide +kernel
theorem dX5_cutSingle_24 : decode cX5_cutSingle 24 = .ok (.invokespecial 198, 3) := by decide +kernel
theorem dX5_cutSingle_27 : decode cX5_cutSingle 27 = .ok (.invokevirtual 201, 3) := by decide +kernel
theorem dX5_cutSingle_30 : decode cX5_cutSingle 30 = .ok (.return_, 1) := by decide +kernel
theorem dX5_takeFromBoards_0 : decode cX5_takeFromBoards 0 = .ok (.aload_n 1, 1) := by decide +kernel
theorem dX5_takeFromBoards_1 : decode cX5_takeFromBoards 1 = .ok (.getfield 211, 3) := by decide +kernel
theorem dX5_takeFromBoards_4 : decode cX5_takeFromBoards 4 = .ok (.getfield 215, 3) := by decide +kernel
theorem dX5_takeFromBoards_7 : decode cX5_takeFromBoards 7 = .ok (.aload_n 1, 1) := by decide +kernel
theorem dX5_takeFromBoards_8 : decode cX5_takeFromBoards 8 = .ok (.getfield 211, 3) := by decide +kernel
theorem dX5_takeFromBoards_11 : decode cX5_takeFromBoards 11 = .ok (.invokevirtual 307, 3) := by decide +kernel
theorem dX5_takeFromBoards_14 : decode cX5_takeFromBoards 14 = .ok (.aload_n 1, 1) := by decide +kernel
theorem dX5_takeFromBoards_15 : decode cX5_takeFromBoards 15 = .ok (.getfield 223, 3) := by decide +kernel
theorem dX5_takeFromBoards_18 : decode cX5_takeFromBoards 18 = .ok (.ifnull 17, 3) := by decide +kernel
theorem dX5_takeFromBoards_21 : decode cX5_takeFromBoards 21 = .ok (.aload_n 1, 1) := by decide +kernel
theorem dX5_takeFromBoards_22 : decode cX5_takeFromBoards 22 = .ok (.getfield 223, 3) := by decide +kernel
theorem dX5_takeFromBoards_25 : decode cX5_takeFromBoards 25 = .ok (.getfield 215, 3) := by decide +kernel
theorem dX5_takeFromBoards_28 : decode cX5_takeFromBoards 28 = .ok (.aload_n 1, 1) := by decide +kernel
theorem dX5_takeFromBoards_29 : decode cX5_takeFromBoards 29 = .ok (.getfield 223, 3) := by decide +kernel
theorem dX5_takeFromBoards_32 : decode cX5_takeFromBoards 32 = .ok (.invokevirtual 307, 3) := by decide +kernel
theorem dX5_takeFromBoards_35 : decode cX5_takeFromBoards 35 = .ok (.aload_n 1, 1) := by decide +kernel
theorem dX5_takeFromBoards_36 : decode cX5_takeFromBoards 36 = .ok (.getfield 226, 3) := by decide +kernel
theorem dX5_takeFromBoards_39 : decode cX5_takeFromBoards 39 = .ok (.dup, 1) := by decide +kernel
theorem dX5_takeFromBoards_40 : decode cX5_takeFromBoards 40 = .ok (.getfield 159, 3) := by decide +kernel
theorem dX5_takeFromBoards_43 : decode cX5_takeFromBoards 43 = .ok (.iconst 1, 1) := by decide +kernel
theorem dX5_takeFromBoards_44 : decode cX5_takeFromBoards 44 = .ok (.isub, 1) := by decide +kernel
theorem dX5_takeFromBoards_45 : decode cX5_takeFromBoards 45 = .ok (.putfield 159, 3) := by decide +kernel
theorem dX5_takeFromBoards_48 : decode cX5_takeFromBoards 48 = .ok (.aload_n 0, 1) := by decide +kernel
theorem dX5_takeFromBoards_49 : decode cX5_takeFromBoards 49 = .ok (.getfield 22, 3) := by decide +kernel
theorem dX5_takeFromBoards_52 : decode cX5_takeFromBoards 52 = .ok (.aload_n 1, 1) := by decide +kernel
theorem dX5_takeFromBoards_53 : decode cX5_takeFromBoards 53 = .ok (.invokevirtual 68, 3) := by decide +kernel
theorem dX5_takeFromBoards_56 : decode cX5_takeFromBoards 56 = .ok (.pop, 1) := by decide +kernel
theorem dX5_takeFromBoards_57 : decode cX5_takeFromBoards 57 = .ok (.return_, 1) := by decide +kernel
theorem dX5_clearBestSums_0 : decode cX5_clearBestSums 0 = .ok (.iconst 0, 1) := by decide +kernel
theorem dX5_clearBestSums_1 : decode cX5_clearBestSums 1 = .ok (.istore_n 1, 1) := by decide +kernel
theorem dX5_clearBestSums_2 : decode cX5_clearBestSums 2 = .ok (.iload_n 1, 1) := by decide +kernel
theorem dX5_clearBestSums_3 : decode cX5_clearBestSums 3 = .ok (.aload_n 0, 1) := by decide +kernel
theorem dX5_clearBestSums_4 : decode cX5_clearBestSums 4 = .ok (.getfield 25, 3) := by decide +kernel
theorem dX5_clearBestSums_7 : decode cX5_clearBestSums 7 = .ok (.arraylength, 1) := by decide +kernel
theorem dX5_clearBestSums_8 : decode cX5_clearBestSums 8 = .ok (.if_icmp .ge 16, 3) := by decide +kernel
theorem dX5_clearBestSums_11 : decode cX5_clearBestSums 11 = .ok (.aload_n 0, 1) := by decide +kernel
theorem dX5_clearBestSums_12 : decode cX5_clearBestSums 12 = .ok (.getfield 25, 3) := by decide +kernel
theorem dX5_clearBestSums_15 : decode cX5_clearBestSums 15 = .ok (.iload_n 1, 1) := by decide +kernel
theorem dX5_clearBestSums_16 : decode cX5_clearBestSums 16 = .ok (.iconst 0, 1) := by decide +kernel
theorem dX5_clearBestSums_17 : decode cX5_clearBestSums 17 = .ok (.iastore, 1) := by decide +kernel
theorem dX5_clearBestSums_18 : decode cX5_clearBestSums 18 = .ok (.iinc 1 1, 3) := by decide +kernel
theorem dX5_clearBestSums_21 : decode cX5_clearBestSums 21 = .ok (.goto (-19), 3) := by decide +kernel
theorem dX5_clearBestSums_24 : decode cX5_clearBestSums 24 = .ok (.return_, 1) := by decide +kernel
theorem dX5_addToBestSums_0 : decode cX5_addToBestSums 0 = .ok (.aload_n 1, 1) := by decide +kernel
theorem dX5_addToBestSums_1 : decode cX5_addToBestSums 1 = .ok (.getfield 150, 3) := by decide +kernel
theorem dX5_addToBestSums_4 : decode cX5_addToBestSums 4 = .ok (.aload_n 0, 1) := by decide +kernel
theorem dX5_addToBestSums_5 : decode cX5_addToBestSums 5 = .ok (.getfield 33, 3) := by decide +kernel
theorem dX5_addToBestSums_8 : decode cX5_addToBestSums 8 = .ok (.iadd, 1) := by decide +kernel
theorem dX5_addToBestSums_9 : decode cX5_addToBestSums 9 = .ok (.istore_n 3, 1) := by decide +kernel
theorem dX5_addToBestSums_10 : decode cX5_addToBestSums 10 = .ok (.iconst 0, 1) := by decide +kernel
theorem dX5_addToBestSums_11 : decode cX5_addToBestSums 11 = .ok (.istore 4, 2) := by decide +kernel
theorem dX5_addToBestSums_13 : decode cX5_addToBestSums 13 = .ok (.iload 4, 2) := by decide +kernel
theorem dX5_addToBestSums_15 : decode cX5_addToBestSums 15 = .ok (.aload_n 1, 1) := by decide +kernel
theorem dX5_addToBestSums_16 : decode cX5_addToBestSums 16 = .ok (.getfield 159, 3) := by decide +kernel
theorem dX5_addToBestSums_19 : decode cX5_addToBestSums 19 = .ok (.if_icmp .ge 55, 3) := by decide +kernel
theorem dX5_addToBestSums_22 : decode cX5_addToBestSums 22 = .ok (.iload_n 2, 1) := by decide +kernel
theorem dX5_addToBestSums_23 : decode cX5_addToBestSums 23 = .ok (.istore 5, 2) := by decide +kernel
theorem dX5_addToBestSums_25 : decode cX5_addToBestSums 25 = .ok (.iload 5, 2) := by decide +kernel
theorem dX5_addToBestSums_27 : decode cX5_addToBestSums 27 = .ok (.iload_n 3, 1) := by decide +kernel
theorem dX5_addToBestSums_28 : decode cX5_addToBestSums 28 = .ok (.if_icmp .lt 40, 3) := by decide +kernel
theorem dX5_addToBestSums_31 : decode cX5_addToBestSums 31 = .ok (.aload_n 0, 1) := by decide +kernel
theorem dX5_addToBestSums_32 : decode cX5_addToBestSums 32 = .ok (.getfield 25, 3) := by decide +kernel
theorem dX5_addToBestSums_35 : decode cX5_addToBestSums 35 = .ok (.iload 5, 2) := by decide +kernel
theorem dX5_addToBestSums_37 : decode cX5_addToBestSums 37 = .ok (.aload_n 0, 1) := by decide +kernel
theorem dX5_addToBestSums_38 : decode cX5_addToBestSums 38 = .ok (.getfield 25, 3) := by decide +kernel
theorem dX5_addToBestSums_41 : decode cX5_addToBestSums 41 = .ok (.iload 5, 2) := by decide +kernel
theorem dX5_addToBestSums_43 : decode cX5_addToBestSums 43 = .ok (.iaload, 1) := by decide +kernel
theorem dX5_addToBestSums_44 : decode cX5_addToBestSums 44 = .ok (.aload_n 0, 1) := by decide +kernel
theorem dX5_addToBestSums_45 : decode cX5_addToBestSums 45 = .ok (.getfield 25, 3) := by decide +kernel
theorem dX5_addToBestSums_48 : decode cX5_addToBestSums 48 = .ok (.iload 5, 2) := by decide +kernel
theorem dX5_addToBestSums_50 : decode cX5_addToBestSums 50 = .ok (.iload_n 3, 1) := by decide +kernel
theorem dX5_addToBestSums_51 : decode cX5_addToBestSums 51 = .ok (.isub, 1) := by decide +kernel
theorem dX5_addToBestSums_52 : decode cX5_addToBestSums 52 = .ok (.iaload, 1) := by decide +kernel
theorem dX5_addToBestSums_53 : decode cX5_addToBestSums 53 = .ok (.aload_n 1, 1) := by decide +kernel
theorem dX5_addToBestSums_54 : decode cX5_addToBestSums 54 = .ok (.getfield 150, 3) := by decide +kernel
theorem dX5_addToBestSums_57 : decode cX5_addToBestSums 57 = .ok (.iadd, 1) := by decide +kernel
theorem dX5_addToBestSums_58 : decode cX5_addToBestSums 58 = .ok (.invokestatic 310, 3) := by decide +kernel
theorem dX5_addToBestSums_61 : decode cX5_addToBestSums 61 = .ok (.iastore, 1) := by decide +kernel
theorem dX5_addToBestSums_62 : decode cX5_addToBestSums 62 = .ok (.iinc 5 (-1), 3) := by decide +kernel
theorem dX5_addToBestSums_65 : decode cX5_addToBestSums 65 = .ok (.goto (-40), 3) := by decide +kernel
theorem dX5_addToBestSums_68 : decode cX5_addToBestSums 68 = .ok (.iinc 4 1, 3) := by decide +kernel
theorem dX5_addToBestSums_71 : decode cX5_addToBestSums 71 = .ok (.goto (-58), 3) := by decide +kernel
theorem dX5_addToBestSums_74 : decode cX5_addToBestSums 74 = .ok (.return_, 1) := by decide +kernel
theorem dX5_withNext_0 : decode cX5_withNext 0 = .ok (.lload_n 0, 1) := by decide +kernel
theorem dX5_withNext_1 : decode cX5_withNext 1 = .ok (.ldc2_w 313, 3) := by decide +kernel
theorem dX5_withNext_4 : decode cX5_withNext 4 = .ok (.lmul, 1) := by decide +kernel
theorem dX5_withNext_5 : decode cX5_withNext 5 = .ok (.lload_n 2, 1) := by decide +kernel
theorem dX5_withNext_6 : decode cX5_withNext 6 = .ok (.ladd, 1) := by decide +kernel
theorem dX5_withNext_7 : decode cX5_withNext 7 = .ok (.lreturn, 1) := by decide +kernel
theorem dX5_withPieces_0 : decode cX5_withPieces 0 = .ok (.lload_n 0, 1) := by decide +kernel
theorem dX5_withPieces_1 : decode cX5_withPieces 1 = .ok (.aload_n 2, 1) := by decide +kernel
theorem dX5_withPieces_2 : decode cX5_withPieces 2 = .ok (.invokevirtual 54, 3) := by decide +kernel
theorem dX5_withPieces_5 : decode cX5_withPieces 5 = .ok (.i2l, 1) := by decide +kernel
theorem dX5_withPieces_6 : decode cX5_withPieces 6 = .ok (.invokestatic 279, 3) := by decide +kernel
theorem dX5_withPieces_9 : decode cX5_withPieces 9 = .ok (.lstore_n 3, 1) := by decide +kernel
theorem dX5_withPieces_10 : decode cX5_withPieces 10 = .ok (.iconst 0, 1) := by decide +kernel
theorem dX5_withPieces_11 : decode cX5_withPieces 11 = .ok (.istore 5, 2) := by decide +kernel
theorem dX5_withPieces_13 : decode cX5_withPieces 13 = .ok (.iload 5, 2) := by decide +kernel
theorem dX5_withPieces_15 : decode cX5_withPieces 15 = .ok (.aload_n 2, 1) := by decide +kernel
theorem dX5_withPieces_16 : decode cX5_withPieces 16 = .ok (.invokevirtual 54, 3) := by decide +kernel
theorem dX5_withPieces_19 : decode cX5_withPieces 19 = .ok (.if_icmp .ge 44, 3) := by decide +kernel
theorem dX5_withPieces_22 : decode cX5_withPieces 22 = .ok (.iconst 0, 1) := by decide +kernel
theorem dX5_withPieces_23 : decode cX5_withPieces 23 = .ok (.istore 6, 2) := by decide +kernel
theorem dX5_withPieces_25 : decode cX5_withPieces 25 = .ok (.iload 6, 2) := by decide +kernel
theorem dX5_withPieces_27 : decode cX5_withPieces 27 = .ok (.iconst 3, 1) := by decide +kernel
theorem dX5_withPieces_28 : decode cX5_withPieces 28 = .ok (.if_icmp .gt 29, 3) := by decide +kernel
theorem dX5_withPieces_31 : decode cX5_withPieces 31 = .ok (.lload_n 3, 1) := by decide +kernel
theorem dX5_withPieces_32 : decode cX5_withPieces 32 = .ok (.aload_n 2, 1) := by decide +kernel
theorem dX5_withPieces_33 : decode cX5_withPieces 33 = .ok (.iload 5, 2) := by decide +kernel
theorem dX5_withPieces_35 : decode cX5_withPieces 35 = .ok (.invokevirtual 230, 3) := by decide +kernel
theorem dX5_withPieces_38 : decode cX5_withPieces 38 = .ok (.checkcast 180, 3) := by decide +kernel
theorem dX5_withPieces_41 : decode cX5_withPieces 41 = .ok (.iload 6, 2) := by decide +kernel
theorem dX5_withPieces_43 : decode cX5_withPieces 43 = .ok (.invokevirtual 244, 3) := by decide +kernel
theorem dX5_withPieces_46 : decode cX5_withPieces 46 = .ok (.i2l, 1) := by decide +kernel
theorem dX5_withPieces_47 : decode cX5_withPieces 47 = .ok (.invokestatic 279, 3) := by decide +kernel
theorem dX5_withPieces_50 : decode cX5_withPieces 50 = .ok (.lstore_n 3, 1) := by decide +kernel
theorem dX5_withPieces_51 : decode cX5_withPieces 51 = .ok (.iinc 6 1, 3) := by decide +kernel
theorem dX5_withPieces_54 : decode cX5_withPieces 54 = .ok (.goto (-29), 3) := by decide +kernel
theorem dX5_withPieces_57 : decode cX5_withPieces 57 = .ok (.iinc 5 1, 3) := by decide +kernel
theorem dX5_withPieces_60 : decode cX5_withPieces 60 = .ok (.goto (-47), 3) := by decide +kernel
theorem dX5_withPieces_63 : decode cX5_withPieces 63 = .ok (.lload_n 3, 1) := by decide +kernel
theorem dX5_withPieces_64 : decode cX5_withPieces 64 = .ok (.lreturn, 1) := by decide +kernel
