theorem dX6_init_0 : decode cX6_init 0 = .ok (.aload_n 0, 1) := by decide +kernel
theorem dX6_init_1 : decode cX6_init 1 = .ok (.invokespecial 3, 3) := by decide +kernel
theorem dX6_init_4 : decode cX6_init 4 = .ok (.aload_n 0, 1) := by decide +kernel
theorem dX6_init_5 : decode cX6_init 5 = .ok (.bipush 30, 2) := by decide +kernel
theorem dX6_init_7 : decode cX6_init 7 = .ok (.newarray .int, 2) := by decide +kernel
theorem dX6_init_9 : decode cX6_init 9 = .ok (.putfield 9, 3) := by decide +kernel
theorem dX6_init_12 : decode cX6_init 12 = .ok (.aload_n 0, 1) := by decide +kernel
theorem dX6_init_13 : decode cX6_init 13 = .ok (.bipush 96, 2) := by decide +kernel
theorem dX6_init_15 : decode cX6_init 15 = .ok (.newarray .int, 2) := by decide +kernel
theorem dX6_init_17 : decode cX6_init 17 = .ok (.putfield 13, 3) := by decide +kernel
theorem dX6_init_20 : decode cX6_init 20 = .ok (.aload_n 0, 1) := by decide +kernel
theorem dX6_init_21 : decode cX6_init 21 = .ok (.bipush 48, 2) := by decide +kernel
theorem dX6_init_23 : decode cX6_init 23 = .ok (.newarray .int, 2) := by decide +kernel
theorem dX6_init_25 : decode cX6_init 25 = .ok (.putfield 16, 3) := by decide +kernel
theorem dX6_init_28 : decode cX6_init 28 = .ok (.aload_n 0, 1) := by decide +kernel
theorem dX6_init_29 : decode cX6_init 29 = .ok (.bipush 12, 2) := by decide +kernel
theorem dX6_init_31 : decode cX6_init 31 = .ok (.newarray .boolean, 2) := by decide +kernel
theorem dX6_init_33 : decode cX6_init 33 = .ok (.putfield 19, 3) := by decide +kernel
theorem dX6_init_36 : decode cX6_init 36 = .ok (.aload_n 0, 1) := by decide +kernel
theorem dX6_init_37 : decode cX6_init 37 = .ok (.iconst 3, 1) := by decide +kernel
theorem dX6_init_38 : decode cX6_init 38 = .ok (.putfield 23, 3) := by decide +kernel
theorem dX6_init_41 : decode cX6_init 41 = .ok (.aload_n 0, 1) := by decide +kernel
theorem dX6_init_42 : decode cX6_init 42 = .ok (.bipush 10, 2) := by decide +kernel
theorem dX6_init_44 : decode cX6_init 44 = .ok (.putfield 27, 3) := by decide +kernel
theorem dX6_init_47 : decode cX6_init 47 = .ok (.aload_n 0, 1) := by decide +kernel
theorem dX6_init_48 : decode cX6_init 48 = .ok (.sipush 864, 3) := by decide +kernel
theorem dX6_init_51 : decode cX6_init 51 = .ok (.newarray .int, 2) := by decide +kernel
theorem dX6_init_53 : decode cX6_init 53 = .ok (.putfield 30, 3) := by decide +kernel
theorem dX6_init_56 : decode cX6_init 56 = .ok (.aload_n 0, 1) := by decide +kernel
theorem dX6_init_57 : decode cX6_init 57 = .ok (.sipush 216, 3) := by decide +kernel
theorem dX6_init_60 : decode cX6_init 60 = .ok (.newarray .boolean, 2) := by decide +kernel
theorem dX6_init_62 : decode cX6_init 62 = .ok (.putfield 33, 3) := by decide +kernel
theorem dX6_init_65 : decode cX6_init 65 = .ok (.return_, 1) := by decide +kernel
theorem dX6_thrown_0 : decode cX6_thrown 0 = .ok (.aload_n 0, 1) := by decide +kernel
theorem dX6_thrown_1 : decode cX6_thrown 1 = .ok (.getfield 36, 3) := by decide +kernel
theorem dX6_thrown_4 : decode cX6_thrown 4 = .ok (.ireturn, 1) := by decide +kernel
theorem dX6_fail_0 : decode cX6_fail 0 = .ok (.aload_n 0, 1) := by decide +kernel
theorem dX6_fail_1 : decode cX6_fail 1 = .ok (.iload_n 1, 1) := by decide +kernel
theorem dX6_fail_2 : decode cX6_fail 2 = .ok (.putfield 36, 3) := by decide +kernel
theorem dX6_fail_5 : decode cX6_fail 5 = .ok (.iconst 0, 1) := by decide +kernel
theorem dX6_fail_6 : decode cX6_fail 6 = .ok (.ireturn, 1) := by decide +kernel
theorem dX6_isIn_0 : decode cX6_isIn 0 = .ok (.iload_n 0, 1) := by decide +kernel
theorem dX6_isIn_1 : decode cX6_isIn 1 = .ok (.iload_n 1, 1) := by decide +kernel
theorem dX6_isIn_2 : decode cX6_isIn 2 = .ok (.if_icmp .lt 12, 3) := by decide +kernel
theorem dX6_isIn_5 : decode cX6_isIn 5 = .ok (.iload_n 0, 1) := by decide +kernel
theorem dX6_isIn_6 : decode cX6_isIn 6 = .ok (.iload_n 2, 1) := by decide +kernel
theorem dX6_isIn_7 : decode cX6_isIn 7 = .ok (.if_icmp .gt 7, 3) := by decide +kernel
theorem dX6_isIn_10 : decode cX6_isIn 10 = .ok (.iconst 1, 1) := by decide +kernel
theorem dX6_isIn_11 : decode cX6_isIn 11 = .ok (.goto 4, 3) := by decide +kernel
theorem dX6_isIn_14 : decode cX6_isIn 14 = .ok (.iconst 0, 1) := by decide +kernel
theorem dX6_isIn_15 : decode cX6_isIn 15 = .ok (.ireturn, 1) := by decide +kernel
theorem dX6_isBoard_0 : decode cX6_isBoard 0 = .ok (.iload_n 1, 1) := by decide +kernel
theorem dX6_isBoard_1 : decode cX6_isBoard 1 = .ok (.iconst 0, 1) := by decide +kernel
theorem dX6_isBoard_2 : decode cX6_isBoard 2 = .ok (.aload_n 0, 1) := by decide +kernel
theorem dX6_isBoard_3 : decode cX6_isBoard 3 = .ok (.getfield 39, 3) := by decide +kernel
theorem dX6_isBoard_6 : decode cX6_isBoard 6 = .ok (.iconst 1, 1) := by decide +kernel
theorem dX6_isBoard_7 : decode cX6_isBoard 7 = .ok (.isub, 1) := by decide +kernel
theorem dX6_isBoard_8 : decode cX6_isBoard 8 = .ok (.invokestatic 42, 3) := by decide +kernel
theorem dX6_isBoard_11 : decode cX6_isBoard 11 = .ok (.ireturn, 1) := by decide +kernel
theorem dX6_isPart_0 : decode cX6_isPart 0 = .ok (.iload_n 1, 1) := by decide +kernel
theorem dX6_isPart_1 : decode cX6_isPart 1 = .ok (.iconst 0, 1) := by decide +kernel
theorem dX6_isPart_2 : decode cX6_isPart 2 = .ok (.aload_n 0, 1) := by decide +kernel
theorem dX6_isPart_3 : decode cX6_isPart 3 = .ok (.getfield 46, 3) := by decide +kernel
theorem dX6_isPart_6 : decode cX6_isPart 6 = .ok (.iconst 1, 1) := by decide +kernel
theorem dX6_isPart_7 : decode cX6_isPart 7 = .ok (.isub, 1) := by decide +kernel
theorem dX6_isPart_8 : decode cX6_isPart 8 = .ok (.invokestatic 42, 3) := by decide +kernel
theorem dX6_isPart_11 : decode cX6_isPart 11 = .ok (.ireturn, 1) := by decide +kernel
theorem dX6_length_0 : decode cX6_length 0 = .ok (.aload_n 0, 1) := by decide +kernel
theorem dX6_length_1 : decode cX6_length 1 = .ok (.getfield 9, 3) := by decide +kernel
theorem dX6_length_4 : decode cX6_length 4 = .ok (.iconst 3, 1) := by decide +kernel
theorem dX6_length_5 : decode cX6_length 5 = .ok (.iload_n 1, 1) := by decide +kernel
theorem dX6_length_6 : decode cX6_length 6 = .ok (.imul, 1) := by decide +kernel
theorem dX6_length_7 : decode cX6_length 7 = .ok (.iaload, 1) := by decide +kernel
theorem dX6_length_8 : decode cX6_length 8 = .ok (.ireturn, 1) := by decide +kernel
theorem dX6_width_0 : decode cX6_width 0 = .ok (.aload_n 0, 1) := by decide +kernel
theorem dX6_width_1 : decode cX6_width 1 = .ok (.getfield 9, 3) := by decide +kernel
theorem dX6_width_4 : decode cX6_width 4 = .ok (.iconst 3, 1) := by decide +kernel
theorem dX6_width_5 : decode cX6_width 5 = .ok (.iload_n 1, 1) := by decide +kernel
theorem dX6_width_6 : decode cX6_width 6 = .ok (.imul, 1) := by decide +kernel
theorem dX6_width_7 : decode cX6_width 7 = .ok (.iconst 1, 1) := by decide +kernel
theorem dX6_width_8 : decode cX6_width 8 = .ok (.iadd, 1) := by decide +kernel
theorem dX6_width_9 : decode cX6_width 9 = .ok (.iaload, 1) := by decide +kernel
theorem dX6_width_10 : decode cX6_width 10 = .ok (.ireturn, 1) := by decide +kernel
theorem dX6_want_0 : decode cX6_want 0 = .ok (.aload_n 0, 1) := by decide +kernel
theorem dX6_want_1 : decode cX6_want 1 = .ok (.getfield 16, 3) := by decide +kernel
theorem dX6_want_4 : decode cX6_want 4 = .ok (.iconst 4, 1) := by decide +kernel
theorem dX6_want_5 : decode cX6_want 5 = .ok (.iload_n 1, 1) := by decide +kernel
theorem dX6_want_6 : decode cX6_want 6 = .ok (.imul, 1) := by decide +kernel
theorem dX6_want_7 : decode cX6_want 7 = .ok (.iload_n 2, 1) := by decide +kernel
theorem dX6_want_8 : decode cX6_want 8 = .ok (.iadd, 1) := by decide +kernel
theorem dX6_want_9 : decode cX6_want 9 = .ok (.iaload, 1) := by decide +kernel
theorem dX6_want_10 : decode cX6_want 10 = .ok (.ireturn, 1) := by decide +kernel
theorem dX6_addBoard_0 : decode cX6_addBoard 0 = .ok (.aload_n 0, 1) := by decide +kernel
theorem dX6_addBoard_1 : decode cX6_addBoard 1 = .ok (.iconst 0, 1) := by decide +kernel
theorem dX6_addBoard_2 : decode cX6_addBoard 2 = .ok (.putfield 36, 3) := by decide +kernel
theorem dX6_addBoard_5 : decode cX6_addBoard 5 = .ok (.iload_n 1, 1) := by decide +kernel
theorem dX6_addBoard_6 : decode cX6_addBoard 6 = .ok (.bipush 100, 2) := by decide +kernel
theorem dX6_addBoard_8 : decode cX6_addBoard 8 = .ok (.sipush 3000, 3) := by decide +kernel
theorem dX6_addBoard_11 : decode cX6_addBoard 11 = .ok (.invokestatic 42, 3) := by decide +kernel
theorem dX6_addBoard_14 : decode cX6_addBoard 14 = .ok (.ifCond .eq 24, 3) := by decide +kernel
theorem dX6_addBoard_17 : decode cX6_addBoard 17 = .ok (.iload_n 2, 1) := by decide +kernel
theorem dX6_addBoard_18 : decode cX6_addBoard 18 = .ok (.bipush 10, 2) := by decide +kernel
theorem dX6_addBoard_20 : decode cX6_addBoard 20 = .ok (.sipush 400, 3) := by decide +kernel
theorem dX6_addBoard_23 : decode cX6_addBoard 23 = .ok (.invokestatic 42, 3) := by decide +kernel
theorem dX6_addBoard_26 : decode cX6_addBoard 26 = .ok (.ifCond .eq 12, 3) := by decide +kernel
theorem dX6_addBoard_29 : decode cX6_addBoard 29 = .ok (.iload_n 3, 1) := by decide +kernel
theorem dX6_addBoard_30 : decode cX6_addBoard 30 = .ok (.iconst 0, 1) := by decide +kernel
theorem dX6_addBoard_31 : decode cX6_addBoard 31 = .ok (.iconst 3, 1) := by decide +kernel
theorem dX6_addBoard_32 : decode cX6_addBoard 32 = .ok (.invokestatic 42, 3) := by decide +kernel
theorem dX6_addBoard_35 : decode cX6_addBoard 35 = .ok (.ifCond .ne 9, 3) := by decide +kernel
theorem dX6_addBoard_38 : decode cX6_addBoard 38 = .ok (.aload_n 0, 1) := by decide +kernel
theorem dX6_addBoard_39 : decode cX6_addBoard 39 = .ok (.iconst 1, 1) := by decide +kernel
theorem dX6_addBoard_40 : decode cX6_addBoard 40 = .ok (.invokevirtual 49, 3) := by decide +kernel
theorem dX6_addBoard_43 : decode cX6_addBoard 43 = .ok (.ireturn, 1) := by decide +kernel
theorem dX6_addBoard_44 : decode cX6_addBoard 44 = .ok (.aload_n 0, 1) := by decide +kernel
theorem dX6_addBoard_45 : decode cX6_addBoard 45 = .ok (.getfield 39, 3) := by decide +kernel
theorem dX6_addBoard_48 : decode cX6_addBoard 48 = .ok (.bipush 10, 2) := by decide +kernel
theorem dX6_addBoard_50 : decode cX6_addBoard 50 = .ok (.if_icmp .ne 9, 3) := by decide +kernel
theorem dX6_addBoard_53 : decode cX6_addBoard 53 = .ok (.aload_n 0, 1) := by decide +kernel
theorem dX6_addBoard_54 : decode cX6_addBoard 54 = .ok (.iconst 2, 1) := by decide +kernel
theorem dX6_addBoard_55 : decode cX6_addBoard 55 = .ok (.invokevirtual 49, 3) := by decide +kernel
theorem dX6_addBoard_58 : decode cX6_addBoard 58 = .ok (.ireturn, 1) := by decide +kernel
theorem dX6_addBoard_59 : decode cX6_addBoard 59 = .ok (.aload_n 0, 1) := by decide +kernel
theorem dX6_addBoard_60 : decode cX6_addBoard 60 = .ok (.getfield 9, 3) := by decide +kernel
theorem dX6_addBoard_63 : decode cX6_addBoard 63 = .ok (.iconst 3, 1) := by decide +kernel
theorem dX6_addBoard_64 : decode cX6_addBoard 64 = .ok (.aload_n 0, 1) := by decide +kernel
theorem dX6_addBoard_65 : decode cX6_addBoard 65 = .ok (.getfield 39, 3) := by decide +kernel
theorem dX6_addBoard_68 : decode cX6_addBoard 68 = .ok (.imul, 1) := by decide +kernel
theorem dX6_addBoard_69 : decode cX6_addBoard 69 = .ok (.iload_n 1, 1) := by decide +kernel
theorem dX6_addBoard_70 : decode cX6_addBoard 70 = .ok (.iastore, 1) := by decide +kernel
theorem dX6_addBoard_71 : decode cX6_addBoard 71 = .ok (.aload_n 0, 1) := by decide +kernel
theorem dX6_addBoard_72 : decode cX6_addBoard 72 = .ok (.getfield 9, 3) := by decide +kernel
theorem dX6_addBoard_75 : decode cX6_addBoard 75 = .ok (.iconst 3, 1) := by decide +kernel
theorem dX6_addBoard_76 : decode cX6_addBoard 76 = .ok (.aload_n 0, 1) := by decide +kernel
theorem dX6_addBoard_77 : decode cX6_addBoard 77 = .ok (.getfield 39, 3) := by decide +kernel
theorem dX6_addBoard_80 : decode cX6_addBoard 80 = .ok (.imul, 1) := by decide +kernel
theorem dX6_addBoard_81 : decode cX6_addBoard 81 = .ok (.iconst 1, 1) := by decide +kernel
theorem dX6_addBoard_82 : decode cX6_addBoard 82 = .ok (.iadd, 1) := by decide +kernel
theorem dX6_addBoard_83 : decode cX6_addBoard 83 = .ok (.iload_n 2, 1) := by decide +kernel
theorem dX6_addBoard_84 : decode cX6_addBoard 84 = .ok (.iastore, 1) := by decide +kernel
theorem dX6_addBoard_85 : decode cX6_addBoard 85 = .ok (.aload_n 0, 1) := by decide +kernel
theorem dX6_addBoard_86 : decode cX6_addBoard 86 = .ok (.getfield 9, 3) := by decide +kernel
theorem dX6_addBoard_89 : decode cX6_addBoard 89 = .ok (.iconst 3, 1) := by decide +kernel
theorem dX6_addBoard_90 : decode cX6_addBoard 90 = .ok (.aload_n 0, 1) := by decide +kernel
theorem dX6_addBoard_91 : decode cX6_addBoard 91 = .ok (.getfield 39, 3) := by decide +kernel
theorem dX6_addBoard_94 : decode cX6_addBoard 94 = .ok (.imul, 1) := by decide +kernel
theorem dX6_addBoard_95 : decode cX6_addBoard 95 = .ok (.iconst 2, 1) := by decide +kernel
theorem dX6_addBoard_96 : decode cX6_addBoard 96 = .ok (.iadd, 1) := by decide +kernel
theorem dX6_addBoard_97 : decode cX6_addBoard 97 = .ok (.iload_n 3, 1) := by decide +kernel
theorem dX6_addBoard_98 : decode cX6_addBoard 98 = .ok (.iastore, 1) := by decide +kernel
theorem dX6_addBoard_99 : decode cX6_addBoard 99 = .ok (.aload_n 0, 1) := by decide +kernel
theorem dX6_addBoard_100 : decode cX6_addBoard 100 = .ok (.dup, 1) := by decide +kernel
theorem dX6_addBoard_101 : decode cX6_addBoard 101 = .ok (.getfield 39, 3) := by decide +kernel
theorem dX6_addBoard_104 : decode cX6_addBoard 104 = .ok (.iconst 1, 1) := by decide +kernel
theorem dX6_addBoard_105 : decode cX6_addBoard 105 = .ok (.iadd, 1) := by decide +kernel
theorem dX6_addBoard_106 : decode cX6_addBoard 106 = .ok (.putfield 39, 3) := by decide +kernel
theorem dX6_addBoard_109 : decode cX6_addBoard 109 = .ok (.aload_n 0, 1) := by decide +kernel
theorem dX6_addBoard_110 : decode cX6_addBoard 110 = .ok (.getfield 39, 3) := by decide +kernel
theorem dX6_addBoard_113 : decode cX6_addBoard 113 = .ok (.iconst 1, 1) := by decide +kernel
theorem dX6_addBoard_114 : decode cX6_addBoard 114 = .ok (.isub, 1) := by decide +kernel
theorem dX6_addBoard_115 : decode cX6_addBoard 115 = .ok (.ireturn, 1) := by decide +kernel
theorem dX6_isOn_0 : decode cX6_isOn 0 = .ok (.aload_n 0, 1) := by decide +kernel
theorem dX6_isOn_1 : decode cX6_isOn 1 = .ok (.getfield 30, 3) := by decide +kernel
theorem dX6_isOn_4 : decode cX6_isOn 4 = .ok (.iconst 4, 1) := by decide +kernel
theorem dX6_isOn_5 : decode cX6_isOn 5 = .ok (.iload_n 1, 1) := by decide +kernel
theorem dX6_isOn_6 : decode cX6_isOn 6 = .ok (.imul, 1) := by decide +kernel
theorem dX6_isOn_7 : decode cX6_isOn 7 = .ok (.iaload, 1) := by decide +kernel
theorem dX6_isOn_8 : decode cX6_isOn 8 = .ok (.iload_n 2, 1) := by decide +kernel
theorem dX6_isOn_9 : decode cX6_isOn 9 = .ok (.if_icmp .ne 7, 3) := by decide +kernel
theorem dX6_isOn_12 : decode cX6_isOn 12 = .ok (.iconst 1, 1) := by decide +kernel
theorem dX6_isOn_13 : decode cX6_isOn 13 = .ok (.goto 4, 3) := by decide +kernel
theorem dX6_isOn_16 : decode cX6_isOn 16 = .ok (.iconst 0, 1) := by decide +kernel
theorem dX6_isOn_17 : decode cX6_isOn 17 = .ok (.ireturn, 1) := by decide +kernel
theorem dX6_from_0 : decode cX6_from 0 = .ok (.aload_n 0, 1) := by decide +kernel
theorem dX6_from_1 : decode cX6_from 1 = .ok (.getfield 30, 3) := by decide +kernel
theorem dX6_from_4 : decode cX6_from 4 = .ok (.iconst 4, 1) := by decide +kernel
theorem dX6_from_5 : decode cX6_from 5 = .ok (.iload_n 1, 1) := by decide +kernel
theorem dX6_from_6 : decode cX6_from 6 = .ok (.imul, 1) := by decide +kernel
theorem dX6_from_7 : decode cX6_from 7 = .ok (.iconst 1, 1) := by decide +kernel
theorem dX6_from_8 : decode cX6_from 8 = .ok (.iadd, 1) := by decide +kernel
theorem dX6_from_9 : decode cX6_from 9 = .ok (.iaload, 1) := by decide +kernel
theorem dX6_from_10 : decode cX6_from 10 = .ok (.ireturn, 1) := by decide +kernel
theorem dX6_to_0 : decode cX6_to 0 = .ok (.aload_n 0, 1) := by decide +kernel
theorem dX6_to_1 : decode cX6_to 1 = .ok (.getfield 30, 3) := by decide +kernel
theorem dX6_to_4 : decode cX6_to 4 = .ok (.iconst 4, 1) := by decide +kernel
theorem dX6_to_5 : decode cX6_to 5 = .ok (.iload_n 1, 1) := by decide +kernel
theorem dX6_to_6 : decode cX6_to 6 = .ok (.imul, 1) := by decide +kernel
theorem dX6_to_7 : decode cX6_to 7 = .ok (.iconst 2, 1) := by decide +kernel
theorem dX6_to_8 : decode cX6_to 8 = .ok (.iadd, 1) := by decide +kernel
theorem dX6_to_9 : decode cX6_to 9 = .ok (.iaload, 1) := by decide +kernel
theorem dX6_to_10 : decode cX6_to 10 = .ok (.ireturn, 1) := by decide +kernel
theorem dX6_partOf_0 : decode cX6_partOf 0 = .ok (.aload_n 0, 1) := by decide +kernel
theorem dX6_partOf_1 : decode cX6_partOf 1 = .ok (.getfield 30, 3) := by decide +kernel
theorem dX6_partOf_4 : decode cX6_partOf 4 = .ok (.iconst 4, 1) := by decide +kernel
theorem dX6_partOf_5 : decode cX6_partOf 5 = .ok (.iload_n 1, 1) := by decide +kernel
theorem dX6_partOf_6 : decode cX6_partOf 6 = .ok (.imul, 1) := by decide +kernel
theorem dX6_partOf_7 : decode cX6_partOf 7 = .ok (.iconst 3, 1) := by decide +kernel
theorem dX6_partOf_8 : decode cX6_partOf 8 = .ok (.iadd, 1) := by decide +kernel
theorem dX6_partOf_9 : decode cX6_partOf 9 = .ok (.iaload, 1) := by decide +kernel
theorem dX6_partOf_10 : decode cX6_partOf 10 = .ok (.ireturn, 1) := by decide +kernel
theorem dX6_addDefect_0 : decode cX6_addDefect 0 = .ok (.aload_n 0, 1) := by decide +kernel
theorem dX6_addDefect_1 : decode cX6_addDefect 1 = .ok (.iconst 0, 1) := by decide +kernel
theorem dX6_addDefect_2 : decode cX6_addDefect 2 = .ok (.putfield 36, 3) := by decide +kernel
theorem dX6_addDefect_5 : decode cX6_addDefect 5 = .ok (.aload_n 0, 1) := by decide +kernel
theorem dX6_addDefect_6 : decode cX6_addDefect 6 = .ok (.iload_n 1, 1) := by decide +kernel
theorem dX6_addDefect_7 : decode cX6_addDefect 7 = .ok (.invokevirtual 53, 3) := by decide +kernel
theorem dX6_addDefect_10 : decode cX6_addDefect 10 = .ok (.ifCond .ne 9, 3) := by decide +kernel
theorem dX6_addDefect_13 : decode cX6_addDefect 13 = .ok (.aload_n 0, 1) := by decide +kernel
theorem dX6_addDefect_14 : decode cX6_addDefect 14 = .ok (.iconst 1, 1) := by decide +kernel
theorem dX6_addDefect_15 : decode cX6_addDefect 15 = .ok (.invokevirtual 49, 3) := by decide +kernel
theorem dX6_addDefect_18 : decode cX6_addDefect 18 = .ok (.ireturn, 1) := by decide +kernel
theorem dX6_addDefect_19 : decode cX6_addDefect 19 = .ok (.iload_n 2, 1) := by decide +kernel
theorem dX6_addDefect_20 : decode cX6_addDefect 20 = .ok (.ifCond .lt 27, 3) := by decide +kernel
theorem dX6_addDefect_23 : decode cX6_addDefect 23 = .ok (.iload_n 3, 1) := by decide +kernel
theorem dX6_addDefect_24 : decode cX6_addDefect 24 = .ok (.iload_n 2, 1) := by decide +kernel
theorem dX6_addDefect_25 : decode cX6_addDefect 25 = .ok (.if_icmp .le 22, 3) := by decide +kernel
theorem dX6_addDefect_28 : decode cX6_addDefect 28 = .ok (.iload_n 3, 1) := by decide +kernel
theorem dX6_addDefect_29 : decode cX6_addDefect 29 = .ok (.aload_n 0, 1) := by decide +kernel
theorem dX6_addDefect_30 : decode cX6_addDefect 30 = .ok (.iload_n 1, 1) := by decide +kernel
theorem dX6_addDefect_31 : decode cX6_addDefect 31 = .ok (.invokevirtual 57, 3) := by decide +kernel
theorem dX6_addDefect_34 : decode cX6_addDefect 34 = .ok (.if_icmp .gt 13, 3) := by decide +kernel
theorem dX6_addDefect_37 : decode cX6_addDefect 37 = .ok (.iload 4, 2) := by decide +kernel
theorem dX6_addDefect_39 : decode cX6_addDefect 39 = .ok (.iconst 1, 1) := by decide +kernel
theorem dX6_addDefect_40 : decode cX6_addDefect 40 = .ok (.iconst 3, 1) := by decide +kernel
theorem dX6_addDefect_41 : decode cX6_addDefect 41 = .ok (.invokestatic 42, 3) := by decide +kernel
theorem dX6_addDefect_44 : decode cX6_addDefect 44 = .ok (.ifCond .ne 9, 3) := by decide +kernel
theorem dX6_addDefect_47 : decode cX6_addDefect 47 = .ok (.aload_n 0, 1) := by decide +kernel
theorem dX6_addDefect_48 : decode cX6_addDefect 48 = .ok (.iconst 2, 1) := by decide +kernel
theorem dX6_addDefect_49 : decode cX6_addDefect 49 = .ok (.invokevirtual 49, 3) := by decide +kernel
theorem dX6_addDefect_52 : decode cX6_addDefect 52 = .ok (.ireturn, 1) := by decide +kernel
theorem dX6_addDefect_53 : decode cX6_addDefect 53 = .ok (.aload_n 0, 1) := by decide +kernel
theorem dX6_addDefect_54 : decode cX6_addDefect 54 = .ok (.getfield 60, 3) := by decide +kernel
theorem dX6_addDefect_57 : decode cX6_addDefect 57 = .ok (.bipush 24, 2) := by decide +kernel
theorem dX6_addDefect_59 : decode cX6_addDefect 59 = .ok (.if_icmp .ne 7, 3) := by decide +kernel
theorem dX6_addDefect_62 : decode cX6_addDefect 62 = .ok (.iconst 1, 1) := by decide +kernel
theorem dX6_addDefect_63 : decode cX6_addDefect 63 = .ok (.goto 4, 3) := by decide +kernel
theorem dX6_addDefect_66 : decode cX6_addDefect 66 = .ok (.iconst 0, 1) := by decide +kernel
theorem dX6_addDefect_67 : decode cX6_addDefect 67 = .ok (.istore 5, 2) := by decide +kernel
theorem dX6_addDefect_69 : decode cX6_addDefect 69 = .ok (.iconst 0, 1) := by decide +kernel
theorem dX6_addDefect_70 : decode cX6_addDefect 70 = .ok (.istore 6, 2) := by decide +kernel
theorem dX6_addDefect_72 : decode cX6_addDefect 72 = .ok (.iload 6, 2) := by decide +kernel
theorem dX6_addDefect_74 : decode cX6_addDefect 74 = .ok (.aload_n 0, 1) := by decide +kernel
theorem dX6_addDefect_75 : decode cX6_addDefect 75 = .ok (.getfield 63, 3) := by decide +kernel
theorem dX6_addDefect_78 : decode cX6_addDefect 78 = .ok (.if_icmp .ge 67, 3) := by decide +kernel
theorem dX6_addDefect_81 : decode cX6_addDefect 81 = .ok (.iload 5, 2) := by decide +kernel
theorem dX6_addDefect_83 : decode cX6_addDefect 83 = .ok (.ifCond .ne 49, 3) := by decide +kernel
theorem dX6_addDefect_86 : decode cX6_addDefect 86 = .ok (.aload_n 0, 1) := by decide +kernel
theorem dX6_addDefect_87 : decode cX6_addDefect 87 = .ok (.iload 6, 2) := by decide +kernel
theorem dX6_addDefect_89 : decode cX6_addDefect 89 = .ok (.iload_n 1, 1) := by decide +kernel
theorem dX6_addDefect_90 : decode cX6_addDefect 90 = .ok (.invokevirtual 66, 3) := by decide +kernel
theorem dX6_addDefect_93 : decode cX6_addDefect 93 = .ok (.ifCond .eq 43, 3) := by decide +kernel
theorem dX6_addDefect_96 : decode cX6_addDefect 96 = .ok (.aload_n 0, 1) := by decide +kernel
theorem dX6_addDefect_97 : decode cX6_addDefect 97 = .ok (.iload 6, 2) := by decide +kernel
theorem dX6_addDefect_99 : decode cX6_addDefect 99 = .ok (.invokevirtual 70, 3) := by decide +kernel
theorem dX6_addDefect_102 : decode cX6_addDefect 102 = .ok (.iload_n 3, 1) := by decide +kernel
theorem dX6_addDefect_103 : decode cX6_addDefect 103 = .ok (.if_icmp .ge 33, 3) := by decide +kernel
theorem dX6_addDefect_106 : decode cX6_addDefect 106 = .ok (.iload_n 2, 1) := by decide +kernel
theorem dX6_addDefect_107 : decode cX6_addDefect 107 = .ok (.aload_n 0, 1) := by decide +kernel
theorem dX6_addDefect_108 : decode cX6_addDefect 108 = .ok (.iload 6, 2) := by decide +kernel
theorem dX6_addDefect_110 : decode cX6_addDefect 110 = .ok (.invokevirtual 73, 3) := by decide +kernel
theorem dX6_addDefect_113 : decode cX6_addDefect 113 = .ok (.if_icmp .ge 23, 3) := by decide +kernel
theorem dX6_addDefect_116 : decode cX6_addDefect 116 = .ok (.iload 4, 2) := by decide +kernel
theorem dX6_addDefect_118 : decode cX6_addDefect 118 = .ok (.aload_n 0, 1) := by decide +kernel
theorem dX6_addDefect_119 : decode cX6_addDefect 119 = .ok (.aload_n 0, 1) := by decide +kernel
theorem dX6_addDefect_120 : decode cX6_addDefect 120 = .ok (.iload 6, 2) := by decide +kernel
theorem dX6_addDefect_122 : decode cX6_addDefect 122 = .ok (.invokevirtual 76, 3) := by decide +kernel
theorem dX6_addDefect_125 : decode cX6_addDefect 125 = .ok (.iconst 2, 1) := by decide +kernel
theorem dX6_addDefect_126 : decode cX6_addDefect 126 = .ok (.invokevirtual 79, 3) := by decide +kernel
theorem dX6_addDefect_129 : decode cX6_addDefect 129 = .ok (.if_icmp .le 7, 3) := by decide +kernel
theorem dX6_addDefect_132 : decode cX6_addDefect 132 = .ok (.iconst 1, 1) := by decide +kernel
theorem dX6_addDefect_133 : decode cX6_addDefect 133 = .ok (.goto 4, 3) := by decide +kernel
theorem dX6_addDefect_136 : decode cX6_addDefect 136 = .ok (.iconst 0, 1) := by decide +kernel
theorem dX6_addDefect_137 : decode cX6_addDefect 137 = .ok (.istore 5, 2) := by decide +kernel
theorem dX6_addDefect_139 : decode cX6_addDefect 139 = .ok (.iinc 6 1, 3) := by decide +kernel
theorem dX6_addDefect_142 : decode cX6_addDefect 142 = .ok (.goto (-70), 3) := by decide +kernel
theorem dX6_addDefect_145 : decode cX6_addDefect 145 = .ok (.iload 5, 2) := by decide +kernel
theorem dX6_addDefect_147 : decode cX6_addDefect 147 = .ok (.ifCond .eq 9, 3) := by decide +kernel
theorem dX6_addDefect_150 : decode cX6_addDefect 150 = .ok (.aload_n 0, 1) := by decide +kernel
theorem dX6_addDefect_151 : decode cX6_addDefect 151 = .ok (.iconst 3, 1) := by decide +kernel
theorem dX6_addDefect_152 : decode cX6_addDefect 152 = .ok (.invokevirtual 49, 3) := by decide +kernel
theorem dX6_addDefect_155 : decode cX6_addDefect 155 = .ok (.ireturn, 1) := by decide +kernel
theorem dX6_addDefect_156 : decode cX6_addDefect 156 = .ok (.aload_n 0, 1) := by decide +kernel
theorem dX6_addDefect_157 : decode cX6_addDefect 157 = .ok (.getfield 13, 3) := by decide +kernel
theorem dX6_addDefect_160 : decode cX6_addDefect 160 = .ok (.iconst 4, 1) := by decide +kernel
theorem dX6_addDefect_161 : decode cX6_addDefect 161 = .ok (.aload_n 0, 1) := by decide +kernel
theorem dX6_addDefect_162 : decode cX6_addDefect 162 = .ok (.getfield 60, 3) := by decide +kernel
theorem dX6_addDefect_165 : decode cX6_addDefect 165 = .ok (.imul, 1) := by decide +kernel
theorem dX6_addDefect_166 : decode cX6_addDefect 166 = .ok (.iload_n 1, 1) := by decide +kernel
theorem dX6_addDefect_167 : decode cX6_addDefect 167 = .ok (.iastore, 1) := by decide +kernel
theorem dX6_addDefect_168 : decode cX6_addDefect 168 = .ok (.aload_n 0, 1) := by decide +kernel
theorem dX6_addDefect_169 : decode cX6_addDefect 169 = .ok (.getfield 13, 3) := by decide +kernel
theorem dX6_addDefect_172 : decode cX6_addDefect 172 = .ok (.iconst 4, 1) := by decide +kernel
theorem dX6_addDefect_173 : decode cX6_addDefect 173 = .ok (.aload_n 0, 1) := by decide +kernel
theorem dX6_addDefect_174 : decode cX6_addDefect 174 = .ok (.getfield 60, 3) := by decide +kernel
theorem dX6_addDefect_177 : decode cX6_addDefect 177 = .ok (.imul, 1) := by decide +kernel
theorem dX6_addDefect_178 : decode cX6_addDefect 178 = .ok (.iconst 1, 1) := by decide +kernel
theorem dX6_addDefect_179 : decode cX6_addDefect 179 = .ok (.iadd, 1) := by decide +kernel
theorem dX6_addDefect_180 : decode cX6_addDefect 180 = .ok (.iload_n 2, 1) := by decide +kernel
theorem dX6_addDefect_181 : decode cX6_addDefect 181 = .ok (.iastore, 1) := by decide +kernel
theorem dX6_addDefect_182 : decode cX6_addDefect 182 = .ok (.aload_n 0, 1) := by decide +kernel
theorem dX6_addDefect_183 : decode cX6_addDefect 183 = .ok (.getfield 13, 3) := by decide +kernel
theorem dX6_addDefect_186 : decode cX6_addDefect 186 = .ok (.iconst 4, 1) := by decide +kernel
theorem dX6_addDefect_187 : decode cX6_addDefect 187 = .ok (.aload_n 0, 1) := by decide +kernel
theorem dX6_addDefect_188 : decode cX6_addDefect 188 = .ok (.getfield 60, 3) := by decide +kernel
theorem dX6_addDefect_191 : decode cX6_addDefect 191 = .ok (.imul, 1) := by decide +kernel
theorem dX6_addDefect_192 : decode cX6_addDefect 192 = .ok (.iconst 2, 1) := by decide +kernel
theorem dX6_addDefect_193 : decode cX6_addDefect 193 = .ok (.iadd, 1) := by decide +kernel
theorem dX6_addDefect_194 : decode cX6_addDefect 194 = .ok (.iload_n 3, 1) := by decide +kernel
theorem dX6_addDefect_195 : decode cX6_addDefect 195 = .ok (.iastore, 1) := by decide +kernel
theorem dX6_addDefect_196 : decode cX6_addDefect 196 = .ok (.aload_n 0, 1) := by decide +kernel
theorem dX6_addDefect_197 : decode cX6_addDefect 197 = .ok (.getfield 13, 3) := by decide +kernel
theorem dX6_addDefect_200 : decode cX6_addDefect 200 = .ok (.iconst 4, 1) := by decide +kernel
theorem dX6_addDefect_201 : decode cX6_addDefect 201 = .ok (.aload_n 0, 1) := by decide +kernel
theorem dX6_addDefect_202 : decode cX6_addDefect 202 = .ok (.getfield 60, 3) := by decide +kernel
theorem dX6_addDefect_205 : decode cX6_addDefect 205 = .ok (.imul, 1) := by decide +kernel
theorem dX6_addDefect_206 : decode cX6_addDefect 206 = .ok (.iconst 3, 1) := by decide +kernel
theorem dX6_addDefect_207 : decode cX6_addDefect 207 = .ok (.iadd, 1) := by decide +kernel
theorem dX6_addDefect_208 : decode cX6_addDefect 208 = .ok (.iload 4, 2) := by decide +kernel
theorem dX6_addDefect_210 : decode cX6_addDefect 210 = .ok (.iastore, 1) := by decide +kernel
theorem dX6_addDefect_211 : decode cX6_addDefect 211 = .ok (.aload_n 0, 1) := by decide +kernel
theorem dX6_addDefect_212 : decode cX6_addDefect 212 = .ok (.dup, 1) := by decide +kernel
theorem dX6_addDefect_213 : decode cX6_addDefect 213 = .ok (.getfield 60, 3) := by decide +kernel
theorem dX6_addDefect_216 : decode cX6_addDefect 216 = .ok (.iconst 1, 1) := by decide +kernel
theorem dX6_addDefect_217 : decode cX6_addDefect 217 = .ok (.iadd, 1) := by decide +kernel
theorem dX6_addDefect_218 : decode cX6_addDefect 218 = .ok (.putfield 60, 3) := by decide +kernel
theorem dX6_addDefect_221 : decode cX6_addDefect 221 = .ok (.aload_n 0, 1) := by decide +kernel
theorem dX6_addDefect_222 : decode cX6_addDefect 222 = .ok (.getfield 60, 3) := by decide +kernel
theorem dX6_addDefect_225 : decode cX6_addDefect 225 = .ok (.ireturn, 1) := by decide +kernel
theorem dX6_addPart_0 : decode cX6_addPart 0 = .ok (.aload_n 0, 1) := by decide +kernel
theorem dX6_addPart_1 : decode cX6_addPart 1 = .ok (.iconst 0, 1) := by decide +kernel
theorem dX6_addPart_2 : decode cX6_addPart 2 = .ok (.putfield 36, 3) := by decide +kernel
theorem dX6_addPart_5 : decode cX6_addPart 5 = .ok (.iload_n 1, 1) := by decide +kernel
theorem dX6_addPart_6 : decode cX6_addPart 6 = .ok (.bipush 20, 2) := by decide +kernel
theorem dX6_addPart_8 : decode cX6_addPart 8 = .ok (.sipush 3000, 3) := by decide +kernel
theorem dX6_addPart_11 : decode cX6_addPart 11 = .ok (.invokestatic 42, 3) := by decide +kernel
theorem dX6_addPart_14 : decode cX6_addPart 14 = .ok (.ifCond .eq 35, 3) := by decide +kernel
theorem dX6_addPart_17 : decode cX6_addPart 17 = .ok (.iload_n 2, 1) := by decide +kernel
theorem dX6_addPart_18 : decode cX6_addPart 18 = .ok (.bipush 10, 2) := by decide +kernel
theorem dX6_addPart_20 : decode cX6_addPart 20 = .ok (.sipush 400, 3) := by decide +kernel
theorem dX6_addPart_23 : decode cX6_addPart 23 = .ok (.invokestatic 42, 3) := by decide +kernel
theorem dX6_addPart_26 : decode cX6_addPart 26 = .ok (.ifCond .eq 23, 3) := by decide +kernel
theorem dX6_addPart_29 : decode cX6_addPart 29 = .ok (.iload_n 3, 1) := by decide +kernel
theorem dX6_addPart_30 : decode cX6_addPart 30 = .ok (.iconst 0, 1) := by decide +kernel
theorem dX6_addPart_31 : decode cX6_addPart 31 = .ok (.iconst 3, 1) := by decide +kernel
theorem dX6_addPart_32 : decode cX6_addPart 32 = .ok (.invokestatic 42, 3) := by decide +kernel
theorem dX6_addPart_35 : decode cX6_addPart 35 = .ok (.ifCond .eq 14, 3) := by decide +kernel
theorem dX6_addPart_38 : decode cX6_addPart 38 = .ok (.iload 4, 2) := by decide +kernel
theorem dX6_addPart_40 : decode cX6_addPart 40 = .ok (.iconst 1, 1) := by decide +kernel
theorem dX6_addPart_41 : decode cX6_addPart 41 = .ok (.bipush 9, 2) := by decide +kernel
theorem dX6_addPart_43 : decode cX6_addPart 43 = .ok (.invokestatic 42, 3) := by decide +kernel
theorem dX6_addPart_46 : decode cX6_addPart 46 = .ok (.ifCond .ne 9, 3) := by decide +kernel
theorem dX6_addPart_49 : decode cX6_addPart 49 = .ok (.aload_n 0, 1) := by decide +kernel
theorem dX6_addPart_50 : decode cX6_addPart 50 = .ok (.iconst 1, 1) := by decide +kernel
theorem dX6_addPart_51 : decode cX6_addPart 51 = .ok (.invokevirtual 49, 3) := by decide +kernel
theorem dX6_addPart_54 : decode cX6_addPart 54 = .ok (.ireturn, 1) := by decide +kernel
theorem dX6_addPart_55 : decode cX6_addPart 55 = .ok (.aload_n 0, 1) := by decide +kernel
theorem dX6_addPart_56 : decode cX6_addPart 56 = .ok (.getfield 46, 3) := by decide +kernel
theorem dX6_addPart_59 : decode cX6_addPart 59 = .ok (.bipush 12, 2) := by decide +kernel
theorem dX6_addPart_61 : decode cX6_addPart 61 = .ok (.if_icmp .ne 9, 3) := by decide +kernel
theorem dX6_addPart_64 : decode cX6_addPart 64 = .ok (.aload_n 0, 1) := by decide +kernel
theorem dX6_addPart_65 : decode cX6_addPart 65 = .ok (.iconst 2, 1) := by decide +kernel
theorem dX6_addPart_66 : decode cX6_addPart 66 = .ok (.invokevirtual 49, 3) := by decide +kernel
theorem dX6_addPart_69 : decode cX6_addPart 69 = .ok (.ireturn, 1) := by decide +kernel
theorem dX6_addPart_70 : decode cX6_addPart 70 = .ok (.aload_n 0, 1) := by decide +kernel
theorem dX6_addPart_71 : decode cX6_addPart 71 = .ok (.getfield 16, 3) := by decide +kernel
theorem dX6_addPart_74 : decode cX6_addPart 74 = .ok (.iconst 4, 1) := by decide +kernel
theorem dX6_addPart_75 : decode cX6_addPart 75 = .ok (.aload_n 0, 1) := by decide +kernel
theorem dX6_addPart_76 : decode cX6_addPart 76 = .ok (.getfield 46, 3) := by decide +kernel
theorem dX6_addPart_79 : decode cX6_addPart 79 = .ok (.imul, 1) := by decide +kernel
theorem dX6_addPart_80 : decode cX6_addPart 80 = .ok (.iload_n 1, 1) := by decide +kernel
theorem dX6_addPart_81 : decode cX6_addPart 81 = .ok (.iastore, 1) := by decide +kernel
theorem dX6_addPart_82 : decode cX6_addPart 82 = .ok (.aload_n 0, 1) := by decide +kernel
theorem dX6_addPart_83 : decode cX6_addPart 83 = .ok (.getfield 16, 3) := by decide +kernel
theorem dX6_addPart_86 : decode cX6_addPart 86 = .ok (.iconst 4, 1) := by decide +kernel
theorem dX6_addPart_87 : decode cX6_addPart 87 = .ok (.aload_n 0, 1) := by decide +kernel
theorem dX6_addPart_88 : decode cX6_addPart 88 = .ok (.getfield 46, 3) := by decide +kernel
theorem dX6_addPart_91 : decode cX6_addPart 91 = .ok (.imul, 1) := by decide +kernel
theorem dX6_addPart_92 : decode cX6_addPart 92 = .ok (.iconst 1, 1) := by decide +kernel
theorem dX6_addPart_93 : decode cX6_addPart 93 = .ok (.iadd, 1) := by decide +kernel
theorem dX6_addPart_94 : decode cX6_addPart 94 = .ok (.iload_n 2, 1) := by decide +kernel
theorem dX6_addPart_95 : decode cX6_addPart 95 = .ok (.iastore, 1) := by decide +kernel
theorem dX6_addPart_96 : decode cX6_addPart 96 = .ok (.aload_n 0, 1) := by decide +kernel
theorem dX6_addPart_97 : decode cX6_addPart 97 = .ok (.getfield 16, 3) := by decide +kernel
theorem dX6_addPart_100 : decode cX6_addPart 100 = .ok (.iconst 4, 1) := by decide +kernel
theorem dX6_addPart_101 : decode cX6_addPart 101 = .ok (.aload_n 0, 1) := by decide +kernel
theorem dX6_addPart_102 : decode cX6_addPart 102 = .ok (.getfield 46, 3) := by decide +kernel
theorem dX6_addPart_105 : decode cX6_addPart 105 = .ok (.imul, 1) := by decide +kernel
theorem dX6_addPart_106 : decode cX6_addPart 106 = .ok (.iconst 2, 1) := by decide +kernel
theorem dX6_addPart_107 : decode cX6_addPart 107 = .ok (.iadd, 1) := by decide +kernel
theorem dX6_addPart_108 : decode cX6_addPart 108 = .ok (.iload_n 3, 1) := by decide +kernel
theorem dX6_addPart_109 : decode cX6_addPart 109 = .ok (.iastore, 1) := by decide +kernel
theorem dX6_addPart_110 : decode cX6_addPart 110 = .ok (.aload_n 0, 1) := by decide +kernel
theorem dX6_addPart_111 : decode cX6_addPart 111 = .ok (.getfield 16, 3) := by decide +kernel
theorem dX6_addPart_114 : decode cX6_addPart 114 = .ok (.iconst 4, 1) := by decide +kernel
theorem dX6_addPart_115 : decode cX6_addPart 115 = .ok (.aload_n 0, 1) := by decide +kernel
theorem dX6_addPart_116 : decode cX6_addPart 116 = .ok (.getfield 46, 3) := by decide +kernel
theorem dX6_addPart_119 : decode cX6_addPart 119 = .ok (.imul, 1) := by decide +kernel
theorem dX6_addPart_120 : decode cX6_addPart 120 = .ok (.iconst 3, 1) := by decide +kernel
theorem dX6_addPart_121 : decode cX6_addPart 121 = .ok (.iadd, 1) := by decide +kernel
theorem dX6_addPart_122 : decode cX6_addPart 122 = .ok (.iload 4, 2) := by decide +kernel
theorem dX6_addPart_124 : decode cX6_addPart 124 = .ok (.iastore, 1) := by decide +kernel
theorem dX6_addPart_125 : decode cX6_addPart 125 = .ok (.aload_n 0, 1) := by decide +kernel
theorem dX6_addPart_126 : decode cX6_addPart 126 = .ok (.getfield 19, 3) := by decide +kernel
theorem dX6_addPart_129 : decode cX6_addPart 129 = .ok (.aload_n 0, 1) := by decide +kernel
theorem dX6_addPart_130 : decode cX6_addPart 130 = .ok (.getfield 46, 3) := by decide +kernel
theorem dX6_addPart_133 : decode cX6_addPart 133 = .ok (.iload 5, 2) := by decide +kernel
theorem dX6_addPart_135 : decode cX6_addPart 135 = .ok (.bastore, 1) := by decide +kernel
theorem dX6_addPart_136 : decode cX6_addPart 136 = .ok (.aload_n 0, 1) := by decide +kernel
theorem dX6_addPart_137 : decode cX6_addPart 137 = .ok (.dup, 1) := by decide +kernel
theorem dX6_addPart_138 : decode cX6_addPart 138 = .ok (.getfield 46, 3) := by decide +kernel
theorem dX6_addPart_141 : decode cX6_addPart 141 = .ok (.iconst 1, 1) := by decide +kernel
theorem dX6_addPart_142 : decode cX6_addPart 142 = .ok (.iadd, 1) := by decide +kernel
theorem dX6_addPart_143 : decode cX6_addPart 143 = .ok (.putfield 46, 3) := by decide +kernel
theorem dX6_addPart_146 : decode cX6_addPart 146 = .ok (.aload_n 0, 1) := by decide +kernel
theorem dX6_addPart_147 : decode cX6_addPart 147 = .ok (.getfield 46, 3) := by decide +kernel
theorem dX6_addPart_150 : decode cX6_addPart 150 = .ok (.iconst 1, 1) := by decide +kernel
theorem dX6_addPart_151 : decode cX6_addPart 151 = .ok (.isub, 1) := by decide +kernel
theorem dX6_addPart_152 : decode cX6_addPart 152 = .ok (.ireturn, 1) := by decide +kernel
theorem dX6_setSaw_0 : decode cX6_setSaw 0 = .ok (.aload_n 0, 1) := by decide +kernel
theorem dX6_setSaw_1 : decode cX6_setSaw 1 = .ok (.iconst 0, 1) := by decide +kernel
theorem dX6_setSaw_2 : decode cX6_setSaw 2 = .ok (.putfield 36, 3) := by decide +kernel
theorem dX6_setSaw_5 : decode cX6_setSaw 5 = .ok (.iload_n 1, 1) := by decide +kernel
theorem dX6_setSaw_6 : decode cX6_setSaw 6 = .ok (.iconst 0, 1) := by decide +kernel
theorem dX6_setSaw_7 : decode cX6_setSaw 7 = .ok (.bipush 10, 2) := by decide +kernel
theorem dX6_setSaw_9 : decode cX6_setSaw 9 = .ok (.invokestatic 42, 3) := by decide +kernel
theorem dX6_setSaw_12 : decode cX6_setSaw 12 = .ok (.ifCond .ne 9, 3) := by decide +kernel
theorem dX6_setSaw_15 : decode cX6_setSaw 15 = .ok (.aload_n 0, 1) := by decide +kernel
theorem dX6_setSaw_16 : decode cX6_setSaw 16 = .ok (.iconst 1, 1) := by decide +kernel
theorem dX6_setSaw_17 : decode cX6_setSaw 17 = .ok (.invokevirtual 49, 3) := by decide +kernel
theorem dX6_setSaw_20 : decode cX6_setSaw 20 = .ok (.ireturn, 1) := by decide +kernel
theorem dX6_setSaw_21 : decode cX6_setSaw 21 = .ok (.aload_n 0, 1) := by decide +kernel
theorem dX6_setSaw_22 : decode cX6_setSaw 22 = .ok (.getfield 63, 3) := by decide +kernel
theorem dX6_setSaw_25 : decode cX6_setSaw 25 = .ok (.ifCond .le 9, 3) := by decide +kernel
theorem dX6_setSaw_28 : decode cX6_setSaw 28 = .ok (.aload_n 0, 1) := by decide +kernel
theorem dX6_setSaw_29 : decode cX6_setSaw 29 = .ok (.iconst 2, 1) := by decide +kernel
theorem dX6_setSaw_30 : decode cX6_setSaw 30 = .ok (.invokevirtual 49, 3) := by decide +kernel
theorem dX6_setSaw_33 : decode cX6_setSaw 33 = .ok (.ireturn, 1) := by decide +kernel
theorem dX6_setSaw_34 : decode cX6_setSaw 34 = .ok (.aload_n 0, 1) := by decide +kernel
theorem dX6_setSaw_35 : decode cX6_setSaw 35 = .ok (.getfield 23, 3) := by decide +kernel
theorem dX6_setSaw_38 : decode cX6_setSaw 38 = .ok (.istore_n 2, 1) := by decide +kernel
theorem dX6_setSaw_39 : decode cX6_setSaw 39 = .ok (.aload_n 0, 1) := by decide +kernel
theorem dX6_setSaw_40 : decode cX6_setSaw 40 = .ok (.iload_n 1, 1) := by decide +kernel
theorem dX6_setSaw_41 : decode cX6_setSaw 41 = .ok (.putfield 23, 3) := by decide +kernel
theorem dX6_setSaw_44 : decode cX6_setSaw 44 = .ok (.iload_n 2, 1) := by decide +kernel
theorem dX6_setSaw_45 : decode cX6_setSaw 45 = .ok (.ireturn, 1) := by decide +kernel
theorem dX6_setJoint_0 : decode cX6_setJoint 0 = .ok (.aload_n 0, 1) := by decide +kernel
theorem dX6_setJoint_1 : decode cX6_setJoint 1 = .ok (.iconst 0, 1) := by decide +kernel
theorem dX6_setJoint_2 : decode cX6_setJoint 2 = .ok (.putfield 36, 3) := by decide +kernel
theorem dX6_setJoint_5 : decode cX6_setJoint 5 = .ok (.iload_n 1, 1) := by decide +kernel
theorem dX6_setJoint_6 : decode cX6_setJoint 6 = .ok (.iconst 0, 1) := by decide +kernel
theorem dX6_setJoint_7 : decode cX6_setJoint 7 = .ok (.bipush 50, 2) := by decide +kernel
theorem dX6_setJoint_9 : decode cX6_setJoint 9 = .ok (.invokestatic 42, 3) := by decide +kernel
theorem dX6_setJoint_12 : decode cX6_setJoint 12 = .ok (.ifCond .ne 9, 3) := by decide +kernel
theorem dX6_setJoint_15 : decode cX6_setJoint 15 = .ok (.aload_n 0, 1) := by decide +kernel
theorem dX6_setJoint_16 : decode cX6_setJoint 16 = .ok (.iconst 1, 1) := by decide +kernel
theorem dX6_setJoint_17 : decode cX6_setJoint 17 = .ok (.invokevirtual 49, 3) := by decide +kernel
theorem dX6_setJoint_20 : decode cX6_setJoint 20 = .ok (.ireturn, 1) := by decide +kernel
theorem dX6_setJoint_21 : decode cX6_setJoint 21 = .ok (.aload_n 0, 1) := by decide +kernel
theorem dX6_setJoint_22 : decode cX6_setJoint 22 = .ok (.getfield 27, 3) := by decide +kernel
theorem dX6_setJoint_25 : decode cX6_setJoint 25 = .ok (.istore_n 2, 1) := by decide +kernel
theorem dX6_setJoint_26 : decode cX6_setJoint 26 = .ok (.aload_n 0, 1) := by decide +kernel
theorem dX6_setJoint_27 : decode cX6_setJoint 27 = .ok (.iload_n 1, 1) := by decide +kernel
theorem dX6_setJoint_28 : decode cX6_setJoint 28 = .ok (.putfield 27, 3) := by decide +kernel
theorem dX6_setJoint_31 : decode cX6_setJoint 31 = .ok (.iload_n 2, 1) := by decide +kernel
theorem dX6_setJoint_32 : decode cX6_setJoint 32 = .ok (.ireturn, 1) := by decide +kernel
theorem dX6_gradeAt_0 : decode cX6_gradeAt 0 = .ok (.aload_n 0, 1) := by decide +kernel
theorem dX6_gradeAt_1 : decode cX6_gradeAt 1 = .ok (.getfield 9, 3) := by decide +kernel
theorem dX6_gradeAt_4 : decode cX6_gradeAt 4 = .ok (.iconst 3, 1) := by decide +kernel
theorem dX6_gradeAt_5 : decode cX6_gradeAt 5 = .ok (.iload_n 1, 1) := by decide +kernel
theorem dX6_gradeAt_6 : decode cX6_gradeAt 6 = .ok (.imul, 1) := by decide +kernel
theorem dX6_gradeAt_7 : decode cX6_gradeAt 7 = .ok (.iconst 2, 1) := by decide +kernel
theorem dX6_gradeAt_8 : decode cX6_gradeAt 8 = .ok (.iadd, 1) := by decide +kernel
theorem dX6_gradeAt_9 : decode cX6_gradeAt 9 = .ok (.iaload, 1) := by decide +kernel
theorem dX6_gradeAt_10 : decode cX6_gradeAt 10 = .ok (.istore_n 3, 1) := by decide +kernel
theorem dX6_gradeAt_11 : decode cX6_gradeAt 11 = .ok (.iconst 0, 1) := by decide +kernel
theorem dX6_gradeAt_12 : decode cX6_gradeAt 12 = .ok (.istore 4, 2) := by decide +kernel
theorem dX6_gradeAt_14 : decode cX6_gradeAt 14 = .ok (.iload 4, 2) := by decide +kernel
theorem dX6_gradeAt_16 : decode cX6_gradeAt 16 = .ok (.aload_n 0, 1) := by decide +kernel
theorem dX6_gradeAt_17 : decode cX6_gradeAt 17 = .ok (.getfield 60, 3) := by decide +kernel
theorem dX6_gradeAt_20 : decode cX6_gradeAt 20 = .ok (.if_icmp .ge 69, 3) := by decide +kernel
theorem dX6_gradeAt_23 : decode cX6_gradeAt 23 = .ok (.aload_n 0, 1) := by decide +kernel
theorem dX6_gradeAt_24 : decode cX6_gradeAt 24 = .ok (.getfield 13, 3) := by decide +kernel
theorem dX6_gradeAt_27 : decode cX6_gradeAt 27 = .ok (.iconst 4, 1) := by decide +kernel
theorem dX6_gradeAt_28 : decode cX6_gradeAt 28 = .ok (.iload 4, 2) := by decide +kernel
theorem dX6_gradeAt_30 : decode cX6_gradeAt 30 = .ok (.imul, 1) := by decide +kernel
theorem dX6_gradeAt_31 : decode cX6_gradeAt 31 = .ok (.iaload, 1) := by decide +kernel
theorem dX6_gradeAt_32 : decode cX6_gradeAt 32 = .ok (.iload_n 1, 1) := by decide +kernel
theorem dX6_gradeAt_33 : decode cX6_gradeAt 33 = .ok (.if_icmp .ne 50, 3) := by decide +kernel
theorem dX6_gradeAt_36 : decode cX6_gradeAt 36 = .ok (.iload_n 2, 1) := by decide +kernel
theorem dX6_gradeAt_37 : decode cX6_gradeAt 37 = .ok (.aload_n 0, 1) := by decide +kernel
theorem dX6_gradeAt_38 : decode cX6_gradeAt 38 = .ok (.getfield 13, 3) := by decide +kernel
theorem dX6_gradeAt_41 : decode cX6_gradeAt 41 = .ok (.iconst 4, 1) := by decide +kernel
theorem dX6_gradeAt_42 : decode cX6_gradeAt 42 = .ok (.iload 4, 2) := by decide +kernel
theorem dX6_gradeAt_44 : decode cX6_gradeAt 44 = .ok (.imul, 1) := by decide +kernel
theorem dX6_gradeAt_45 : decode cX6_gradeAt 45 = .ok (.iconst 1, 1) := by decide +kernel
theorem dX6_gradeAt_46 : decode cX6_gradeAt 46 = .ok (.iadd, 1) := by decide +kernel
theorem dX6_gradeAt_47 : decode cX6_gradeAt 47 = .ok (.iaload, 1) := by decide +kernel
theorem dX6_gradeAt_48 : decode cX6_gradeAt 48 = .ok (.aload_n 0, 1) := by decide +kernel
theorem dX6_gradeAt_49 : decode cX6_gradeAt 49 = .ok (.getfield 13, 3) := by decide +kernel
theorem dX6_gradeAt_52 : decode cX6_gradeAt 52 = .ok (.iconst 4, 1) := by decide +kernel
theorem dX6_gradeAt_53 : decode cX6_gradeAt 53 = .ok (.iload 4, 2) := by decide +kernel
theorem dX6_gradeAt_55 : decode cX6_gradeAt 55 = .ok (.imul, 1) := by decide +kernel
theorem dX6_gradeAt_56 : decode cX6_gradeAt 56 = .ok (.iconst 2, 1) := by decide +kernel
theorem dX6_gradeAt_57 : decode cX6_gradeAt 57 = .ok (.iadd, 1) := by decide +kernel
theorem dX6_gradeAt_58 : decode cX6_gradeAt 58 = .ok (.iaload, 1) := by decide +kernel
theorem dX6_gradeAt_59 : decode cX6_gradeAt 59 = .ok (.iconst 1, 1) := by decide +kernel
theorem dX6_gradeAt_60 : decode cX6_gradeAt 60 = .ok (.isub, 1) := by decide +kernel
theorem dX6_gradeAt_61 : decode cX6_gradeAt 61 = .ok (.invokestatic 42, 3) := by decide +kernel
theorem dX6_gradeAt_64 : decode cX6_gradeAt 64 = .ok (.ifCond .eq 19, 3) := by decide +kernel
theorem dX6_gradeAt_67 : decode cX6_gradeAt 67 = .ok (.iload_n 3, 1) := by decide +kernel
theorem dX6_gradeAt_68 : decode cX6_gradeAt 68 = .ok (.aload_n 0, 1) := by decide +kernel
theorem dX6_gradeAt_69 : decode cX6_gradeAt 69 = .ok (.getfield 13, 3) := by decide +kernel
theorem dX6_gradeAt_72 : decode cX6_gradeAt 72 = .ok (.iconst 4, 1) := by decide +kernel
theorem dX6_gradeAt_73 : decode cX6_gradeAt 73 = .ok (.iload 4, 2) := by decide +kernel
theorem dX6_gradeAt_75 : decode cX6_gradeAt 75 = .ok (.imul, 1) := by decide +kernel
theorem dX6_gradeAt_76 : decode cX6_gradeAt 76 = .ok (.iconst 3, 1) := by decide +kernel
theorem dX6_gradeAt_77 : decode cX6_gradeAt 77 = .ok (.iadd, 1) := by decide +kernel
theorem dX6_gradeAt_78 : decode cX6_gradeAt 78 = .ok (.iaload, 1) := by decide +kernel
theorem dX6_gradeAt_79 : decode cX6_gradeAt 79 = .ok (.invokestatic 83, 3) := by decide +kernel
theorem dX6_gradeAt_82 : decode cX6_gradeAt 82 = .ok (.istore_n 3, 1) := by decide +kernel
theorem dX6_gradeAt_83 : decode cX6_gradeAt 83 = .ok (.iinc 4 1, 3) := by decide +kernel
theorem dX6_gradeAt_86 : decode cX6_gradeAt 86 = .ok (.goto (-72), 3) := by decide +kernel
theorem dX6_gradeAt_89 : decode cX6_gradeAt 89 = .ok (.iload_n 3, 1) := by decide +kernel
theorem dX6_gradeAt_90 : decode cX6_gradeAt 90 = .ok (.ireturn, 1) := by decide +kernel
theorem dX6_grade_0 : decode cX6_grade 0 = .ok (.aload_n 0, 1) := by decide +kernel
theorem dX6_grade_1 : decode cX6_grade 1 = .ok (.iconst 0, 1) := by decide +kernel
theorem dX6_grade_2 : decode cX6_grade 2 = .ok (.putfield 36, 3) := by decide +kernel
theorem dX6_grade_5 : decode cX6_grade 5 = .ok (.aload_n 0, 1) := by decide +kernel
theorem dX6_grade_6 : decode cX6_grade 6 = .ok (.iload_n 1, 1) := by decide +kernel
theorem dX6_grade_7 : decode cX6_grade 7 = .ok (.invokevirtual 53, 3) := by decide +kernel
theorem dX6_grade_10 : decode cX6_grade 10 = .ok (.ifCond .eq 27, 3) := by decide +kernel
theorem dX6_grade_13 : decode cX6_grade 13 = .ok (.iload_n 2, 1) := by decide +kernel
theorem dX6_grade_14 : decode cX6_grade 14 = .ok (.iconst 0, 1) := by decide +kernel
theorem dX6_grade_15 : decode cX6_grade 15 = .ok (.aload_n 0, 1) := by decide +kernel
theorem dX6_grade_16 : decode cX6_grade 16 = .ok (.iload_n 1, 1) := by decide +kernel
theorem dX6_grade_17 : decode cX6_grade 17 = .ok (.invokevirtual 57, 3) := by decide +kernel
theorem dX6_grade_20 : decode cX6_grade 20 = .ok (.iconst 1, 1) := by decide +kernel
theorem dX6_grade_21 : decode cX6_grade 21 = .ok (.isub, 1) := by decide +kernel
theorem dX6_grade_22 : decode cX6_grade 22 = .ok (.invokestatic 42, 3) := by decide +kernel
theorem dX6_grade_25 : decode cX6_grade 25 = .ok (.ifCond .eq 12, 3) := by decide +kernel
theorem dX6_grade_28 : decode cX6_grade 28 = .ok (.aload_n 0, 1) := by decide +kernel
theorem dX6_grade_29 : decode cX6_grade 29 = .ok (.iload_n 1, 1) := by decide +kernel
theorem dX6_grade_30 : decode cX6_grade 30 = .ok (.iload_n 2, 1) := by decide +kernel
theorem dX6_grade_31 : decode cX6_grade 31 = .ok (.invokevirtual 88, 3) := by decide +kernel
theorem dX6_grade_34 : decode cX6_grade 34 = .ok (.goto 8, 3) := by decide +kernel
theorem dX6_grade_37 : decode cX6_grade 37 = .ok (.aload_n 0, 1) := by decide +kernel
theorem dX6_grade_38 : decode cX6_grade 38 = .ok (.iconst 1, 1) := by decide +kernel
theorem dX6_grade_39 : decode cX6_grade 39 = .ok (.invokevirtual 49, 3) := by decide +kernel
theorem dX6_grade_42 : decode cX6_grade 42 = .ok (.ireturn, 1) := by decide +kernel
theorem dX6_nextChange_0 : decode cX6_nextChange 0 = .ok (.aload_n 0, 1) := by decide +kernel
theorem dX6_nextChange_1 : decode cX6_nextChange 1 = .ok (.iload_n 1, 1) := by decide +kernel
theorem dX6_nextChange_2 : decode cX6_nextChange 2 = .ok (.invokevirtual 57, 3) := by decide +kernel
theorem dX6_nextChange_5 : decode cX6_nextChange 5 = .ok (.istore_n 3, 1) := by decide +kernel
theorem dX6_nextChange_6 : decode cX6_nextChange 6 = .ok (.iconst 0, 1) := by decide +kernel
theorem dX6_nextChange_7 : decode cX6_nextChange 7 = .ok (.istore 4, 2) := by decide +kernel
theorem dX6_nextChange_9 : decode cX6_nextChange 9 = .ok (.iload 4, 2) := by decide +kernel
theorem dX6_nextChange_11 : decode cX6_nextChange 11 = .ok (.aload_n 0, 1) := by decide +kernel
theorem dX6_nextChange_12 : decode cX6_nextChange 12 = .ok (.getfield 60, 3) := by decide +kernel
theorem dX6_nextChange_15 : decode cX6_nextChange 15 = .ok (.if_icmp .ge 87, 3) := by decide +kernel
theorem dX6_nextChange_18 : decode cX6_nextChange 18 = .ok (.aload_n 0, 1) := by decide +kernel
theorem dX6_nextChange_19 : decode cX6_nextChange 19 = .ok (.getfield 13, 3) := by decide +kernel
theorem dX6_nextChange_22 : decode cX6_nextChange 22 = .ok (.iconst 4, 1) := by decide +kernel
theorem dX6_nextChange_23 : decode cX6_nextChange 23 = .ok (.iload 4, 2) := by decide +kernel
theorem dX6_nextChange_25 : decode cX6_nextChange 25 = .ok (.imul, 1) := by decide +kernel
theorem dX6_nextChange_26 : decode cX6_nextChange 26 = .ok (.iaload, 1) := by decide +kernel
theorem dX6_nextChange_27 : decode cX6_nextChange 27 = .ok (.iload_n 1, 1) := by decide +kernel
theorem dX6_nextChange_28 : decode cX6_nextChange 28 = .ok (.if_icmp .eq 6, 3) := by decide +kernel
theorem dX6_nextChange_31 : decode cX6_nextChange 31 = .ok (.goto 65, 3) := by decide +kernel
theorem dX6_nextChange_34 : decode cX6_nextChange 34 = .ok (.aload_n 0, 1) := by decide +kernel
theorem dX6_nextChange_35 : decode cX6_nextChange 35 = .ok (.getfield 13, 3) := by decide +kernel
theorem dX6_nextChange_38 : decode cX6_nextChange 38 = .ok (.iconst 4, 1) := by decide +kernel
theorem dX6_nextChange_39 : decode cX6_nextChange 39 = .ok (.iload 4, 2) := by decide +kernel
theorem dX6_nextChange_41 : decode cX6_nextChange 41 = .ok (.imul, 1) := by decide +kernel
theorem dX6_nextChange_42 : decode cX6_nextChange 42 = .ok (.iconst 1, 1) := by decide +kernel
theorem dX6_nextChange_43 : decode cX6_nextChange 43 = .ok (.iadd, 1) := by decide +kernel
theorem dX6_nextChange_44 : decode cX6_nextChange 44 = .ok (.iaload, 1) := by decide +kernel
theorem dX6_nextChange_45 : decode cX6_nextChange 45 = .ok (.iload_n 2, 1) := by decide +kernel
theorem dX6_nextChange_46 : decode cX6_nextChange 46 = .ok (.if_icmp .le 19, 3) := by decide +kernel
theorem dX6_nextChange_49 : decode cX6_nextChange 49 = .ok (.iload_n 3, 1) := by decide +kernel
theorem dX6_nextChange_50 : decode cX6_nextChange 50 = .ok (.aload_n 0, 1) := by decide +kernel
theorem dX6_nextChange_51 : decode cX6_nextChange 51 = .ok (.getfield 13, 3) := by decide +kernel
theorem dX6_nextChange_54 : decode cX6_nextChange 54 = .ok (.iconst 4, 1) := by decide +kernel
theorem dX6_nextChange_55 : decode cX6_nextChange 55 = .ok (.iload 4, 2) := by decide +kernel
theorem dX6_nextChange_57 : decode cX6_nextChange 57 = .ok (.imul, 1) := by decide +kernel
theorem dX6_nextChange_58 : decode cX6_nextChange 58 = .ok (.iconst 1, 1) := by decide +kernel
theorem dX6_nextChange_59 : decode cX6_nextChange 59 = .ok (.iadd, 1) := by decide +kernel
theorem dX6_nextChange_60 : decode cX6_nextChange 60 = .ok (.iaload, 1) := by decide +kernel
theorem dX6_nextChange_61 : decode cX6_nextChange 61 = .ok (.invokestatic 91, 3) := by decide +kernel
theorem dX6_nextChange_64 : decode cX6_nextChange 64 = .ok (.istore_n 3, 1) := by decide +kernel
theorem dX6_nextChange_65 : decode cX6_nextChange 65 = .ok (.aload_n 0, 1) := by decide +kernel
theorem dX6_nextChange_66 : decode cX6_nextChange 66 = .ok (.getfield 13, 3) := by decide +kernel
theorem dX6_nextChange_69 : decode cX6_nextChange 69 = .ok (.iconst 4, 1) := by decide +kernel
theorem dX6_nextChange_70 : decode cX6_nextChange 70 = .ok (.iload 4, 2) := by decide +kernel
theorem dX6_nextChange_72 : decode cX6_nextChange 72 = .ok (.imul, 1) := by decide +kernel
theorem dX6_nextChange_73 : decode cX6_nextChange 73 = .ok (.iconst 2, 1) := by decide +kernel
theorem dX6_nextChange_74 : decode cX6_nextChange 74 = .ok (.iadd, 1) := by decide +kernel
theorem dX6_nextChange_75 : decode cX6_nextChange 75 = .ok (.iaload, 1) := by decide +kernel
theorem dX6_nextChange_76 : decode cX6_nextChange 76 = .ok (.iload_n 2, 1) := by decide +kernel
theorem dX6_nextChange_77 : decode cX6_nextChange 77 = .ok (.if_icmp .le 19, 3) := by decide +kernel
theorem dX6_nextChange_80 : decode cX6_nextChange 80 = .ok (.iload_n 3, 1) := by decide +kernel
theorem dX6_nextChange_81 : decode cX6_nextChange 81 = .ok (.aload_n 0, 1) := by decide +kernel
theorem dX6_nextChange_82 : decode cX6_nextChange 82 = .ok (.getfield 13, 3) := by decide +kernel
theorem dX6_nextChange_85 : decode cX6_nextChange 85 = .ok (.iconst 4, 1) := by decide +kernel
theorem dX6_nextChange_86 : decode cX6_nextChange 86 = .ok (.iload 4, 2) := by decide +kernel
theorem dX6_nextChange_88 : decode cX6_nextChange 88 = .ok (.imul, 1) := by decide +kernel
theorem dX6_nextChange_89 : decode cX6_nextChange 89 = .ok (.iconst 2, 1) := by decide +kernel
theorem dX6_nextChange_90 : decode cX6_nextChange 90 = .ok (.iadd, 1) := by decide +kernel
theorem dX6_nextChange_91 : decode cX6_nextChange 91 = .ok (.iaload, 1) := by decide +kernel
theorem dX6_nextChange_92 : decode cX6_nextChange 92 = .ok (.invokestatic 91, 3) := by decide +kernel
theorem dX6_nextChange_95 : decode cX6_nextChange 95 = .ok (.istore_n 3, 1) := by decide +kernel
theorem dX6_nextChange_96 : decode cX6_nextChange 96 = .ok (.iinc 4 1, 3) := by decide +kernel
theorem dX6_nextChange_99 : decode cX6_nextChange 99 = .ok (.goto (-90), 3) := by decide +kernel
theorem dX6_nextChange_102 : decode cX6_nextChange 102 = .ok (.iload_n 3, 1) := by decide +kernel
theorem dX6_nextChange_103 : decode cX6_nextChange 103 = .ok (.ireturn, 1) := by decide +kernel
theorem dX6_goOver_0 : decode cX6_goOver 0 = .ok (.iconst 0, 1) := by decide +kernel
theorem dX6_goOver_1 : decode cX6_goOver 1 = .ok (.istore 4, 2) := by decide +kernel
theorem dX6_goOver_3 : decode cX6_goOver 3 = .ok (.iconst 0, 1) := by decide +kernel
theorem dX6_goOver_4 : decode cX6_goOver 4 = .ok (.istore 5, 2) := by decide +kernel
theorem dX6_goOver_6 : decode cX6_goOver 6 = .ok (.iconst 0, 1) := by decide +kernel
theorem dX6_goOver_7 : decode cX6_goOver 7 = .ok (.istore 6, 2) := by decide +kernel
theorem dX6_goOver_9 : decode cX6_goOver 9 = .ok (.iload 6, 2) := by decide +kernel
theorem dX6_goOver_11 : decode cX6_goOver 11 = .ok (.aload_n 0, 1) := by decide +kernel
theorem dX6_goOver_12 : decode cX6_goOver 12 = .ok (.iload_n 1, 1) := by decide +kernel
theorem dX6_goOver_13 : decode cX6_goOver 13 = .ok (.invokevirtual 57, 3) := by decide +kernel
theorem dX6_goOver_16 : decode cX6_goOver 16 = .ok (.if_icmp .ge 81, 3) := by decide +kernel
theorem dX6_goOver_19 : decode cX6_goOver 19 = .ok (.aload_n 0, 1) := by decide +kernel
theorem dX6_goOver_20 : decode cX6_goOver 20 = .ok (.iload_n 1, 1) := by decide +kernel
theorem dX6_goOver_21 : decode cX6_goOver 21 = .ok (.iload 6, 2) := by decide +kernel
theorem dX6_goOver_23 : decode cX6_goOver 23 = .ok (.invokevirtual 88, 3) := by decide +kernel
theorem dX6_goOver_26 : decode cX6_goOver 26 = .ok (.iload_n 2, 1) := by decide +kernel
theorem dX6_goOver_27 : decode cX6_goOver 27 = .ok (.if_icmp .gt 7, 3) := by decide +kernel
theorem dX6_goOver_30 : decode cX6_goOver 30 = .ok (.iconst 1, 1) := by decide +kernel
theorem dX6_goOver_31 : decode cX6_goOver 31 = .ok (.goto 4, 3) := by decide +kernel
theorem dX6_goOver_34 : decode cX6_goOver 34 = .ok (.iconst 0, 1) := by decide +kernel
theorem dX6_goOver_35 : decode cX6_goOver 35 = .ok (.istore 7, 2) := by decide +kernel
theorem dX6_goOver_37 : decode cX6_goOver 37 = .ok (.iload 7, 2) := by decide +kernel
theorem dX6_goOver_39 : decode cX6_goOver 39 = .ok (.ifCond .eq 26, 3) := by decide +kernel
theorem dX6_goOver_42 : decode cX6_goOver 42 = .ok (.iload 5, 2) := by decide +kernel
theorem dX6_goOver_44 : decode cX6_goOver 44 = .ok (.ifCond .ne 21, 3) := by decide +kernel
theorem dX6_goOver_47 : decode cX6_goOver 47 = .ok (.iload 4, 2) := by decide +kernel
theorem dX6_goOver_49 : decode cX6_goOver 49 = .ok (.iload_n 3, 1) := by decide +kernel
theorem dX6_goOver_50 : decode cX6_goOver 50 = .ok (.if_icmp .le 6, 3) := by decide +kernel
theorem dX6_goOver_53 : decode cX6_goOver 53 = .ok (.iload 4, 2) := by decide +kernel
theorem dX6_goOver_55 : decode cX6_goOver 55 = .ok (.ireturn, 1) := by decide +kernel
theorem dX6_goOver_56 : decode cX6_goOver 56 = .ok (.iinc 4 1, 3) := by decide +kernel
theorem dX6_goOver_59 : decode cX6_goOver 59 = .ok (.aload_n 0, 1) := by decide +kernel
theorem dX6_goOver_60 : decode cX6_goOver 60 = .ok (.iload 6, 2) := by decide +kernel
theorem dX6_goOver_62 : decode cX6_goOver 62 = .ok (.putfield 94, 3) := by decide +kernel
theorem dX6_goOver_65 : decode cX6_goOver 65 = .ok (.iload 7, 2) := by decide +kernel
theorem dX6_goOver_67 : decode cX6_goOver 67 = .ok (.ifCond .eq 14, 3) := by decide +kernel
theorem dX6_goOver_70 : decode cX6_goOver 70 = .ok (.aload_n 0, 1) := by decide +kernel
theorem dX6_goOver_71 : decode cX6_goOver 71 = .ok (.aload_n 0, 1) := by decide +kernel
theorem dX6_goOver_72 : decode cX6_goOver 72 = .ok (.iload_n 1, 1) := by decide +kernel
theorem dX6_goOver_73 : decode cX6_goOver 73 = .ok (.iload 6, 2) := by decide +kernel
theorem dX6_goOver_75 : decode cX6_goOver 75 = .ok (.invokevirtual 97, 3) := by decide +kernel
theorem dX6_goOver_78 : decode cX6_goOver 78 = .ok (.putfield 100, 3) := by decide +kernel
theorem dX6_goOver_81 : decode cX6_goOver 81 = .ok (.iload 7, 2) := by decide +kernel
theorem dX6_goOver_83 : decode cX6_goOver 83 = .ok (.istore 5, 2) := by decide +kernel
theorem dX6_goOver_85 : decode cX6_goOver 85 = .ok (.aload_n 0, 1) := by decide +kernel
theorem dX6_goOver_86 : decode cX6_goOver 86 = .ok (.iload_n 1, 1) := by decide +kernel
theorem dX6_goOver_87 : decode cX6_goOver 87 = .ok (.iload 6, 2) := by decide +kernel
theorem dX6_goOver_89 : decode cX6_goOver 89 = .ok (.invokevirtual 97, 3) := by decide +kernel
theorem dX6_goOver_92 : decode cX6_goOver 92 = .ok (.istore 6, 2) := by decide +kernel
theorem dX6_goOver_94 : decode cX6_goOver 94 = .ok (.goto (-85), 3) := by decide +kernel
theorem dX6_goOver_97 : decode cX6_goOver 97 = .ok (.iload 4, 2) := by decide +kernel
theorem dX6_goOver_99 : decode cX6_goOver 99 = .ok (.ireturn, 1) := by decide +kernel
theorem dX6_stretches_0 : decode cX6_stretches 0 = .ok (.aload_n 0, 1) := by decide +kernel
theorem dX6_stretches_1 : decode cX6_stretches 1 = .ok (.iconst 0, 1) := by decide +kernel
theorem dX6_stretches_2 : decode cX6_stretches 2 = .ok (.putfield 36, 3) := by decide +kernel
theorem dX6_stretches_5 : decode cX6_stretches 5 = .ok (.aload_n 0, 1) := by decide +kernel
theorem dX6_stretches_6 : decode cX6_stretches 6 = .ok (.iload_n 1, 1) := by decide +kernel
theorem dX6_stretches_7 : decode cX6_stretches 7 = .ok (.invokevirtual 53, 3) := by decide +kernel
theorem dX6_stretches_10 : decode cX6_stretches 10 = .ok (.ifCond .ne 9, 3) := by decide +kernel
theorem dX6_stretches_13 : decode cX6_stretches 13 = .ok (.aload_n 0, 1) := by decide +kernel
theorem dX6_stretches_14 : decode cX6_stretches 14 = .ok (.iconst 1, 1) := by decide +kernel
theorem dX6_stretches_15 : decode cX6_stretches 15 = .ok (.invokevirtual 49, 3) := by decide +kernel
theorem dX6_stretches_18 : decode cX6_stretches 18 = .ok (.ireturn, 1) := by decide +kernel
theorem dX6_stretches_19 : decode cX6_stretches 19 = .ok (.iload_n 2, 1) := by decide +kernel
theorem dX6_stretches_20 : decode cX6_stretches 20 = .ok (.iconst 0, 1) := by decide +kernel
theorem dX6_stretches_21 : decode cX6_stretches 21 = .ok (.iconst 3, 1) := by decide +kernel
theorem dX6_stretches_22 : decode cX6_stretches 22 = .ok (.invokestatic 42, 3) := by decide +kernel
theorem dX6_stretches_25 : decode cX6_stretches 25 = .ok (.ifCond .eq 15, 3) := by decide +kernel
theorem dX6_stretches_28 : decode cX6_stretches 28 = .ok (.aload_n 0, 1) := by decide +kernel
theorem dX6_stretches_29 : decode cX6_stretches 29 = .ok (.iload_n 1, 1) := by decide +kernel
theorem dX6_stretches_30 : decode cX6_stretches 30 = .ok (.iload_n 2, 1) := by decide +kernel
theorem dX6_stretches_31 : decode cX6_stretches 31 = .ok (.sipush 3000, 3) := by decide +kernel
theorem dX6_stretches_34 : decode cX6_stretches 34 = .ok (.invokevirtual 103, 3) := by decide +kernel
theorem dX6_stretches_37 : decode cX6_stretches 37 = .ok (.goto 8, 3) := by decide +kernel
theorem dX6_stretches_40 : decode cX6_stretches 40 = .ok (.aload_n 0, 1) := by decide +kernel
theorem dX6_stretches_41 : decode cX6_stretches 41 = .ok (.iconst 2, 1) := by decide +kernel
theorem dX6_stretches_42 : decode cX6_stretches 42 = .ok (.invokevirtual 49, 3) := by decide +kernel
theorem dX6_stretches_45 : decode cX6_stretches 45 = .ok (.ireturn, 1) := by decide +kernel
theorem dX6_stretch_0 : decode cX6_stretch 0 = .ok (.aload_n 0, 1) := by decide +kernel
theorem dX6_stretch_1 : decode cX6_stretch 1 = .ok (.iconst 0, 1) := by decide +kernel
theorem dX6_stretch_2 : decode cX6_stretch 2 = .ok (.putfield 36, 3) := by decide +kernel
theorem dX6_stretch_5 : decode cX6_stretch 5 = .ok (.aload_n 0, 1) := by decide +kernel
theorem dX6_stretch_6 : decode cX6_stretch 6 = .ok (.iload_n 1, 1) := by decide +kernel
theorem dX6_stretch_7 : decode cX6_stretch 7 = .ok (.invokevirtual 53, 3) := by decide +kernel
theorem dX6_stretch_10 : decode cX6_stretch 10 = .ok (.ifCond .ne 9, 3) := by decide +kernel
theorem dX6_stretch_13 : decode cX6_stretch 13 = .ok (.aload_n 0, 1) := by decide +kernel
theorem dX6_stretch_14 : decode cX6_stretch 14 = .ok (.iconst 1, 1) := by decide +kernel
theorem dX6_stretch_15 : decode cX6_stretch 15 = .ok (.invokevirtual 49, 3) := by decide +kernel
theorem dX6_stretch_18 : decode cX6_stretch 18 = .ok (.ireturn, 1) := by decide +kernel
theorem dX6_stretch_19 : decode cX6_stretch 19 = .ok (.iload_n 2, 1) := by decide +kernel
theorem dX6_stretch_20 : decode cX6_stretch 20 = .ok (.iconst 0, 1) := by decide +kernel
theorem dX6_stretch_21 : decode cX6_stretch 21 = .ok (.iconst 3, 1) := by decide +kernel
theorem dX6_stretch_22 : decode cX6_stretch 22 = .ok (.invokestatic 42, 3) := by decide +kernel
theorem dX6_stretch_25 : decode cX6_stretch 25 = .ok (.ifCond .eq 18, 3) := by decide +kernel
theorem dX6_stretch_28 : decode cX6_stretch 28 = .ok (.iload_n 3, 1) := by decide +kernel
theorem dX6_stretch_29 : decode cX6_stretch 29 = .ok (.ifCond .lt 14, 3) := by decide +kernel
theorem dX6_stretch_32 : decode cX6_stretch 32 = .ok (.aload_n 0, 1) := by decide +kernel
theorem dX6_stretch_33 : decode cX6_stretch 33 = .ok (.iload_n 1, 1) := by decide +kernel
theorem dX6_stretch_34 : decode cX6_stretch 34 = .ok (.iload_n 2, 1) := by decide +kernel
theorem dX6_stretch_35 : decode cX6_stretch 35 = .ok (.iload_n 3, 1) := by decide +kernel
theorem dX6_stretch_36 : decode cX6_stretch 36 = .ok (.invokevirtual 103, 3) := by decide +kernel
theorem dX6_stretch_39 : decode cX6_stretch 39 = .ok (.iload_n 3, 1) := by decide +kernel
theorem dX6_stretch_40 : decode cX6_stretch 40 = .ok (.if_icmp .gt 9, 3) := by decide +kernel
theorem dX6_stretch_43 : decode cX6_stretch 43 = .ok (.aload_n 0, 1) := by decide +kernel
theorem dX6_stretch_44 : decode cX6_stretch 44 = .ok (.iconst 2, 1) := by decide +kernel
theorem dX6_stretch_45 : decode cX6_stretch 45 = .ok (.invokevirtual 49, 3) := by decide +kernel
theorem dX6_stretch_48 : decode cX6_stretch 48 = .ok (.ireturn, 1) := by decide +kernel
theorem dX6_stretch_49 : decode cX6_stretch 49 = .ok (.iload 4, 2) := by decide +kernel
theorem dX6_stretch_51 : decode cX6_stretch 51 = .ok (.ifCond .eq 10, 3) := by decide +kernel
theorem dX6_stretch_54 : decode cX6_stretch 54 = .ok (.aload_n 0, 1) := by decide +kernel
theorem dX6_stretch_55 : decode cX6_stretch 55 = .ok (.getfield 100, 3) := by decide +kernel
theorem dX6_stretch_58 : decode cX6_stretch 58 = .ok (.goto 7, 3) := by decide +kernel
theorem dX6_stretch_61 : decode cX6_stretch 61 = .ok (.aload_n 0, 1) := by decide +kernel
theorem dX6_stretch_62 : decode cX6_stretch 62 = .ok (.getfield 94, 3) := by decide +kernel
theorem dX6_stretch_65 : decode cX6_stretch 65 = .ok (.ireturn, 1) := by decide +kernel
theorem dX6_onward_0 : decode cX6_onward 0 = .ok (.iload 4, 2) := by decide +kernel
theorem dX6_onward_2 : decode cX6_onward 2 = .ok (.ifCond .lt 48, 3) := by decide +kernel
theorem dX6_onward_5 : decode cX6_onward 5 = .ok (.iload 4, 2) := by decide +kernel
theorem dX6_onward_7 : decode cX6_onward 7 = .ok (.iload_n 2, 1) := by decide +kernel
theorem dX6_onward_8 : decode cX6_onward 8 = .ok (.iadd, 1) := by decide +kernel
theorem dX6_onward_9 : decode cX6_onward 9 = .ok (.aload_n 0, 1) := by decide +kernel
theorem dX6_onward_10 : decode cX6_onward 10 = .ok (.iload_n 3, 1) := by decide +kernel
theorem dX6_onward_11 : decode cX6_onward 11 = .ok (.invokevirtual 57, 3) := by decide +kernel
theorem dX6_onward_14 : decode cX6_onward 14 = .ok (.if_icmp .gt 36, 3) := by decide +kernel
theorem dX6_onward_17 : decode cX6_onward 17 = .ok (.aload_n 0, 1) := by decide +kernel
theorem dX6_onward_18 : decode cX6_onward 18 = .ok (.iload_n 3, 1) := by decide +kernel
theorem dX6_onward_19 : decode cX6_onward 19 = .ok (.invokevirtual 107, 3) := by decide +kernel
theorem dX6_onward_22 : decode cX6_onward 22 = .ok (.aload_n 0, 1) := by decide +kernel
theorem dX6_onward_23 : decode cX6_onward 23 = .ok (.iload_n 1, 1) := by decide +kernel
theorem dX6_onward_24 : decode cX6_onward 24 = .ok (.iconst 1, 1) := by decide +kernel
theorem dX6_onward_25 : decode cX6_onward 25 = .ok (.invokevirtual 79, 3) := by decide +kernel
theorem dX6_onward_28 : decode cX6_onward 28 = .ok (.if_icmp .lt 22, 3) := by decide +kernel
theorem dX6_onward_31 : decode cX6_onward 31 = .ok (.aload_n 0, 1) := by decide +kernel
theorem dX6_onward_32 : decode cX6_onward 32 = .ok (.getfield 9, 3) := by decide +kernel
theorem dX6_onward_35 : decode cX6_onward 35 = .ok (.iconst 3, 1) := by decide +kernel
theorem dX6_onward_36 : decode cX6_onward 36 = .ok (.iload_n 3, 1) := by decide +kernel
theorem dX6_onward_37 : decode cX6_onward 37 = .ok (.imul, 1) := by decide +kernel
theorem dX6_onward_38 : decode cX6_onward 38 = .ok (.iconst 2, 1) := by decide +kernel
theorem dX6_onward_39 : decode cX6_onward 39 = .ok (.iadd, 1) := by decide +kernel
theorem dX6_onward_40 : decode cX6_onward 40 = .ok (.iaload, 1) := by decide +kernel
theorem dX6_onward_41 : decode cX6_onward 41 = .ok (.aload_n 0, 1) := by decide +kernel
theorem dX6_onward_42 : decode cX6_onward 42 = .ok (.iload_n 1, 1) := by decide +kernel
theorem dX6_onward_43 : decode cX6_onward 43 = .ok (.iconst 2, 1) := by decide +kernel
theorem dX6_onward_44 : decode cX6_onward 44 = .ok (.invokevirtual 79, 3) := by decide +kernel
theorem dX6_onward_47 : decode cX6_onward 47 = .ok (.if_icmp .le 7, 3) := by decide +kernel
theorem dX6_onward_50 : decode cX6_onward 50 = .ok (.sipush 3000, 3) := by decide +kernel
theorem dX6_onward_53 : decode cX6_onward 53 = .ok (.ireturn, 1) := by decide +kernel
theorem dX6_onward_54 : decode cX6_onward 54 = .ok (.iconst 0, 1) := by decide +kernel
theorem dX6_onward_55 : decode cX6_onward 55 = .ok (.istore 5, 2) := by decide +kernel
theorem dX6_onward_57 : decode cX6_onward 57 = .ok (.iload 5, 2) := by decide +kernel
theorem dX6_onward_59 : decode cX6_onward 59 = .ok (.aload_n 0, 1) := by decide +kernel
theorem dX6_onward_60 : decode cX6_onward 60 = .ok (.getfield 60, 3) := by decide +kernel
theorem dX6_onward_63 : decode cX6_onward 63 = .ok (.if_icmp .ge 88, 3) := by decide +kernel
theorem dX6_onward_66 : decode cX6_onward 66 = .ok (.aload_n 0, 1) := by decide +kernel
theorem dX6_onward_67 : decode cX6_onward 67 = .ok (.getfield 13, 3) := by decide +kernel
theorem dX6_onward_70 : decode cX6_onward 70 = .ok (.iconst 4, 1) := by decide +kernel
theorem dX6_onward_71 : decode cX6_onward 71 = .ok (.iload 5, 2) := by decide +kernel
theorem dX6_onward_73 : decode cX6_onward 73 = .ok (.imul, 1) := by decide +kernel
theorem dX6_onward_74 : decode cX6_onward 74 = .ok (.iaload, 1) := by decide +kernel
theorem dX6_onward_75 : decode cX6_onward 75 = .ok (.iload_n 3, 1) := by decide +kernel
theorem dX6_onward_76 : decode cX6_onward 76 = .ok (.if_icmp .ne 69, 3) := by decide +kernel
theorem dX6_onward_79 : decode cX6_onward 79 = .ok (.aload_n 0, 1) := by decide +kernel
theorem dX6_onward_80 : decode cX6_onward 80 = .ok (.getfield 13, 3) := by decide +kernel
theorem dX6_onward_83 : decode cX6_onward 83 = .ok (.iconst 4, 1) := by decide +kernel
theorem dX6_onward_84 : decode cX6_onward 84 = .ok (.iload 5, 2) := by decide +kernel
theorem dX6_onward_86 : decode cX6_onward 86 = .ok (.imul, 1) := by decide +kernel
theorem dX6_onward_87 : decode cX6_onward 87 = .ok (.iconst 3, 1) := by decide +kernel
theorem dX6_onward_88 : decode cX6_onward 88 = .ok (.iadd, 1) := by decide +kernel
theorem dX6_onward_89 : decode cX6_onward 89 = .ok (.iaload, 1) := by decide +kernel
theorem dX6_onward_90 : decode cX6_onward 90 = .ok (.aload_n 0, 1) := by decide +kernel
theorem dX6_onward_91 : decode cX6_onward 91 = .ok (.iload_n 1, 1) := by decide +kernel
theorem dX6_onward_92 : decode cX6_onward 92 = .ok (.iconst 2, 1) := by decide +kernel
theorem dX6_onward_93 : decode cX6_onward 93 = .ok (.invokevirtual 79, 3) := by decide +kernel
theorem dX6_onward_96 : decode cX6_onward 96 = .ok (.if_icmp .le 49, 3) := by decide +kernel
theorem dX6_onward_99 : decode cX6_onward 99 = .ok (.aload_n 0, 1) := by decide +kernel
theorem dX6_onward_100 : decode cX6_onward 100 = .ok (.getfield 13, 3) := by decide +kernel
theorem dX6_onward_103 : decode cX6_onward 103 = .ok (.iconst 4, 1) := by decide +kernel
theorem dX6_onward_104 : decode cX6_onward 104 = .ok (.iload 5, 2) := by decide +kernel
theorem dX6_onward_106 : decode cX6_onward 106 = .ok (.imul, 1) := by decide +kernel
theorem dX6_onward_107 : decode cX6_onward 107 = .ok (.iconst 1, 1) := by decide +kernel
theorem dX6_onward_108 : decode cX6_onward 108 = .ok (.iadd, 1) := by decide +kernel
theorem dX6_onward_109 : decode cX6_onward 109 = .ok (.iaload, 1) := by decide +kernel
theorem dX6_onward_110 : decode cX6_onward 110 = .ok (.iload 4, 2) := by decide +kernel
theorem dX6_onward_112 : decode cX6_onward 112 = .ok (.iload_n 2, 1) := by decide +kernel
theorem dX6_onward_113 : decode cX6_onward 113 = .ok (.iadd, 1) := by decide +kernel
theorem dX6_onward_114 : decode cX6_onward 114 = .ok (.if_icmp .ge 31, 3) := by decide +kernel
theorem dX6_onward_117 : decode cX6_onward 117 = .ok (.aload_n 0, 1) := by decide +kernel
theorem dX6_onward_118 : decode cX6_onward 118 = .ok (.getfield 13, 3) := by decide +kernel
theorem dX6_onward_121 : decode cX6_onward 121 = .ok (.iconst 4, 1) := by decide +kernel
theorem dX6_onward_122 : decode cX6_onward 122 = .ok (.iload 5, 2) := by decide +kernel
theorem dX6_onward_124 : decode cX6_onward 124 = .ok (.imul, 1) := by decide +kernel
theorem dX6_onward_125 : decode cX6_onward 125 = .ok (.iconst 2, 1) := by decide +kernel
theorem dX6_onward_126 : decode cX6_onward 126 = .ok (.iadd, 1) := by decide +kernel
theorem dX6_onward_127 : decode cX6_onward 127 = .ok (.iaload, 1) := by decide +kernel
theorem dX6_onward_128 : decode cX6_onward 128 = .ok (.iload 4, 2) := by decide +kernel
theorem dX6_onward_130 : decode cX6_onward 130 = .ok (.if_icmp .le 15, 3) := by decide +kernel
theorem dX6_onward_133 : decode cX6_onward 133 = .ok (.aload_n 0, 1) := by decide +kernel
theorem dX6_onward_134 : decode cX6_onward 134 = .ok (.getfield 13, 3) := by decide +kernel
theorem dX6_onward_137 : decode cX6_onward 137 = .ok (.iconst 4, 1) := by decide +kernel
theorem dX6_onward_138 : decode cX6_onward 138 = .ok (.iload 5, 2) := by decide +kernel
theorem dX6_onward_140 : decode cX6_onward 140 = .ok (.imul, 1) := by decide +kernel
theorem dX6_onward_141 : decode cX6_onward 141 = .ok (.iconst 2, 1) := by decide +kernel
theorem dX6_onward_142 : decode cX6_onward 142 = .ok (.iadd, 1) := by decide +kernel
theorem dX6_onward_143 : decode cX6_onward 143 = .ok (.iaload, 1) := by decide +kernel
theorem dX6_onward_144 : decode cX6_onward 144 = .ok (.ireturn, 1) := by decide +kernel
theorem dX6_onward_145 : decode cX6_onward 145 = .ok (.iinc 5 1, 3) := by decide +kernel
theorem dX6_onward_148 : decode cX6_onward 148 = .ok (.goto (-91), 3) := by decide +kernel
theorem dX6_onward_151 : decode cX6_onward 151 = .ok (.iconst 0, 1) := by decide +kernel
theorem dX6_onward_152 : decode cX6_onward 152 = .ok (.istore 5, 2) := by decide +kernel
theorem dX6_onward_154 : decode cX6_onward 154 = .ok (.iload 5, 2) := by decide +kernel
theorem dX6_onward_156 : decode cX6_onward 156 = .ok (.aload_n 0, 1) := by decide +kernel
theorem dX6_onward_157 : decode cX6_onward 157 = .ok (.getfield 63, 3) := by decide +kernel
theorem dX6_onward_160 : decode cX6_onward 160 = .ok (.if_icmp .ge 65, 3) := by decide +kernel
theorem dX6_onward_163 : decode cX6_onward 163 = .ok (.aload_n 0, 1) := by decide +kernel
theorem dX6_onward_164 : decode cX6_onward 164 = .ok (.iload 5, 2) := by decide +kernel
theorem dX6_onward_166 : decode cX6_onward 166 = .ok (.iload_n 3, 1) := by decide +kernel
theorem dX6_onward_167 : decode cX6_onward 167 = .ok (.invokevirtual 66, 3) := by decide +kernel
theorem dX6_onward_170 : decode cX6_onward 170 = .ok (.ifCond .eq 49, 3) := by decide +kernel
theorem dX6_onward_173 : decode cX6_onward 173 = .ok (.aload_n 0, 1) := by decide +kernel
theorem dX6_onward_174 : decode cX6_onward 174 = .ok (.iload 5, 2) := by decide +kernel
theorem dX6_onward_176 : decode cX6_onward 176 = .ok (.invokevirtual 70, 3) := by decide +kernel
theorem dX6_onward_179 : decode cX6_onward 179 = .ok (.iload 4, 2) := by decide +kernel
theorem dX6_onward_181 : decode cX6_onward 181 = .ok (.iload_n 2, 1) := by decide +kernel
theorem dX6_onward_182 : decode cX6_onward 182 = .ok (.iadd, 1) := by decide +kernel
theorem dX6_onward_183 : decode cX6_onward 183 = .ok (.aload_n 0, 1) := by decide +kernel
theorem dX6_onward_184 : decode cX6_onward 184 = .ok (.getfield 23, 3) := by decide +kernel
theorem dX6_onward_187 : decode cX6_onward 187 = .ok (.iadd, 1) := by decide +kernel
theorem dX6_onward_188 : decode cX6_onward 188 = .ok (.if_icmp .ge 31, 3) := by decide +kernel
theorem dX6_onward_191 : decode cX6_onward 191 = .ok (.aload_n 0, 1) := by decide +kernel
theorem dX6_onward_192 : decode cX6_onward 192 = .ok (.iload 5, 2) := by decide +kernel
theorem dX6_onward_194 : decode cX6_onward 194 = .ok (.invokevirtual 73, 3) := by decide +kernel
theorem dX6_onward_197 : decode cX6_onward 197 = .ok (.aload_n 0, 1) := by decide +kernel
theorem dX6_onward_198 : decode cX6_onward 198 = .ok (.getfield 23, 3) := by decide +kernel
theorem dX6_onward_201 : decode cX6_onward 201 = .ok (.iadd, 1) := by decide +kernel
theorem dX6_onward_202 : decode cX6_onward 202 = .ok (.iload 4, 2) := by decide +kernel
theorem dX6_onward_204 : decode cX6_onward 204 = .ok (.if_icmp .le 15, 3) := by decide +kernel
theorem dX6_onward_207 : decode cX6_onward 207 = .ok (.aload_n 0, 1) := by decide +kernel
theorem dX6_onward_208 : decode cX6_onward 208 = .ok (.iload 5, 2) := by decide +kernel
theorem dX6_onward_210 : decode cX6_onward 210 = .ok (.invokevirtual 73, 3) := by decide +kernel
theorem dX6_onward_213 : decode cX6_onward 213 = .ok (.aload_n 0, 1) := by decide +kernel
theorem dX6_onward_214 : decode cX6_onward 214 = .ok (.getfield 23, 3) := by decide +kernel
theorem dX6_onward_217 : decode cX6_onward 217 = .ok (.iadd, 1) := by decide +kernel
theorem dX6_onward_218 : decode cX6_onward 218 = .ok (.ireturn, 1) := by decide +kernel
theorem dX6_onward_219 : decode cX6_onward 219 = .ok (.iinc 5 1, 3) := by decide +kernel
theorem dX6_onward_222 : decode cX6_onward 222 = .ok (.goto (-68), 3) := by decide +kernel
theorem dX6_onward_225 : decode cX6_onward 225 = .ok (.iload 4, 2) := by decide +kernel
theorem dX6_onward_227 : decode cX6_onward 227 = .ok (.ireturn, 1) := by decide +kernel
theorem dX6_isPossible_0 : decode cX6_isPossible 0 = .ok (.iload 4, 2) := by decide +kernel
theorem dX6_isPossible_2 : decode cX6_isPossible 2 = .ok (.sipush 3000, 3) := by decide +kernel
theorem dX6_isPossible_5 : decode cX6_isPossible 5 = .ok (.if_icmp .ge 21, 3) := by decide +kernel
theorem dX6_isPossible_8 : decode cX6_isPossible 8 = .ok (.aload_n 0, 1) := by decide +kernel
theorem dX6_isPossible_9 : decode cX6_isPossible 9 = .ok (.iload_n 1, 1) := by decide +kernel
theorem dX6_isPossible_10 : decode cX6_isPossible 10 = .ok (.iload_n 2, 1) := by decide +kernel
theorem dX6_isPossible_11 : decode cX6_isPossible 11 = .ok (.iload_n 3, 1) := by decide +kernel
theorem dX6_isPossible_12 : decode cX6_isPossible 12 = .ok (.iload 4, 2) := by decide +kernel
theorem dX6_isPossible_14 : decode cX6_isPossible 14 = .ok (.invokevirtual 110, 3) := by decide +kernel
theorem dX6_isPossible_17 : decode cX6_isPossible 17 = .ok (.iload 4, 2) := by decide +kernel
theorem dX6_isPossible_19 : decode cX6_isPossible 19 = .ok (.if_icmp .ne 7, 3) := by decide +kernel
theorem dX6_isPossible_22 : decode cX6_isPossible 22 = .ok (.iconst 1, 1) := by decide +kernel
theorem dX6_isPossible_23 : decode cX6_isPossible 23 = .ok (.goto 4, 3) := by decide +kernel
theorem dX6_isPossible_26 : decode cX6_isPossible 26 = .ok (.iconst 0, 1) := by decide +kernel
theorem dX6_isPossible_27 : decode cX6_isPossible 27 = .ok (.ireturn, 1) := by decide +kernel
theorem dX6_earliestOn_0 : decode cX6_earliestOn 0 = .ok (.iconst 0, 1) := by decide +kernel
theorem dX6_earliestOn_1 : decode cX6_earliestOn 1 = .ok (.istore_n 3, 1) := by decide +kernel
theorem dX6_earliestOn_2 : decode cX6_earliestOn 2 = .ok (.iload_n 3, 1) := by decide +kernel
theorem dX6_earliestOn_3 : decode cX6_earliestOn 3 = .ok (.sipush 3000, 3) := by decide +kernel
theorem dX6_earliestOn_6 : decode cX6_earliestOn 6 = .ok (.if_icmp .ge 32, 3) := by decide +kernel
theorem dX6_earliestOn_9 : decode cX6_earliestOn 9 = .ok (.aload_n 0, 1) := by decide +kernel
theorem dX6_earliestOn_10 : decode cX6_earliestOn 10 = .ok (.iload_n 1, 1) := by decide +kernel
theorem dX6_earliestOn_11 : decode cX6_earliestOn 11 = .ok (.aload_n 0, 1) := by decide +kernel
theorem dX6_earliestOn_12 : decode cX6_earliestOn 12 = .ok (.iload_n 1, 1) := by decide +kernel
theorem dX6_earliestOn_13 : decode cX6_earliestOn 13 = .ok (.iconst 0, 1) := by decide +kernel
theorem dX6_earliestOn_14 : decode cX6_earliestOn 14 = .ok (.invokevirtual 79, 3) := by decide +kernel
theorem dX6_earliestOn_17 : decode cX6_earliestOn 17 = .ok (.iload_n 2, 1) := by decide +kernel
theorem dX6_earliestOn_18 : decode cX6_earliestOn 18 = .ok (.iload_n 3, 1) := by decide +kernel
theorem dX6_earliestOn_19 : decode cX6_earliestOn 19 = .ok (.invokevirtual 110, 3) := by decide +kernel
theorem dX6_earliestOn_22 : decode cX6_earliestOn 22 = .ok (.istore 4, 2) := by decide +kernel
theorem dX6_earliestOn_24 : decode cX6_earliestOn 24 = .ok (.iload 4, 2) := by decide +kernel
theorem dX6_earliestOn_26 : decode cX6_earliestOn 26 = .ok (.iload_n 3, 1) := by decide +kernel
theorem dX6_earliestOn_27 : decode cX6_earliestOn 27 = .ok (.if_icmp .ne 5, 3) := by decide +kernel
theorem dX6_earliestOn_30 : decode cX6_earliestOn 30 = .ok (.iload_n 3, 1) := by decide +kernel
theorem dX6_earliestOn_31 : decode cX6_earliestOn 31 = .ok (.ireturn, 1) := by decide +kernel
theorem dX6_earliestOn_32 : decode cX6_earliestOn 32 = .ok (.iload 4, 2) := by decide +kernel
theorem dX6_earliestOn_34 : decode cX6_earliestOn 34 = .ok (.istore_n 3, 1) := by decide +kernel
theorem dX6_earliestOn_35 : decode cX6_earliestOn 35 = .ok (.goto (-33), 3) := by decide +kernel
theorem dX6_earliestOn_38 : decode cX6_earliestOn 38 = .ok (.iconst (-1), 1) := by decide +kernel
theorem dX6_earliestOn_39 : decode cX6_earliestOn 39 = .ok (.ireturn, 1) := by decide +kernel
theorem dX6_fits_0 : decode cX6_fits 0 = .ok (.aload_n 0, 1) := by decide +kernel
theorem dX6_fits_1 : decode cX6_fits 1 = .ok (.aload_n 0, 1) := by decide +kernel
theorem dX6_fits_2 : decode cX6_fits 2 = .ok (.iload_n 1, 1) := by decide +kernel
theorem dX6_fits_3 : decode cX6_fits 3 = .ok (.invokevirtual 114, 3) := by decide +kernel
theorem dX6_fits_6 : decode cX6_fits 6 = .ok (.ifCond .eq 15, 3) := by decide +kernel
theorem dX6_fits_9 : decode cX6_fits 9 = .ok (.aload_n 0, 1) := by decide +kernel
theorem dX6_fits_10 : decode cX6_fits 10 = .ok (.iload_n 2, 1) := by decide +kernel
theorem dX6_fits_11 : decode cX6_fits 11 = .ok (.invokevirtual 53, 3) := by decide +kernel
theorem dX6_fits_14 : decode cX6_fits 14 = .ok (.ifCond .eq 7, 3) := by decide +kernel
theorem dX6_fits_17 : decode cX6_fits 17 = .ok (.iconst 0, 1) := by decide +kernel
theorem dX6_fits_18 : decode cX6_fits 18 = .ok (.goto 4, 3) := by decide +kernel
theorem dX6_fits_21 : decode cX6_fits 21 = .ok (.iconst 1, 1) := by decide +kernel
theorem dX6_fits_22 : decode cX6_fits 22 = .ok (.putfield 36, 3) := by decide +kernel
theorem dX6_fits_25 : decode cX6_fits 25 = .ok (.aload_n 0, 1) := by decide +kernel
theorem dX6_fits_26 : decode cX6_fits 26 = .ok (.getfield 36, 3) := by decide +kernel
theorem dX6_fits_29 : decode cX6_fits 29 = .ok (.ifCond .ne 34, 3) := by decide +kernel
theorem dX6_fits_32 : decode cX6_fits 32 = .ok (.iload_n 3, 1) := by decide +kernel
theorem dX6_fits_33 : decode cX6_fits 33 = .ok (.iconst 0, 1) := by decide +kernel
theorem dX6_fits_34 : decode cX6_fits 34 = .ok (.sipush 3000, 3) := by decide +kernel
theorem dX6_fits_37 : decode cX6_fits 37 = .ok (.invokestatic 42, 3) := by decide +kernel
theorem dX6_fits_40 : decode cX6_fits 40 = .ok (.ifCond .eq 23, 3) := by decide +kernel
theorem dX6_fits_43 : decode cX6_fits 43 = .ok (.aload_n 0, 1) := by decide +kernel
theorem dX6_fits_44 : decode cX6_fits 44 = .ok (.iload_n 1, 1) := by decide +kernel
theorem dX6_fits_45 : decode cX6_fits 45 = .ok (.aload_n 0, 1) := by decide +kernel
theorem dX6_fits_46 : decode cX6_fits 46 = .ok (.iload_n 1, 1) := by decide +kernel
theorem dX6_fits_47 : decode cX6_fits 47 = .ok (.iconst 0, 1) := by decide +kernel
theorem dX6_fits_48 : decode cX6_fits 48 = .ok (.invokevirtual 79, 3) := by decide +kernel
theorem dX6_fits_51 : decode cX6_fits 51 = .ok (.iload_n 2, 1) := by decide +kernel
theorem dX6_fits_52 : decode cX6_fits 52 = .ok (.iload_n 3, 1) := by decide +kernel
theorem dX6_fits_53 : decode cX6_fits 53 = .ok (.invokevirtual 117, 3) := by decide +kernel
theorem dX6_fits_56 : decode cX6_fits 56 = .ok (.ifCond .eq 7, 3) := by decide +kernel
theorem dX6_fits_59 : decode cX6_fits 59 = .ok (.iconst 1, 1) := by decide +kernel
theorem dX6_fits_60 : decode cX6_fits 60 = .ok (.goto 4, 3) := by decide +kernel
theorem dX6_fits_63 : decode cX6_fits 63 = .ok (.iconst 0, 1) := by decide +kernel
theorem dX6_fits_64 : decode cX6_fits 64 = .ok (.ireturn, 1) := by decide +kernel
theorem dX6_earliest_0 : decode cX6_earliest 0 = .ok (.aload_n 0, 1) := by decide +kernel
theorem dX6_earliest_1 : decode cX6_earliest 1 = .ok (.iconst 0, 1) := by decide +kernel
theorem dX6_earliest_2 : decode cX6_earliest 2 = .ok (.putfield 36, 3) := by decide +kernel
theorem dX6_earliest_5 : decode cX6_earliest 5 = .ok (.aload_n 0, 1) := by decide +kernel
theorem dX6_earliest_6 : decode cX6_earliest 6 = .ok (.iload_n 1, 1) := by decide +kernel
theorem dX6_earliest_7 : decode cX6_earliest 7 = .ok (.invokevirtual 114, 3) := by decide +kernel
theorem dX6_earliest_10 : decode cX6_earliest 10 = .ok (.ifCond .eq 20, 3) := by decide +kernel
theorem dX6_earliest_13 : decode cX6_earliest 13 = .ok (.aload_n 0, 1) := by decide +kernel
theorem dX6_earliest_14 : decode cX6_earliest 14 = .ok (.iload_n 2, 1) := by decide +kernel
theorem dX6_earliest_15 : decode cX6_earliest 15 = .ok (.invokevirtual 53, 3) := by decide +kernel
theorem dX6_earliest_18 : decode cX6_earliest 18 = .ok (.ifCond .eq 12, 3) := by decide +kernel
theorem dX6_earliest_21 : decode cX6_earliest 21 = .ok (.aload_n 0, 1) := by decide +kernel
theorem dX6_earliest_22 : decode cX6_earliest 22 = .ok (.iload_n 1, 1) := by decide +kernel
theorem dX6_earliest_23 : decode cX6_earliest 23 = .ok (.iload_n 2, 1) := by decide +kernel
theorem dX6_earliest_24 : decode cX6_earliest 24 = .ok (.invokevirtual 121, 3) := by decide +kernel
theorem dX6_earliest_27 : decode cX6_earliest 27 = .ok (.goto 8, 3) := by decide +kernel
theorem dX6_earliest_30 : decode cX6_earliest 30 = .ok (.aload_n 0, 1) := by decide +kernel
theorem dX6_earliest_31 : decode cX6_earliest 31 = .ok (.iconst 1, 1) := by decide +kernel
theorem dX6_earliest_32 : decode cX6_earliest 32 = .ok (.invokevirtual 49, 3) := by decide +kernel
theorem dX6_earliest_35 : decode cX6_earliest 35 = .ok (.ireturn, 1) := by decide +kernel
theorem dX6_add_0 : decode cX6_add 0 = .ok (.aload_n 0, 1) := by decide +kernel
theorem dX6_add_1 : decode cX6_add 1 = .ok (.getfield 30, 3) := by decide +kernel
theorem dX6_add_4 : decode cX6_add 4 = .ok (.iconst 4, 1) := by decide +kernel
theorem dX6_add_5 : decode cX6_add 5 = .ok (.aload_n 0, 1) := by decide +kernel
theorem dX6_add_6 : decode cX6_add 6 = .ok (.getfield 63, 3) := by decide +kernel
theorem dX6_add_9 : decode cX6_add 9 = .ok (.imul, 1) := by decide +kernel
theorem dX6_add_10 : decode cX6_add 10 = .ok (.iload_n 2, 1) := by decide +kernel
theorem dX6_add_11 : decode cX6_add 11 = .ok (.iastore, 1) := by decide +kernel
theorem dX6_add_12 : decode cX6_add 12 = .ok (.aload_n 0, 1) := by decide +kernel
theorem dX6_add_13 : decode cX6_add 13 = .ok (.getfield 30, 3) := by decide +kernel
theorem dX6_add_16 : decode cX6_add 16 = .ok (.iconst 4, 1) := by decide +kernel
theorem dX6_add_17 : decode cX6_add 17 = .ok (.aload_n 0, 1) := by decide +kernel
theorem dX6_add_18 : decode cX6_add 18 = .ok (.getfield 63, 3) := by decide +kernel
theorem dX6_add_21 : decode cX6_add 21 = .ok (.imul, 1) := by decide +kernel
theorem dX6_add_22 : decode cX6_add 22 = .ok (.iconst 1, 1) := by decide +kernel
theorem dX6_add_23 : decode cX6_add 23 = .ok (.iadd, 1) := by decide +kernel
theorem dX6_add_24 : decode cX6_add 24 = .ok (.iload_n 3, 1) := by decide +kernel
theorem dX6_add_25 : decode cX6_add 25 = .ok (.iastore, 1) := by decide +kernel
theorem dX6_add_26 : decode cX6_add 26 = .ok (.aload_n 0, 1) := by decide +kernel
theorem dX6_add_27 : decode cX6_add 27 = .ok (.getfield 30, 3) := by decide +kernel
theorem dX6_add_30 : decode cX6_add 30 = .ok (.iconst 4, 1) := by decide +kernel
theorem dX6_add_31 : decode cX6_add 31 = .ok (.aload_n 0, 1) := by decide +kernel
theorem dX6_add_32 : decode cX6_add 32 = .ok (.getfield 63, 3) := by decide +kernel
theorem dX6_add_35 : decode cX6_add 35 = .ok (.imul, 1) := by decide +kernel
theorem dX6_add_36 : decode cX6_add 36 = .ok (.iconst 2, 1) := by decide +kernel
theorem dX6_add_37 : decode cX6_add 37 = .ok (.iadd, 1) := by decide +kernel
theorem dX6_add_38 : decode cX6_add 38 = .ok (.iload_n 3, 1) := by decide +kernel
theorem dX6_add_39 : decode cX6_add 39 = .ok (.iload 4, 2) := by decide +kernel
theorem dX6_add_41 : decode cX6_add 41 = .ok (.iadd, 1) := by decide +kernel
theorem dX6_add_42 : decode cX6_add 42 = .ok (.iastore, 1) := by decide +kernel
theorem dX6_add_43 : decode cX6_add 43 = .ok (.aload_n 0, 1) := by decide +kernel
theorem dX6_add_44 : decode cX6_add 44 = .ok (.getfield 30, 3) := by decide +kernel
theorem dX6_add_47 : decode cX6_add 47 = .ok (.iconst 4, 1) := by decide +kernel
theorem dX6_add_48 : decode cX6_add 48 = .ok (.aload_n 0, 1) := by decide +kernel
theorem dX6_add_49 : decode cX6_add 49 = .ok (.getfield 63, 3) := by decide +kernel
theorem dX6_add_52 : decode cX6_add 52 = .ok (.imul, 1) := by decide +kernel
theorem dX6_add_53 : decode cX6_add 53 = .ok (.iconst 3, 1) := by decide +kernel
theorem dX6_add_54 : decode cX6_add 54 = .ok (.iadd, 1) := by decide +kernel
theorem dX6_add_55 : decode cX6_add 55 = .ok (.iload_n 1, 1) := by decide +kernel
theorem dX6_add_56 : decode cX6_add 56 = .ok (.iastore, 1) := by decide +kernel
theorem dX6_add_57 : decode cX6_add 57 = .ok (.aload_n 0, 1) := by decide +kernel
theorem dX6_add_58 : decode cX6_add 58 = .ok (.getfield 33, 3) := by decide +kernel
theorem dX6_add_61 : decode cX6_add 61 = .ok (.aload_n 0, 1) := by decide +kernel
theorem dX6_add_62 : decode cX6_add 62 = .ok (.getfield 63, 3) := by decide +kernel
theorem dX6_add_65 : decode cX6_add 65 = .ok (.iload 5, 2) := by decide +kernel
theorem dX6_add_67 : decode cX6_add 67 = .ok (.bastore, 1) := by decide +kernel
theorem dX6_add_68 : decode cX6_add 68 = .ok (.aload_n 0, 1) := by decide +kernel
theorem dX6_add_69 : decode cX6_add 69 = .ok (.dup, 1) := by decide +kernel
theorem dX6_add_70 : decode cX6_add 70 = .ok (.getfield 63, 3) := by decide +kernel
theorem dX6_add_73 : decode cX6_add 73 = .ok (.iconst 1, 1) := by decide +kernel
theorem dX6_add_74 : decode cX6_add 74 = .ok (.iadd, 1) := by decide +kernel
theorem dX6_add_75 : decode cX6_add 75 = .ok (.putfield 63, 3) := by decide +kernel
theorem dX6_add_78 : decode cX6_add 78 = .ok (.return_, 1) := by decide +kernel
theorem dX6_lessLeft_0 : decode cX6_lessLeft 0 = .ok (.aload_n 0, 1) := by decide +kernel
theorem dX6_lessLeft_1 : decode cX6_lessLeft 1 = .ok (.getfield 16, 3) := by decide +kernel
theorem dX6_lessLeft_4 : decode cX6_lessLeft 4 = .ok (.iconst 4, 1) := by decide +kernel
theorem dX6_lessLeft_5 : decode cX6_lessLeft 5 = .ok (.iload_n 1, 1) := by decide +kernel
theorem dX6_lessLeft_6 : decode cX6_lessLeft 6 = .ok (.imul, 1) := by decide +kernel
theorem dX6_lessLeft_7 : decode cX6_lessLeft 7 = .ok (.iconst 3, 1) := by decide +kernel
theorem dX6_lessLeft_8 : decode cX6_lessLeft 8 = .ok (.iadd, 1) := by decide +kernel
theorem dX6_lessLeft_9 : decode cX6_lessLeft 9 = .ok (.dup2, 1) := by decide +kernel
theorem dX6_lessLeft_10 : decode cX6_lessLeft 10 = .ok (.iaload, 1) := by decide +kernel
theorem dX6_lessLeft_11 : decode cX6_lessLeft 11 = .ok (.iconst 1, 1) := by decide +kernel
theorem dX6_lessLeft_12 : decode cX6_lessLeft 12 = .ok (.isub, 1) := by decide +kernel
theorem dX6_lessLeft_13 : decode cX6_lessLeft 13 = .ok (.iastore, 1) := by decide +kernel
theorem dX6_lessLeft_14 : decode cX6_lessLeft 14 = .ok (.aload_n 0, 1) := by decide +kernel
theorem dX6_lessLeft_15 : decode cX6_lessLeft 15 = .ok (.getfield 16, 3) := by decide +kernel
theorem dX6_lessLeft_18 : decode cX6_lessLeft 18 = .ok (.iconst 4, 1) := by decide +kernel
theorem dX6_lessLeft_19 : decode cX6_lessLeft 19 = .ok (.iload_n 1, 1) := by decide +kernel
theorem dX6_lessLeft_20 : decode cX6_lessLeft 20 = .ok (.imul, 1) := by decide +kernel
theorem dX6_lessLeft_21 : decode cX6_lessLeft 21 = .ok (.iconst 3, 1) := by decide +kernel
theorem dX6_lessLeft_22 : decode cX6_lessLeft 22 = .ok (.iadd, 1) := by decide +kernel
theorem dX6_lessLeft_23 : decode cX6_lessLeft 23 = .ok (.iaload, 1) := by decide +kernel
theorem dX6_lessLeft_24 : decode cX6_lessLeft 24 = .ok (.ireturn, 1) := by decide +kernel
theorem dX6_cut_0 : decode cX6_cut 0 = .ok (.aload_n 0, 1) := by decide +kernel
theorem dX6_cut_1 : decode cX6_cut 1 = .ok (.iconst 0, 1) := by decide +kernel
theorem dX6_cut_2 : decode cX6_cut 2 = .ok (.putfield 36, 3) := by decide +kernel
theorem dX6_cut_5 : decode cX6_cut 5 = .ok (.aload_n 0, 1) := by decide +kernel
theorem dX6_cut_6 : decode cX6_cut 6 = .ok (.iload_n 1, 1) := by decide +kernel
theorem dX6_cut_7 : decode cX6_cut 7 = .ok (.invokevirtual 114, 3) := by decide +kernel
theorem dX6_cut_10 : decode cX6_cut 10 = .ok (.ifCond .eq 11, 3) := by decide +kernel
theorem dX6_cut_13 : decode cX6_cut 13 = .ok (.aload_n 0, 1) := by decide +kernel
theorem dX6_cut_14 : decode cX6_cut 14 = .ok (.iload_n 2, 1) := by decide +kernel
theorem dX6_cut_15 : decode cX6_cut 15 = .ok (.invokevirtual 53, 3) := by decide +kernel
theorem dX6_cut_18 : decode cX6_cut 18 = .ok (.ifCond .ne 9, 3) := by decide +kernel
theorem dX6_cut_21 : decode cX6_cut 21 = .ok (.aload_n 0, 1) := by decide +kernel
theorem dX6_cut_22 : decode cX6_cut 22 = .ok (.iconst 1, 1) := by decide +kernel
theorem dX6_cut_23 : decode cX6_cut 23 = .ok (.invokevirtual 49, 3) := by decide +kernel
theorem dX6_cut_26 : decode cX6_cut 26 = .ok (.ireturn, 1) := by decide +kernel
theorem dX6_cut_27 : decode cX6_cut 27 = .ok (.aload_n 0, 1) := by decide +kernel
theorem dX6_cut_28 : decode cX6_cut 28 = .ok (.iload_n 1, 1) := by decide +kernel
theorem dX6_cut_29 : decode cX6_cut 29 = .ok (.iconst 3, 1) := by decide +kernel
theorem dX6_cut_30 : decode cX6_cut 30 = .ok (.invokevirtual 79, 3) := by decide +kernel
theorem dX6_cut_33 : decode cX6_cut 33 = .ok (.ifCond .eq 30, 3) := by decide +kernel
theorem dX6_cut_36 : decode cX6_cut 36 = .ok (.iload_n 3, 1) := by decide +kernel
theorem dX6_cut_37 : decode cX6_cut 37 = .ok (.iconst 0, 1) := by decide +kernel
theorem dX6_cut_38 : decode cX6_cut 38 = .ok (.sipush 3000, 3) := by decide +kernel
theorem dX6_cut_41 : decode cX6_cut 41 = .ok (.invokestatic 42, 3) := by decide +kernel
theorem dX6_cut_44 : decode cX6_cut 44 = .ok (.ifCond .eq 19, 3) := by decide +kernel
theorem dX6_cut_47 : decode cX6_cut 47 = .ok (.aload_n 0, 1) := by decide +kernel
theorem dX6_cut_48 : decode cX6_cut 48 = .ok (.iload_n 1, 1) := by decide +kernel
theorem dX6_cut_49 : decode cX6_cut 49 = .ok (.aload_n 0, 1) := by decide +kernel
theorem dX6_cut_50 : decode cX6_cut 50 = .ok (.iload_n 1, 1) := by decide +kernel
theorem dX6_cut_51 : decode cX6_cut 51 = .ok (.iconst 0, 1) := by decide +kernel
theorem dX6_cut_52 : decode cX6_cut 52 = .ok (.invokevirtual 79, 3) := by decide +kernel
theorem dX6_cut_55 : decode cX6_cut 55 = .ok (.iload_n 2, 1) := by decide +kernel
theorem dX6_cut_56 : decode cX6_cut 56 = .ok (.iload_n 3, 1) := by decide +kernel
theorem dX6_cut_57 : decode cX6_cut 57 = .ok (.invokevirtual 117, 3) := by decide +kernel
theorem dX6_cut_60 : decode cX6_cut 60 = .ok (.ifCond .ne 9, 3) := by decide +kernel
theorem dX6_cut_63 : decode cX6_cut 63 = .ok (.aload_n 0, 1) := by decide +kernel
theorem dX6_cut_64 : decode cX6_cut 64 = .ok (.iconst 2, 1) := by decide +kernel
theorem dX6_cut_65 : decode cX6_cut 65 = .ok (.invokevirtual 49, 3) := by decide +kernel
theorem dX6_cut_68 : decode cX6_cut 68 = .ok (.ireturn, 1) := by decide +kernel
theorem dX6_cut_69 : decode cX6_cut 69 = .ok (.aload_n 0, 1) := by decide +kernel
theorem dX6_cut_70 : decode cX6_cut 70 = .ok (.iload_n 1, 1) := by decide +kernel
theorem dX6_cut_71 : decode cX6_cut 71 = .ok (.iload_n 2, 1) := by decide +kernel
theorem dX6_cut_72 : decode cX6_cut 72 = .ok (.iload_n 3, 1) := by decide +kernel
theorem dX6_cut_73 : decode cX6_cut 73 = .ok (.aload_n 0, 1) := by decide +kernel
theorem dX6_cut_74 : decode cX6_cut 74 = .ok (.iload_n 1, 1) := by decide +kernel
theorem dX6_cut_75 : decode cX6_cut 75 = .ok (.iconst 0, 1) := by decide +kernel
theorem dX6_cut_76 : decode cX6_cut 76 = .ok (.invokevirtual 79, 3) := by decide +kernel
theorem dX6_cut_79 : decode cX6_cut 79 = .ok (.iconst 0, 1) := by decide +kernel
theorem dX6_cut_80 : decode cX6_cut 80 = .ok (.invokevirtual 124, 3) := by decide +kernel
theorem dX6_cut_83 : decode cX6_cut 83 = .ok (.aload_n 0, 1) := by decide +kernel
theorem dX6_cut_84 : decode cX6_cut 84 = .ok (.iload_n 1, 1) := by decide +kernel
theorem dX6_cut_85 : decode cX6_cut 85 = .ok (.invokevirtual 128, 3) := by decide +kernel
theorem dX6_cut_88 : decode cX6_cut 88 = .ok (.ireturn, 1) := by decide +kernel
theorem dX6_join_0 : decode cX6_join 0 = .ok (.aload_n 0, 1) := by decide +kernel
theorem dX6_join_1 : decode cX6_join 1 = .ok (.iconst 0, 1) := by decide +kernel
theorem dX6_join_2 : decode cX6_join 2 = .ok (.putfield 36, 3) := by decide +kernel
theorem dX6_join_5 : decode cX6_join 5 = .ok (.aload_n 0, 1) := by decide +kernel
theorem dX6_join_6 : decode cX6_join 6 = .ok (.iload_n 1, 1) := by decide +kernel
theorem dX6_join_7 : decode cX6_join 7 = .ok (.invokevirtual 114, 3) := by decide +kernel
theorem dX6_join_10 : decode cX6_join 10 = .ok (.ifCond .eq 20, 3) := by decide +kernel
theorem dX6_join_13 : decode cX6_join 13 = .ok (.aload_n 0, 1) := by decide +kernel
theorem dX6_join_14 : decode cX6_join 14 = .ok (.iload_n 2, 1) := by decide +kernel
theorem dX6_join_15 : decode cX6_join 15 = .ok (.invokevirtual 53, 3) := by decide +kernel
theorem dX6_join_18 : decode cX6_join 18 = .ok (.ifCond .eq 12, 3) := by decide +kernel
theorem dX6_join_21 : decode cX6_join 21 = .ok (.aload_n 0, 1) := by decide +kernel
theorem dX6_join_22 : decode cX6_join 22 = .ok (.iload 5, 2) := by decide +kernel
theorem dX6_join_24 : decode cX6_join 24 = .ok (.invokevirtual 53, 3) := by decide +kernel
theorem dX6_join_27 : decode cX6_join 27 = .ok (.ifCond .ne 9, 3) := by decide +kernel
theorem dX6_join_30 : decode cX6_join 30 = .ok (.aload_n 0, 1) := by decide +kernel
theorem dX6_join_31 : decode cX6_join 31 = .ok (.iconst 1, 1) := by decide +kernel
theorem dX6_join_32 : decode cX6_join 32 = .ok (.invokevirtual 49, 3) := by decide +kernel
theorem dX6_join_35 : decode cX6_join 35 = .ok (.ireturn, 1) := by decide +kernel
theorem dX6_join_36 : decode cX6_join 36 = .ok (.iload 4, 2) := by decide +kernel
theorem dX6_join_38 : decode cX6_join 38 = .ok (.bipush 50, 2) := by decide +kernel
theorem dX6_join_40 : decode cX6_join 40 = .ok (.if_icmp .lt 22, 3) := by decide +kernel
theorem dX6_join_43 : decode cX6_join 43 = .ok (.iload 4, 2) := by decide +kernel
theorem dX6_join_45 : decode cX6_join 45 = .ok (.aload_n 0, 1) := by decide +kernel
theorem dX6_join_46 : decode cX6_join 46 = .ok (.iload_n 1, 1) := by decide +kernel
theorem dX6_join_47 : decode cX6_join 47 = .ok (.iconst 0, 1) := by decide +kernel
theorem dX6_join_48 : decode cX6_join 48 = .ok (.invokevirtual 79, 3) := by decide +kernel
theorem dX6_join_51 : decode cX6_join 51 = .ok (.aload_n 0, 1) := by decide +kernel
theorem dX6_join_52 : decode cX6_join 52 = .ok (.getfield 27, 3) := by decide +kernel
theorem dX6_join_55 : decode cX6_join 55 = .ok (.iadd, 1) := by decide +kernel
theorem dX6_join_56 : decode cX6_join 56 = .ok (.bipush 50, 2) := by decide +kernel
theorem dX6_join_58 : decode cX6_join 58 = .ok (.isub, 1) := by decide +kernel
theorem dX6_join_59 : decode cX6_join 59 = .ok (.if_icmp .le 9, 3) := by decide +kernel
theorem dX6_join_62 : decode cX6_join 62 = .ok (.aload_n 0, 1) := by decide +kernel
theorem dX6_join_63 : decode cX6_join 63 = .ok (.iconst 2, 1) := by decide +kernel
theorem dX6_join_64 : decode cX6_join 64 = .ok (.invokevirtual 49, 3) := by decide +kernel
theorem dX6_join_67 : decode cX6_join 67 = .ok (.ireturn, 1) := by decide +kernel
theorem dX6_join_68 : decode cX6_join 68 = .ok (.aload_n 0, 1) := by decide +kernel
theorem dX6_join_69 : decode cX6_join 69 = .ok (.iload_n 1, 1) := by decide +kernel
theorem dX6_join_70 : decode cX6_join 70 = .ok (.iconst 0, 1) := by decide +kernel
theorem dX6_join_71 : decode cX6_join 71 = .ok (.invokevirtual 79, 3) := by decide +kernel
theorem dX6_join_74 : decode cX6_join 74 = .ok (.aload_n 0, 1) := by decide +kernel
theorem dX6_join_75 : decode cX6_join 75 = .ok (.getfield 27, 3) := by decide +kernel
theorem dX6_join_78 : decode cX6_join 78 = .ok (.iadd, 1) := by decide +kernel
theorem dX6_join_79 : decode cX6_join 79 = .ok (.iload 4, 2) := by decide +kernel
theorem dX6_join_81 : decode cX6_join 81 = .ok (.isub, 1) := by decide +kernel
theorem dX6_join_82 : decode cX6_join 82 = .ok (.istore 7, 2) := by decide +kernel
theorem dX6_join_84 : decode cX6_join 84 = .ok (.aload_n 0, 1) := by decide +kernel
theorem dX6_join_85 : decode cX6_join 85 = .ok (.iload_n 1, 1) := by decide +kernel
theorem dX6_join_86 : decode cX6_join 86 = .ok (.iconst 3, 1) := by decide +kernel
theorem dX6_join_87 : decode cX6_join 87 = .ok (.invokevirtual 79, 3) := by decide +kernel
theorem dX6_join_90 : decode cX6_join 90 = .ok (.ifCond .eq 47, 3) := by decide +kernel
theorem dX6_join_93 : decode cX6_join 93 = .ok (.aload_n 0, 1) := by decide +kernel
theorem dX6_join_94 : decode cX6_join 94 = .ok (.getfield 19, 3) := by decide +kernel
theorem dX6_join_97 : decode cX6_join 97 = .ok (.iload_n 1, 1) := by decide +kernel
theorem dX6_join_98 : decode cX6_join 98 = .ok (.baload, 1) := by decide +kernel
theorem dX6_join_99 : decode cX6_join 99 = .ok (.ifCond .eq 38, 3) := by decide +kernel
theorem dX6_join_102 : decode cX6_join 102 = .ok (.iload_n 3, 1) := by decide +kernel
theorem dX6_join_103 : decode cX6_join 103 = .ok (.iconst 0, 1) := by decide +kernel
theorem dX6_join_104 : decode cX6_join 104 = .ok (.sipush 3000, 3) := by decide +kernel
theorem dX6_join_107 : decode cX6_join 107 = .ok (.invokestatic 42, 3) := by decide +kernel
theorem dX6_join_110 : decode cX6_join 110 = .ok (.ifCond .eq 27, 3) := by decide +kernel
theorem dX6_join_113 : decode cX6_join 113 = .ok (.iload 6, 2) := by decide +kernel
theorem dX6_join_115 : decode cX6_join 115 = .ok (.iconst 0, 1) := by decide +kernel
theorem dX6_join_116 : decode cX6_join 116 = .ok (.sipush 3000, 3) := by decide +kernel
theorem dX6_join_119 : decode cX6_join 119 = .ok (.invokestatic 42, 3) := by decide +kernel
theorem dX6_join_122 : decode cX6_join 122 = .ok (.ifCond .eq 15, 3) := by decide +kernel
theorem dX6_join_125 : decode cX6_join 125 = .ok (.aload_n 0, 1) := by decide +kernel
theorem dX6_join_126 : decode cX6_join 126 = .ok (.iload_n 1, 1) := by decide +kernel
theorem dX6_join_127 : decode cX6_join 127 = .ok (.iload 4, 2) := by decide +kernel
theorem dX6_join_129 : decode cX6_join 129 = .ok (.iload_n 2, 1) := by decide +kernel
theorem dX6_join_130 : decode cX6_join 130 = .ok (.iload_n 3, 1) := by decide +kernel
theorem dX6_join_131 : decode cX6_join 131 = .ok (.invokevirtual 117, 3) := by decide +kernel
theorem dX6_join_134 : decode cX6_join 134 = .ok (.ifCond .ne 9, 3) := by decide +kernel
theorem dX6_join_137 : decode cX6_join 137 = .ok (.aload_n 0, 1) := by decide +kernel
theorem dX6_join_138 : decode cX6_join 138 = .ok (.iconst 3, 1) := by decide +kernel
theorem dX6_join_139 : decode cX6_join 139 = .ok (.invokevirtual 49, 3) := by decide +kernel
theorem dX6_join_142 : decode cX6_join 142 = .ok (.ireturn, 1) := by decide +kernel
theorem dX6_join_143 : decode cX6_join 143 = .ok (.aload_n 0, 1) := by decide +kernel
theorem dX6_join_144 : decode cX6_join 144 = .ok (.iload_n 1, 1) := by decide +kernel
theorem dX6_join_145 : decode cX6_join 145 = .ok (.iload_n 2, 1) := by decide +kernel
theorem dX6_join_146 : decode cX6_join 146 = .ok (.iload_n 3, 1) := by decide +kernel
theorem dX6_join_147 : decode cX6_join 147 = .ok (.iload 4, 2) := by decide +kernel
theorem dX6_join_149 : decode cX6_join 149 = .ok (.iconst 1, 1) := by decide +kernel
theorem dX6_join_150 : decode cX6_join 150 = .ok (.invokevirtual 124, 3) := by decide +kernel
theorem dX6_join_153 : decode cX6_join 153 = .ok (.aload_n 0, 1) := by decide +kernel
theorem dX6_join_154 : decode cX6_join 154 = .ok (.iload_n 1, 1) := by decide +kernel
theorem dX6_join_155 : decode cX6_join 155 = .ok (.iload 7, 2) := by decide +kernel
theorem dX6_join_157 : decode cX6_join 157 = .ok (.iload 5, 2) := by decide +kernel
theorem dX6_join_159 : decode cX6_join 159 = .ok (.iload 6, 2) := by decide +kernel
theorem dX6_join_161 : decode cX6_join 161 = .ok (.invokevirtual 117, 3) := by decide +kernel
theorem dX6_join_164 : decode cX6_join 164 = .ok (.ifCond .ne 19, 3) := by decide +kernel
theorem dX6_join_167 : decode cX6_join 167 = .ok (.aload_n 0, 1) := by decide +kernel
theorem dX6_join_168 : decode cX6_join 168 = .ok (.dup, 1) := by decide +kernel
theorem dX6_join_169 : decode cX6_join 169 = .ok (.getfield 63, 3) := by decide +kernel
theorem dX6_join_172 : decode cX6_join 172 = .ok (.iconst 1, 1) := by decide +kernel
theorem dX6_join_173 : decode cX6_join 173 = .ok (.isub, 1) := by decide +kernel
theorem dX6_join_174 : decode cX6_join 174 = .ok (.putfield 63, 3) := by decide +kernel
theorem dX6_join_177 : decode cX6_join 177 = .ok (.aload_n 0, 1) := by decide +kernel
theorem dX6_join_178 : decode cX6_join 178 = .ok (.iconst 3, 1) := by decide +kernel
theorem dX6_join_179 : decode cX6_join 179 = .ok (.invokevirtual 49, 3) := by decide +kernel
theorem dX6_join_182 : decode cX6_join 182 = .ok (.ireturn, 1) := by decide +kernel
theorem dX6_join_183 : decode cX6_join 183 = .ok (.aload_n 0, 1) := by decide +kernel
theorem dX6_join_184 : decode cX6_join 184 = .ok (.iload_n 1, 1) := by decide +kernel
theorem dX6_join_185 : decode cX6_join 185 = .ok (.iload 5, 2) := by decide +kernel
theorem dX6_join_187 : decode cX6_join 187 = .ok (.iload 6, 2) := by decide +kernel
theorem dX6_join_189 : decode cX6_join 189 = .ok (.iload 7, 2) := by decide +kernel
theorem dX6_join_191 : decode cX6_join 191 = .ok (.iconst 1, 1) := by decide +kernel
theorem dX6_join_192 : decode cX6_join 192 = .ok (.invokevirtual 124, 3) := by decide +kernel
theorem dX6_join_195 : decode cX6_join 195 = .ok (.aload_n 0, 1) := by decide +kernel
theorem dX6_join_196 : decode cX6_join 196 = .ok (.iload_n 1, 1) := by decide +kernel
theorem dX6_join_197 : decode cX6_join 197 = .ok (.invokevirtual 128, 3) := by decide +kernel
theorem dX6_join_200 : decode cX6_join 200 = .ok (.ireturn, 1) := by decide +kernel
theorem dX6_undo_0 : decode cX6_undo 0 = .ok (.aload_n 0, 1) := by decide +kernel
theorem dX6_undo_1 : decode cX6_undo 1 = .ok (.iconst 0, 1) := by decide +kernel
theorem dX6_undo_2 : decode cX6_undo 2 = .ok (.putfield 36, 3) := by decide +kernel
theorem dX6_undo_5 : decode cX6_undo 5 = .ok (.aload_n 0, 1) := by decide +kernel
theorem dX6_undo_6 : decode cX6_undo 6 = .ok (.getfield 63, 3) := by decide +kernel
theorem dX6_undo_9 : decode cX6_undo 9 = .ok (.ifCond .ne 9, 3) := by decide +kernel
theorem dX6_undo_12 : decode cX6_undo 12 = .ok (.aload_n 0, 1) := by decide +kernel
theorem dX6_undo_13 : decode cX6_undo 13 = .ok (.iconst 1, 1) := by decide +kernel
theorem dX6_undo_14 : decode cX6_undo 14 = .ok (.invokevirtual 49, 3) := by decide +kernel
theorem dX6_undo_17 : decode cX6_undo 17 = .ok (.ireturn, 1) := by decide +kernel
theorem dX6_undo_18 : decode cX6_undo 18 = .ok (.aload_n 0, 1) := by decide +kernel
theorem dX6_undo_19 : decode cX6_undo 19 = .ok (.aload_n 0, 1) := by decide +kernel
theorem dX6_undo_20 : decode cX6_undo 20 = .ok (.getfield 63, 3) := by decide +kernel
theorem dX6_undo_23 : decode cX6_undo 23 = .ok (.iconst 1, 1) := by decide +kernel
theorem dX6_undo_24 : decode cX6_undo 24 = .ok (.isub, 1) := by decide +kernel
theorem dX6_undo_25 : decode cX6_undo 25 = .ok (.invokevirtual 76, 3) := by decide +kernel
theorem dX6_undo_28 : decode cX6_undo 28 = .ok (.istore_n 1, 1) := by decide +kernel
theorem dX6_undo_29 : decode cX6_undo 29 = .ok (.aload_n 0, 1) := by decide +kernel
theorem dX6_undo_30 : decode cX6_undo 30 = .ok (.dup, 1) := by decide +kernel
theorem dX6_undo_31 : decode cX6_undo 31 = .ok (.getfield 63, 3) := by decide +kernel
theorem dX6_undo_34 : decode cX6_undo 34 = .ok (.aload_n 0, 1) := by decide +kernel
theorem dX6_undo_35 : decode cX6_undo 35 = .ok (.getfield 33, 3) := by decide +kernel
theorem dX6_undo_38 : decode cX6_undo 38 = .ok (.aload_n 0, 1) := by decide +kernel
theorem dX6_undo_39 : decode cX6_undo 39 = .ok (.getfield 63, 3) := by decide +kernel
theorem dX6_undo_42 : decode cX6_undo 42 = .ok (.iconst 1, 1) := by decide +kernel
theorem dX6_undo_43 : decode cX6_undo 43 = .ok (.isub, 1) := by decide +kernel
theorem dX6_undo_44 : decode cX6_undo 44 = .ok (.baload, 1) := by decide +kernel
theorem dX6_undo_45 : decode cX6_undo 45 = .ok (.ifCond .eq 7, 3) := by decide +kernel
theorem dX6_undo_48 : decode cX6_undo 48 = .ok (.iconst 2, 1) := by decide +kernel
theorem dX6_undo_49 : decode cX6_undo 49 = .ok (.goto 4, 3) := by decide +kernel
theorem dX6_undo_52 : decode cX6_undo 52 = .ok (.iconst 1, 1) := by decide +kernel
theorem dX6_undo_53 : decode cX6_undo 53 = .ok (.isub, 1) := by decide +kernel
theorem dX6_undo_54 : decode cX6_undo 54 = .ok (.putfield 63, 3) := by decide +kernel
theorem dX6_undo_57 : decode cX6_undo 57 = .ok (.aload_n 0, 1) := by decide +kernel
theorem dX6_undo_58 : decode cX6_undo 58 = .ok (.getfield 16, 3) := by decide +kernel
theorem dX6_undo_61 : decode cX6_undo 61 = .ok (.iconst 4, 1) := by decide +kernel
theorem dX6_undo_62 : decode cX6_undo 62 = .ok (.iload_n 1, 1) := by decide +kernel
theorem dX6_undo_63 : decode cX6_undo 63 = .ok (.imul, 1) := by decide +kernel
theorem dX6_undo_64 : decode cX6_undo 64 = .ok (.iconst 3, 1) := by decide +kernel
theorem dX6_undo_65 : decode cX6_undo 65 = .ok (.iadd, 1) := by decide +kernel
theorem dX6_undo_66 : decode cX6_undo 66 = .ok (.dup2, 1) := by decide +kernel
theorem dX6_undo_67 : decode cX6_undo 67 = .ok (.iaload, 1) := by decide +kernel
theorem dX6_undo_68 : decode cX6_undo 68 = .ok (.iconst 1, 1) := by decide +kernel
theorem dX6_undo_69 : decode cX6_undo 69 = .ok (.iadd, 1) := by decide +kernel
theorem dX6_undo_70 : decode cX6_undo 70 = .ok (.iastore, 1) := by decide +kernel
theorem dX6_undo_71 : decode cX6_undo 71 = .ok (.iload_n 1, 1) := by decide +kernel
theorem dX6_undo_72 : decode cX6_undo 72 = .ok (.ireturn, 1) := by decide +kernel
theorem dX6_roomFrom_0 : decode cX6_roomFrom 0 = .ok (.iconst 0, 1) := by decide +kernel
theorem dX6_roomFrom_1 : decode cX6_roomFrom 1 = .ok (.istore_n 3, 1) := by decide +kernel
theorem dX6_roomFrom_2 : decode cX6_roomFrom 2 = .ok (.iconst 0, 1) := by decide +kernel
theorem dX6_roomFrom_3 : decode cX6_roomFrom 3 = .ok (.istore 4, 2) := by decide +kernel
theorem dX6_roomFrom_5 : decode cX6_roomFrom 5 = .ok (.iload 4, 2) := by decide +kernel
theorem dX6_roomFrom_7 : decode cX6_roomFrom 7 = .ok (.aload_n 0, 1) := by decide +kernel
theorem dX6_roomFrom_8 : decode cX6_roomFrom 8 = .ok (.getfield 63, 3) := by decide +kernel
theorem dX6_roomFrom_11 : decode cX6_roomFrom 11 = .ok (.if_icmp .ge 45, 3) := by decide +kernel
theorem dX6_roomFrom_14 : decode cX6_roomFrom 14 = .ok (.aload_n 0, 1) := by decide +kernel
theorem dX6_roomFrom_15 : decode cX6_roomFrom 15 = .ok (.iload 4, 2) := by decide +kernel
theorem dX6_roomFrom_17 : decode cX6_roomFrom 17 = .ok (.iload_n 1, 1) := by decide +kernel
theorem dX6_roomFrom_18 : decode cX6_roomFrom 18 = .ok (.invokevirtual 66, 3) := by decide +kernel
theorem dX6_roomFrom_21 : decode cX6_roomFrom 21 = .ok (.ifCond .eq 29, 3) := by decide +kernel
theorem dX6_roomFrom_24 : decode cX6_roomFrom 24 = .ok (.aload_n 0, 1) := by decide +kernel
theorem dX6_roomFrom_25 : decode cX6_roomFrom 25 = .ok (.iload 4, 2) := by decide +kernel
theorem dX6_roomFrom_27 : decode cX6_roomFrom 27 = .ok (.invokevirtual 73, 3) := by decide +kernel
theorem dX6_roomFrom_30 : decode cX6_roomFrom 30 = .ok (.iload_n 2, 1) := by decide +kernel
theorem dX6_roomFrom_31 : decode cX6_roomFrom 31 = .ok (.if_icmp .gt 19, 3) := by decide +kernel
theorem dX6_roomFrom_34 : decode cX6_roomFrom 34 = .ok (.iload_n 3, 1) := by decide +kernel
theorem dX6_roomFrom_35 : decode cX6_roomFrom 35 = .ok (.aload_n 0, 1) := by decide +kernel
theorem dX6_roomFrom_36 : decode cX6_roomFrom 36 = .ok (.iload 4, 2) := by decide +kernel
theorem dX6_roomFrom_38 : decode cX6_roomFrom 38 = .ok (.invokevirtual 73, 3) := by decide +kernel
theorem dX6_roomFrom_41 : decode cX6_roomFrom 41 = .ok (.aload_n 0, 1) := by decide +kernel
theorem dX6_roomFrom_42 : decode cX6_roomFrom 42 = .ok (.getfield 23, 3) := by decide +kernel
theorem dX6_roomFrom_45 : decode cX6_roomFrom 45 = .ok (.iadd, 1) := by decide +kernel
theorem dX6_roomFrom_46 : decode cX6_roomFrom 46 = .ok (.invokestatic 83, 3) := by decide +kernel
theorem dX6_roomFrom_49 : decode cX6_roomFrom 49 = .ok (.istore_n 3, 1) := by decide +kernel
theorem dX6_roomFrom_50 : decode cX6_roomFrom 50 = .ok (.iinc 4 1, 3) := by decide +kernel
theorem dX6_roomFrom_53 : decode cX6_roomFrom 53 = .ok (.goto (-48), 3) := by decide +kernel
theorem dX6_roomFrom_56 : decode cX6_roomFrom 56 = .ok (.iload_n 3, 1) := by decide +kernel
theorem dX6_roomFrom_57 : decode cX6_roomFrom 57 = .ok (.ireturn, 1) := by decide +kernel
theorem dX6_roomTo_0 : decode cX6_roomTo 0 = .ok (.aload_n 0, 1) := by decide +kernel
theorem dX6_roomTo_1 : decode cX6_roomTo 1 = .ok (.iload_n 1, 1) := by decide +kernel
theorem dX6_roomTo_2 : decode cX6_roomTo 2 = .ok (.invokevirtual 57, 3) := by decide +kernel
theorem dX6_roomTo_5 : decode cX6_roomTo 5 = .ok (.istore_n 3, 1) := by decide +kernel
theorem dX6_roomTo_6 : decode cX6_roomTo 6 = .ok (.iconst 0, 1) := by decide +kernel
theorem dX6_roomTo_7 : decode cX6_roomTo 7 = .ok (.istore 4, 2) := by decide +kernel
theorem dX6_roomTo_9 : decode cX6_roomTo 9 = .ok (.iload 4, 2) := by decide +kernel
theorem dX6_roomTo_11 : decode cX6_roomTo 11 = .ok (.aload_n 0, 1) := by decide +kernel
theorem dX6_roomTo_12 : decode cX6_roomTo 12 = .ok (.getfield 63, 3) := by decide +kernel
theorem dX6_roomTo_15 : decode cX6_roomTo 15 = .ok (.if_icmp .ge 45, 3) := by decide +kernel
theorem dX6_roomTo_18 : decode cX6_roomTo 18 = .ok (.aload_n 0, 1) := by decide +kernel
theorem dX6_roomTo_19 : decode cX6_roomTo 19 = .ok (.iload 4, 2) := by decide +kernel
theorem dX6_roomTo_21 : decode cX6_roomTo 21 = .ok (.iload_n 1, 1) := by decide +kernel
theorem dX6_roomTo_22 : decode cX6_roomTo 22 = .ok (.invokevirtual 66, 3) := by decide +kernel
theorem dX6_roomTo_25 : decode cX6_roomTo 25 = .ok (.ifCond .eq 29, 3) := by decide +kernel
theorem dX6_roomTo_28 : decode cX6_roomTo 28 = .ok (.aload_n 0, 1) := by decide +kernel
theorem dX6_roomTo_29 : decode cX6_roomTo 29 = .ok (.iload 4, 2) := by decide +kernel
theorem dX6_roomTo_31 : decode cX6_roomTo 31 = .ok (.invokevirtual 70, 3) := by decide +kernel
theorem dX6_roomTo_34 : decode cX6_roomTo 34 = .ok (.iload_n 2, 1) := by decide +kernel
theorem dX6_roomTo_35 : decode cX6_roomTo 35 = .ok (.if_icmp .le 19, 3) := by decide +kernel
theorem dX6_roomTo_38 : decode cX6_roomTo 38 = .ok (.iload_n 3, 1) := by decide +kernel
theorem dX6_roomTo_39 : decode cX6_roomTo 39 = .ok (.aload_n 0, 1) := by decide +kernel
theorem dX6_roomTo_40 : decode cX6_roomTo 40 = .ok (.iload 4, 2) := by decide +kernel
theorem dX6_roomTo_42 : decode cX6_roomTo 42 = .ok (.invokevirtual 70, 3) := by decide +kernel
theorem dX6_roomTo_45 : decode cX6_roomTo 45 = .ok (.aload_n 0, 1) := by decide +kernel
theorem dX6_roomTo_46 : decode cX6_roomTo 46 = .ok (.getfield 23, 3) := by decide +kernel
theorem dX6_roomTo_49 : decode cX6_roomTo 49 = .ok (.isub, 1) := by decide +kernel
theorem dX6_roomTo_50 : decode cX6_roomTo 50 = .ok (.invokestatic 91, 3) := by decide +kernel
theorem dX6_roomTo_53 : decode cX6_roomTo 53 = .ok (.istore_n 3, 1) := by decide +kernel
theorem dX6_roomTo_54 : decode cX6_roomTo 54 = .ok (.iinc 4 1, 3) := by decide +kernel
theorem dX6_roomTo_57 : decode cX6_roomTo 57 = .ok (.goto (-48), 3) := by decide +kernel
theorem dX6_roomTo_60 : decode cX6_roomTo 60 = .ok (.iload_n 3, 1) := by decide +kernel
theorem dX6_roomTo_61 : decode cX6_roomTo 61 = .ok (.ireturn, 1) := by decide +kernel
theorem dX6_isAhead_0 : decode cX6_isAhead 0 = .ok (.aload_n 0, 1) := by decide +kernel
theorem dX6_isAhead_1 : decode cX6_isAhead 1 = .ok (.iload_n 1, 1) := by decide +kernel
theorem dX6_isAhead_2 : decode cX6_isAhead 2 = .ok (.iconst 0, 1) := by decide +kernel
theorem dX6_isAhead_3 : decode cX6_isAhead 3 = .ok (.invokevirtual 79, 3) := by decide +kernel
theorem dX6_isAhead_6 : decode cX6_isAhead 6 = .ok (.aload_n 0, 1) := by decide +kernel
theorem dX6_isAhead_7 : decode cX6_isAhead 7 = .ok (.iload_n 2, 1) := by decide +kernel
theorem dX6_isAhead_8 : decode cX6_isAhead 8 = .ok (.iconst 0, 1) := by decide +kernel
theorem dX6_isAhead_9 : decode cX6_isAhead 9 = .ok (.invokevirtual 79, 3) := by decide +kernel
theorem dX6_isAhead_12 : decode cX6_isAhead 12 = .ok (.if_icmp .eq 24, 3) := by decide +kernel
theorem dX6_isAhead_15 : decode cX6_isAhead 15 = .ok (.aload_n 0, 1) := by decide +kernel
theorem dX6_isAhead_16 : decode cX6_isAhead 16 = .ok (.iload_n 1, 1) := by decide +kernel
theorem dX6_isAhead_17 : decode cX6_isAhead 17 = .ok (.iconst 0, 1) := by decide +kernel
theorem dX6_isAhead_18 : decode cX6_isAhead 18 = .ok (.invokevirtual 79, 3) := by decide +kernel
theorem dX6_isAhead_21 : decode cX6_isAhead 21 = .ok (.aload_n 0, 1) := by decide +kernel
theorem dX6_isAhead_22 : decode cX6_isAhead 22 = .ok (.iload_n 2, 1) := by decide +kernel
theorem dX6_isAhead_23 : decode cX6_isAhead 23 = .ok (.iconst 0, 1) := by decide +kernel
theorem dX6_isAhead_24 : decode cX6_isAhead 24 = .ok (.invokevirtual 79, 3) := by decide +kernel
theorem dX6_isAhead_27 : decode cX6_isAhead 27 = .ok (.if_icmp .le 7, 3) := by decide +kernel
theorem dX6_isAhead_30 : decode cX6_isAhead 30 = .ok (.iconst 1, 1) := by decide +kernel
theorem dX6_isAhead_31 : decode cX6_isAhead 31 = .ok (.goto 4, 3) := by decide +kernel
theorem dX6_isAhead_34 : decode cX6_isAhead 34 = .ok (.iconst 0, 1) := by decide +kernel
theorem dX6_isAhead_35 : decode cX6_isAhead 35 = .ok (.ireturn, 1) := by decide +kernel
theorem dX6_isAhead_36 : decode cX6_isAhead 36 = .ok (.aload_n 0, 1) := by decide +kernel
theorem dX6_isAhead_37 : decode cX6_isAhead 37 = .ok (.iload_n 1, 1) := by decide +kernel
theorem dX6_isAhead_38 : decode cX6_isAhead 38 = .ok (.iconst 2, 1) := by decide +kernel
theorem dX6_isAhead_39 : decode cX6_isAhead 39 = .ok (.invokevirtual 79, 3) := by decide +kernel
theorem dX6_isAhead_42 : decode cX6_isAhead 42 = .ok (.aload_n 0, 1) := by decide +kernel
theorem dX6_isAhead_43 : decode cX6_isAhead 43 = .ok (.iload_n 2, 1) := by decide +kernel
theorem dX6_isAhead_44 : decode cX6_isAhead 44 = .ok (.iconst 2, 1) := by decide +kernel
theorem dX6_isAhead_45 : decode cX6_isAhead 45 = .ok (.invokevirtual 79, 3) := by decide +kernel
theorem dX6_isAhead_48 : decode cX6_isAhead 48 = .ok (.if_icmp .ge 7, 3) := by decide +kernel
theorem dX6_isAhead_51 : decode cX6_isAhead 51 = .ok (.iconst 1, 1) := by decide +kernel
theorem dX6_isAhead_52 : decode cX6_isAhead 52 = .ok (.goto 4, 3) := by decide +kernel
theorem dX6_isAhead_55 : decode cX6_isAhead 55 = .ok (.iconst 0, 1) := by decide +kernel
theorem dX6_isAhead_56 : decode cX6_isAhead 56 = .ok (.ireturn, 1) := by decide +kernel
theorem dX6_planOne_0 : decode cX6_planOne 0 = .ok (.iconst (-1), 1) := by decide +kernel
theorem dX6_planOne_1 : decode cX6_planOne 1 = .ok (.istore_n 1, 1) := by decide +kernel
theorem dX6_planOne_2 : decode cX6_planOne 2 = .ok (.iconst 0, 1) := by decide +kernel
theorem dX6_planOne_3 : decode cX6_planOne 3 = .ok (.istore_n 2, 1) := by decide +kernel
theorem dX6_planOne_4 : decode cX6_planOne 4 = .ok (.iload_n 2, 1) := by decide +kernel
theorem dX6_planOne_5 : decode cX6_planOne 5 = .ok (.aload_n 0, 1) := by decide +kernel
theorem dX6_planOne_6 : decode cX6_planOne 6 = .ok (.getfield 46, 3) := by decide +kernel
theorem dX6_planOne_9 : decode cX6_planOne 9 = .ok (.if_icmp .ge 79, 3) := by decide +kernel
theorem dX6_planOne_12 : decode cX6_planOne 12 = .ok (.iconst 0, 1) := by decide +kernel
theorem dX6_planOne_13 : decode cX6_planOne 13 = .ok (.istore_n 3, 1) := by decide +kernel
theorem dX6_planOne_14 : decode cX6_planOne 14 = .ok (.iconst 0, 1) := by decide +kernel
theorem dX6_planOne_15 : decode cX6_planOne 15 = .ok (.istore 4, 2) := by decide +kernel
theorem dX6_planOne_17 : decode cX6_planOne 17 = .ok (.iload 4, 2) := by decide +kernel
theorem dX6_planOne_19 : decode cX6_planOne 19 = .ok (.aload_n 0, 1) := by decide +kernel
theorem dX6_planOne_20 : decode cX6_planOne 20 = .ok (.getfield 39, 3) := by decide +kernel
theorem dX6_planOne_23 : decode cX6_planOne 23 = .ok (.if_icmp .ge 39, 3) := by decide +kernel
theorem dX6_planOne_26 : decode cX6_planOne 26 = .ok (.aload_n 0, 1) := by decide +kernel
theorem dX6_planOne_27 : decode cX6_planOne 27 = .ok (.iload_n 2, 1) := by decide +kernel
theorem dX6_planOne_28 : decode cX6_planOne 28 = .ok (.iconst 3, 1) := by decide +kernel
theorem dX6_planOne_29 : decode cX6_planOne 29 = .ok (.invokevirtual 79, 3) := by decide +kernel
theorem dX6_planOne_32 : decode cX6_planOne 32 = .ok (.ifCond .le 30, 3) := by decide +kernel
theorem dX6_planOne_35 : decode cX6_planOne 35 = .ok (.iload_n 3, 1) := by decide +kernel
theorem dX6_planOne_36 : decode cX6_planOne 36 = .ok (.ifCond .ne 26, 3) := by decide +kernel
theorem dX6_planOne_39 : decode cX6_planOne 39 = .ok (.aload_n 0, 1) := by decide +kernel
theorem dX6_planOne_40 : decode cX6_planOne 40 = .ok (.iload_n 2, 1) := by decide +kernel
theorem dX6_planOne_41 : decode cX6_planOne 41 = .ok (.iload 4, 2) := by decide +kernel
theorem dX6_planOne_43 : decode cX6_planOne 43 = .ok (.invokevirtual 121, 3) := by decide +kernel
theorem dX6_planOne_46 : decode cX6_planOne 46 = .ok (.iconst (-1), 1) := by decide +kernel
theorem dX6_planOne_47 : decode cX6_planOne 47 = .ok (.if_icmp .eq 7, 3) := by decide +kernel
theorem dX6_planOne_50 : decode cX6_planOne 50 = .ok (.iconst 1, 1) := by decide +kernel
theorem dX6_planOne_51 : decode cX6_planOne 51 = .ok (.goto 4, 3) := by decide +kernel
theorem dX6_planOne_54 : decode cX6_planOne 54 = .ok (.iconst 0, 1) := by decide +kernel
theorem dX6_planOne_55 : decode cX6_planOne 55 = .ok (.istore_n 3, 1) := by decide +kernel
theorem dX6_planOne_56 : decode cX6_planOne 56 = .ok (.iinc 4 1, 3) := by decide +kernel
theorem dX6_planOne_59 : decode cX6_planOne 59 = .ok (.goto (-42), 3) := by decide +kernel
theorem dX6_planOne_62 : decode cX6_planOne 62 = .ok (.iload_n 3, 1) := by decide +kernel
theorem dX6_planOne_63 : decode cX6_planOne 63 = .ok (.ifCond .eq 19, 3) := by decide +kernel
theorem dX6_planOne_66 : decode cX6_planOne 66 = .ok (.iload_n 1, 1) := by decide +kernel
theorem dX6_planOne_67 : decode cX6_planOne 67 = .ok (.iconst (-1), 1) := by decide +kernel
theorem dX6_planOne_68 : decode cX6_planOne 68 = .ok (.if_icmp .eq 12, 3) := by decide +kernel
theorem dX6_planOne_71 : decode cX6_planOne 71 = .ok (.aload_n 0, 1) := by decide +kernel
theorem dX6_planOne_72 : decode cX6_planOne 72 = .ok (.iload_n 2, 1) := by decide +kernel
theorem dX6_planOne_73 : decode cX6_planOne 73 = .ok (.iload_n 1, 1) := by decide +kernel
theorem dX6_planOne_74 : decode cX6_planOne 74 = .ok (.invokevirtual 131, 3) := by decide +kernel
theorem dX6_planOne_77 : decode cX6_planOne 77 = .ok (.ifCond .eq 5, 3) := by decide +kernel
theorem dX6_planOne_80 : decode cX6_planOne 80 = .ok (.iload_n 2, 1) := by decide +kernel
theorem dX6_planOne_81 : decode cX6_planOne 81 = .ok (.istore_n 1, 1) := by decide +kernel
theorem dX6_planOne_82 : decode cX6_planOne 82 = .ok (.iinc 2 1, 3) := by decide +kernel
theorem dX6_planOne_85 : decode cX6_planOne 85 = .ok (.goto (-81), 3) := by decide +kernel
theorem dX6_planOne_88 : decode cX6_planOne 88 = .ok (.iload_n 1, 1) := by decide +kernel
theorem dX6_planOne_89 : decode cX6_planOne 89 = .ok (.iconst (-1), 1) := by decide +kernel
theorem dX6_planOne_90 : decode cX6_planOne 90 = .ok (.if_icmp .ne 5, 3) := by decide +kernel
theorem dX6_planOne_93 : decode cX6_planOne 93 = .ok (.iconst 0, 1) := by decide +kernel
theorem dX6_planOne_94 : decode cX6_planOne 94 = .ok (.ireturn, 1) := by decide +kernel
theorem dX6_planOne_95 : decode cX6_planOne 95 = .ok (.iconst (-1), 1) := by decide +kernel
theorem dX6_planOne_96 : decode cX6_planOne 96 = .ok (.istore_n 2, 1) := by decide +kernel
theorem dX6_planOne_97 : decode cX6_planOne 97 = .ok (.iconst 0, 1) := by decide +kernel
theorem dX6_planOne_98 : decode cX6_planOne 98 = .ok (.istore_n 3, 1) := by decide +kernel
theorem dX6_planOne_99 : decode cX6_planOne 99 = .ok (.iconst 0, 1) := by decide +kernel
theorem dX6_planOne_100 : decode cX6_planOne 100 = .ok (.istore 4, 2) := by decide +kernel
theorem dX6_planOne_102 : decode cX6_planOne 102 = .ok (.iload 4, 2) := by decide +kernel
theorem dX6_planOne_104 : decode cX6_planOne 104 = .ok (.aload_n 0, 1) := by decide +kernel
theorem dX6_planOne_105 : decode cX6_planOne 105 = .ok (.getfield 39, 3) := by decide +kernel
theorem dX6_planOne_108 : decode cX6_planOne 108 = .ok (.if_icmp .ge 66, 3) := by decide +kernel
theorem dX6_planOne_111 : decode cX6_planOne 111 = .ok (.aload_n 0, 1) := by decide +kernel
theorem dX6_planOne_112 : decode cX6_planOne 112 = .ok (.iload_n 1, 1) := by decide +kernel
theorem dX6_planOne_113 : decode cX6_planOne 113 = .ok (.iload 4, 2) := by decide +kernel
theorem dX6_planOne_115 : decode cX6_planOne 115 = .ok (.invokevirtual 121, 3) := by decide +kernel
theorem dX6_planOne_118 : decode cX6_planOne 118 = .ok (.istore 5, 2) := by decide +kernel
theorem dX6_planOne_120 : decode cX6_planOne 120 = .ok (.iload 5, 2) := by decide +kernel
theorem dX6_planOne_122 : decode cX6_planOne 122 = .ok (.iconst (-1), 1) := by decide +kernel
theorem dX6_planOne_123 : decode cX6_planOne 123 = .ok (.if_icmp .ne 6, 3) := by decide +kernel
theorem dX6_planOne_126 : decode cX6_planOne 126 = .ok (.goto 42, 3) := by decide +kernel
theorem dX6_planOne_129 : decode cX6_planOne 129 = .ok (.aload_n 0, 1) := by decide +kernel
theorem dX6_planOne_130 : decode cX6_planOne 130 = .ok (.iload 4, 2) := by decide +kernel
theorem dX6_planOne_132 : decode cX6_planOne 132 = .ok (.iload 5, 2) := by decide +kernel
theorem dX6_planOne_134 : decode cX6_planOne 134 = .ok (.invokevirtual 134, 3) := by decide +kernel
theorem dX6_planOne_137 : decode cX6_planOne 137 = .ok (.aload_n 0, 1) := by decide +kernel
theorem dX6_planOne_138 : decode cX6_planOne 138 = .ok (.iload 4, 2) := by decide +kernel
theorem dX6_planOne_140 : decode cX6_planOne 140 = .ok (.iload 5, 2) := by decide +kernel
theorem dX6_planOne_142 : decode cX6_planOne 142 = .ok (.invokevirtual 137, 3) := by decide +kernel
theorem dX6_planOne_145 : decode cX6_planOne 145 = .ok (.isub, 1) := by decide +kernel
theorem dX6_planOne_146 : decode cX6_planOne 146 = .ok (.istore 6, 2) := by decide +kernel
theorem dX6_planOne_148 : decode cX6_planOne 148 = .ok (.iload_n 2, 1) := by decide +kernel
theorem dX6_planOne_149 : decode cX6_planOne 149 = .ok (.iconst (-1), 1) := by decide +kernel
theorem dX6_planOne_150 : decode cX6_planOne 150 = .ok (.if_icmp .eq 12, 3) := by decide +kernel
theorem dX6_planOne_153 : decode cX6_planOne 153 = .ok (.iload 6, 2) := by decide +kernel
theorem dX6_planOne_155 : decode cX6_planOne 155 = .ok (.iload_n 3, 1) := by decide +kernel
theorem dX6_planOne_156 : decode cX6_planOne 156 = .ok (.if_icmp .lt 6, 3) := by decide +kernel
theorem dX6_planOne_159 : decode cX6_planOne 159 = .ok (.goto 9, 3) := by decide +kernel
theorem dX6_planOne_162 : decode cX6_planOne 162 = .ok (.iload 4, 2) := by decide +kernel
theorem dX6_planOne_164 : decode cX6_planOne 164 = .ok (.istore_n 2, 1) := by decide +kernel
theorem dX6_planOne_165 : decode cX6_planOne 165 = .ok (.iload 6, 2) := by decide +kernel
theorem dX6_planOne_167 : decode cX6_planOne 167 = .ok (.istore_n 3, 1) := by decide +kernel
theorem dX6_planOne_168 : decode cX6_planOne 168 = .ok (.iinc 4 1, 3) := by decide +kernel
theorem dX6_planOne_171 : decode cX6_planOne 171 = .ok (.goto (-69), 3) := by decide +kernel
theorem dX6_planOne_174 : decode cX6_planOne 174 = .ok (.aload_n 0, 1) := by decide +kernel
theorem dX6_planOne_175 : decode cX6_planOne 175 = .ok (.iload_n 1, 1) := by decide +kernel
theorem dX6_planOne_176 : decode cX6_planOne 176 = .ok (.iload_n 2, 1) := by decide +kernel
theorem dX6_planOne_177 : decode cX6_planOne 177 = .ok (.aload_n 0, 1) := by decide +kernel
theorem dX6_planOne_178 : decode cX6_planOne 178 = .ok (.iload_n 1, 1) := by decide +kernel
theorem dX6_planOne_179 : decode cX6_planOne 179 = .ok (.iload_n 2, 1) := by decide +kernel
theorem dX6_planOne_180 : decode cX6_planOne 180 = .ok (.invokevirtual 121, 3) := by decide +kernel
theorem dX6_planOne_183 : decode cX6_planOne 183 = .ok (.aload_n 0, 1) := by decide +kernel
theorem dX6_planOne_184 : decode cX6_planOne 184 = .ok (.iload_n 1, 1) := by decide +kernel
theorem dX6_planOne_185 : decode cX6_planOne 185 = .ok (.iconst 0, 1) := by decide +kernel
theorem dX6_planOne_186 : decode cX6_planOne 186 = .ok (.invokevirtual 79, 3) := by decide +kernel
theorem dX6_planOne_189 : decode cX6_planOne 189 = .ok (.iconst 0, 1) := by decide +kernel
theorem dX6_planOne_190 : decode cX6_planOne 190 = .ok (.invokevirtual 124, 3) := by decide +kernel
theorem dX6_planOne_193 : decode cX6_planOne 193 = .ok (.aload_n 0, 1) := by decide +kernel
theorem dX6_planOne_194 : decode cX6_planOne 194 = .ok (.iload_n 1, 1) := by decide +kernel
theorem dX6_planOne_195 : decode cX6_planOne 195 = .ok (.invokevirtual 128, 3) := by decide +kernel
theorem dX6_planOne_198 : decode cX6_planOne 198 = .ok (.ifCond .lt 7, 3) := by decide +kernel
theorem dX6_planOne_201 : decode cX6_planOne 201 = .ok (.iconst 1, 1) := by decide +kernel
theorem dX6_planOne_202 : decode cX6_planOne 202 = .ok (.goto 4, 3) := by decide +kernel
theorem dX6_planOne_205 : decode cX6_planOne 205 = .ok (.iconst 0, 1) := by decide +kernel
theorem dX6_planOne_206 : decode cX6_planOne 206 = .ok (.ireturn, 1) := by decide +kernel
theorem dX6_plan_0 : decode cX6_plan 0 = .ok (.aload_n 0, 1) := by decide +kernel
theorem dX6_plan_1 : decode cX6_plan 1 = .ok (.iconst 0, 1) := by decide +kernel
theorem dX6_plan_2 : decode cX6_plan 2 = .ok (.putfield 36, 3) := by decide +kernel
theorem dX6_plan_5 : decode cX6_plan 5 = .ok (.iconst 0, 1) := by decide +kernel
theorem dX6_plan_6 : decode cX6_plan 6 = .ok (.istore_n 1, 1) := by decide +kernel
theorem dX6_plan_7 : decode cX6_plan 7 = .ok (.aload_n 0, 1) := by decide +kernel
theorem dX6_plan_8 : decode cX6_plan 8 = .ok (.invokevirtual 140, 3) := by decide +kernel
theorem dX6_plan_11 : decode cX6_plan 11 = .ok (.ifCond .eq 9, 3) := by decide +kernel
theorem dX6_plan_14 : decode cX6_plan 14 = .ok (.iinc 1 1, 3) := by decide +kernel
theorem dX6_plan_17 : decode cX6_plan 17 = .ok (.goto (-10), 3) := by decide +kernel
theorem dX6_plan_20 : decode cX6_plan 20 = .ok (.iload_n 1, 1) := by decide +kernel
theorem dX6_plan_21 : decode cX6_plan 21 = .ok (.ireturn, 1) := by decide +kernel
theorem dX6_left_0 : decode cX6_left 0 = .ok (.aload_n 0, 1) := by decide +kernel
theorem dX6_left_1 : decode cX6_left 1 = .ok (.iconst 0, 1) := by decide +kernel
theorem dX6_left_2 : decode cX6_left 2 = .ok (.putfield 36, 3) := by decide +kernel
theorem dX6_left_5 : decode cX6_left 5 = .ok (.aload_n 0, 1) := by decide +kernel
theorem dX6_left_6 : decode cX6_left 6 = .ok (.iload_n 1, 1) := by decide +kernel
theorem dX6_left_7 : decode cX6_left 7 = .ok (.invokevirtual 114, 3) := by decide +kernel
theorem dX6_left_10 : decode cX6_left 10 = .ok (.ifCond .eq 12, 3) := by decide +kernel
theorem dX6_left_13 : decode cX6_left 13 = .ok (.aload_n 0, 1) := by decide +kernel
theorem dX6_left_14 : decode cX6_left 14 = .ok (.iload_n 1, 1) := by decide +kernel
theorem dX6_left_15 : decode cX6_left 15 = .ok (.iconst 3, 1) := by decide +kernel
theorem dX6_left_16 : decode cX6_left 16 = .ok (.invokevirtual 79, 3) := by decide +kernel
theorem dX6_left_19 : decode cX6_left 19 = .ok (.goto 8, 3) := by decide +kernel
theorem dX6_left_22 : decode cX6_left 22 = .ok (.aload_n 0, 1) := by decide +kernel
theorem dX6_left_23 : decode cX6_left 23 = .ok (.iconst 1, 1) := by decide +kernel
theorem dX6_left_24 : decode cX6_left 24 = .ok (.invokevirtual 49, 3) := by decide +kernel
theorem dX6_left_27 : decode cX6_left 27 = .ok (.ireturn, 1) := by decide +kernel
theorem dX6_piecesOf_0 : decode cX6_piecesOf 0 = .ok (.iconst 0, 1) := by decide +kernel
theorem dX6_piecesOf_1 : decode cX6_piecesOf 1 = .ok (.istore_n 2, 1) := by decide +kernel
theorem dX6_piecesOf_2 : decode cX6_piecesOf 2 = .ok (.iconst 0, 1) := by decide +kernel
theorem dX6_piecesOf_3 : decode cX6_piecesOf 3 = .ok (.istore_n 3, 1) := by decide +kernel
theorem dX6_piecesOf_4 : decode cX6_piecesOf 4 = .ok (.iload_n 3, 1) := by decide +kernel
theorem dX6_piecesOf_5 : decode cX6_piecesOf 5 = .ok (.aload_n 0, 1) := by decide +kernel
theorem dX6_piecesOf_6 : decode cX6_piecesOf 6 = .ok (.getfield 63, 3) := by decide +kernel
theorem dX6_piecesOf_9 : decode cX6_piecesOf 9 = .ok (.if_icmp .ge 26, 3) := by decide +kernel
theorem dX6_piecesOf_12 : decode cX6_piecesOf 12 = .ok (.iload_n 2, 1) := by decide +kernel
theorem dX6_piecesOf_13 : decode cX6_piecesOf 13 = .ok (.aload_n 0, 1) := by decide +kernel
theorem dX6_piecesOf_14 : decode cX6_piecesOf 14 = .ok (.iload_n 3, 1) := by decide +kernel
theorem dX6_piecesOf_15 : decode cX6_piecesOf 15 = .ok (.iload_n 1, 1) := by decide +kernel
theorem dX6_piecesOf_16 : decode cX6_piecesOf 16 = .ok (.invokevirtual 66, 3) := by decide +kernel
theorem dX6_piecesOf_19 : decode cX6_piecesOf 19 = .ok (.ifCond .eq 7, 3) := by decide +kernel
theorem dX6_piecesOf_22 : decode cX6_piecesOf 22 = .ok (.iconst 1, 1) := by decide +kernel
theorem dX6_piecesOf_23 : decode cX6_piecesOf 23 = .ok (.goto 4, 3) := by decide +kernel
theorem dX6_piecesOf_26 : decode cX6_piecesOf 26 = .ok (.iconst 0, 1) := by decide +kernel
theorem dX6_piecesOf_27 : decode cX6_piecesOf 27 = .ok (.iadd, 1) := by decide +kernel
theorem dX6_piecesOf_28 : decode cX6_piecesOf 28 = .ok (.istore_n 2, 1) := by decide +kernel
theorem dX6_piecesOf_29 : decode cX6_piecesOf 29 = .ok (.iinc 3 1, 3) := by decide +kernel
theorem dX6_piecesOf_32 : decode cX6_piecesOf 32 = .ok (.goto (-28), 3) := by decide +kernel
theorem dX6_piecesOf_35 : decode cX6_piecesOf 35 = .ok (.iload_n 2, 1) := by decide +kernel
theorem dX6_piecesOf_36 : decode cX6_piecesOf 36 = .ok (.ireturn, 1) := by decide +kernel
theorem dX6_pieces_0 : decode cX6_pieces 0 = .ok (.aload_n 0, 1) := by decide +kernel
theorem dX6_pieces_1 : decode cX6_pieces 1 = .ok (.iconst 0, 1) := by decide +kernel
theorem dX6_pieces_2 : decode cX6_pieces 2 = .ok (.putfield 36, 3) := by decide +kernel
theorem dX6_pieces_5 : decode cX6_pieces 5 = .ok (.aload_n 0, 1) := by decide +kernel
theorem dX6_pieces_6 : decode cX6_pieces 6 = .ok (.iload_n 1, 1) := by decide +kernel
theorem dX6_pieces_7 : decode cX6_pieces 7 = .ok (.invokevirtual 53, 3) := by decide +kernel
theorem dX6_pieces_10 : decode cX6_pieces 10 = .ok (.ifCond .eq 11, 3) := by decide +kernel
theorem dX6_pieces_13 : decode cX6_pieces 13 = .ok (.aload_n 0, 1) := by decide +kernel
theorem dX6_pieces_14 : decode cX6_pieces 14 = .ok (.iload_n 1, 1) := by decide +kernel
theorem dX6_pieces_15 : decode cX6_pieces 15 = .ok (.invokevirtual 144, 3) := by decide +kernel
theorem dX6_pieces_18 : decode cX6_pieces 18 = .ok (.goto 8, 3) := by decide +kernel
theorem dX6_pieces_21 : decode cX6_pieces 21 = .ok (.aload_n 0, 1) := by decide +kernel
theorem dX6_pieces_22 : decode cX6_pieces 22 = .ok (.iconst 1, 1) := by decide +kernel
theorem dX6_pieces_23 : decode cX6_pieces 23 = .ok (.invokevirtual 49, 3) := by decide +kernel
theorem dX6_pieces_26 : decode cX6_pieces 26 = .ok (.ireturn, 1) := by decide +kernel
theorem dX6_pieceFrom_0 : decode cX6_pieceFrom 0 = .ok (.iconst (-1), 1) := by decide +kernel
theorem dX6_pieceFrom_1 : decode cX6_pieceFrom 1 = .ok (.istore_n 3, 1) := by decide +kernel
theorem dX6_pieceFrom_2 : decode cX6_pieceFrom 2 = .ok (.iconst 0, 1) := by decide +kernel
theorem dX6_pieceFrom_3 : decode cX6_pieceFrom 3 = .ok (.istore 4, 2) := by decide +kernel
theorem dX6_pieceFrom_5 : decode cX6_pieceFrom 5 = .ok (.iload 4, 2) := by decide +kernel
theorem dX6_pieceFrom_7 : decode cX6_pieceFrom 7 = .ok (.aload_n 0, 1) := by decide +kernel
theorem dX6_pieceFrom_8 : decode cX6_pieceFrom 8 = .ok (.getfield 63, 3) := by decide +kernel
theorem dX6_pieceFrom_11 : decode cX6_pieceFrom 11 = .ok (.if_icmp .ge 51, 3) := by decide +kernel
theorem dX6_pieceFrom_14 : decode cX6_pieceFrom 14 = .ok (.aload_n 0, 1) := by decide +kernel
theorem dX6_pieceFrom_15 : decode cX6_pieceFrom 15 = .ok (.iload 4, 2) := by decide +kernel
theorem dX6_pieceFrom_17 : decode cX6_pieceFrom 17 = .ok (.iload_n 1, 1) := by decide +kernel
theorem dX6_pieceFrom_18 : decode cX6_pieceFrom 18 = .ok (.invokevirtual 66, 3) := by decide +kernel
theorem dX6_pieceFrom_21 : decode cX6_pieceFrom 21 = .ok (.ifCond .eq 35, 3) := by decide +kernel
theorem dX6_pieceFrom_24 : decode cX6_pieceFrom 24 = .ok (.aload_n 0, 1) := by decide +kernel
theorem dX6_pieceFrom_25 : decode cX6_pieceFrom 25 = .ok (.iload 4, 2) := by decide +kernel
theorem dX6_pieceFrom_27 : decode cX6_pieceFrom 27 = .ok (.invokevirtual 70, 3) := by decide +kernel
theorem dX6_pieceFrom_30 : decode cX6_pieceFrom 30 = .ok (.iload_n 2, 1) := by decide +kernel
theorem dX6_pieceFrom_31 : decode cX6_pieceFrom 31 = .ok (.if_icmp .lt 25, 3) := by decide +kernel
theorem dX6_pieceFrom_34 : decode cX6_pieceFrom 34 = .ok (.iload_n 3, 1) := by decide +kernel
theorem dX6_pieceFrom_35 : decode cX6_pieceFrom 35 = .ok (.iconst (-1), 1) := by decide +kernel
theorem dX6_pieceFrom_36 : decode cX6_pieceFrom 36 = .ok (.if_icmp .eq 17, 3) := by decide +kernel
theorem dX6_pieceFrom_39 : decode cX6_pieceFrom 39 = .ok (.aload_n 0, 1) := by decide +kernel
theorem dX6_pieceFrom_40 : decode cX6_pieceFrom 40 = .ok (.iload 4, 2) := by decide +kernel
theorem dX6_pieceFrom_42 : decode cX6_pieceFrom 42 = .ok (.invokevirtual 70, 3) := by decide +kernel
theorem dX6_pieceFrom_45 : decode cX6_pieceFrom 45 = .ok (.aload_n 0, 1) := by decide +kernel
theorem dX6_pieceFrom_46 : decode cX6_pieceFrom 46 = .ok (.iload_n 3, 1) := by decide +kernel
theorem dX6_pieceFrom_47 : decode cX6_pieceFrom 47 = .ok (.invokevirtual 70, 3) := by decide +kernel
theorem dX6_pieceFrom_50 : decode cX6_pieceFrom 50 = .ok (.if_icmp .ge 6, 3) := by decide +kernel
theorem dX6_pieceFrom_53 : decode cX6_pieceFrom 53 = .ok (.iload 4, 2) := by decide +kernel
theorem dX6_pieceFrom_55 : decode cX6_pieceFrom 55 = .ok (.istore_n 3, 1) := by decide +kernel
theorem dX6_pieceFrom_56 : decode cX6_pieceFrom 56 = .ok (.iinc 4 1, 3) := by decide +kernel
theorem dX6_pieceFrom_59 : decode cX6_pieceFrom 59 = .ok (.goto (-54), 3) := by decide +kernel
theorem dX6_pieceFrom_62 : decode cX6_pieceFrom 62 = .ok (.iload_n 3, 1) := by decide +kernel
theorem dX6_pieceFrom_63 : decode cX6_pieceFrom 63 = .ok (.ireturn, 1) := by decide +kernel
theorem dX6_told_0 : decode cX6_told 0 = .ok (.iload_n 2, 1) := by decide +kernel
theorem dX6_told_1 : decode cX6_told 1 = .ok (.ifCond .ne 11, 3) := by decide +kernel
theorem dX6_told_4 : decode cX6_told 4 = .ok (.aload_n 0, 1) := by decide +kernel
theorem dX6_told_5 : decode cX6_told 5 = .ok (.iload_n 1, 1) := by decide +kernel
theorem dX6_told_6 : decode cX6_told 6 = .ok (.invokevirtual 76, 3) := by decide +kernel
theorem dX6_told_9 : decode cX6_told 9 = .ok (.goto 35, 3) := by decide +kernel
theorem dX6_told_12 : decode cX6_told 12 = .ok (.iload_n 2, 1) := by decide +kernel
theorem dX6_told_13 : decode cX6_told 13 = .ok (.iconst 3, 1) := by decide +kernel
theorem dX6_told_14 : decode cX6_told 14 = .ok (.if_icmp .ge 16, 3) := by decide +kernel
theorem dX6_told_17 : decode cX6_told 17 = .ok (.aload_n 0, 1) := by decide +kernel
theorem dX6_told_18 : decode cX6_told 18 = .ok (.getfield 30, 3) := by decide +kernel
theorem dX6_told_21 : decode cX6_told 21 = .ok (.iconst 4, 1) := by decide +kernel
theorem dX6_told_22 : decode cX6_told 22 = .ok (.iload_n 1, 1) := by decide +kernel
theorem dX6_told_23 : decode cX6_told 23 = .ok (.imul, 1) := by decide +kernel
theorem dX6_told_24 : decode cX6_told 24 = .ok (.iload_n 2, 1) := by decide +kernel
theorem dX6_told_25 : decode cX6_told 25 = .ok (.iadd, 1) := by decide +kernel
theorem dX6_told_26 : decode cX6_told 26 = .ok (.iaload, 1) := by decide +kernel
theorem dX6_told_27 : decode cX6_told 27 = .ok (.goto 17, 3) := by decide +kernel
theorem dX6_told_30 : decode cX6_told 30 = .ok (.aload_n 0, 1) := by decide +kernel
theorem dX6_told_31 : decode cX6_told 31 = .ok (.getfield 33, 3) := by decide +kernel
theorem dX6_told_34 : decode cX6_told 34 = .ok (.iload_n 1, 1) := by decide +kernel
theorem dX6_told_35 : decode cX6_told 35 = .ok (.baload, 1) := by decide +kernel
theorem dX6_told_36 : decode cX6_told 36 = .ok (.ifCond .eq 7, 3) := by decide +kernel
theorem dX6_told_39 : decode cX6_told 39 = .ok (.iconst 1, 1) := by decide +kernel
theorem dX6_told_40 : decode cX6_told 40 = .ok (.goto 4, 3) := by decide +kernel
theorem dX6_told_43 : decode cX6_told 43 = .ok (.iconst 0, 1) := by decide +kernel
theorem dX6_told_44 : decode cX6_told 44 = .ok (.ireturn, 1) := by decide +kernel
theorem dX6_piece_0 : decode cX6_piece 0 = .ok (.aload_n 0, 1) := by decide +kernel
theorem dX6_piece_1 : decode cX6_piece 1 = .ok (.iconst 0, 1) := by decide +kernel
theorem dX6_piece_2 : decode cX6_piece 2 = .ok (.putfield 36, 3) := by decide +kernel
theorem dX6_piece_5 : decode cX6_piece 5 = .ok (.aload_n 0, 1) := by decide +kernel
theorem dX6_piece_6 : decode cX6_piece 6 = .ok (.iload_n 1, 1) := by decide +kernel
theorem dX6_piece_7 : decode cX6_piece 7 = .ok (.invokevirtual 53, 3) := by decide +kernel
theorem dX6_piece_10 : decode cX6_piece 10 = .ok (.ifCond .eq 27, 3) := by decide +kernel
theorem dX6_piece_13 : decode cX6_piece 13 = .ok (.iload_n 2, 1) := by decide +kernel
theorem dX6_piece_14 : decode cX6_piece 14 = .ok (.iconst 0, 1) := by decide +kernel
theorem dX6_piece_15 : decode cX6_piece 15 = .ok (.aload_n 0, 1) := by decide +kernel
theorem dX6_piece_16 : decode cX6_piece 16 = .ok (.iload_n 1, 1) := by decide +kernel
theorem dX6_piece_17 : decode cX6_piece 17 = .ok (.invokevirtual 144, 3) := by decide +kernel
theorem dX6_piece_20 : decode cX6_piece 20 = .ok (.iconst 1, 1) := by decide +kernel
theorem dX6_piece_21 : decode cX6_piece 21 = .ok (.isub, 1) := by decide +kernel
theorem dX6_piece_22 : decode cX6_piece 22 = .ok (.invokestatic 42, 3) := by decide +kernel
theorem dX6_piece_25 : decode cX6_piece 25 = .ok (.ifCond .eq 12, 3) := by decide +kernel
theorem dX6_piece_28 : decode cX6_piece 28 = .ok (.iload_n 3, 1) := by decide +kernel
theorem dX6_piece_29 : decode cX6_piece 29 = .ok (.iconst 0, 1) := by decide +kernel
theorem dX6_piece_30 : decode cX6_piece 30 = .ok (.iconst 3, 1) := by decide +kernel
theorem dX6_piece_31 : decode cX6_piece 31 = .ok (.invokestatic 42, 3) := by decide +kernel
theorem dX6_piece_34 : decode cX6_piece 34 = .ok (.ifCond .ne 9, 3) := by decide +kernel
theorem dX6_piece_37 : decode cX6_piece 37 = .ok (.aload_n 0, 1) := by decide +kernel
theorem dX6_piece_38 : decode cX6_piece 38 = .ok (.iconst 1, 1) := by decide +kernel
theorem dX6_piece_39 : decode cX6_piece 39 = .ok (.invokevirtual 49, 3) := by decide +kernel
theorem dX6_piece_42 : decode cX6_piece 42 = .ok (.ireturn, 1) := by decide +kernel
theorem dX6_piece_43 : decode cX6_piece 43 = .ok (.aload_n 0, 1) := by decide +kernel
theorem dX6_piece_44 : decode cX6_piece 44 = .ok (.iload_n 1, 1) := by decide +kernel
theorem dX6_piece_45 : decode cX6_piece 45 = .ok (.iconst 0, 1) := by decide +kernel
theorem dX6_piece_46 : decode cX6_piece 46 = .ok (.invokevirtual 147, 3) := by decide +kernel
theorem dX6_piece_49 : decode cX6_piece 49 = .ok (.istore 4, 2) := by decide +kernel
theorem dX6_piece_51 : decode cX6_piece 51 = .ok (.iconst 0, 1) := by decide +kernel
theorem dX6_piece_52 : decode cX6_piece 52 = .ok (.istore 5, 2) := by decide +kernel
theorem dX6_piece_54 : decode cX6_piece 54 = .ok (.iload 5, 2) := by decide +kernel
theorem dX6_piece_56 : decode cX6_piece 56 = .ok (.iload_n 2, 1) := by decide +kernel
theorem dX6_piece_57 : decode cX6_piece 57 = .ok (.if_icmp .ge 22, 3) := by decide +kernel
theorem dX6_piece_60 : decode cX6_piece 60 = .ok (.aload_n 0, 1) := by decide +kernel
theorem dX6_piece_61 : decode cX6_piece 61 = .ok (.iload_n 1, 1) := by decide +kernel
theorem dX6_piece_62 : decode cX6_piece 62 = .ok (.aload_n 0, 1) := by decide +kernel
theorem dX6_piece_63 : decode cX6_piece 63 = .ok (.iload 4, 2) := by decide +kernel
theorem dX6_piece_65 : decode cX6_piece 65 = .ok (.invokevirtual 73, 3) := by decide +kernel
theorem dX6_piece_68 : decode cX6_piece 68 = .ok (.invokevirtual 147, 3) := by decide +kernel
theorem dX6_piece_71 : decode cX6_piece 71 = .ok (.istore 4, 2) := by decide +kernel
theorem dX6_piece_73 : decode cX6_piece 73 = .ok (.iinc 5 1, 3) := by decide +kernel
theorem dX6_piece_76 : decode cX6_piece 76 = .ok (.goto (-22), 3) := by decide +kernel
theorem dX6_piece_79 : decode cX6_piece 79 = .ok (.aload_n 0, 1) := by decide +kernel
theorem dX6_piece_80 : decode cX6_piece 80 = .ok (.iload 4, 2) := by decide +kernel
theorem dX6_piece_82 : decode cX6_piece 82 = .ok (.iload_n 3, 1) := by decide +kernel
theorem dX6_piece_83 : decode cX6_piece 83 = .ok (.invokevirtual 150, 3) := by decide +kernel
theorem dX6_piece_86 : decode cX6_piece 86 = .ok (.ireturn, 1) := by decide +kernel
theorem dX6_cuts_0 : decode cX6_cuts 0 = .ok (.aload_n 0, 1) := by decide +kernel
theorem dX6_cuts_1 : decode cX6_cuts 1 = .ok (.iconst 0, 1) := by decide +kernel
theorem dX6_cuts_2 : decode cX6_cuts 2 = .ok (.putfield 36, 3) := by decide +kernel
theorem dX6_cuts_5 : decode cX6_cuts 5 = .ok (.aload_n 0, 1) := by decide +kernel
theorem dX6_cuts_6 : decode cX6_cuts 6 = .ok (.iload_n 1, 1) := by decide +kernel
theorem dX6_cuts_7 : decode cX6_cuts 7 = .ok (.invokevirtual 53, 3) := by decide +kernel
theorem dX6_cuts_10 : decode cX6_cuts 10 = .ok (.ifCond .ne 9, 3) := by decide +kernel
theorem dX6_cuts_13 : decode cX6_cuts 13 = .ok (.aload_n 0, 1) := by decide +kernel
theorem dX6_cuts_14 : decode cX6_cuts 14 = .ok (.iconst 1, 1) := by decide +kernel
theorem dX6_cuts_15 : decode cX6_cuts 15 = .ok (.invokevirtual 49, 3) := by decide +kernel
theorem dX6_cuts_18 : decode cX6_cuts 18 = .ok (.ireturn, 1) := by decide +kernel
theorem dX6_cuts_19 : decode cX6_cuts 19 = .ok (.iconst 0, 1) := by decide +kernel
theorem dX6_cuts_20 : decode cX6_cuts 20 = .ok (.istore_n 2, 1) := by decide +kernel
theorem dX6_cuts_21 : decode cX6_cuts 21 = .ok (.iconst (-1), 1) := by decide +kernel
theorem dX6_cuts_22 : decode cX6_cuts 22 = .ok (.istore_n 3, 1) := by decide +kernel
theorem dX6_cuts_23 : decode cX6_cuts 23 = .ok (.aload_n 0, 1) := by decide +kernel
theorem dX6_cuts_24 : decode cX6_cuts 24 = .ok (.iload_n 1, 1) := by decide +kernel
theorem dX6_cuts_25 : decode cX6_cuts 25 = .ok (.iconst 0, 1) := by decide +kernel
theorem dX6_cuts_26 : decode cX6_cuts 26 = .ok (.invokevirtual 147, 3) := by decide +kernel
theorem dX6_cuts_29 : decode cX6_cuts 29 = .ok (.istore 4, 2) := by decide +kernel
theorem dX6_cuts_31 : decode cX6_cuts 31 = .ok (.iload 4, 2) := by decide +kernel
theorem dX6_cuts_33 : decode cX6_cuts 33 = .ok (.iconst (-1), 1) := by decide +kernel
theorem dX6_cuts_34 : decode cX6_cuts 34 = .ok (.if_icmp .eq 75, 3) := by decide +kernel
theorem dX6_cuts_37 : decode cX6_cuts 37 = .ok (.aload_n 0, 1) := by decide +kernel
theorem dX6_cuts_38 : decode cX6_cuts 38 = .ok (.iload 4, 2) := by decide +kernel
theorem dX6_cuts_40 : decode cX6_cuts 40 = .ok (.invokevirtual 70, 3) := by decide +kernel
theorem dX6_cuts_43 : decode cX6_cuts 43 = .ok (.ifCond .le 30, 3) := by decide +kernel
theorem dX6_cuts_46 : decode cX6_cuts 46 = .ok (.iload_n 3, 1) := by decide +kernel
theorem dX6_cuts_47 : decode cX6_cuts 47 = .ok (.iconst (-1), 1) := by decide +kernel
theorem dX6_cuts_48 : decode cX6_cuts 48 = .ok (.if_icmp .eq 22, 3) := by decide +kernel
theorem dX6_cuts_51 : decode cX6_cuts 51 = .ok (.aload_n 0, 1) := by decide +kernel
theorem dX6_cuts_52 : decode cX6_cuts 52 = .ok (.iload 4, 2) := by decide +kernel
theorem dX6_cuts_54 : decode cX6_cuts 54 = .ok (.invokevirtual 70, 3) := by decide +kernel
theorem dX6_cuts_57 : decode cX6_cuts 57 = .ok (.aload_n 0, 1) := by decide +kernel
theorem dX6_cuts_58 : decode cX6_cuts 58 = .ok (.iload_n 3, 1) := by decide +kernel
theorem dX6_cuts_59 : decode cX6_cuts 59 = .ok (.invokevirtual 73, 3) := by decide +kernel
theorem dX6_cuts_62 : decode cX6_cuts 62 = .ok (.isub, 1) := by decide +kernel
theorem dX6_cuts_63 : decode cX6_cuts 63 = .ok (.aload_n 0, 1) := by decide +kernel
theorem dX6_cuts_64 : decode cX6_cuts 64 = .ok (.getfield 23, 3) := by decide +kernel
theorem dX6_cuts_67 : decode cX6_cuts 67 = .ok (.if_icmp .eq 6, 3) := by decide +kernel
theorem dX6_cuts_70 : decode cX6_cuts 70 = .ok (.iinc 2 1, 3) := by decide +kernel
theorem dX6_cuts_73 : decode cX6_cuts 73 = .ok (.aload_n 0, 1) := by decide +kernel
theorem dX6_cuts_74 : decode cX6_cuts 74 = .ok (.iload 4, 2) := by decide +kernel
theorem dX6_cuts_76 : decode cX6_cuts 76 = .ok (.invokevirtual 73, 3) := by decide +kernel
theorem dX6_cuts_79 : decode cX6_cuts 79 = .ok (.aload_n 0, 1) := by decide +kernel
theorem dX6_cuts_80 : decode cX6_cuts 80 = .ok (.iload_n 1, 1) := by decide +kernel
theorem dX6_cuts_81 : decode cX6_cuts 81 = .ok (.invokevirtual 57, 3) := by decide +kernel
theorem dX6_cuts_84 : decode cX6_cuts 84 = .ok (.if_icmp .ge 6, 3) := by decide +kernel
theorem dX6_cuts_87 : decode cX6_cuts 87 = .ok (.iinc 2 1, 3) := by decide +kernel
theorem dX6_cuts_90 : decode cX6_cuts 90 = .ok (.iload 4, 2) := by decide +kernel
theorem dX6_cuts_92 : decode cX6_cuts 92 = .ok (.istore_n 3, 1) := by decide +kernel
theorem dX6_cuts_93 : decode cX6_cuts 93 = .ok (.aload_n 0, 1) := by decide +kernel
theorem dX6_cuts_94 : decode cX6_cuts 94 = .ok (.iload_n 1, 1) := by decide +kernel
theorem dX6_cuts_95 : decode cX6_cuts 95 = .ok (.aload_n 0, 1) := by decide +kernel
theorem dX6_cuts_96 : decode cX6_cuts 96 = .ok (.iload 4, 2) := by decide +kernel
theorem dX6_cuts_98 : decode cX6_cuts 98 = .ok (.invokevirtual 73, 3) := by decide +kernel
theorem dX6_cuts_101 : decode cX6_cuts 101 = .ok (.invokevirtual 147, 3) := by decide +kernel
theorem dX6_cuts_104 : decode cX6_cuts 104 = .ok (.istore 4, 2) := by decide +kernel
theorem dX6_cuts_106 : decode cX6_cuts 106 = .ok (.goto (-75), 3) := by decide +kernel
theorem dX6_cuts_109 : decode cX6_cuts 109 = .ok (.iload_n 2, 1) := by decide +kernel
theorem dX6_cuts_110 : decode cX6_cuts 110 = .ok (.ireturn, 1) := by decide +kernel
theorem dX6_longestRoom_0 : decode cX6_longestRoom 0 = .ok (.aload_n 0, 1) := by decide +kernel
theorem dX6_longestRoom_1 : decode cX6_longestRoom 1 = .ok (.iconst 0, 1) := by decide +kernel
theorem dX6_longestRoom_2 : decode cX6_longestRoom 2 = .ok (.putfield 36, 3) := by decide +kernel
theorem dX6_longestRoom_5 : decode cX6_longestRoom 5 = .ok (.aload_n 0, 1) := by decide +kernel
theorem dX6_longestRoom_6 : decode cX6_longestRoom 6 = .ok (.iload_n 1, 1) := by decide +kernel
theorem dX6_longestRoom_7 : decode cX6_longestRoom 7 = .ok (.invokevirtual 53, 3) := by decide +kernel
theorem dX6_longestRoom_10 : decode cX6_longestRoom 10 = .ok (.ifCond .ne 9, 3) := by decide +kernel
theorem dX6_longestRoom_13 : decode cX6_longestRoom 13 = .ok (.aload_n 0, 1) := by decide +kernel
theorem dX6_longestRoom_14 : decode cX6_longestRoom 14 = .ok (.iconst 1, 1) := by decide +kernel
theorem dX6_longestRoom_15 : decode cX6_longestRoom 15 = .ok (.invokevirtual 49, 3) := by decide +kernel
theorem dX6_longestRoom_18 : decode cX6_longestRoom 18 = .ok (.ireturn, 1) := by decide +kernel
theorem dX6_longestRoom_19 : decode cX6_longestRoom 19 = .ok (.iconst 0, 1) := by decide +kernel
theorem dX6_longestRoom_20 : decode cX6_longestRoom 20 = .ok (.istore_n 2, 1) := by decide +kernel
theorem dX6_longestRoom_21 : decode cX6_longestRoom 21 = .ok (.iconst 0, 1) := by decide +kernel
theorem dX6_longestRoom_22 : decode cX6_longestRoom 22 = .ok (.istore_n 3, 1) := by decide +kernel
theorem dX6_longestRoom_23 : decode cX6_longestRoom 23 = .ok (.aload_n 0, 1) := by decide +kernel
theorem dX6_longestRoom_24 : decode cX6_longestRoom 24 = .ok (.iload_n 1, 1) := by decide +kernel
theorem dX6_longestRoom_25 : decode cX6_longestRoom 25 = .ok (.iconst 0, 1) := by decide +kernel
theorem dX6_longestRoom_26 : decode cX6_longestRoom 26 = .ok (.invokevirtual 147, 3) := by decide +kernel
theorem dX6_longestRoom_29 : decode cX6_longestRoom 29 = .ok (.istore 4, 2) := by decide +kernel
theorem dX6_longestRoom_31 : decode cX6_longestRoom 31 = .ok (.iload 4, 2) := by decide +kernel
theorem dX6_longestRoom_33 : decode cX6_longestRoom 33 = .ok (.iconst (-1), 1) := by decide +kernel
theorem dX6_longestRoom_34 : decode cX6_longestRoom 34 = .ok (.if_icmp .eq 49, 3) := by decide +kernel
theorem dX6_longestRoom_37 : decode cX6_longestRoom 37 = .ok (.iload_n 2, 1) := by decide +kernel
theorem dX6_longestRoom_38 : decode cX6_longestRoom 38 = .ok (.aload_n 0, 1) := by decide +kernel
theorem dX6_longestRoom_39 : decode cX6_longestRoom 39 = .ok (.iload 4, 2) := by decide +kernel
theorem dX6_longestRoom_41 : decode cX6_longestRoom 41 = .ok (.invokevirtual 70, 3) := by decide +kernel
theorem dX6_longestRoom_44 : decode cX6_longestRoom 44 = .ok (.aload_n 0, 1) := by decide +kernel
theorem dX6_longestRoom_45 : decode cX6_longestRoom 45 = .ok (.getfield 23, 3) := by decide +kernel
theorem dX6_longestRoom_48 : decode cX6_longestRoom 48 = .ok (.isub, 1) := by decide +kernel
theorem dX6_longestRoom_49 : decode cX6_longestRoom 49 = .ok (.iload_n 3, 1) := by decide +kernel
theorem dX6_longestRoom_50 : decode cX6_longestRoom 50 = .ok (.isub, 1) := by decide +kernel
theorem dX6_longestRoom_51 : decode cX6_longestRoom 51 = .ok (.invokestatic 83, 3) := by decide +kernel
theorem dX6_longestRoom_54 : decode cX6_longestRoom 54 = .ok (.istore_n 2, 1) := by decide +kernel
theorem dX6_longestRoom_55 : decode cX6_longestRoom 55 = .ok (.aload_n 0, 1) := by decide +kernel
theorem dX6_longestRoom_56 : decode cX6_longestRoom 56 = .ok (.iload 4, 2) := by decide +kernel
theorem dX6_longestRoom_58 : decode cX6_longestRoom 58 = .ok (.invokevirtual 73, 3) := by decide +kernel
theorem dX6_longestRoom_61 : decode cX6_longestRoom 61 = .ok (.aload_n 0, 1) := by decide +kernel
theorem dX6_longestRoom_62 : decode cX6_longestRoom 62 = .ok (.getfield 23, 3) := by decide +kernel
theorem dX6_longestRoom_65 : decode cX6_longestRoom 65 = .ok (.iadd, 1) := by decide +kernel
theorem dX6_longestRoom_66 : decode cX6_longestRoom 66 = .ok (.istore_n 3, 1) := by decide +kernel
theorem dX6_longestRoom_67 : decode cX6_longestRoom 67 = .ok (.aload_n 0, 1) := by decide +kernel
theorem dX6_longestRoom_68 : decode cX6_longestRoom 68 = .ok (.iload_n 1, 1) := by decide +kernel
theorem dX6_longestRoom_69 : decode cX6_longestRoom 69 = .ok (.aload_n 0, 1) := by decide +kernel
theorem dX6_longestRoom_70 : decode cX6_longestRoom 70 = .ok (.iload 4, 2) := by decide +kernel
theorem dX6_longestRoom_72 : decode cX6_longestRoom 72 = .ok (.invokevirtual 73, 3) := by decide +kernel
theorem dX6_longestRoom_75 : decode cX6_longestRoom 75 = .ok (.invokevirtual 147, 3) := by decide +kernel
theorem dX6_longestRoom_78 : decode cX6_longestRoom 78 = .ok (.istore 4, 2) := by decide +kernel
theorem dX6_longestRoom_80 : decode cX6_longestRoom 80 = .ok (.goto (-49), 3) := by decide +kernel
theorem dX6_longestRoom_83 : decode cX6_longestRoom 83 = .ok (.iload_n 2, 1) := by decide +kernel
theorem dX6_longestRoom_84 : decode cX6_longestRoom 84 = .ok (.aload_n 0, 1) := by decide +kernel
theorem dX6_longestRoom_85 : decode cX6_longestRoom 85 = .ok (.iload_n 1, 1) := by decide +kernel
theorem dX6_longestRoom_86 : decode cX6_longestRoom 86 = .ok (.invokevirtual 57, 3) := by decide +kernel
theorem dX6_longestRoom_89 : decode cX6_longestRoom 89 = .ok (.iload_n 3, 1) := by decide +kernel
theorem dX6_longestRoom_90 : decode cX6_longestRoom 90 = .ok (.isub, 1) := by decide +kernel
theorem dX6_longestRoom_91 : decode cX6_longestRoom 91 = .ok (.invokestatic 83, 3) := by decide +kernel
theorem dX6_longestRoom_94 : decode cX6_longestRoom 94 = .ok (.ireturn, 1) := by decide +kernel
theorem dX6_bestUse_0 : decode cX6_bestUse 0 = .ok (.aload_n 0, 1) := by decide +kernel
theorem dX6_bestUse_1 : decode cX6_bestUse 1 = .ok (.iconst 0, 1) := by decide +kernel
theorem dX6_bestUse_2 : decode cX6_bestUse 2 = .ok (.putfield 36, 3) := by decide +kernel
theorem dX6_bestUse_5 : decode cX6_bestUse 5 = .ok (.aload_n 0, 1) := by decide +kernel
theorem dX6_bestUse_6 : decode cX6_bestUse 6 = .ok (.iload_n 1, 1) := by decide +kernel
theorem dX6_bestUse_7 : decode cX6_bestUse 7 = .ok (.invokevirtual 53, 3) := by decide +kernel
theorem dX6_bestUse_10 : decode cX6_bestUse 10 = .ok (.ifCond .ne 9, 3) := by decide +kernel
theorem dX6_bestUse_13 : decode cX6_bestUse 13 = .ok (.aload_n 0, 1) := by decide +kernel
theorem dX6_bestUse_14 : decode cX6_bestUse 14 = .ok (.iconst 1, 1) := by decide +kernel
theorem dX6_bestUse_15 : decode cX6_bestUse 15 = .ok (.invokevirtual 49, 3) := by decide +kernel
theorem dX6_bestUse_18 : decode cX6_bestUse 18 = .ok (.ireturn, 1) := by decide +kernel
theorem dX6_bestUse_19 : decode cX6_bestUse 19 = .ok (.iload_n 2, 1) := by decide +kernel
theorem dX6_bestUse_20 : decode cX6_bestUse 20 = .ok (.iconst 0, 1) := by decide +kernel
theorem dX6_bestUse_21 : decode cX6_bestUse 21 = .ok (.iconst 3, 1) := by decide +kernel
theorem dX6_bestUse_22 : decode cX6_bestUse 22 = .ok (.invokestatic 42, 3) := by decide +kernel
theorem dX6_bestUse_25 : decode cX6_bestUse 25 = .ok (.ifCond .eq 14, 3) := by decide +kernel
theorem dX6_bestUse_28 : decode cX6_bestUse 28 = .ok (.iload_n 3, 1) := by decide +kernel
theorem dX6_bestUse_29 : decode cX6_bestUse 29 = .ok (.iconst 0, 1) := by decide +kernel
theorem dX6_bestUse_30 : decode cX6_bestUse 30 = .ok (.sipush 3000, 3) := by decide +kernel
theorem dX6_bestUse_33 : decode cX6_bestUse 33 = .ok (.invokestatic 42, 3) := by decide +kernel
theorem dX6_bestUse_36 : decode cX6_bestUse 36 = .ok (.ifCond .ne 9, 3) := by decide +kernel
theorem dX6_bestUse_39 : decode cX6_bestUse 39 = .ok (.aload_n 0, 1) := by decide +kernel
theorem dX6_bestUse_40 : decode cX6_bestUse 40 = .ok (.iconst 2, 1) := by decide +kernel
theorem dX6_bestUse_41 : decode cX6_bestUse 41 = .ok (.invokevirtual 49, 3) := by decide +kernel
theorem dX6_bestUse_44 : decode cX6_bestUse 44 = .ok (.ireturn, 1) := by decide +kernel
theorem dX6_bestUse_45 : decode cX6_bestUse 45 = .ok (.iload_n 3, 1) := by decide +kernel
theorem dX6_bestUse_46 : decode cX6_bestUse 46 = .ok (.aload_n 0, 1) := by decide +kernel
theorem dX6_bestUse_47 : decode cX6_bestUse 47 = .ok (.getfield 23, 3) := by decide +kernel
theorem dX6_bestUse_50 : decode cX6_bestUse 50 = .ok (.iadd, 1) := by decide +kernel
theorem dX6_bestUse_51 : decode cX6_bestUse 51 = .ok (.istore 4, 2) := by decide +kernel
theorem dX6_bestUse_53 : decode cX6_bestUse 53 = .ok (.iload 4, 2) := by decide +kernel
theorem dX6_bestUse_55 : decode cX6_bestUse 55 = .ok (.iconst 1, 1) := by decide +kernel
theorem dX6_bestUse_56 : decode cX6_bestUse 56 = .ok (.iadd, 1) := by decide +kernel
theorem dX6_bestUse_57 : decode cX6_bestUse 57 = .ok (.newarray .int, 2) := by decide +kernel
theorem dX6_bestUse_59 : decode cX6_bestUse 59 = .ok (.astore 5, 2) := by decide +kernel
theorem dX6_bestUse_61 : decode cX6_bestUse 61 = .ok (.iconst 0, 1) := by decide +kernel
theorem dX6_bestUse_62 : decode cX6_bestUse 62 = .ok (.istore 6, 2) := by decide +kernel
theorem dX6_bestUse_64 : decode cX6_bestUse 64 = .ok (.iload 6, 2) := by decide +kernel
theorem dX6_bestUse_66 : decode cX6_bestUse 66 = .ok (.aload_n 0, 1) := by decide +kernel
theorem dX6_bestUse_67 : decode cX6_bestUse 67 = .ok (.getfield 46, 3) := by decide +kernel
theorem dX6_bestUse_70 : decode cX6_bestUse 70 = .ok (.if_icmp .ge 119, 3) := by decide +kernel
theorem dX6_bestUse_73 : decode cX6_bestUse 73 = .ok (.aload_n 0, 1) := by decide +kernel
theorem dX6_bestUse_74 : decode cX6_bestUse 74 = .ok (.iload 6, 2) := by decide +kernel
theorem dX6_bestUse_76 : decode cX6_bestUse 76 = .ok (.iconst 1, 1) := by decide +kernel
theorem dX6_bestUse_77 : decode cX6_bestUse 77 = .ok (.invokevirtual 79, 3) := by decide +kernel
theorem dX6_bestUse_80 : decode cX6_bestUse 80 = .ok (.aload_n 0, 1) := by decide +kernel
theorem dX6_bestUse_81 : decode cX6_bestUse 81 = .ok (.iload_n 1, 1) := by decide +kernel
theorem dX6_bestUse_82 : decode cX6_bestUse 82 = .ok (.invokevirtual 107, 3) := by decide +kernel
theorem dX6_bestUse_85 : decode cX6_bestUse 85 = .ok (.if_icmp .gt 98, 3) := by decide +kernel
theorem dX6_bestUse_88 : decode cX6_bestUse 88 = .ok (.aload_n 0, 1) := by decide +kernel
theorem dX6_bestUse_89 : decode cX6_bestUse 89 = .ok (.iload 6, 2) := by decide +kernel
theorem dX6_bestUse_91 : decode cX6_bestUse 91 = .ok (.iconst 2, 1) := by decide +kernel
theorem dX6_bestUse_92 : decode cX6_bestUse 92 = .ok (.invokevirtual 79, 3) := by decide +kernel
theorem dX6_bestUse_95 : decode cX6_bestUse 95 = .ok (.iload_n 2, 1) := by decide +kernel
theorem dX6_bestUse_96 : decode cX6_bestUse 96 = .ok (.if_icmp .ge 6, 3) := by decide +kernel
theorem dX6_bestUse_99 : decode cX6_bestUse 99 = .ok (.goto 84, 3) := by decide +kernel
theorem dX6_bestUse_102 : decode cX6_bestUse 102 = .ok (.aload_n 0, 1) := by decide +kernel
theorem dX6_bestUse_103 : decode cX6_bestUse 103 = .ok (.iload 6, 2) := by decide +kernel
theorem dX6_bestUse_105 : decode cX6_bestUse 105 = .ok (.iconst 0, 1) := by decide +kernel
theorem dX6_bestUse_106 : decode cX6_bestUse 106 = .ok (.invokevirtual 79, 3) := by decide +kernel
theorem dX6_bestUse_109 : decode cX6_bestUse 109 = .ok (.aload_n 0, 1) := by decide +kernel
theorem dX6_bestUse_110 : decode cX6_bestUse 110 = .ok (.getfield 23, 3) := by decide +kernel
theorem dX6_bestUse_113 : decode cX6_bestUse 113 = .ok (.iadd, 1) := by decide +kernel
theorem dX6_bestUse_114 : decode cX6_bestUse 114 = .ok (.istore 7, 2) := by decide +kernel
theorem dX6_bestUse_116 : decode cX6_bestUse 116 = .ok (.iconst 0, 1) := by decide +kernel
theorem dX6_bestUse_117 : decode cX6_bestUse 117 = .ok (.istore 8, 2) := by decide +kernel
theorem dX6_bestUse_119 : decode cX6_bestUse 119 = .ok (.iload 8, 2) := by decide +kernel
theorem dX6_bestUse_121 : decode cX6_bestUse 121 = .ok (.aload_n 0, 1) := by decide +kernel
theorem dX6_bestUse_122 : decode cX6_bestUse 122 = .ok (.iload 6, 2) := by decide +kernel
theorem dX6_bestUse_124 : decode cX6_bestUse 124 = .ok (.iconst 3, 1) := by decide +kernel
theorem dX6_bestUse_125 : decode cX6_bestUse 125 = .ok (.invokevirtual 79, 3) := by decide +kernel
theorem dX6_bestUse_128 : decode cX6_bestUse 128 = .ok (.if_icmp .ge 55, 3) := by decide +kernel
theorem dX6_bestUse_131 : decode cX6_bestUse 131 = .ok (.iload 4, 2) := by decide +kernel
theorem dX6_bestUse_133 : decode cX6_bestUse 133 = .ok (.istore 9, 2) := by decide +kernel
theorem dX6_bestUse_135 : decode cX6_bestUse 135 = .ok (.iload 9, 2) := by decide +kernel
theorem dX6_bestUse_137 : decode cX6_bestUse 137 = .ok (.iload 7, 2) := by decide +kernel
theorem dX6_bestUse_139 : decode cX6_bestUse 139 = .ok (.if_icmp .lt 38, 3) := by decide +kernel
theorem dX6_bestUse_142 : decode cX6_bestUse 142 = .ok (.aload 5, 2) := by decide +kernel
theorem dX6_bestUse_144 : decode cX6_bestUse 144 = .ok (.iload 9, 2) := by decide +kernel
theorem dX6_bestUse_146 : decode cX6_bestUse 146 = .ok (.aload 5, 2) := by decide +kernel
theorem dX6_bestUse_148 : decode cX6_bestUse 148 = .ok (.iload 9, 2) := by decide +kernel
theorem dX6_bestUse_150 : decode cX6_bestUse 150 = .ok (.iaload, 1) := by decide +kernel
theorem dX6_bestUse_151 : decode cX6_bestUse 151 = .ok (.aload 5, 2) := by decide +kernel
theorem dX6_bestUse_153 : decode cX6_bestUse 153 = .ok (.iload 9, 2) := by decide +kernel
theorem dX6_bestUse_155 : decode cX6_bestUse 155 = .ok (.iload 7, 2) := by decide +kernel
theorem dX6_bestUse_157 : decode cX6_bestUse 157 = .ok (.isub, 1) := by decide +kernel
theorem dX6_bestUse_158 : decode cX6_bestUse 158 = .ok (.iaload, 1) := by decide +kernel
theorem dX6_bestUse_159 : decode cX6_bestUse 159 = .ok (.aload_n 0, 1) := by decide +kernel
theorem dX6_bestUse_160 : decode cX6_bestUse 160 = .ok (.iload 6, 2) := by decide +kernel
theorem dX6_bestUse_162 : decode cX6_bestUse 162 = .ok (.iconst 0, 1) := by decide +kernel
theorem dX6_bestUse_163 : decode cX6_bestUse 163 = .ok (.invokevirtual 79, 3) := by decide +kernel
theorem dX6_bestUse_166 : decode cX6_bestUse 166 = .ok (.iadd, 1) := by decide +kernel
theorem dX6_bestUse_167 : decode cX6_bestUse 167 = .ok (.invokestatic 83, 3) := by decide +kernel
theorem dX6_bestUse_170 : decode cX6_bestUse 170 = .ok (.iastore, 1) := by decide +kernel
theorem dX6_bestUse_171 : decode cX6_bestUse 171 = .ok (.iinc 9 (-1), 3) := by decide +kernel
theorem dX6_bestUse_174 : decode cX6_bestUse 174 = .ok (.goto (-39), 3) := by decide +kernel
theorem dX6_bestUse_177 : decode cX6_bestUse 177 = .ok (.iinc 8 1, 3) := by decide +kernel
theorem dX6_bestUse_180 : decode cX6_bestUse 180 = .ok (.goto (-61), 3) := by decide +kernel
theorem dX6_bestUse_183 : decode cX6_bestUse 183 = .ok (.iinc 6 1, 3) := by decide +kernel
theorem dX6_bestUse_186 : decode cX6_bestUse 186 = .ok (.goto (-122), 3) := by decide +kernel
theorem dX6_bestUse_189 : decode cX6_bestUse 189 = .ok (.aload 5, 2) := by decide +kernel
theorem dX6_bestUse_191 : decode cX6_bestUse 191 = .ok (.iload 4, 2) := by decide +kernel
theorem dX6_bestUse_193 : decode cX6_bestUse 193 = .ok (.iaload, 1) := by decide +kernel
theorem dX6_bestUse_194 : decode cX6_bestUse 194 = .ok (.ireturn, 1) := by decide +kernel
theorem dX6_used_0 : decode cX6_used 0 = .ok (.aload_n 0, 1) := by decide +kernel
theorem dX6_used_1 : decode cX6_used 1 = .ok (.iconst 0, 1) := by decide +kernel
theorem dX6_used_2 : decode cX6_used 2 = .ok (.putfield 36, 3) := by decide +kernel
theorem dX6_used_5 : decode cX6_used 5 = .ok (.lconst 0, 1) := by decide +kernel
theorem dX6_used_6 : decode cX6_used 6 = .ok (.lstore_n 1, 1) := by decide +kernel
theorem dX6_used_7 : decode cX6_used 7 = .ok (.lconst 0, 1) := by decide +kernel
theorem dX6_used_8 : decode cX6_used 8 = .ok (.lstore_n 3, 1) := by decide +kernel
theorem dX6_used_9 : decode cX6_used 9 = .ok (.iconst 0, 1) := by decide +kernel
theorem dX6_used_10 : decode cX6_used 10 = .ok (.istore 5, 2) := by decide +kernel
theorem dX6_used_12 : decode cX6_used 12 = .ok (.iload 5, 2) := by decide +kernel
theorem dX6_used_14 : decode cX6_used 14 = .ok (.aload_n 0, 1) := by decide +kernel
theorem dX6_used_15 : decode cX6_used 15 = .ok (.getfield 39, 3) := by decide +kernel
theorem dX6_used_18 : decode cX6_used 18 = .ok (.if_icmp .ge 102, 3) := by decide +kernel
theorem dX6_used_21 : decode cX6_used 21 = .ok (.aload_n 0, 1) := by decide +kernel
theorem dX6_used_22 : decode cX6_used 22 = .ok (.iload 5, 2) := by decide +kernel
theorem dX6_used_24 : decode cX6_used 24 = .ok (.invokevirtual 144, 3) := by decide +kernel
theorem dX6_used_27 : decode cX6_used 27 = .ok (.ifCond .ne 6, 3) := by decide +kernel
theorem dX6_used_30 : decode cX6_used 30 = .ok (.goto 84, 3) := by decide +kernel
theorem dX6_used_33 : decode cX6_used 33 = .ok (.lload_n 3, 1) := by decide +kernel
theorem dX6_used_34 : decode cX6_used 34 = .ok (.aload_n 0, 1) := by decide +kernel
theorem dX6_used_35 : decode cX6_used 35 = .ok (.iload 5, 2) := by decide +kernel
theorem dX6_used_37 : decode cX6_used 37 = .ok (.invokevirtual 57, 3) := by decide +kernel
theorem dX6_used_40 : decode cX6_used 40 = .ok (.i2l, 1) := by decide +kernel
theorem dX6_used_41 : decode cX6_used 41 = .ok (.aload_n 0, 1) := by decide +kernel
theorem dX6_used_42 : decode cX6_used 42 = .ok (.iload 5, 2) := by decide +kernel
theorem dX6_used_44 : decode cX6_used 44 = .ok (.invokevirtual 107, 3) := by decide +kernel
theorem dX6_used_47 : decode cX6_used 47 = .ok (.i2l, 1) := by decide +kernel
theorem dX6_used_48 : decode cX6_used 48 = .ok (.lmul, 1) := by decide +kernel
theorem dX6_used_49 : decode cX6_used 49 = .ok (.ladd, 1) := by decide +kernel
theorem dX6_used_50 : decode cX6_used 50 = .ok (.lstore_n 3, 1) := by decide +kernel
theorem dX6_used_51 : decode cX6_used 51 = .ok (.iconst 0, 1) := by decide +kernel
theorem dX6_used_52 : decode cX6_used 52 = .ok (.istore 6, 2) := by decide +kernel
theorem dX6_used_54 : decode cX6_used 54 = .ok (.iload 6, 2) := by decide +kernel
theorem dX6_used_56 : decode cX6_used 56 = .ok (.aload_n 0, 1) := by decide +kernel
theorem dX6_used_57 : decode cX6_used 57 = .ok (.getfield 63, 3) := by decide +kernel
theorem dX6_used_60 : decode cX6_used 60 = .ok (.if_icmp .ge 54, 3) := by decide +kernel
theorem dX6_used_63 : decode cX6_used 63 = .ok (.lload_n 1, 1) := by decide +kernel
theorem dX6_used_64 : decode cX6_used 64 = .ok (.aload_n 0, 1) := by decide +kernel
theorem dX6_used_65 : decode cX6_used 65 = .ok (.iload 6, 2) := by decide +kernel
theorem dX6_used_67 : decode cX6_used 67 = .ok (.iload 5, 2) := by decide +kernel
theorem dX6_used_69 : decode cX6_used 69 = .ok (.invokevirtual 66, 3) := by decide +kernel
theorem dX6_used_72 : decode cX6_used 72 = .ok (.ifCond .eq 33, 3) := by decide +kernel
theorem dX6_used_75 : decode cX6_used 75 = .ok (.aload_n 0, 1) := by decide +kernel
theorem dX6_used_76 : decode cX6_used 76 = .ok (.iload 6, 2) := by decide +kernel
theorem dX6_used_78 : decode cX6_used 78 = .ok (.invokevirtual 73, 3) := by decide +kernel
theorem dX6_used_81 : decode cX6_used 81 = .ok (.aload_n 0, 1) := by decide +kernel
theorem dX6_used_82 : decode cX6_used 82 = .ok (.iload 6, 2) := by decide +kernel
theorem dX6_used_84 : decode cX6_used 84 = .ok (.invokevirtual 70, 3) := by decide +kernel
theorem dX6_used_87 : decode cX6_used 87 = .ok (.isub, 1) := by decide +kernel
theorem dX6_used_88 : decode cX6_used 88 = .ok (.i2l, 1) := by decide +kernel
theorem dX6_used_89 : decode cX6_used 89 = .ok (.aload_n 0, 1) := by decide +kernel
theorem dX6_used_90 : decode cX6_used 90 = .ok (.aload_n 0, 1) := by decide +kernel
theorem dX6_used_91 : decode cX6_used 91 = .ok (.iload 6, 2) := by decide +kernel
theorem dX6_used_93 : decode cX6_used 93 = .ok (.invokevirtual 76, 3) := by decide +kernel
theorem dX6_used_96 : decode cX6_used 96 = .ok (.iconst 1, 1) := by decide +kernel
theorem dX6_used_97 : decode cX6_used 97 = .ok (.invokevirtual 79, 3) := by decide +kernel
theorem dX6_used_100 : decode cX6_used 100 = .ok (.i2l, 1) := by decide +kernel
theorem dX6_used_101 : decode cX6_used 101 = .ok (.lmul, 1) := by decide +kernel
theorem dX6_used_102 : decode cX6_used 102 = .ok (.goto 4, 3) := by decide +kernel
theorem dX6_used_105 : decode cX6_used 105 = .ok (.lconst 0, 1) := by decide +kernel
theorem dX6_used_106 : decode cX6_used 106 = .ok (.ladd, 1) := by decide +kernel
theorem dX6_used_107 : decode cX6_used 107 = .ok (.lstore_n 1, 1) := by decide +kernel
theorem dX6_used_108 : decode cX6_used 108 = .ok (.iinc 6 1, 3) := by decide +kernel
theorem dX6_used_111 : decode cX6_used 111 = .ok (.goto (-57), 3) := by decide +kernel
theorem dX6_used_114 : decode cX6_used 114 = .ok (.iinc 5 1, 3) := by decide +kernel
theorem dX6_used_117 : decode cX6_used 117 = .ok (.goto (-105), 3) := by decide +kernel
theorem dX6_used_120 : decode cX6_used 120 = .ok (.lload_n 3, 1) := by decide +kernel
theorem dX6_used_121 : decode cX6_used 121 = .ok (.lconst 0, 1) := by decide +kernel
theorem dX6_used_122 : decode cX6_used 122 = .ok (.lcmp, 1) := by decide +kernel
theorem dX6_used_123 : decode cX6_used 123 = .ok (.ifCond .ne 7, 3) := by decide +kernel
theorem dX6_used_126 : decode cX6_used 126 = .ok (.dconst 0, 1) := by decide +kernel
theorem dX6_used_127 : decode cX6_used 127 = .ok (.goto 8, 3) := by decide +kernel
theorem dX6_used_130 : decode cX6_used 130 = .ok (.lload_n 1, 1) := by decide +kernel
theorem dX6_used_131 : decode cX6_used 131 = .ok (.l2d, 1) := by decide +kernel
theorem dX6_used_132 : decode cX6_used 132 = .ok (.lload_n 3, 1) := by decide +kernel
theorem dX6_used_133 : decode cX6_used 133 = .ok (.l2d, 1) := by decide +kernel
theorem dX6_used_134 : decode cX6_used 134 = .ok (.ddiv, 1) := by decide +kernel
theorem dX6_used_135 : decode cX6_used 135 = .ok (.dreturn, 1) := by decide +kernel
theorem dX6_digest_0 : decode cX6_digest 0 = .ok (.aload_n 0, 1) := by decide +kernel
theorem dX6_digest_1 : decode cX6_digest 1 = .ok (.iconst 0, 1) := by decide +kernel
theorem dX6_digest_2 : decode cX6_digest 2 = .ok (.putfield 36, 3) := by decide +kernel
theorem dX6_digest_5 : decode cX6_digest 5 = .ok (.ldc2_w 153, 3) := by decide +kernel
theorem dX6_digest_8 : decode cX6_digest 8 = .ok (.aload_n 0, 1) := by decide +kernel
theorem dX6_digest_9 : decode cX6_digest 9 = .ok (.getfield 23, 3) := by decide +kernel
theorem dX6_digest_12 : decode cX6_digest 12 = .ok (.i2l, 1) := by decide +kernel
theorem dX6_digest_13 : decode cX6_digest 13 = .ok (.ladd, 1) := by decide +kernel
theorem dX6_digest_14 : decode cX6_digest 14 = .ok (.ldc2_w 155, 3) := by decide +kernel
theorem dX6_digest_17 : decode cX6_digest 17 = .ok (.lmul, 1) := by decide +kernel
theorem dX6_digest_18 : decode cX6_digest 18 = .ok (.aload_n 0, 1) := by decide +kernel
theorem dX6_digest_19 : decode cX6_digest 19 = .ok (.getfield 27, 3) := by decide +kernel
theorem dX6_digest_22 : decode cX6_digest 22 = .ok (.i2l, 1) := by decide +kernel
theorem dX6_digest_23 : decode cX6_digest 23 = .ok (.ladd, 1) := by decide +kernel
theorem dX6_digest_24 : decode cX6_digest 24 = .ok (.ldc2_w 155, 3) := by decide +kernel
theorem dX6_digest_27 : decode cX6_digest 27 = .ok (.lmul, 1) := by decide +kernel
theorem dX6_digest_28 : decode cX6_digest 28 = .ok (.aload_n 0, 1) := by decide +kernel
theorem dX6_digest_29 : decode cX6_digest 29 = .ok (.getfield 60, 3) := by decide +kernel
theorem dX6_digest_32 : decode cX6_digest 32 = .ok (.i2l, 1) := by decide +kernel
theorem dX6_digest_33 : decode cX6_digest 33 = .ok (.ladd, 1) := by decide +kernel
theorem dX6_digest_34 : decode cX6_digest 34 = .ok (.lstore_n 1, 1) := by decide +kernel
theorem dX6_digest_35 : decode cX6_digest 35 = .ok (.lload_n 1, 1) := by decide +kernel
theorem dX6_digest_36 : decode cX6_digest 36 = .ok (.ldc2_w 155, 3) := by decide +kernel
theorem dX6_digest_39 : decode cX6_digest 39 = .ok (.lmul, 1) := by decide +kernel
theorem dX6_digest_40 : decode cX6_digest 40 = .ok (.aload_n 0, 1) := by decide +kernel
theorem dX6_digest_41 : decode cX6_digest 41 = .ok (.getfield 46, 3) := by decide +kernel
theorem dX6_digest_44 : decode cX6_digest 44 = .ok (.i2l, 1) := by decide +kernel
theorem dX6_digest_45 : decode cX6_digest 45 = .ok (.ladd, 1) := by decide +kernel
theorem dX6_digest_46 : decode cX6_digest 46 = .ok (.lstore_n 1, 1) := by decide +kernel
theorem dX6_digest_47 : decode cX6_digest 47 = .ok (.iconst 0, 1) := by decide +kernel
theorem dX6_digest_48 : decode cX6_digest 48 = .ok (.istore_n 3, 1) := by decide +kernel
theorem dX6_digest_49 : decode cX6_digest 49 = .ok (.iload_n 3, 1) := by decide +kernel
theorem dX6_digest_50 : decode cX6_digest 50 = .ok (.aload_n 0, 1) := by decide +kernel
theorem dX6_digest_51 : decode cX6_digest 51 = .ok (.getfield 46, 3) := by decide +kernel
theorem dX6_digest_54 : decode cX6_digest 54 = .ok (.if_icmp .ge 23, 3) := by decide +kernel
theorem dX6_digest_57 : decode cX6_digest 57 = .ok (.lload_n 1, 1) := by decide +kernel
theorem dX6_digest_58 : decode cX6_digest 58 = .ok (.ldc2_w 155, 3) := by decide +kernel
theorem dX6_digest_61 : decode cX6_digest 61 = .ok (.lmul, 1) := by decide +kernel
theorem dX6_digest_62 : decode cX6_digest 62 = .ok (.aload_n 0, 1) := by decide +kernel
theorem dX6_digest_63 : decode cX6_digest 63 = .ok (.iload_n 3, 1) := by decide +kernel
theorem dX6_digest_64 : decode cX6_digest 64 = .ok (.iconst 3, 1) := by decide +kernel
theorem dX6_digest_65 : decode cX6_digest 65 = .ok (.invokevirtual 79, 3) := by decide +kernel
theorem dX6_digest_68 : decode cX6_digest 68 = .ok (.i2l, 1) := by decide +kernel
theorem dX6_digest_69 : decode cX6_digest 69 = .ok (.ladd, 1) := by decide +kernel
theorem dX6_digest_70 : decode cX6_digest 70 = .ok (.lstore_n 1, 1) := by decide +kernel
theorem dX6_digest_71 : decode cX6_digest 71 = .ok (.iinc 3 1, 3) := by decide +kernel
theorem dX6_digest_74 : decode cX6_digest 74 = .ok (.goto (-25), 3) := by decide +kernel
theorem dX6_digest_77 : decode cX6_digest 77 = .ok (.lload_n 1, 1) := by decide +kernel
theorem dX6_digest_78 : decode cX6_digest 78 = .ok (.ldc2_w 155, 3) := by decide +kernel
theorem dX6_digest_81 : decode cX6_digest 81 = .ok (.lmul, 1) := by decide +kernel
theorem dX6_digest_82 : decode cX6_digest 82 = .ok (.aload_n 0, 1) := by decide +kernel
theorem dX6_digest_83 : decode cX6_digest 83 = .ok (.getfield 39, 3) := by decide +kernel
theorem dX6_digest_86 : decode cX6_digest 86 = .ok (.i2l, 1) := by decide +kernel
theorem dX6_digest_87 : decode cX6_digest 87 = .ok (.ladd, 1) := by decide +kernel
theorem dX6_digest_88 : decode cX6_digest 88 = .ok (.lstore_n 1, 1) := by decide +kernel
theorem dX6_digest_89 : decode cX6_digest 89 = .ok (.iconst 0, 1) := by decide +kernel
theorem dX6_digest_90 : decode cX6_digest 90 = .ok (.istore_n 3, 1) := by decide +kernel
theorem dX6_digest_91 : decode cX6_digest 91 = .ok (.iload_n 3, 1) := by decide +kernel
theorem dX6_digest_92 : decode cX6_digest 92 = .ok (.aload_n 0, 1) := by decide +kernel
theorem dX6_digest_93 : decode cX6_digest 93 = .ok (.getfield 39, 3) := by decide +kernel
theorem dX6_digest_96 : decode cX6_digest 96 = .ok (.if_icmp .ge 83, 3) := by decide +kernel
theorem dX6_digest_99 : decode cX6_digest 99 = .ok (.lload_n 1, 1) := by decide +kernel
theorem dX6_digest_100 : decode cX6_digest 100 = .ok (.ldc2_w 155, 3) := by decide +kernel
theorem dX6_digest_103 : decode cX6_digest 103 = .ok (.lmul, 1) := by decide +kernel
theorem dX6_digest_104 : decode cX6_digest 104 = .ok (.aload_n 0, 1) := by decide +kernel
theorem dX6_digest_105 : decode cX6_digest 105 = .ok (.iload_n 3, 1) := by decide +kernel
theorem dX6_digest_106 : decode cX6_digest 106 = .ok (.invokevirtual 144, 3) := by decide +kernel
theorem dX6_digest_109 : decode cX6_digest 109 = .ok (.i2l, 1) := by decide +kernel
theorem dX6_digest_110 : decode cX6_digest 110 = .ok (.ladd, 1) := by decide +kernel
theorem dX6_digest_111 : decode cX6_digest 111 = .ok (.lstore_n 1, 1) := by decide +kernel
theorem dX6_digest_112 : decode cX6_digest 112 = .ok (.aload_n 0, 1) := by decide +kernel
theorem dX6_digest_113 : decode cX6_digest 113 = .ok (.iload_n 3, 1) := by decide +kernel
theorem dX6_digest_114 : decode cX6_digest 114 = .ok (.iconst 0, 1) := by decide +kernel
theorem dX6_digest_115 : decode cX6_digest 115 = .ok (.invokevirtual 147, 3) := by decide +kernel
theorem dX6_digest_118 : decode cX6_digest 118 = .ok (.istore 4, 2) := by decide +kernel
theorem dX6_digest_120 : decode cX6_digest 120 = .ok (.iload 4, 2) := by decide +kernel
theorem dX6_digest_122 : decode cX6_digest 122 = .ok (.iconst (-1), 1) := by decide +kernel
theorem dX6_digest_123 : decode cX6_digest 123 = .ok (.if_icmp .eq 50, 3) := by decide +kernel
theorem dX6_digest_126 : decode cX6_digest 126 = .ok (.iconst 0, 1) := by decide +kernel
theorem dX6_digest_127 : decode cX6_digest 127 = .ok (.istore 5, 2) := by decide +kernel
theorem dX6_digest_129 : decode cX6_digest 129 = .ok (.iload 5, 2) := by decide +kernel
theorem dX6_digest_131 : decode cX6_digest 131 = .ok (.iconst 4, 1) := by decide +kernel
theorem dX6_digest_132 : decode cX6_digest 132 = .ok (.if_icmp .ge 25, 3) := by decide +kernel
theorem dX6_digest_135 : decode cX6_digest 135 = .ok (.lload_n 1, 1) := by decide +kernel
theorem dX6_digest_136 : decode cX6_digest 136 = .ok (.ldc2_w 155, 3) := by decide +kernel
theorem dX6_digest_139 : decode cX6_digest 139 = .ok (.lmul, 1) := by decide +kernel
theorem dX6_digest_140 : decode cX6_digest 140 = .ok (.aload_n 0, 1) := by decide +kernel
theorem dX6_digest_141 : decode cX6_digest 141 = .ok (.iload 4, 2) := by decide +kernel
theorem dX6_digest_143 : decode cX6_digest 143 = .ok (.iload 5, 2) := by decide +kernel
theorem dX6_digest_145 : decode cX6_digest 145 = .ok (.invokevirtual 150, 3) := by decide +kernel
theorem dX6_digest_148 : decode cX6_digest 148 = .ok (.i2l, 1) := by decide +kernel
theorem dX6_digest_149 : decode cX6_digest 149 = .ok (.ladd, 1) := by decide +kernel
theorem dX6_digest_150 : decode cX6_digest 150 = .ok (.lstore_n 1, 1) := by decide +kernel
theorem dX6_digest_151 : decode cX6_digest 151 = .ok (.iinc 5 1, 3) := by decide +kernel
theorem dX6_digest_154 : decode cX6_digest 154 = .ok (.goto (-25), 3) := by decide +kernel
theorem dX6_digest_157 : decode cX6_digest 157 = .ok (.aload_n 0, 1) := by decide +kernel
theorem dX6_digest_158 : decode cX6_digest 158 = .ok (.iload_n 3, 1) := by decide +kernel
theorem dX6_digest_159 : decode cX6_digest 159 = .ok (.aload_n 0, 1) := by decide +kernel
theorem dX6_digest_160 : decode cX6_digest 160 = .ok (.iload 4, 2) := by decide +kernel
theorem dX6_digest_162 : decode cX6_digest 162 = .ok (.invokevirtual 73, 3) := by decide +kernel
theorem dX6_digest_165 : decode cX6_digest 165 = .ok (.invokevirtual 147, 3) := by decide +kernel
theorem dX6_digest_168 : decode cX6_digest 168 = .ok (.istore 4, 2) := by decide +kernel
theorem dX6_digest_170 : decode cX6_digest 170 = .ok (.goto (-50), 3) := by decide +kernel
theorem dX6_digest_173 : decode cX6_digest 173 = .ok (.iinc 3 1, 3) := by decide +kernel
theorem dX6_digest_176 : decode cX6_digest 176 = .ok (.goto (-85), 3) := by decide +kernel
theorem dX6_digest_179 : decode cX6_digest 179 = .ok (.lload_n 1, 1) := by decide +kernel
theorem dX6_digest_180 : decode cX6_digest 180 = .ok (.lreturn, 1) := by decide +kernel
