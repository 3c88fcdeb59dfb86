theorem dX8_init_0 : decode cX8_init 0 = .ok (.aload_n 0, 1) := by decide +kernel
theorem dX8_init_1 : decode cX8_init 1 = .ok (.invokespecial 1, 3) := by decide +kernel
theorem dX8_init_4 : decode cX8_init 4 = .ok (.aload_n 0, 1) := by decide +kernel
theorem dX8_init_5 : decode cX8_init 5 = .ok (.sipush 160, 3) := by decide +kernel
theorem dX8_init_8 : decode cX8_init 8 = .ok (.newarray .int, 2) := by decide +kernel
theorem dX8_init_10 : decode cX8_init 10 = .ok (.putfield 7, 3) := by decide +kernel
theorem dX8_init_13 : decode cX8_init 13 = .ok (.aload_n 0, 1) := by decide +kernel
theorem dX8_init_14 : decode cX8_init 14 = .ok (.bipush 48, 2) := by decide +kernel
theorem dX8_init_16 : decode cX8_init 16 = .ok (.newarray .int, 2) := by decide +kernel
theorem dX8_init_18 : decode cX8_init 18 = .ok (.putfield 13, 3) := by decide +kernel
theorem dX8_init_21 : decode cX8_init 21 = .ok (.aload_n 0, 1) := by decide +kernel
theorem dX8_init_22 : decode cX8_init 22 = .ok (.bipush 10, 2) := by decide +kernel
theorem dX8_init_24 : decode cX8_init 24 = .ok (.newarray .int, 2) := by decide +kernel
theorem dX8_init_26 : decode cX8_init 26 = .ok (.putfield 16, 3) := by decide +kernel
theorem dX8_init_29 : decode cX8_init 29 = .ok (.aload_n 0, 1) := by decide +kernel
theorem dX8_init_30 : decode cX8_init 30 = .ok (.bipush 24, 2) := by decide +kernel
theorem dX8_init_32 : decode cX8_init 32 = .ok (.newarray .int, 2) := by decide +kernel
theorem dX8_init_34 : decode cX8_init 34 = .ok (.putfield 19, 3) := by decide +kernel
theorem dX8_init_37 : decode cX8_init 37 = .ok (.aload_n 0, 1) := by decide +kernel
theorem dX8_init_38 : decode cX8_init 38 = .ok (.bipush 8, 2) := by decide +kernel
theorem dX8_init_40 : decode cX8_init 40 = .ok (.newarray .int, 2) := by decide +kernel
theorem dX8_init_42 : decode cX8_init 42 = .ok (.putfield 22, 3) := by decide +kernel
theorem dX8_init_45 : decode cX8_init 45 = .ok (.aload_n 0, 1) := by decide +kernel
theorem dX8_init_46 : decode cX8_init 46 = .ok (.bipush 8, 2) := by decide +kernel
theorem dX8_init_48 : decode cX8_init 48 = .ok (.newarray .int, 2) := by decide +kernel
theorem dX8_init_50 : decode cX8_init 50 = .ok (.putfield 25, 3) := by decide +kernel
theorem dX8_init_53 : decode cX8_init 53 = .ok (.aload_n 0, 1) := by decide +kernel
theorem dX8_init_54 : decode cX8_init 54 = .ok (.bipush 64, 2) := by decide +kernel
theorem dX8_init_56 : decode cX8_init 56 = .ok (.newarray .int, 2) := by decide +kernel
theorem dX8_init_58 : decode cX8_init 58 = .ok (.putfield 28, 3) := by decide +kernel
theorem dX8_init_61 : decode cX8_init 61 = .ok (.aload_n 0, 1) := by decide +kernel
theorem dX8_init_62 : decode cX8_init 62 = .ok (.bipush 16, 2) := by decide +kernel
theorem dX8_init_64 : decode cX8_init 64 = .ok (.newarray .int, 2) := by decide +kernel
theorem dX8_init_66 : decode cX8_init 66 = .ok (.putfield 31, 3) := by decide +kernel
theorem dX8_init_69 : decode cX8_init 69 = .ok (.aload_n 0, 1) := by decide +kernel
theorem dX8_init_70 : decode cX8_init 70 = .ok (.iconst 2, 1) := by decide +kernel
theorem dX8_init_71 : decode cX8_init 71 = .ok (.newarray .boolean, 2) := by decide +kernel
theorem dX8_init_73 : decode cX8_init 73 = .ok (.putfield 34, 3) := by decide +kernel
theorem dX8_init_76 : decode cX8_init 76 = .ok (.aload_n 0, 1) := by decide +kernel
theorem dX8_init_77 : decode cX8_init 77 = .ok (.bipush 6, 2) := by decide +kernel
theorem dX8_init_79 : decode cX8_init 79 = .ok (.newarray .int, 2) := by decide +kernel
theorem dX8_init_81 : decode cX8_init 81 = .ok (.putfield 38, 3) := by decide +kernel
theorem dX8_init_84 : decode cX8_init 84 = .ok (.aload_n 0, 1) := by decide +kernel
theorem dX8_init_85 : decode cX8_init 85 = .ok (.bipush 6, 2) := by decide +kernel
theorem dX8_init_87 : decode cX8_init 87 = .ok (.newarray .int, 2) := by decide +kernel
theorem dX8_init_89 : decode cX8_init 89 = .ok (.putfield 41, 3) := by decide +kernel
theorem dX8_init_92 : decode cX8_init 92 = .ok (.aload_n 0, 1) := by decide +kernel
theorem dX8_init_93 : decode cX8_init 93 = .ok (.iconst 5, 1) := by decide +kernel
theorem dX8_init_94 : decode cX8_init 94 = .ok (.newarray .int, 2) := by decide +kernel
theorem dX8_init_96 : decode cX8_init 96 = .ok (.putfield 44, 3) := by decide +kernel
theorem dX8_init_99 : decode cX8_init 99 = .ok (.aload_n 0, 1) := by decide +kernel
theorem dX8_init_100 : decode cX8_init 100 = .ok (.iconst 5, 1) := by decide +kernel
theorem dX8_init_101 : decode cX8_init 101 = .ok (.newarray .int, 2) := by decide +kernel
theorem dX8_init_103 : decode cX8_init 103 = .ok (.putfield 47, 3) := by decide +kernel
theorem dX8_init_106 : decode cX8_init 106 = .ok (.aload_n 0, 1) := by decide +kernel
theorem dX8_init_107 : decode cX8_init 107 = .ok (.getfield 22, 3) := by decide +kernel
theorem dX8_init_110 : decode cX8_init 110 = .ok (.iconst 3, 1) := by decide +kernel
theorem dX8_init_111 : decode cX8_init 111 = .ok (.bipush 20, 2) := by decide +kernel
theorem dX8_init_113 : decode cX8_init 113 = .ok (.iastore, 1) := by decide +kernel
theorem dX8_init_114 : decode cX8_init 114 = .ok (.return_, 1) := by decide +kernel
theorem dX8_in_0 : decode cX8_in 0 = .ok (.iload_n 0, 1) := by decide +kernel
theorem dX8_in_1 : decode cX8_in 1 = .ok (.iload_n 1, 1) := by decide +kernel
theorem dX8_in_2 : decode cX8_in 2 = .ok (.if_icmp .lt 12, 3) := by decide +kernel
theorem dX8_in_5 : decode cX8_in 5 = .ok (.iload_n 0, 1) := by decide +kernel
theorem dX8_in_6 : decode cX8_in 6 = .ok (.iload_n 2, 1) := by decide +kernel
theorem dX8_in_7 : decode cX8_in 7 = .ok (.if_icmp .gt 7, 3) := by decide +kernel
theorem dX8_in_10 : decode cX8_in 10 = .ok (.iconst 1, 1) := by decide +kernel
theorem dX8_in_11 : decode cX8_in 11 = .ok (.goto 4, 3) := by decide +kernel
theorem dX8_in_14 : decode cX8_in 14 = .ok (.iconst 0, 1) := by decide +kernel
theorem dX8_in_15 : decode cX8_in 15 = .ok (.ireturn, 1) := by decide +kernel
theorem dX8_ones_0 : decode cX8_ones 0 = .ok (.iconst 0, 1) := by decide +kernel
theorem dX8_ones_1 : decode cX8_ones 1 = .ok (.istore_n 1, 1) := by decide +kernel
theorem dX8_ones_2 : decode cX8_ones 2 = .ok (.iconst 0, 1) := by decide +kernel
theorem dX8_ones_3 : decode cX8_ones 3 = .ok (.istore_n 2, 1) := by decide +kernel
theorem dX8_ones_4 : decode cX8_ones 4 = .ok (.iload_n 2, 1) := by decide +kernel
theorem dX8_ones_5 : decode cX8_ones 5 = .ok (.bipush 6, 2) := by decide +kernel
theorem dX8_ones_7 : decode cX8_ones 7 = .ok (.if_icmp .ge 17, 3) := by decide +kernel
theorem dX8_ones_10 : decode cX8_ones 10 = .ok (.iload_n 1, 1) := by decide +kernel
theorem dX8_ones_11 : decode cX8_ones 11 = .ok (.iload_n 0, 1) := by decide +kernel
theorem dX8_ones_12 : decode cX8_ones 12 = .ok (.iload_n 2, 1) := by decide +kernel
theorem dX8_ones_13 : decode cX8_ones 13 = .ok (.ishr, 1) := by decide +kernel
theorem dX8_ones_14 : decode cX8_ones 14 = .ok (.iconst 1, 1) := by decide +kernel
theorem dX8_ones_15 : decode cX8_ones 15 = .ok (.iand, 1) := by decide +kernel
theorem dX8_ones_16 : decode cX8_ones 16 = .ok (.iadd, 1) := by decide +kernel
theorem dX8_ones_17 : decode cX8_ones 17 = .ok (.istore_n 1, 1) := by decide +kernel
theorem dX8_ones_18 : decode cX8_ones 18 = .ok (.iinc 2 1, 3) := by decide +kernel
theorem dX8_ones_21 : decode cX8_ones 21 = .ok (.goto (-17), 3) := by decide +kernel
theorem dX8_ones_24 : decode cX8_ones 24 = .ok (.iload_n 1, 1) := by decide +kernel
theorem dX8_ones_25 : decode cX8_ones 25 = .ok (.ireturn, 1) := by decide +kernel
theorem dX8_write_0 : decode cX8_write 0 = .ok (.aload_n 0, 1) := by decide +kernel
theorem dX8_write_1 : decode cX8_write 1 = .ok (.iconst 0, 1) := by decide +kernel
theorem dX8_write_2 : decode cX8_write 2 = .ok (.putfield 50, 3) := by decide +kernel
theorem dX8_write_5 : decode cX8_write 5 = .ok (.iload_n 1, 1) := by decide +kernel
theorem dX8_write_6 : decode cX8_write 6 = .ok (.iconst 0, 1) := by decide +kernel
theorem dX8_write_7 : decode cX8_write 7 = .ok (.sipush 255, 3) := by decide +kernel
theorem dX8_write_10 : decode cX8_write 10 = .ok (.invokestatic 54, 3) := by decide +kernel
theorem dX8_write_13 : decode cX8_write 13 = .ok (.ifCond .ne 6, 3) := by decide +kernel
theorem dX8_write_16 : decode cX8_write 16 = .ok (.bipush (-3), 2) := by decide +kernel
theorem dX8_write_18 : decode cX8_write 18 = .ok (.ireturn, 1) := by decide +kernel
theorem dX8_write_19 : decode cX8_write 19 = .ok (.aload_n 0, 1) := by decide +kernel
theorem dX8_write_20 : decode cX8_write 20 = .ok (.getfield 58, 3) := by decide +kernel
theorem dX8_write_23 : decode cX8_write 23 = .ok (.sipush 160, 3) := by decide +kernel
theorem dX8_write_26 : decode cX8_write 26 = .ok (.if_icmp .ne 6, 3) := by decide +kernel
theorem dX8_write_29 : decode cX8_write 29 = .ok (.bipush (-5), 2) := by decide +kernel
theorem dX8_write_31 : decode cX8_write 31 = .ok (.ireturn, 1) := by decide +kernel
theorem dX8_write_32 : decode cX8_write 32 = .ok (.aload_n 0, 1) := by decide +kernel
theorem dX8_write_33 : decode cX8_write 33 = .ok (.getfield 7, 3) := by decide +kernel
theorem dX8_write_36 : decode cX8_write 36 = .ok (.aload_n 0, 1) := by decide +kernel
theorem dX8_write_37 : decode cX8_write 37 = .ok (.getfield 58, 3) := by decide +kernel
theorem dX8_write_40 : decode cX8_write 40 = .ok (.iload_n 1, 1) := by decide +kernel
theorem dX8_write_41 : decode cX8_write 41 = .ok (.iastore, 1) := by decide +kernel
theorem dX8_write_42 : decode cX8_write 42 = .ok (.aload_n 0, 1) := by decide +kernel
theorem dX8_write_43 : decode cX8_write 43 = .ok (.dup, 1) := by decide +kernel
theorem dX8_write_44 : decode cX8_write 44 = .ok (.getfield 58, 3) := by decide +kernel
theorem dX8_write_47 : decode cX8_write 47 = .ok (.iconst 1, 1) := by decide +kernel
theorem dX8_write_48 : decode cX8_write 48 = .ok (.iadd, 1) := by decide +kernel
theorem dX8_write_49 : decode cX8_write 49 = .ok (.putfield 58, 3) := by decide +kernel
theorem dX8_write_52 : decode cX8_write 52 = .ok (.aload_n 0, 1) := by decide +kernel
theorem dX8_write_53 : decode cX8_write 53 = .ok (.getfield 58, 3) := by decide +kernel
theorem dX8_write_56 : decode cX8_write 56 = .ok (.ireturn, 1) := by decide +kernel
theorem dX8_erase_0 : decode cX8_erase 0 = .ok (.aload_n 0, 1) := by decide +kernel
theorem dX8_erase_1 : decode cX8_erase 1 = .ok (.iconst 0, 1) := by decide +kernel
theorem dX8_erase_2 : decode cX8_erase 2 = .ok (.putfield 50, 3) := by decide +kernel
theorem dX8_erase_5 : decode cX8_erase 5 = .ok (.aload_n 0, 1) := by decide +kernel
theorem dX8_erase_6 : decode cX8_erase 6 = .ok (.getfield 58, 3) := by decide +kernel
theorem dX8_erase_9 : decode cX8_erase 9 = .ok (.istore_n 1, 1) := by decide +kernel
theorem dX8_erase_10 : decode cX8_erase 10 = .ok (.aload_n 0, 1) := by decide +kernel
theorem dX8_erase_11 : decode cX8_erase 11 = .ok (.iconst 0, 1) := by decide +kernel
theorem dX8_erase_12 : decode cX8_erase 12 = .ok (.putfield 58, 3) := by decide +kernel
theorem dX8_erase_15 : decode cX8_erase 15 = .ok (.iload_n 1, 1) := by decide +kernel
theorem dX8_erase_16 : decode cX8_erase 16 = .ok (.ireturn, 1) := by decide +kernel
theorem dX8_letterAt_0 : decode cX8_letterAt 0 = .ok (.iload_n 1, 1) := by decide +kernel
theorem dX8_letterAt_1 : decode cX8_letterAt 1 = .ok (.aload_n 0, 1) := by decide +kernel
theorem dX8_letterAt_2 : decode cX8_letterAt 2 = .ok (.getfield 58, 3) := by decide +kernel
theorem dX8_letterAt_5 : decode cX8_letterAt 5 = .ok (.if_icmp .ge 12, 3) := by decide +kernel
theorem dX8_letterAt_8 : decode cX8_letterAt 8 = .ok (.aload_n 0, 1) := by decide +kernel
theorem dX8_letterAt_9 : decode cX8_letterAt 9 = .ok (.getfield 7, 3) := by decide +kernel
theorem dX8_letterAt_12 : decode cX8_letterAt 12 = .ok (.iload_n 1, 1) := by decide +kernel
theorem dX8_letterAt_13 : decode cX8_letterAt 13 = .ok (.iaload, 1) := by decide +kernel
theorem dX8_letterAt_14 : decode cX8_letterAt 14 = .ok (.goto 4, 3) := by decide +kernel
theorem dX8_letterAt_17 : decode cX8_letterAt 17 = .ok (.iconst (-1), 1) := by decide +kernel
theorem dX8_letterAt_18 : decode cX8_letterAt 18 = .ok (.ireturn, 1) := by decide +kernel
theorem dX8_isWord_0 : decode cX8_isWord 0 = .ok (.aload_n 0, 1) := by decide +kernel
theorem dX8_isWord_1 : decode cX8_isWord 1 = .ok (.getfield 61, 3) := by decide +kernel
theorem dX8_isWord_4 : decode cX8_isWord 4 = .ok (.aload_n 0, 1) := by decide +kernel
theorem dX8_isWord_5 : decode cX8_isWord 5 = .ok (.getfield 64, 3) := by decide +kernel
theorem dX8_isWord_8 : decode cX8_isWord 8 = .ok (.isub, 1) := by decide +kernel
theorem dX8_isWord_9 : decode cX8_isWord 9 = .ok (.iload_n 3, 1) := by decide +kernel
theorem dX8_isWord_10 : decode cX8_isWord 10 = .ok (.if_icmp .ne 7, 3) := by decide +kernel
theorem dX8_isWord_13 : decode cX8_isWord 13 = .ok (.iconst 1, 1) := by decide +kernel
theorem dX8_isWord_14 : decode cX8_isWord 14 = .ok (.goto 4, 3) := by decide +kernel
theorem dX8_isWord_17 : decode cX8_isWord 17 = .ok (.iconst 0, 1) := by decide +kernel
theorem dX8_isWord_18 : decode cX8_isWord 18 = .ok (.istore 4, 2) := by decide +kernel
theorem dX8_isWord_20 : decode cX8_isWord 20 = .ok (.iconst 0, 1) := by decide +kernel
theorem dX8_isWord_21 : decode cX8_isWord 21 = .ok (.istore 5, 2) := by decide +kernel
theorem dX8_isWord_23 : decode cX8_isWord 23 = .ok (.iload 5, 2) := by decide +kernel
theorem dX8_isWord_25 : decode cX8_isWord 25 = .ok (.iload_n 3, 1) := by decide +kernel
theorem dX8_isWord_26 : decode cX8_isWord 26 = .ok (.if_icmp .ge 51, 3) := by decide +kernel
theorem dX8_isWord_29 : decode cX8_isWord 29 = .ok (.iload 4, 2) := by decide +kernel
theorem dX8_isWord_31 : decode cX8_isWord 31 = .ok (.ifCond .eq 46, 3) := by decide +kernel
theorem dX8_isWord_34 : decode cX8_isWord 34 = .ok (.aload_n 0, 1) := by decide +kernel
theorem dX8_isWord_35 : decode cX8_isWord 35 = .ok (.aload_n 0, 1) := by decide +kernel
theorem dX8_isWord_36 : decode cX8_isWord 36 = .ok (.getfield 64, 3) := by decide +kernel
theorem dX8_isWord_39 : decode cX8_isWord 39 = .ok (.iload 5, 2) := by decide +kernel
theorem dX8_isWord_41 : decode cX8_isWord 41 = .ok (.iadd, 1) := by decide +kernel
theorem dX8_isWord_42 : decode cX8_isWord 42 = .ok (.invokevirtual 67, 3) := by decide +kernel
theorem dX8_isWord_45 : decode cX8_isWord 45 = .ok (.lload_n 1, 1) := by decide +kernel
theorem dX8_isWord_46 : decode cX8_isWord 46 = .ok (.bipush 8, 2) := by decide +kernel
theorem dX8_isWord_48 : decode cX8_isWord 48 = .ok (.iload_n 3, 1) := by decide +kernel
theorem dX8_isWord_49 : decode cX8_isWord 49 = .ok (.iconst 1, 1) := by decide +kernel
theorem dX8_isWord_50 : decode cX8_isWord 50 = .ok (.isub, 1) := by decide +kernel
theorem dX8_isWord_51 : decode cX8_isWord 51 = .ok (.iload 5, 2) := by decide +kernel
theorem dX8_isWord_53 : decode cX8_isWord 53 = .ok (.isub, 1) := by decide +kernel
theorem dX8_isWord_54 : decode cX8_isWord 54 = .ok (.imul, 1) := by decide +kernel
theorem dX8_isWord_55 : decode cX8_isWord 55 = .ok (.lshr, 1) := by decide +kernel
theorem dX8_isWord_56 : decode cX8_isWord 56 = .ok (.ldc2_w 71, 3) := by decide +kernel
theorem dX8_isWord_59 : decode cX8_isWord 59 = .ok (.land, 1) := by decide +kernel
theorem dX8_isWord_60 : decode cX8_isWord 60 = .ok (.l2i, 1) := by decide +kernel
theorem dX8_isWord_61 : decode cX8_isWord 61 = .ok (.if_icmp .ne 7, 3) := by decide +kernel
theorem dX8_isWord_64 : decode cX8_isWord 64 = .ok (.iconst 1, 1) := by decide +kernel
theorem dX8_isWord_65 : decode cX8_isWord 65 = .ok (.goto 4, 3) := by decide +kernel
theorem dX8_isWord_68 : decode cX8_isWord 68 = .ok (.iconst 0, 1) := by decide +kernel
theorem dX8_isWord_69 : decode cX8_isWord 69 = .ok (.istore 4, 2) := by decide +kernel
theorem dX8_isWord_71 : decode cX8_isWord 71 = .ok (.iinc 5 1, 3) := by decide +kernel
theorem dX8_isWord_74 : decode cX8_isWord 74 = .ok (.goto (-51), 3) := by decide +kernel
theorem dX8_isWord_77 : decode cX8_isWord 77 = .ok (.iload 4, 2) := by decide +kernel
theorem dX8_isWord_79 : decode cX8_isWord 79 = .ok (.ireturn, 1) := by decide +kernel
theorem dX8_wordOf_0 : decode cX8_wordOf 0 = .ok (.aload_n 0, 1) := by decide +kernel
theorem dX8_wordOf_1 : decode cX8_wordOf 1 = .ok (.ldc2_w 73, 3) := by decide +kernel
theorem dX8_wordOf_4 : decode cX8_wordOf 4 = .ok (.iconst 5, 1) := by decide +kernel
theorem dX8_wordOf_5 : decode cX8_wordOf 5 = .ok (.invokevirtual 75, 3) := by decide +kernel
theorem dX8_wordOf_8 : decode cX8_wordOf 8 = .ok (.ifCond .eq 7, 3) := by decide +kernel
theorem dX8_wordOf_11 : decode cX8_wordOf 11 = .ok (.iconst 0, 1) := by decide +kernel
theorem dX8_wordOf_12 : decode cX8_wordOf 12 = .ok (.goto 129, 3) := by decide +kernel
theorem dX8_wordOf_15 : decode cX8_wordOf 15 = .ok (.aload_n 0, 1) := by decide +kernel
theorem dX8_wordOf_16 : decode cX8_wordOf 16 = .ok (.ldc2_w 79, 3) := by decide +kernel
theorem dX8_wordOf_19 : decode cX8_wordOf 19 = .ok (.iconst 4, 1) := by decide +kernel
theorem dX8_wordOf_20 : decode cX8_wordOf 20 = .ok (.invokevirtual 75, 3) := by decide +kernel
theorem dX8_wordOf_23 : decode cX8_wordOf 23 = .ok (.ifCond .eq 7, 3) := by decide +kernel
theorem dX8_wordOf_26 : decode cX8_wordOf 26 = .ok (.iconst 1, 1) := by decide +kernel
theorem dX8_wordOf_27 : decode cX8_wordOf 27 = .ok (.goto 114, 3) := by decide +kernel
theorem dX8_wordOf_30 : decode cX8_wordOf 30 = .ok (.aload_n 0, 1) := by decide +kernel
theorem dX8_wordOf_31 : decode cX8_wordOf 31 = .ok (.ldc2_w 81, 3) := by decide +kernel
theorem dX8_wordOf_34 : decode cX8_wordOf 34 = .ok (.bipush 6, 2) := by decide +kernel
theorem dX8_wordOf_36 : decode cX8_wordOf 36 = .ok (.invokevirtual 75, 3) := by decide +kernel
theorem dX8_wordOf_39 : decode cX8_wordOf 39 = .ok (.ifCond .eq 7, 3) := by decide +kernel
theorem dX8_wordOf_42 : decode cX8_wordOf 42 = .ok (.iconst 2, 1) := by decide +kernel
theorem dX8_wordOf_43 : decode cX8_wordOf 43 = .ok (.goto 98, 3) := by decide +kernel
theorem dX8_wordOf_46 : decode cX8_wordOf 46 = .ok (.aload_n 0, 1) := by decide +kernel
theorem dX8_wordOf_47 : decode cX8_wordOf 47 = .ok (.ldc2_w 83, 3) := by decide +kernel
theorem dX8_wordOf_50 : decode cX8_wordOf 50 = .ok (.iconst 5, 1) := by decide +kernel
theorem dX8_wordOf_51 : decode cX8_wordOf 51 = .ok (.invokevirtual 75, 3) := by decide +kernel
theorem dX8_wordOf_54 : decode cX8_wordOf 54 = .ok (.ifCond .eq 7, 3) := by decide +kernel
theorem dX8_wordOf_57 : decode cX8_wordOf 57 = .ok (.iconst 3, 1) := by decide +kernel
theorem dX8_wordOf_58 : decode cX8_wordOf 58 = .ok (.goto 83, 3) := by decide +kernel
theorem dX8_wordOf_61 : decode cX8_wordOf 61 = .ok (.aload_n 0, 1) := by decide +kernel
theorem dX8_wordOf_62 : decode cX8_wordOf 62 = .ok (.ldc2_w 85, 3) := by decide +kernel
theorem dX8_wordOf_65 : decode cX8_wordOf 65 = .ok (.iconst 4, 1) := by decide +kernel
theorem dX8_wordOf_66 : decode cX8_wordOf 66 = .ok (.invokevirtual 75, 3) := by decide +kernel
theorem dX8_wordOf_69 : decode cX8_wordOf 69 = .ok (.ifCond .eq 7, 3) := by decide +kernel
theorem dX8_wordOf_72 : decode cX8_wordOf 72 = .ok (.iconst 4, 1) := by decide +kernel
theorem dX8_wordOf_73 : decode cX8_wordOf 73 = .ok (.goto 68, 3) := by decide +kernel
theorem dX8_wordOf_76 : decode cX8_wordOf 76 = .ok (.aload_n 0, 1) := by decide +kernel
theorem dX8_wordOf_77 : decode cX8_wordOf 77 = .ok (.ldc2_w 87, 3) := by decide +kernel
theorem dX8_wordOf_80 : decode cX8_wordOf 80 = .ok (.iconst 3, 1) := by decide +kernel
theorem dX8_wordOf_81 : decode cX8_wordOf 81 = .ok (.invokevirtual 75, 3) := by decide +kernel
theorem dX8_wordOf_84 : decode cX8_wordOf 84 = .ok (.ifCond .eq 7, 3) := by decide +kernel
theorem dX8_wordOf_87 : decode cX8_wordOf 87 = .ok (.iconst 5, 1) := by decide +kernel
theorem dX8_wordOf_88 : decode cX8_wordOf 88 = .ok (.goto 53, 3) := by decide +kernel
theorem dX8_wordOf_91 : decode cX8_wordOf 91 = .ok (.aload_n 0, 1) := by decide +kernel
theorem dX8_wordOf_92 : decode cX8_wordOf 92 = .ok (.ldc2_w 89, 3) := by decide +kernel
theorem dX8_wordOf_95 : decode cX8_wordOf 95 = .ok (.iconst 4, 1) := by decide +kernel
theorem dX8_wordOf_96 : decode cX8_wordOf 96 = .ok (.invokevirtual 75, 3) := by decide +kernel
theorem dX8_wordOf_99 : decode cX8_wordOf 99 = .ok (.ifCond .eq 8, 3) := by decide +kernel
theorem dX8_wordOf_102 : decode cX8_wordOf 102 = .ok (.bipush 6, 2) := by decide +kernel
theorem dX8_wordOf_104 : decode cX8_wordOf 104 = .ok (.goto 37, 3) := by decide +kernel
theorem dX8_wordOf_107 : decode cX8_wordOf 107 = .ok (.aload_n 0, 1) := by decide +kernel
theorem dX8_wordOf_108 : decode cX8_wordOf 108 = .ok (.ldc2_w 91, 3) := by decide +kernel
theorem dX8_wordOf_111 : decode cX8_wordOf 111 = .ok (.iconst 5, 1) := by decide +kernel
theorem dX8_wordOf_112 : decode cX8_wordOf 112 = .ok (.invokevirtual 75, 3) := by decide +kernel
theorem dX8_wordOf_115 : decode cX8_wordOf 115 = .ok (.ifCond .eq 8, 3) := by decide +kernel
theorem dX8_wordOf_118 : decode cX8_wordOf 118 = .ok (.bipush 7, 2) := by decide +kernel
theorem dX8_wordOf_120 : decode cX8_wordOf 120 = .ok (.goto 21, 3) := by decide +kernel
theorem dX8_wordOf_123 : decode cX8_wordOf 123 = .ok (.aload_n 0, 1) := by decide +kernel
theorem dX8_wordOf_124 : decode cX8_wordOf 124 = .ok (.ldc2_w 93, 3) := by decide +kernel
theorem dX8_wordOf_127 : decode cX8_wordOf 127 = .ok (.iconst 5, 1) := by decide +kernel
theorem dX8_wordOf_128 : decode cX8_wordOf 128 = .ok (.invokevirtual 75, 3) := by decide +kernel
theorem dX8_wordOf_131 : decode cX8_wordOf 131 = .ok (.ifCond .eq 8, 3) := by decide +kernel
theorem dX8_wordOf_134 : decode cX8_wordOf 134 = .ok (.bipush 8, 2) := by decide +kernel
theorem dX8_wordOf_136 : decode cX8_wordOf 136 = .ok (.goto 5, 3) := by decide +kernel
theorem dX8_wordOf_139 : decode cX8_wordOf 139 = .ok (.bipush 9, 2) := by decide +kernel
theorem dX8_wordOf_141 : decode cX8_wordOf 141 = .ok (.ireturn, 1) := by decide +kernel
theorem dX8_advances_0 : decode cX8_advances 0 = .ok (.aload_n 0, 1) := by decide +kernel
theorem dX8_advances_1 : decode cX8_advances 1 = .ok (.aload_n 0, 1) := by decide +kernel
theorem dX8_advances_2 : decode cX8_advances 2 = .ok (.getfield 61, 3) := by decide +kernel
theorem dX8_advances_5 : decode cX8_advances 5 = .ok (.invokevirtual 67, 3) := by decide +kernel
theorem dX8_advances_8 : decode cX8_advances 8 = .ok (.bipush 32, 2) := by decide +kernel
theorem dX8_advances_10 : decode cX8_advances 10 = .ok (.if_icmp .ne 16, 3) := by decide +kernel
theorem dX8_advances_13 : decode cX8_advances 13 = .ok (.aload_n 0, 1) := by decide +kernel
theorem dX8_advances_14 : decode cX8_advances 14 = .ok (.dup, 1) := by decide +kernel
theorem dX8_advances_15 : decode cX8_advances 15 = .ok (.getfield 61, 3) := by decide +kernel
theorem dX8_advances_18 : decode cX8_advances 18 = .ok (.iconst 1, 1) := by decide +kernel
theorem dX8_advances_19 : decode cX8_advances 19 = .ok (.iadd, 1) := by decide +kernel
theorem dX8_advances_20 : decode cX8_advances 20 = .ok (.putfield 61, 3) := by decide +kernel
theorem dX8_advances_23 : decode cX8_advances 23 = .ok (.goto (-23), 3) := by decide +kernel
theorem dX8_advances_26 : decode cX8_advances 26 = .ok (.aload_n 0, 1) := by decide +kernel
theorem dX8_advances_27 : decode cX8_advances 27 = .ok (.aload_n 0, 1) := by decide +kernel
theorem dX8_advances_28 : decode cX8_advances 28 = .ok (.getfield 61, 3) := by decide +kernel
theorem dX8_advances_31 : decode cX8_advances 31 = .ok (.putfield 64, 3) := by decide +kernel
theorem dX8_advances_34 : decode cX8_advances 34 = .ok (.aload_n 0, 1) := by decide +kernel
theorem dX8_advances_35 : decode cX8_advances 35 = .ok (.aload_n 0, 1) := by decide +kernel
theorem dX8_advances_36 : decode cX8_advances 36 = .ok (.getfield 61, 3) := by decide +kernel
theorem dX8_advances_39 : decode cX8_advances 39 = .ok (.invokevirtual 67, 3) := by decide +kernel
theorem dX8_advances_42 : decode cX8_advances 42 = .ok (.istore_n 1, 1) := by decide +kernel
theorem dX8_advances_43 : decode cX8_advances 43 = .ok (.iload_n 1, 1) := by decide +kernel
theorem dX8_advances_44 : decode cX8_advances 44 = .ok (.ifCond .ge 11, 3) := by decide +kernel
theorem dX8_advances_47 : decode cX8_advances 47 = .ok (.aload_n 0, 1) := by decide +kernel
theorem dX8_advances_48 : decode cX8_advances 48 = .ok (.iconst 0, 1) := by decide +kernel
theorem dX8_advances_49 : decode cX8_advances 49 = .ok (.putfield 95, 3) := by decide +kernel
theorem dX8_advances_52 : decode cX8_advances 52 = .ok (.goto 197, 3) := by decide +kernel
theorem dX8_advances_55 : decode cX8_advances 55 = .ok (.iload_n 1, 1) := by decide +kernel
theorem dX8_advances_56 : decode cX8_advances 56 = .ok (.bipush 97, 2) := by decide +kernel
theorem dX8_advances_58 : decode cX8_advances 58 = .ok (.bipush 122, 2) := by decide +kernel
theorem dX8_advances_60 : decode cX8_advances 60 = .ok (.invokestatic 54, 3) := by decide +kernel
theorem dX8_advances_63 : decode cX8_advances 63 = .ok (.ifCond .eq 50, 3) := by decide +kernel
theorem dX8_advances_66 : decode cX8_advances 66 = .ok (.aload_n 0, 1) := by decide +kernel
theorem dX8_advances_67 : decode cX8_advances 67 = .ok (.aload_n 0, 1) := by decide +kernel
theorem dX8_advances_68 : decode cX8_advances 68 = .ok (.getfield 61, 3) := by decide +kernel
theorem dX8_advances_71 : decode cX8_advances 71 = .ok (.invokevirtual 67, 3) := by decide +kernel
theorem dX8_advances_74 : decode cX8_advances 74 = .ok (.bipush 97, 2) := by decide +kernel
theorem dX8_advances_76 : decode cX8_advances 76 = .ok (.bipush 122, 2) := by decide +kernel
theorem dX8_advances_78 : decode cX8_advances 78 = .ok (.invokestatic 54, 3) := by decide +kernel
theorem dX8_advances_81 : decode cX8_advances 81 = .ok (.ifCond .eq 16, 3) := by decide +kernel
theorem dX8_advances_84 : decode cX8_advances 84 = .ok (.aload_n 0, 1) := by decide +kernel
theorem dX8_advances_85 : decode cX8_advances 85 = .ok (.dup, 1) := by decide +kernel
theorem dX8_advances_86 : decode cX8_advances 86 = .ok (.getfield 61, 3) := by decide +kernel
theorem dX8_advances_89 : decode cX8_advances 89 = .ok (.iconst 1, 1) := by decide +kernel
theorem dX8_advances_90 : decode cX8_advances 90 = .ok (.iadd, 1) := by decide +kernel
theorem dX8_advances_91 : decode cX8_advances 91 = .ok (.putfield 61, 3) := by decide +kernel
theorem dX8_advances_94 : decode cX8_advances 94 = .ok (.goto (-28), 3) := by decide +kernel
theorem dX8_advances_97 : decode cX8_advances 97 = .ok (.aload_n 0, 1) := by decide +kernel
theorem dX8_advances_98 : decode cX8_advances 98 = .ok (.iconst 1, 1) := by decide +kernel
theorem dX8_advances_99 : decode cX8_advances 99 = .ok (.putfield 95, 3) := by decide +kernel
theorem dX8_advances_102 : decode cX8_advances 102 = .ok (.aload_n 0, 1) := by decide +kernel
theorem dX8_advances_103 : decode cX8_advances 103 = .ok (.aload_n 0, 1) := by decide +kernel
theorem dX8_advances_104 : decode cX8_advances 104 = .ok (.invokevirtual 98, 3) := by decide +kernel
theorem dX8_advances_107 : decode cX8_advances 107 = .ok (.putfield 102, 3) := by decide +kernel
theorem dX8_advances_110 : decode cX8_advances 110 = .ok (.goto 139, 3) := by decide +kernel
theorem dX8_advances_113 : decode cX8_advances 113 = .ok (.iload_n 1, 1) := by decide +kernel
theorem dX8_advances_114 : decode cX8_advances 114 = .ok (.bipush 48, 2) := by decide +kernel
theorem dX8_advances_116 : decode cX8_advances 116 = .ok (.bipush 57, 2) := by decide +kernel
theorem dX8_advances_118 : decode cX8_advances 118 = .ok (.invokestatic 54, 3) := by decide +kernel
theorem dX8_advances_121 : decode cX8_advances 121 = .ok (.ifCond .eq 103, 3) := by decide +kernel
theorem dX8_advances_124 : decode cX8_advances 124 = .ok (.aload_n 0, 1) := by decide +kernel
theorem dX8_advances_125 : decode cX8_advances 125 = .ok (.iconst 0, 1) := by decide +kernel
theorem dX8_advances_126 : decode cX8_advances 126 = .ok (.putfield 102, 3) := by decide +kernel
theorem dX8_advances_129 : decode cX8_advances 129 = .ok (.aload_n 0, 1) := by decide +kernel
theorem dX8_advances_130 : decode cX8_advances 130 = .ok (.aload_n 0, 1) := by decide +kernel
theorem dX8_advances_131 : decode cX8_advances 131 = .ok (.getfield 61, 3) := by decide +kernel
theorem dX8_advances_134 : decode cX8_advances 134 = .ok (.invokevirtual 67, 3) := by decide +kernel
theorem dX8_advances_137 : decode cX8_advances 137 = .ok (.bipush 48, 2) := by decide +kernel
theorem dX8_advances_139 : decode cX8_advances 139 = .ok (.bipush 57, 2) := by decide +kernel
theorem dX8_advances_141 : decode cX8_advances 141 = .ok (.invokestatic 54, 3) := by decide +kernel
theorem dX8_advances_144 : decode cX8_advances 144 = .ok (.ifCond .eq 59, 3) := by decide +kernel
theorem dX8_advances_147 : decode cX8_advances 147 = .ok (.aload_n 0, 1) := by decide +kernel
theorem dX8_advances_148 : decode cX8_advances 148 = .ok (.aload_n 0, 1) := by decide +kernel
theorem dX8_advances_149 : decode cX8_advances 149 = .ok (.getfield 61, 3) := by decide +kernel
theorem dX8_advances_152 : decode cX8_advances 152 = .ok (.aload_n 0, 1) := by decide +kernel
theorem dX8_advances_153 : decode cX8_advances 153 = .ok (.getfield 64, 3) := by decide +kernel
theorem dX8_advances_156 : decode cX8_advances 156 = .ok (.isub, 1) := by decide +kernel
theorem dX8_advances_157 : decode cX8_advances 157 = .ok (.iconst 2, 1) := by decide +kernel
theorem dX8_advances_158 : decode cX8_advances 158 = .ok (.if_icmp .ge 25, 3) := by decide +kernel
theorem dX8_advances_161 : decode cX8_advances 161 = .ok (.bipush 10, 2) := by decide +kernel
theorem dX8_advances_163 : decode cX8_advances 163 = .ok (.aload_n 0, 1) := by decide +kernel
theorem dX8_advances_164 : decode cX8_advances 164 = .ok (.getfield 102, 3) := by decide +kernel
theorem dX8_advances_167 : decode cX8_advances 167 = .ok (.imul, 1) := by decide +kernel
theorem dX8_advances_168 : decode cX8_advances 168 = .ok (.aload_n 0, 1) := by decide +kernel
theorem dX8_advances_169 : decode cX8_advances 169 = .ok (.aload_n 0, 1) := by decide +kernel
theorem dX8_advances_170 : decode cX8_advances 170 = .ok (.getfield 61, 3) := by decide +kernel
theorem dX8_advances_173 : decode cX8_advances 173 = .ok (.invokevirtual 67, 3) := by decide +kernel
theorem dX8_advances_176 : decode cX8_advances 176 = .ok (.iadd, 1) := by decide +kernel
theorem dX8_advances_177 : decode cX8_advances 177 = .ok (.bipush 48, 2) := by decide +kernel
theorem dX8_advances_179 : decode cX8_advances 179 = .ok (.isub, 1) := by decide +kernel
theorem dX8_advances_180 : decode cX8_advances 180 = .ok (.goto 7, 3) := by decide +kernel
theorem dX8_advances_183 : decode cX8_advances 183 = .ok (.aload_n 0, 1) := by decide +kernel
theorem dX8_advances_184 : decode cX8_advances 184 = .ok (.getfield 102, 3) := by decide +kernel
theorem dX8_advances_187 : decode cX8_advances 187 = .ok (.putfield 102, 3) := by decide +kernel
theorem dX8_advances_190 : decode cX8_advances 190 = .ok (.aload_n 0, 1) := by decide +kernel
theorem dX8_advances_191 : decode cX8_advances 191 = .ok (.dup, 1) := by decide +kernel
theorem dX8_advances_192 : decode cX8_advances 192 = .ok (.getfield 61, 3) := by decide +kernel
theorem dX8_advances_195 : decode cX8_advances 195 = .ok (.iconst 1, 1) := by decide +kernel
theorem dX8_advances_196 : decode cX8_advances 196 = .ok (.iadd, 1) := by decide +kernel
theorem dX8_advances_197 : decode cX8_advances 197 = .ok (.putfield 61, 3) := by decide +kernel
theorem dX8_advances_200 : decode cX8_advances 200 = .ok (.goto (-71), 3) := by decide +kernel
theorem dX8_advances_203 : decode cX8_advances 203 = .ok (.aload_n 0, 1) := by decide +kernel
theorem dX8_advances_204 : decode cX8_advances 204 = .ok (.aload_n 0, 1) := by decide +kernel
theorem dX8_advances_205 : decode cX8_advances 205 = .ok (.getfield 61, 3) := by decide +kernel
theorem dX8_advances_208 : decode cX8_advances 208 = .ok (.aload_n 0, 1) := by decide +kernel
theorem dX8_advances_209 : decode cX8_advances 209 = .ok (.getfield 64, 3) := by decide +kernel
theorem dX8_advances_212 : decode cX8_advances 212 = .ok (.isub, 1) := by decide +kernel
theorem dX8_advances_213 : decode cX8_advances 213 = .ok (.putfield 105, 3) := by decide +kernel
theorem dX8_advances_216 : decode cX8_advances 216 = .ok (.aload_n 0, 1) := by decide +kernel
theorem dX8_advances_217 : decode cX8_advances 217 = .ok (.iconst 2, 1) := by decide +kernel
theorem dX8_advances_218 : decode cX8_advances 218 = .ok (.putfield 95, 3) := by decide +kernel
theorem dX8_advances_221 : decode cX8_advances 221 = .ok (.goto 28, 3) := by decide +kernel
theorem dX8_advances_224 : decode cX8_advances 224 = .ok (.aload_n 0, 1) := by decide +kernel
theorem dX8_advances_225 : decode cX8_advances 225 = .ok (.dup, 1) := by decide +kernel
theorem dX8_advances_226 : decode cX8_advances 226 = .ok (.getfield 61, 3) := by decide +kernel
theorem dX8_advances_229 : decode cX8_advances 229 = .ok (.iconst 1, 1) := by decide +kernel
theorem dX8_advances_230 : decode cX8_advances 230 = .ok (.iadd, 1) := by decide +kernel
theorem dX8_advances_231 : decode cX8_advances 231 = .ok (.putfield 61, 3) := by decide +kernel
theorem dX8_advances_234 : decode cX8_advances 234 = .ok (.aload_n 0, 1) := by decide +kernel
theorem dX8_advances_235 : decode cX8_advances 235 = .ok (.iload_n 1, 1) := by decide +kernel
theorem dX8_advances_236 : decode cX8_advances 236 = .ok (.bipush 59, 2) := by decide +kernel
theorem dX8_advances_238 : decode cX8_advances 238 = .ok (.if_icmp .ne 7, 3) := by decide +kernel
theorem dX8_advances_241 : decode cX8_advances 241 = .ok (.iconst 3, 1) := by decide +kernel
theorem dX8_advances_242 : decode cX8_advances 242 = .ok (.goto 4, 3) := by decide +kernel
theorem dX8_advances_245 : decode cX8_advances 245 = .ok (.iconst 4, 1) := by decide +kernel
theorem dX8_advances_246 : decode cX8_advances 246 = .ok (.putfield 95, 3) := by decide +kernel
theorem dX8_advances_249 : decode cX8_advances 249 = .ok (.return_, 1) := by decide +kernel
theorem dX8_fails_0 : decode cX8_fails 0 = .ok (.aload_n 0, 1) := by decide +kernel
theorem dX8_fails_1 : decode cX8_fails 1 = .ok (.aload_n 0, 1) := by decide +kernel
theorem dX8_fails_2 : decode cX8_fails 2 = .ok (.getfield 108, 3) := by decide +kernel
theorem dX8_fails_5 : decode cX8_fails 5 = .ok (.iconst (-1), 1) := by decide +kernel
theorem dX8_fails_6 : decode cX8_fails 6 = .ok (.if_icmp .ne 10, 3) := by decide +kernel
theorem dX8_fails_9 : decode cX8_fails 9 = .ok (.aload_n 0, 1) := by decide +kernel
theorem dX8_fails_10 : decode cX8_fails 10 = .ok (.getfield 64, 3) := by decide +kernel
theorem dX8_fails_13 : decode cX8_fails 13 = .ok (.goto 7, 3) := by decide +kernel
theorem dX8_fails_16 : decode cX8_fails 16 = .ok (.aload_n 0, 1) := by decide +kernel
theorem dX8_fails_17 : decode cX8_fails 17 = .ok (.getfield 108, 3) := by decide +kernel
theorem dX8_fails_20 : decode cX8_fails 20 = .ok (.putfield 108, 3) := by decide +kernel
theorem dX8_fails_23 : decode cX8_fails 23 = .ok (.return_, 1) := by decide +kernel
theorem dX8_number_0 : decode cX8_number 0 = .ok (.aload_n 0, 1) := by decide +kernel
theorem dX8_number_1 : decode cX8_number 1 = .ok (.getfield 95, 3) := by decide +kernel
theorem dX8_number_4 : decode cX8_number 4 = .ok (.iconst 2, 1) := by decide +kernel
theorem dX8_number_5 : decode cX8_number 5 = .ok (.if_icmp .ne 19, 3) := by decide +kernel
theorem dX8_number_8 : decode cX8_number 8 = .ok (.aload_n 0, 1) := by decide +kernel
theorem dX8_number_9 : decode cX8_number 9 = .ok (.getfield 105, 3) := by decide +kernel
theorem dX8_number_12 : decode cX8_number 12 = .ok (.iconst 2, 1) := by decide +kernel
theorem dX8_number_13 : decode cX8_number 13 = .ok (.if_icmp .gt 11, 3) := by decide +kernel
theorem dX8_number_16 : decode cX8_number 16 = .ok (.aload_n 0, 1) := by decide +kernel
theorem dX8_number_17 : decode cX8_number 17 = .ok (.getfield 102, 3) := by decide +kernel
theorem dX8_number_20 : decode cX8_number 20 = .ok (.iload_n 1, 1) := by decide +kernel
theorem dX8_number_21 : decode cX8_number 21 = .ok (.if_icmp .le 7, 3) := by decide +kernel
theorem dX8_number_24 : decode cX8_number 24 = .ok (.aload_n 0, 1) := by decide +kernel
theorem dX8_number_25 : decode cX8_number 25 = .ok (.invokevirtual 111, 3) := by decide +kernel
theorem dX8_number_28 : decode cX8_number 28 = .ok (.aload_n 0, 1) := by decide +kernel
theorem dX8_number_29 : decode cX8_number 29 = .ok (.getfield 108, 3) := by decide +kernel
theorem dX8_number_32 : decode cX8_number 32 = .ok (.iconst (-1), 1) := by decide +kernel
theorem dX8_number_33 : decode cX8_number 33 = .ok (.if_icmp .ne 10, 3) := by decide +kernel
theorem dX8_number_36 : decode cX8_number 36 = .ok (.aload_n 0, 1) := by decide +kernel
theorem dX8_number_37 : decode cX8_number 37 = .ok (.getfield 102, 3) := by decide +kernel
theorem dX8_number_40 : decode cX8_number 40 = .ok (.goto 4, 3) := by decide +kernel
theorem dX8_number_43 : decode cX8_number 43 = .ok (.iconst 0, 1) := by decide +kernel
theorem dX8_number_44 : decode cX8_number 44 = .ok (.istore_n 2, 1) := by decide +kernel
theorem dX8_number_45 : decode cX8_number 45 = .ok (.aload_n 0, 1) := by decide +kernel
theorem dX8_number_46 : decode cX8_number 46 = .ok (.getfield 108, 3) := by decide +kernel
theorem dX8_number_49 : decode cX8_number 49 = .ok (.iconst (-1), 1) := by decide +kernel
theorem dX8_number_50 : decode cX8_number 50 = .ok (.if_icmp .ne 7, 3) := by decide +kernel
theorem dX8_number_53 : decode cX8_number 53 = .ok (.aload_n 0, 1) := by decide +kernel
theorem dX8_number_54 : decode cX8_number 54 = .ok (.invokevirtual 114, 3) := by decide +kernel
theorem dX8_number_57 : decode cX8_number 57 = .ok (.iload_n 2, 1) := by decide +kernel
theorem dX8_number_58 : decode cX8_number 58 = .ok (.ireturn, 1) := by decide +kernel
theorem dX8_canStand_0 : decode cX8_canStand 0 = .ok (.iload_n 1, 1) := by decide +kernel
theorem dX8_canStand_1 : decode cX8_canStand 1 = .ok (.iconst 4, 1) := by decide +kernel
theorem dX8_canStand_2 : decode cX8_canStand 2 = .ok (.if_icmp .ge 22, 3) := by decide +kernel
theorem dX8_canStand_5 : decode cX8_canStand 5 = .ok (.aload_n 0, 1) := by decide +kernel
theorem dX8_canStand_6 : decode cX8_canStand 6 = .ok (.getfield 22, 3) := by decide +kernel
theorem dX8_canStand_9 : decode cX8_canStand 9 = .ok (.iconst 4, 1) := by decide +kernel
theorem dX8_canStand_10 : decode cX8_canStand 10 = .ok (.iaload, 1) := by decide +kernel
theorem dX8_canStand_11 : decode cX8_canStand 11 = .ok (.bipush 6, 2) := by decide +kernel
theorem dX8_canStand_13 : decode cX8_canStand 13 = .ok (.if_icmp .ge 7, 3) := by decide +kernel
theorem dX8_canStand_16 : decode cX8_canStand 16 = .ok (.iconst 1, 1) := by decide +kernel
theorem dX8_canStand_17 : decode cX8_canStand 17 = .ok (.goto 65, 3) := by decide +kernel
theorem dX8_canStand_20 : decode cX8_canStand 20 = .ok (.iconst 0, 1) := by decide +kernel
theorem dX8_canStand_21 : decode cX8_canStand 21 = .ok (.goto 61, 3) := by decide +kernel
theorem dX8_canStand_24 : decode cX8_canStand 24 = .ok (.iload_n 1, 1) := by decide +kernel
theorem dX8_canStand_25 : decode cX8_canStand 25 = .ok (.iconst 4, 1) := by decide +kernel
theorem dX8_canStand_26 : decode cX8_canStand 26 = .ok (.if_icmp .ne 21, 3) := by decide +kernel
theorem dX8_canStand_29 : decode cX8_canStand 29 = .ok (.aload_n 0, 1) := by decide +kernel
theorem dX8_canStand_30 : decode cX8_canStand 30 = .ok (.getfield 22, 3) := by decide +kernel
theorem dX8_canStand_33 : decode cX8_canStand 33 = .ok (.iconst 5, 1) := by decide +kernel
theorem dX8_canStand_34 : decode cX8_canStand 34 = .ok (.iaload, 1) := by decide +kernel
theorem dX8_canStand_35 : decode cX8_canStand 35 = .ok (.iconst 5, 1) := by decide +kernel
theorem dX8_canStand_36 : decode cX8_canStand 36 = .ok (.if_icmp .ge 7, 3) := by decide +kernel
theorem dX8_canStand_39 : decode cX8_canStand 39 = .ok (.iconst 1, 1) := by decide +kernel
theorem dX8_canStand_40 : decode cX8_canStand 40 = .ok (.goto 42, 3) := by decide +kernel
theorem dX8_canStand_43 : decode cX8_canStand 43 = .ok (.iconst 0, 1) := by decide +kernel
theorem dX8_canStand_44 : decode cX8_canStand 44 = .ok (.goto 38, 3) := by decide +kernel
theorem dX8_canStand_47 : decode cX8_canStand 47 = .ok (.iload_n 1, 1) := by decide +kernel
theorem dX8_canStand_48 : decode cX8_canStand 48 = .ok (.iconst 5, 1) := by decide +kernel
theorem dX8_canStand_49 : decode cX8_canStand 49 = .ok (.if_icmp .ne 22, 3) := by decide +kernel
theorem dX8_canStand_52 : decode cX8_canStand 52 = .ok (.aload_n 0, 1) := by decide +kernel
theorem dX8_canStand_53 : decode cX8_canStand 53 = .ok (.getfield 22, 3) := by decide +kernel
theorem dX8_canStand_56 : decode cX8_canStand 56 = .ok (.bipush 6, 2) := by decide +kernel
theorem dX8_canStand_58 : decode cX8_canStand 58 = .ok (.iaload, 1) := by decide +kernel
theorem dX8_canStand_59 : decode cX8_canStand 59 = .ok (.iconst 4, 1) := by decide +kernel
theorem dX8_canStand_60 : decode cX8_canStand 60 = .ok (.if_icmp .ge 7, 3) := by decide +kernel
theorem dX8_canStand_63 : decode cX8_canStand 63 = .ok (.iconst 1, 1) := by decide +kernel
theorem dX8_canStand_64 : decode cX8_canStand 64 = .ok (.goto 18, 3) := by decide +kernel
theorem dX8_canStand_67 : decode cX8_canStand 67 = .ok (.iconst 0, 1) := by decide +kernel
theorem dX8_canStand_68 : decode cX8_canStand 68 = .ok (.goto 14, 3) := by decide +kernel
theorem dX8_canStand_71 : decode cX8_canStand 71 = .ok (.iload_n 1, 1) := by decide +kernel
theorem dX8_canStand_72 : decode cX8_canStand 72 = .ok (.bipush 9, 2) := by decide +kernel
theorem dX8_canStand_74 : decode cX8_canStand 74 = .ok (.if_icmp .ge 7, 3) := by decide +kernel
theorem dX8_canStand_77 : decode cX8_canStand 77 = .ok (.iconst 1, 1) := by decide +kernel
theorem dX8_canStand_78 : decode cX8_canStand 78 = .ok (.goto 4, 3) := by decide +kernel
theorem dX8_canStand_81 : decode cX8_canStand 81 = .ok (.iconst 0, 1) := by decide +kernel
theorem dX8_canStand_82 : decode cX8_canStand 82 = .ok (.ireturn, 1) := by decide +kernel
theorem dX8_clause_0 : decode cX8_clause 0 = .ok (.iload_n 1, 1) := by decide +kernel
theorem dX8_clause_1 : decode cX8_clause 1 = .ok (.iconst 4, 1) := by decide +kernel
theorem dX8_clause_2 : decode cX8_clause 2 = .ok (.if_icmp .ge 77, 3) := by decide +kernel
theorem dX8_clause_5 : decode cX8_clause 5 = .ok (.bipush 24, 2) := by decide +kernel
theorem dX8_clause_7 : decode cX8_clause 7 = .ok (.iconst 4, 1) := by decide +kernel
theorem dX8_clause_8 : decode cX8_clause 8 = .ok (.aload_n 0, 1) := by decide +kernel
theorem dX8_clause_9 : decode cX8_clause 9 = .ok (.getfield 22, 3) := by decide +kernel
theorem dX8_clause_12 : decode cX8_clause 12 = .ok (.iconst 4, 1) := by decide +kernel
theorem dX8_clause_13 : decode cX8_clause 13 = .ok (.iaload, 1) := by decide +kernel
theorem dX8_clause_14 : decode cX8_clause 14 = .ok (.imul, 1) := by decide +kernel
theorem dX8_clause_15 : decode cX8_clause 15 = .ok (.iadd, 1) := by decide +kernel
theorem dX8_clause_16 : decode cX8_clause 16 = .ok (.istore_n 2, 1) := by decide +kernel
theorem dX8_clause_17 : decode cX8_clause 17 = .ok (.aload_n 0, 1) := by decide +kernel
theorem dX8_clause_18 : decode cX8_clause 18 = .ok (.getfield 13, 3) := by decide +kernel
theorem dX8_clause_21 : decode cX8_clause 21 = .ok (.iload_n 2, 1) := by decide +kernel
theorem dX8_clause_22 : decode cX8_clause 22 = .ok (.iload_n 1, 1) := by decide +kernel
theorem dX8_clause_23 : decode cX8_clause 23 = .ok (.iastore, 1) := by decide +kernel
theorem dX8_clause_24 : decode cX8_clause 24 = .ok (.aload_n 0, 1) := by decide +kernel
theorem dX8_clause_25 : decode cX8_clause 25 = .ok (.getfield 13, 3) := by decide +kernel
theorem dX8_clause_28 : decode cX8_clause 28 = .ok (.iload_n 2, 1) := by decide +kernel
theorem dX8_clause_29 : decode cX8_clause 29 = .ok (.iconst 1, 1) := by decide +kernel
theorem dX8_clause_30 : decode cX8_clause 30 = .ok (.iadd, 1) := by decide +kernel
theorem dX8_clause_31 : decode cX8_clause 31 = .ok (.aload_n 0, 1) := by decide +kernel
theorem dX8_clause_32 : decode cX8_clause 32 = .ok (.bipush 9, 2) := by decide +kernel
theorem dX8_clause_34 : decode cX8_clause 34 = .ok (.invokevirtual 117, 3) := by decide +kernel
theorem dX8_clause_37 : decode cX8_clause 37 = .ok (.iastore, 1) := by decide +kernel
theorem dX8_clause_38 : decode cX8_clause 38 = .ok (.aload_n 0, 1) := by decide +kernel
theorem dX8_clause_39 : decode cX8_clause 39 = .ok (.getfield 13, 3) := by decide +kernel
theorem dX8_clause_42 : decode cX8_clause 42 = .ok (.iload_n 2, 1) := by decide +kernel
theorem dX8_clause_43 : decode cX8_clause 43 = .ok (.iconst 2, 1) := by decide +kernel
theorem dX8_clause_44 : decode cX8_clause 44 = .ok (.iadd, 1) := by decide +kernel
theorem dX8_clause_45 : decode cX8_clause 45 = .ok (.aload_n 0, 1) := by decide +kernel
theorem dX8_clause_46 : decode cX8_clause 46 = .ok (.bipush 99, 2) := by decide +kernel
theorem dX8_clause_48 : decode cX8_clause 48 = .ok (.invokevirtual 117, 3) := by decide +kernel
theorem dX8_clause_51 : decode cX8_clause 51 = .ok (.iastore, 1) := by decide +kernel
theorem dX8_clause_52 : decode cX8_clause 52 = .ok (.aload_n 0, 1) := by decide +kernel
theorem dX8_clause_53 : decode cX8_clause 53 = .ok (.getfield 13, 3) := by decide +kernel
theorem dX8_clause_56 : decode cX8_clause 56 = .ok (.iload_n 2, 1) := by decide +kernel
theorem dX8_clause_57 : decode cX8_clause 57 = .ok (.iconst 3, 1) := by decide +kernel
theorem dX8_clause_58 : decode cX8_clause 58 = .ok (.iadd, 1) := by decide +kernel
theorem dX8_clause_59 : decode cX8_clause 59 = .ok (.aload_n 0, 1) := by decide +kernel
theorem dX8_clause_60 : decode cX8_clause 60 = .ok (.bipush 9, 2) := by decide +kernel
theorem dX8_clause_62 : decode cX8_clause 62 = .ok (.invokevirtual 117, 3) := by decide +kernel
theorem dX8_clause_65 : decode cX8_clause 65 = .ok (.iastore, 1) := by decide +kernel
theorem dX8_clause_66 : decode cX8_clause 66 = .ok (.aload_n 0, 1) := by decide +kernel
theorem dX8_clause_67 : decode cX8_clause 67 = .ok (.getfield 22, 3) := by decide +kernel
theorem dX8_clause_70 : decode cX8_clause 70 = .ok (.iconst 4, 1) := by decide +kernel
theorem dX8_clause_71 : decode cX8_clause 71 = .ok (.dup2, 1) := by decide +kernel
theorem dX8_clause_72 : decode cX8_clause 72 = .ok (.iaload, 1) := by decide +kernel
theorem dX8_clause_73 : decode cX8_clause 73 = .ok (.iconst 1, 1) := by decide +kernel
theorem dX8_clause_74 : decode cX8_clause 74 = .ok (.iadd, 1) := by decide +kernel
theorem dX8_clause_75 : decode cX8_clause 75 = .ok (.iastore, 1) := by decide +kernel
theorem dX8_clause_76 : decode cX8_clause 76 = .ok (.goto 212, 3) := by decide +kernel
theorem dX8_clause_79 : decode cX8_clause 79 = .ok (.iload_n 1, 1) := by decide +kernel
theorem dX8_clause_80 : decode cX8_clause 80 = .ok (.iconst 4, 1) := by decide +kernel
theorem dX8_clause_81 : decode cX8_clause 81 = .ok (.if_icmp .ne 35, 3) := by decide +kernel
theorem dX8_clause_84 : decode cX8_clause 84 = .ok (.aload_n 0, 1) := by decide +kernel
theorem dX8_clause_85 : decode cX8_clause 85 = .ok (.getfield 16, 3) := by decide +kernel
theorem dX8_clause_88 : decode cX8_clause 88 = .ok (.iconst 5, 1) := by decide +kernel
theorem dX8_clause_89 : decode cX8_clause 89 = .ok (.aload_n 0, 1) := by decide +kernel
theorem dX8_clause_90 : decode cX8_clause 90 = .ok (.getfield 22, 3) := by decide +kernel
theorem dX8_clause_93 : decode cX8_clause 93 = .ok (.iconst 5, 1) := by decide +kernel
theorem dX8_clause_94 : decode cX8_clause 94 = .ok (.iaload, 1) := by decide +kernel
theorem dX8_clause_95 : decode cX8_clause 95 = .ok (.iadd, 1) := by decide +kernel
theorem dX8_clause_96 : decode cX8_clause 96 = .ok (.aload_n 0, 1) := by decide +kernel
theorem dX8_clause_97 : decode cX8_clause 97 = .ok (.bipush 15, 2) := by decide +kernel
theorem dX8_clause_99 : decode cX8_clause 99 = .ok (.invokevirtual 117, 3) := by decide +kernel
theorem dX8_clause_102 : decode cX8_clause 102 = .ok (.iastore, 1) := by decide +kernel
theorem dX8_clause_103 : decode cX8_clause 103 = .ok (.aload_n 0, 1) := by decide +kernel
theorem dX8_clause_104 : decode cX8_clause 104 = .ok (.getfield 22, 3) := by decide +kernel
theorem dX8_clause_107 : decode cX8_clause 107 = .ok (.iconst 5, 1) := by decide +kernel
theorem dX8_clause_108 : decode cX8_clause 108 = .ok (.dup2, 1) := by decide +kernel
theorem dX8_clause_109 : decode cX8_clause 109 = .ok (.iaload, 1) := by decide +kernel
theorem dX8_clause_110 : decode cX8_clause 110 = .ok (.iconst 1, 1) := by decide +kernel
theorem dX8_clause_111 : decode cX8_clause 111 = .ok (.iadd, 1) := by decide +kernel
theorem dX8_clause_112 : decode cX8_clause 112 = .ok (.iastore, 1) := by decide +kernel
theorem dX8_clause_113 : decode cX8_clause 113 = .ok (.goto 175, 3) := by decide +kernel
theorem dX8_clause_116 : decode cX8_clause 116 = .ok (.iload_n 1, 1) := by decide +kernel
theorem dX8_clause_117 : decode cX8_clause 117 = .ok (.iconst 5, 1) := by decide +kernel
theorem dX8_clause_118 : decode cX8_clause 118 = .ok (.if_icmp .ne 70, 3) := by decide +kernel
theorem dX8_clause_121 : decode cX8_clause 121 = .ok (.bipush 12, 2) := by decide +kernel
theorem dX8_clause_123 : decode cX8_clause 123 = .ok (.iconst 3, 1) := by decide +kernel
theorem dX8_clause_124 : decode cX8_clause 124 = .ok (.aload_n 0, 1) := by decide +kernel
theorem dX8_clause_125 : decode cX8_clause 125 = .ok (.getfield 22, 3) := by decide +kernel
theorem dX8_clause_128 : decode cX8_clause 128 = .ok (.bipush 6, 2) := by decide +kernel
theorem dX8_clause_130 : decode cX8_clause 130 = .ok (.iaload, 1) := by decide +kernel
theorem dX8_clause_131 : decode cX8_clause 131 = .ok (.imul, 1) := by decide +kernel
theorem dX8_clause_132 : decode cX8_clause 132 = .ok (.iadd, 1) := by decide +kernel
theorem dX8_clause_133 : decode cX8_clause 133 = .ok (.istore_n 2, 1) := by decide +kernel
theorem dX8_clause_134 : decode cX8_clause 134 = .ok (.aload_n 0, 1) := by decide +kernel
theorem dX8_clause_135 : decode cX8_clause 135 = .ok (.getfield 19, 3) := by decide +kernel
theorem dX8_clause_138 : decode cX8_clause 138 = .ok (.iload_n 2, 1) := by decide +kernel
theorem dX8_clause_139 : decode cX8_clause 139 = .ok (.aload_n 0, 1) := by decide +kernel
theorem dX8_clause_140 : decode cX8_clause 140 = .ok (.bipush 99, 2) := by decide +kernel
theorem dX8_clause_142 : decode cX8_clause 142 = .ok (.invokevirtual 117, 3) := by decide +kernel
theorem dX8_clause_145 : decode cX8_clause 145 = .ok (.iastore, 1) := by decide +kernel
theorem dX8_clause_146 : decode cX8_clause 146 = .ok (.aload_n 0, 1) := by decide +kernel
theorem dX8_clause_147 : decode cX8_clause 147 = .ok (.getfield 19, 3) := by decide +kernel
theorem dX8_clause_150 : decode cX8_clause 150 = .ok (.iload_n 2, 1) := by decide +kernel
theorem dX8_clause_151 : decode cX8_clause 151 = .ok (.iconst 1, 1) := by decide +kernel
theorem dX8_clause_152 : decode cX8_clause 152 = .ok (.iadd, 1) := by decide +kernel
theorem dX8_clause_153 : decode cX8_clause 153 = .ok (.aload_n 0, 1) := by decide +kernel
theorem dX8_clause_154 : decode cX8_clause 154 = .ok (.bipush 10, 2) := by decide +kernel
theorem dX8_clause_156 : decode cX8_clause 156 = .ok (.invokevirtual 117, 3) := by decide +kernel
theorem dX8_clause_159 : decode cX8_clause 159 = .ok (.iastore, 1) := by decide +kernel
theorem dX8_clause_160 : decode cX8_clause 160 = .ok (.aload_n 0, 1) := by decide +kernel
theorem dX8_clause_161 : decode cX8_clause 161 = .ok (.getfield 19, 3) := by decide +kernel
theorem dX8_clause_164 : decode cX8_clause 164 = .ok (.iload_n 2, 1) := by decide +kernel
theorem dX8_clause_165 : decode cX8_clause 165 = .ok (.iconst 2, 1) := by decide +kernel
theorem dX8_clause_166 : decode cX8_clause 166 = .ok (.iadd, 1) := by decide +kernel
theorem dX8_clause_167 : decode cX8_clause 167 = .ok (.aload_n 0, 1) := by decide +kernel
theorem dX8_clause_168 : decode cX8_clause 168 = .ok (.bipush 10, 2) := by decide +kernel
theorem dX8_clause_170 : decode cX8_clause 170 = .ok (.invokevirtual 117, 3) := by decide +kernel
theorem dX8_clause_173 : decode cX8_clause 173 = .ok (.iastore, 1) := by decide +kernel
theorem dX8_clause_174 : decode cX8_clause 174 = .ok (.aload_n 0, 1) := by decide +kernel
theorem dX8_clause_175 : decode cX8_clause 175 = .ok (.getfield 22, 3) := by decide +kernel
theorem dX8_clause_178 : decode cX8_clause 178 = .ok (.bipush 6, 2) := by decide +kernel
theorem dX8_clause_180 : decode cX8_clause 180 = .ok (.dup2, 1) := by decide +kernel
theorem dX8_clause_181 : decode cX8_clause 181 = .ok (.iaload, 1) := by decide +kernel
theorem dX8_clause_182 : decode cX8_clause 182 = .ok (.iconst 1, 1) := by decide +kernel
theorem dX8_clause_183 : decode cX8_clause 183 = .ok (.iadd, 1) := by decide +kernel
theorem dX8_clause_184 : decode cX8_clause 184 = .ok (.iastore, 1) := by decide +kernel
theorem dX8_clause_185 : decode cX8_clause 185 = .ok (.goto 103, 3) := by decide +kernel
theorem dX8_clause_188 : decode cX8_clause 188 = .ok (.iload_n 1, 1) := by decide +kernel
theorem dX8_clause_189 : decode cX8_clause 189 = .ok (.bipush 6, 2) := by decide +kernel
theorem dX8_clause_191 : decode cX8_clause 191 = .ok (.if_icmp .ne 19, 3) := by decide +kernel
theorem dX8_clause_194 : decode cX8_clause 194 = .ok (.aload_n 0, 1) := by decide +kernel
theorem dX8_clause_195 : decode cX8_clause 195 = .ok (.getfield 22, 3) := by decide +kernel
theorem dX8_clause_198 : decode cX8_clause 198 = .ok (.bipush 7, 2) := by decide +kernel
theorem dX8_clause_200 : decode cX8_clause 200 = .ok (.aload_n 0, 1) := by decide +kernel
theorem dX8_clause_201 : decode cX8_clause 201 = .ok (.bipush 99, 2) := by decide +kernel
theorem dX8_clause_203 : decode cX8_clause 203 = .ok (.invokevirtual 117, 3) := by decide +kernel
theorem dX8_clause_206 : decode cX8_clause 206 = .ok (.iastore, 1) := by decide +kernel
theorem dX8_clause_207 : decode cX8_clause 207 = .ok (.goto 81, 3) := by decide +kernel
theorem dX8_clause_210 : decode cX8_clause 210 = .ok (.aload_n 0, 1) := by decide +kernel
theorem dX8_clause_211 : decode cX8_clause 211 = .ok (.getfield 22, 3) := by decide +kernel
theorem dX8_clause_214 : decode cX8_clause 214 = .ok (.iconst 5, 1) := by decide +kernel
theorem dX8_clause_215 : decode cX8_clause 215 = .ok (.iconst 0, 1) := by decide +kernel
theorem dX8_clause_216 : decode cX8_clause 216 = .ok (.iastore, 1) := by decide +kernel
theorem dX8_clause_217 : decode cX8_clause 217 = .ok (.aload_n 0, 1) := by decide +kernel
theorem dX8_clause_218 : decode cX8_clause 218 = .ok (.getfield 22, 3) := by decide +kernel
theorem dX8_clause_221 : decode cX8_clause 221 = .ok (.iconst 4, 1) := by decide +kernel
theorem dX8_clause_222 : decode cX8_clause 222 = .ok (.iload_n 1, 1) := by decide +kernel
theorem dX8_clause_223 : decode cX8_clause 223 = .ok (.bipush 7, 2) := by decide +kernel
theorem dX8_clause_225 : decode cX8_clause 225 = .ok (.if_icmp .ne 7, 3) := by decide +kernel
theorem dX8_clause_228 : decode cX8_clause 228 = .ok (.iconst 0, 1) := by decide +kernel
theorem dX8_clause_229 : decode cX8_clause 229 = .ok (.goto 9, 3) := by decide +kernel
theorem dX8_clause_232 : decode cX8_clause 232 = .ok (.aload_n 0, 1) := by decide +kernel
theorem dX8_clause_233 : decode cX8_clause 233 = .ok (.getfield 22, 3) := by decide +kernel
theorem dX8_clause_236 : decode cX8_clause 236 = .ok (.iconst 4, 1) := by decide +kernel
theorem dX8_clause_237 : decode cX8_clause 237 = .ok (.iaload, 1) := by decide +kernel
theorem dX8_clause_238 : decode cX8_clause 238 = .ok (.iastore, 1) := by decide +kernel
theorem dX8_clause_239 : decode cX8_clause 239 = .ok (.aload_n 0, 1) := by decide +kernel
theorem dX8_clause_240 : decode cX8_clause 240 = .ok (.getfield 22, 3) := by decide +kernel
theorem dX8_clause_243 : decode cX8_clause 243 = .ok (.bipush 6, 2) := by decide +kernel
theorem dX8_clause_245 : decode cX8_clause 245 = .ok (.iload_n 1, 1) := by decide +kernel
theorem dX8_clause_246 : decode cX8_clause 246 = .ok (.bipush 7, 2) := by decide +kernel
theorem dX8_clause_248 : decode cX8_clause 248 = .ok (.if_icmp .ne 7, 3) := by decide +kernel
theorem dX8_clause_251 : decode cX8_clause 251 = .ok (.iconst 0, 1) := by decide +kernel
theorem dX8_clause_252 : decode cX8_clause 252 = .ok (.goto 10, 3) := by decide +kernel
theorem dX8_clause_255 : decode cX8_clause 255 = .ok (.aload_n 0, 1) := by decide +kernel
theorem dX8_clause_256 : decode cX8_clause 256 = .ok (.getfield 22, 3) := by decide +kernel
theorem dX8_clause_259 : decode cX8_clause 259 = .ok (.bipush 6, 2) := by decide +kernel
theorem dX8_clause_261 : decode cX8_clause 261 = .ok (.iaload, 1) := by decide +kernel
theorem dX8_clause_262 : decode cX8_clause 262 = .ok (.iastore, 1) := by decide +kernel
theorem dX8_clause_263 : decode cX8_clause 263 = .ok (.aload_n 0, 1) := by decide +kernel
theorem dX8_clause_264 : decode cX8_clause 264 = .ok (.getfield 22, 3) := by decide +kernel
theorem dX8_clause_267 : decode cX8_clause 267 = .ok (.bipush 7, 2) := by decide +kernel
theorem dX8_clause_269 : decode cX8_clause 269 = .ok (.iload_n 1, 1) := by decide +kernel
theorem dX8_clause_270 : decode cX8_clause 270 = .ok (.bipush 7, 2) := by decide +kernel
theorem dX8_clause_272 : decode cX8_clause 272 = .ok (.if_icmp .ne 8, 3) := by decide +kernel
theorem dX8_clause_275 : decode cX8_clause 275 = .ok (.bipush 20, 2) := by decide +kernel
theorem dX8_clause_277 : decode cX8_clause 277 = .ok (.goto 10, 3) := by decide +kernel
theorem dX8_clause_280 : decode cX8_clause 280 = .ok (.aload_n 0, 1) := by decide +kernel
theorem dX8_clause_281 : decode cX8_clause 281 = .ok (.getfield 22, 3) := by decide +kernel
theorem dX8_clause_284 : decode cX8_clause 284 = .ok (.bipush 7, 2) := by decide +kernel
theorem dX8_clause_286 : decode cX8_clause 286 = .ok (.iaload, 1) := by decide +kernel
theorem dX8_clause_287 : decode cX8_clause 287 = .ok (.iastore, 1) := by decide +kernel
theorem dX8_clause_288 : decode cX8_clause 288 = .ok (.return_, 1) := by decide +kernel
theorem dX8_drafts_0 : decode cX8_drafts 0 = .ok (.iconst 0, 1) := by decide +kernel
theorem dX8_drafts_1 : decode cX8_drafts 1 = .ok (.istore_n 1, 1) := by decide +kernel
theorem dX8_drafts_2 : decode cX8_drafts 2 = .ok (.iload_n 1, 1) := by decide +kernel
theorem dX8_drafts_3 : decode cX8_drafts 3 = .ok (.bipush 24, 2) := by decide +kernel
theorem dX8_drafts_5 : decode cX8_drafts 5 = .ok (.if_icmp .ge 24, 3) := by decide +kernel
theorem dX8_drafts_8 : decode cX8_drafts 8 = .ok (.aload_n 0, 1) := by decide +kernel
theorem dX8_drafts_9 : decode cX8_drafts 9 = .ok (.getfield 13, 3) := by decide +kernel
theorem dX8_drafts_12 : decode cX8_drafts 12 = .ok (.bipush 24, 2) := by decide +kernel
theorem dX8_drafts_14 : decode cX8_drafts 14 = .ok (.iload_n 1, 1) := by decide +kernel
theorem dX8_drafts_15 : decode cX8_drafts 15 = .ok (.iadd, 1) := by decide +kernel
theorem dX8_drafts_16 : decode cX8_drafts 16 = .ok (.aload_n 0, 1) := by decide +kernel
theorem dX8_drafts_17 : decode cX8_drafts 17 = .ok (.getfield 13, 3) := by decide +kernel
theorem dX8_drafts_20 : decode cX8_drafts 20 = .ok (.iload_n 1, 1) := by decide +kernel
theorem dX8_drafts_21 : decode cX8_drafts 21 = .ok (.iaload, 1) := by decide +kernel
theorem dX8_drafts_22 : decode cX8_drafts 22 = .ok (.iastore, 1) := by decide +kernel
theorem dX8_drafts_23 : decode cX8_drafts 23 = .ok (.iinc 1 1, 3) := by decide +kernel
theorem dX8_drafts_26 : decode cX8_drafts 26 = .ok (.goto (-24), 3) := by decide +kernel
theorem dX8_drafts_29 : decode cX8_drafts 29 = .ok (.iconst 0, 1) := by decide +kernel
theorem dX8_drafts_30 : decode cX8_drafts 30 = .ok (.istore_n 1, 1) := by decide +kernel
theorem dX8_drafts_31 : decode cX8_drafts 31 = .ok (.iload_n 1, 1) := by decide +kernel
theorem dX8_drafts_32 : decode cX8_drafts 32 = .ok (.iconst 5, 1) := by decide +kernel
theorem dX8_drafts_33 : decode cX8_drafts 33 = .ok (.if_icmp .ge 23, 3) := by decide +kernel
theorem dX8_drafts_36 : decode cX8_drafts 36 = .ok (.aload_n 0, 1) := by decide +kernel
theorem dX8_drafts_37 : decode cX8_drafts 37 = .ok (.getfield 16, 3) := by decide +kernel
theorem dX8_drafts_40 : decode cX8_drafts 40 = .ok (.iconst 5, 1) := by decide +kernel
theorem dX8_drafts_41 : decode cX8_drafts 41 = .ok (.iload_n 1, 1) := by decide +kernel
theorem dX8_drafts_42 : decode cX8_drafts 42 = .ok (.iadd, 1) := by decide +kernel
theorem dX8_drafts_43 : decode cX8_drafts 43 = .ok (.aload_n 0, 1) := by decide +kernel
theorem dX8_drafts_44 : decode cX8_drafts 44 = .ok (.getfield 16, 3) := by decide +kernel
theorem dX8_drafts_47 : decode cX8_drafts 47 = .ok (.iload_n 1, 1) := by decide +kernel
theorem dX8_drafts_48 : decode cX8_drafts 48 = .ok (.iaload, 1) := by decide +kernel
theorem dX8_drafts_49 : decode cX8_drafts 49 = .ok (.iastore, 1) := by decide +kernel
theorem dX8_drafts_50 : decode cX8_drafts 50 = .ok (.iinc 1 1, 3) := by decide +kernel
theorem dX8_drafts_53 : decode cX8_drafts 53 = .ok (.goto (-22), 3) := by decide +kernel
theorem dX8_drafts_56 : decode cX8_drafts 56 = .ok (.iconst 0, 1) := by decide +kernel
theorem dX8_drafts_57 : decode cX8_drafts 57 = .ok (.istore_n 1, 1) := by decide +kernel
theorem dX8_drafts_58 : decode cX8_drafts 58 = .ok (.iload_n 1, 1) := by decide +kernel
theorem dX8_drafts_59 : decode cX8_drafts 59 = .ok (.bipush 12, 2) := by decide +kernel
theorem dX8_drafts_61 : decode cX8_drafts 61 = .ok (.if_icmp .ge 24, 3) := by decide +kernel
theorem dX8_drafts_64 : decode cX8_drafts 64 = .ok (.aload_n 0, 1) := by decide +kernel
theorem dX8_drafts_65 : decode cX8_drafts 65 = .ok (.getfield 19, 3) := by decide +kernel
theorem dX8_drafts_68 : decode cX8_drafts 68 = .ok (.bipush 12, 2) := by decide +kernel
theorem dX8_drafts_70 : decode cX8_drafts 70 = .ok (.iload_n 1, 1) := by decide +kernel
theorem dX8_drafts_71 : decode cX8_drafts 71 = .ok (.iadd, 1) := by decide +kernel
theorem dX8_drafts_72 : decode cX8_drafts 72 = .ok (.aload_n 0, 1) := by decide +kernel
theorem dX8_drafts_73 : decode cX8_drafts 73 = .ok (.getfield 19, 3) := by decide +kernel
theorem dX8_drafts_76 : decode cX8_drafts 76 = .ok (.iload_n 1, 1) := by decide +kernel
theorem dX8_drafts_77 : decode cX8_drafts 77 = .ok (.iaload, 1) := by decide +kernel
theorem dX8_drafts_78 : decode cX8_drafts 78 = .ok (.iastore, 1) := by decide +kernel
theorem dX8_drafts_79 : decode cX8_drafts 79 = .ok (.iinc 1 1, 3) := by decide +kernel
theorem dX8_drafts_82 : decode cX8_drafts 82 = .ok (.goto (-24), 3) := by decide +kernel
theorem dX8_drafts_85 : decode cX8_drafts 85 = .ok (.iconst 0, 1) := by decide +kernel
theorem dX8_drafts_86 : decode cX8_drafts 86 = .ok (.istore_n 1, 1) := by decide +kernel
theorem dX8_drafts_87 : decode cX8_drafts 87 = .ok (.iload_n 1, 1) := by decide +kernel
theorem dX8_drafts_88 : decode cX8_drafts 88 = .ok (.iconst 4, 1) := by decide +kernel
theorem dX8_drafts_89 : decode cX8_drafts 89 = .ok (.if_icmp .ge 23, 3) := by decide +kernel
theorem dX8_drafts_92 : decode cX8_drafts 92 = .ok (.aload_n 0, 1) := by decide +kernel
theorem dX8_drafts_93 : decode cX8_drafts 93 = .ok (.getfield 22, 3) := by decide +kernel
theorem dX8_drafts_96 : decode cX8_drafts 96 = .ok (.iconst 4, 1) := by decide +kernel
theorem dX8_drafts_97 : decode cX8_drafts 97 = .ok (.iload_n 1, 1) := by decide +kernel
theorem dX8_drafts_98 : decode cX8_drafts 98 = .ok (.iadd, 1) := by decide +kernel
theorem dX8_drafts_99 : decode cX8_drafts 99 = .ok (.aload_n 0, 1) := by decide +kernel
theorem dX8_drafts_100 : decode cX8_drafts 100 = .ok (.getfield 22, 3) := by decide +kernel
theorem dX8_drafts_103 : decode cX8_drafts 103 = .ok (.iload_n 1, 1) := by decide +kernel
theorem dX8_drafts_104 : decode cX8_drafts 104 = .ok (.iaload, 1) := by decide +kernel
theorem dX8_drafts_105 : decode cX8_drafts 105 = .ok (.iastore, 1) := by decide +kernel
theorem dX8_drafts_106 : decode cX8_drafts 106 = .ok (.iinc 1 1, 3) := by decide +kernel
theorem dX8_drafts_109 : decode cX8_drafts 109 = .ok (.goto (-22), 3) := by decide +kernel
theorem dX8_drafts_112 : decode cX8_drafts 112 = .ok (.return_, 1) := by decide +kernel
theorem dX8_reads_0 : decode cX8_reads 0 = .ok (.aload_n 0, 1) := by decide +kernel
theorem dX8_reads_1 : decode cX8_reads 1 = .ok (.invokevirtual 120, 3) := by decide +kernel
theorem dX8_reads_4 : decode cX8_reads 4 = .ok (.aload_n 0, 1) := by decide +kernel
theorem dX8_reads_5 : decode cX8_reads 5 = .ok (.iconst (-1), 1) := by decide +kernel
theorem dX8_reads_6 : decode cX8_reads 6 = .ok (.putfield 108, 3) := by decide +kernel
theorem dX8_reads_9 : decode cX8_reads 9 = .ok (.aload_n 0, 1) := by decide +kernel
theorem dX8_reads_10 : decode cX8_reads 10 = .ok (.iconst 0, 1) := by decide +kernel
theorem dX8_reads_11 : decode cX8_reads 11 = .ok (.putfield 61, 3) := by decide +kernel
theorem dX8_reads_14 : decode cX8_reads 14 = .ok (.aload_n 0, 1) := by decide +kernel
theorem dX8_reads_15 : decode cX8_reads 15 = .ok (.iconst 0, 1) := by decide +kernel
theorem dX8_reads_16 : decode cX8_reads 16 = .ok (.putfield 123, 3) := by decide +kernel
theorem dX8_reads_19 : decode cX8_reads 19 = .ok (.iconst 1, 1) := by decide +kernel
theorem dX8_reads_20 : decode cX8_reads 20 = .ok (.istore_n 1, 1) := by decide +kernel
theorem dX8_reads_21 : decode cX8_reads 21 = .ok (.iload_n 1, 1) := by decide +kernel
theorem dX8_reads_22 : decode cX8_reads 22 = .ok (.ifCond .eq 119, 3) := by decide +kernel
theorem dX8_reads_25 : decode cX8_reads 25 = .ok (.aload_n 0, 1) := by decide +kernel
theorem dX8_reads_26 : decode cX8_reads 26 = .ok (.getfield 108, 3) := by decide +kernel
theorem dX8_reads_29 : decode cX8_reads 29 = .ok (.iconst (-1), 1) := by decide +kernel
theorem dX8_reads_30 : decode cX8_reads 30 = .ok (.if_icmp .ne 111, 3) := by decide +kernel
theorem dX8_reads_33 : decode cX8_reads 33 = .ok (.aload_n 0, 1) := by decide +kernel
theorem dX8_reads_34 : decode cX8_reads 34 = .ok (.getfield 64, 3) := by decide +kernel
theorem dX8_reads_37 : decode cX8_reads 37 = .ok (.istore_n 2, 1) := by decide +kernel
theorem dX8_reads_38 : decode cX8_reads 38 = .ok (.aload_n 0, 1) := by decide +kernel
theorem dX8_reads_39 : decode cX8_reads 39 = .ok (.invokevirtual 114, 3) := by decide +kernel
theorem dX8_reads_42 : decode cX8_reads 42 = .ok (.aload_n 0, 1) := by decide +kernel
theorem dX8_reads_43 : decode cX8_reads 43 = .ok (.getfield 123, 3) := by decide +kernel
theorem dX8_reads_46 : decode cX8_reads 46 = .ok (.bipush 14, 2) := by decide +kernel
theorem dX8_reads_48 : decode cX8_reads 48 = .ok (.if_icmp .ne 11, 3) := by decide +kernel
theorem dX8_reads_51 : decode cX8_reads 51 = .ok (.aload_n 0, 1) := by decide +kernel
theorem dX8_reads_52 : decode cX8_reads 52 = .ok (.iload_n 2, 1) := by decide +kernel
theorem dX8_reads_53 : decode cX8_reads 53 = .ok (.putfield 108, 3) := by decide +kernel
theorem dX8_reads_56 : decode cX8_reads 56 = .ok (.goto 82, 3) := by decide +kernel
theorem dX8_reads_59 : decode cX8_reads 59 = .ok (.aload_n 0, 1) := by decide +kernel
theorem dX8_reads_60 : decode cX8_reads 60 = .ok (.getfield 95, 3) := by decide +kernel
theorem dX8_reads_63 : decode cX8_reads 63 = .ok (.iconst 1, 1) := by decide +kernel
theorem dX8_reads_64 : decode cX8_reads 64 = .ok (.if_icmp .ne 14, 3) := by decide +kernel
theorem dX8_reads_67 : decode cX8_reads 67 = .ok (.aload_n 0, 1) := by decide +kernel
theorem dX8_reads_68 : decode cX8_reads 68 = .ok (.aload_n 0, 1) := by decide +kernel
theorem dX8_reads_69 : decode cX8_reads 69 = .ok (.getfield 102, 3) := by decide +kernel
theorem dX8_reads_72 : decode cX8_reads 72 = .ok (.invokevirtual 126, 3) := by decide +kernel
theorem dX8_reads_75 : decode cX8_reads 75 = .ok (.ifCond .ne 10, 3) := by decide +kernel
theorem dX8_reads_78 : decode cX8_reads 78 = .ok (.aload_n 0, 1) := by decide +kernel
theorem dX8_reads_79 : decode cX8_reads 79 = .ok (.invokevirtual 111, 3) := by decide +kernel
theorem dX8_reads_82 : decode cX8_reads 82 = .ok (.goto 56, 3) := by decide +kernel
theorem dX8_reads_85 : decode cX8_reads 85 = .ok (.aload_n 0, 1) := by decide +kernel
theorem dX8_reads_86 : decode cX8_reads 86 = .ok (.getfield 102, 3) := by decide +kernel
theorem dX8_reads_89 : decode cX8_reads 89 = .ok (.istore_n 3, 1) := by decide +kernel
theorem dX8_reads_90 : decode cX8_reads 90 = .ok (.aload_n 0, 1) := by decide +kernel
theorem dX8_reads_91 : decode cX8_reads 91 = .ok (.invokevirtual 114, 3) := by decide +kernel
theorem dX8_reads_94 : decode cX8_reads 94 = .ok (.aload_n 0, 1) := by decide +kernel
theorem dX8_reads_95 : decode cX8_reads 95 = .ok (.iload_n 3, 1) := by decide +kernel
theorem dX8_reads_96 : decode cX8_reads 96 = .ok (.invokevirtual 130, 3) := by decide +kernel
theorem dX8_reads_99 : decode cX8_reads 99 = .ok (.aload_n 0, 1) := by decide +kernel
theorem dX8_reads_100 : decode cX8_reads 100 = .ok (.dup, 1) := by decide +kernel
theorem dX8_reads_101 : decode cX8_reads 101 = .ok (.getfield 123, 3) := by decide +kernel
theorem dX8_reads_104 : decode cX8_reads 104 = .ok (.iconst 1, 1) := by decide +kernel
theorem dX8_reads_105 : decode cX8_reads 105 = .ok (.iadd, 1) := by decide +kernel
theorem dX8_reads_106 : decode cX8_reads 106 = .ok (.putfield 123, 3) := by decide +kernel
theorem dX8_reads_109 : decode cX8_reads 109 = .ok (.aload_n 0, 1) := by decide +kernel
theorem dX8_reads_110 : decode cX8_reads 110 = .ok (.getfield 95, 3) := by decide +kernel
theorem dX8_reads_113 : decode cX8_reads 113 = .ok (.iconst 3, 1) := by decide +kernel
theorem dX8_reads_114 : decode cX8_reads 114 = .ok (.if_icmp .ne 7, 3) := by decide +kernel
theorem dX8_reads_117 : decode cX8_reads 117 = .ok (.iconst 1, 1) := by decide +kernel
theorem dX8_reads_118 : decode cX8_reads 118 = .ok (.goto 4, 3) := by decide +kernel
theorem dX8_reads_121 : decode cX8_reads 121 = .ok (.iconst 0, 1) := by decide +kernel
theorem dX8_reads_122 : decode cX8_reads 122 = .ok (.istore_n 1, 1) := by decide +kernel
theorem dX8_reads_123 : decode cX8_reads 123 = .ok (.iload_n 1, 1) := by decide +kernel
theorem dX8_reads_124 : decode cX8_reads 124 = .ok (.ifCond .ne 14, 3) := by decide +kernel
theorem dX8_reads_127 : decode cX8_reads 127 = .ok (.aload_n 0, 1) := by decide +kernel
theorem dX8_reads_128 : decode cX8_reads 128 = .ok (.getfield 95, 3) := by decide +kernel
theorem dX8_reads_131 : decode cX8_reads 131 = .ok (.ifCond .eq 7, 3) := by decide +kernel
theorem dX8_reads_134 : decode cX8_reads 134 = .ok (.aload_n 0, 1) := by decide +kernel
theorem dX8_reads_135 : decode cX8_reads 135 = .ok (.invokevirtual 111, 3) := by decide +kernel
theorem dX8_reads_138 : decode cX8_reads 138 = .ok (.goto (-117), 3) := by decide +kernel
theorem dX8_reads_141 : decode cX8_reads 141 = .ok (.return_, 1) := by decide +kernel
theorem dX8_fault_0 : decode cX8_fault 0 = .ok (.aload_n 0, 1) := by decide +kernel
theorem dX8_fault_1 : decode cX8_fault 1 = .ok (.iconst 0, 1) := by decide +kernel
theorem dX8_fault_2 : decode cX8_fault 2 = .ok (.putfield 50, 3) := by decide +kernel
theorem dX8_fault_5 : decode cX8_fault 5 = .ok (.aload_n 0, 1) := by decide +kernel
theorem dX8_fault_6 : decode cX8_fault 6 = .ok (.invokevirtual 134, 3) := by decide +kernel
theorem dX8_fault_9 : decode cX8_fault 9 = .ok (.aload_n 0, 1) := by decide +kernel
theorem dX8_fault_10 : decode cX8_fault 10 = .ok (.getfield 108, 3) := by decide +kernel
theorem dX8_fault_13 : decode cX8_fault 13 = .ok (.ireturn, 1) := by decide +kernel
theorem dX8_house_0 : decode cX8_house 0 = .ok (.aload_n 0, 1) := by decide +kernel
theorem dX8_house_1 : decode cX8_house 1 = .ok (.iconst 0, 1) := by decide +kernel
theorem dX8_house_2 : decode cX8_house 2 = .ok (.putfield 50, 3) := by decide +kernel
theorem dX8_house_5 : decode cX8_house 5 = .ok (.aload_n 0, 1) := by decide +kernel
theorem dX8_house_6 : decode cX8_house 6 = .ok (.invokevirtual 134, 3) := by decide +kernel
theorem dX8_house_9 : decode cX8_house 9 = .ok (.aload_n 0, 1) := by decide +kernel
theorem dX8_house_10 : decode cX8_house 10 = .ok (.getfield 108, 3) := by decide +kernel
theorem dX8_house_13 : decode cX8_house 13 = .ok (.iconst (-1), 1) := by decide +kernel
theorem dX8_house_14 : decode cX8_house 14 = .ok (.if_icmp .eq 6, 3) := by decide +kernel
theorem dX8_house_17 : decode cX8_house 17 = .ok (.bipush (-4), 2) := by decide +kernel
theorem dX8_house_19 : decode cX8_house 19 = .ok (.ireturn, 1) := by decide +kernel
theorem dX8_house_20 : decode cX8_house 20 = .ok (.iconst 0, 1) := by decide +kernel
theorem dX8_house_21 : decode cX8_house 21 = .ok (.istore_n 1, 1) := by decide +kernel
theorem dX8_house_22 : decode cX8_house 22 = .ok (.iload_n 1, 1) := by decide +kernel
theorem dX8_house_23 : decode cX8_house 23 = .ok (.bipush 24, 2) := by decide +kernel
theorem dX8_house_25 : decode cX8_house 25 = .ok (.if_icmp .ge 24, 3) := by decide +kernel
theorem dX8_house_28 : decode cX8_house 28 = .ok (.aload_n 0, 1) := by decide +kernel
theorem dX8_house_29 : decode cX8_house 29 = .ok (.getfield 13, 3) := by decide +kernel
theorem dX8_house_32 : decode cX8_house 32 = .ok (.iload_n 1, 1) := by decide +kernel
theorem dX8_house_33 : decode cX8_house 33 = .ok (.aload_n 0, 1) := by decide +kernel
theorem dX8_house_34 : decode cX8_house 34 = .ok (.getfield 13, 3) := by decide +kernel
theorem dX8_house_37 : decode cX8_house 37 = .ok (.bipush 24, 2) := by decide +kernel
theorem dX8_house_39 : decode cX8_house 39 = .ok (.iload_n 1, 1) := by decide +kernel
theorem dX8_house_40 : decode cX8_house 40 = .ok (.iadd, 1) := by decide +kernel
theorem dX8_house_41 : decode cX8_house 41 = .ok (.iaload, 1) := by decide +kernel
theorem dX8_house_42 : decode cX8_house 42 = .ok (.iastore, 1) := by decide +kernel
theorem dX8_house_43 : decode cX8_house 43 = .ok (.iinc 1 1, 3) := by decide +kernel
theorem dX8_house_46 : decode cX8_house 46 = .ok (.goto (-24), 3) := by decide +kernel
theorem dX8_house_49 : decode cX8_house 49 = .ok (.iconst 0, 1) := by decide +kernel
theorem dX8_house_50 : decode cX8_house 50 = .ok (.istore_n 1, 1) := by decide +kernel
theorem dX8_house_51 : decode cX8_house 51 = .ok (.iload_n 1, 1) := by decide +kernel
theorem dX8_house_52 : decode cX8_house 52 = .ok (.iconst 5, 1) := by decide +kernel
theorem dX8_house_53 : decode cX8_house 53 = .ok (.if_icmp .ge 23, 3) := by decide +kernel
theorem dX8_house_56 : decode cX8_house 56 = .ok (.aload_n 0, 1) := by decide +kernel
theorem dX8_house_57 : decode cX8_house 57 = .ok (.getfield 16, 3) := by decide +kernel
theorem dX8_house_60 : decode cX8_house 60 = .ok (.iload_n 1, 1) := by decide +kernel
theorem dX8_house_61 : decode cX8_house 61 = .ok (.aload_n 0, 1) := by decide +kernel
theorem dX8_house_62 : decode cX8_house 62 = .ok (.getfield 16, 3) := by decide +kernel
theorem dX8_house_65 : decode cX8_house 65 = .ok (.iconst 5, 1) := by decide +kernel
theorem dX8_house_66 : decode cX8_house 66 = .ok (.iload_n 1, 1) := by decide +kernel
theorem dX8_house_67 : decode cX8_house 67 = .ok (.iadd, 1) := by decide +kernel
theorem dX8_house_68 : decode cX8_house 68 = .ok (.iaload, 1) := by decide +kernel
theorem dX8_house_69 : decode cX8_house 69 = .ok (.iastore, 1) := by decide +kernel
theorem dX8_house_70 : decode cX8_house 70 = .ok (.iinc 1 1, 3) := by decide +kernel
theorem dX8_house_73 : decode cX8_house 73 = .ok (.goto (-22), 3) := by decide +kernel
theorem dX8_house_76 : decode cX8_house 76 = .ok (.iconst 0, 1) := by decide +kernel
theorem dX8_house_77 : decode cX8_house 77 = .ok (.istore_n 1, 1) := by decide +kernel
theorem dX8_house_78 : decode cX8_house 78 = .ok (.iload_n 1, 1) := by decide +kernel
theorem dX8_house_79 : decode cX8_house 79 = .ok (.bipush 12, 2) := by decide +kernel
theorem dX8_house_81 : decode cX8_house 81 = .ok (.if_icmp .ge 24, 3) := by decide +kernel
theorem dX8_house_84 : decode cX8_house 84 = .ok (.aload_n 0, 1) := by decide +kernel
theorem dX8_house_85 : decode cX8_house 85 = .ok (.getfield 19, 3) := by decide +kernel
theorem dX8_house_88 : decode cX8_house 88 = .ok (.iload_n 1, 1) := by decide +kernel
theorem dX8_house_89 : decode cX8_house 89 = .ok (.aload_n 0, 1) := by decide +kernel
theorem dX8_house_90 : decode cX8_house 90 = .ok (.getfield 19, 3) := by decide +kernel
theorem dX8_house_93 : decode cX8_house 93 = .ok (.bipush 12, 2) := by decide +kernel
theorem dX8_house_95 : decode cX8_house 95 = .ok (.iload_n 1, 1) := by decide +kernel
theorem dX8_house_96 : decode cX8_house 96 = .ok (.iadd, 1) := by decide +kernel
theorem dX8_house_97 : decode cX8_house 97 = .ok (.iaload, 1) := by decide +kernel
theorem dX8_house_98 : decode cX8_house 98 = .ok (.iastore, 1) := by decide +kernel
theorem dX8_house_99 : decode cX8_house 99 = .ok (.iinc 1 1, 3) := by decide +kernel
theorem dX8_house_102 : decode cX8_house 102 = .ok (.goto (-24), 3) := by decide +kernel
theorem dX8_house_105 : decode cX8_house 105 = .ok (.iconst 0, 1) := by decide +kernel
theorem dX8_house_106 : decode cX8_house 106 = .ok (.istore_n 1, 1) := by decide +kernel
theorem dX8_house_107 : decode cX8_house 107 = .ok (.iload_n 1, 1) := by decide +kernel
theorem dX8_house_108 : decode cX8_house 108 = .ok (.iconst 4, 1) := by decide +kernel
theorem dX8_house_109 : decode cX8_house 109 = .ok (.if_icmp .ge 23, 3) := by decide +kernel
theorem dX8_house_112 : decode cX8_house 112 = .ok (.aload_n 0, 1) := by decide +kernel
theorem dX8_house_113 : decode cX8_house 113 = .ok (.getfield 22, 3) := by decide +kernel
theorem dX8_house_116 : decode cX8_house 116 = .ok (.iload_n 1, 1) := by decide +kernel
theorem dX8_house_117 : decode cX8_house 117 = .ok (.aload_n 0, 1) := by decide +kernel
theorem dX8_house_118 : decode cX8_house 118 = .ok (.getfield 22, 3) := by decide +kernel
theorem dX8_house_121 : decode cX8_house 121 = .ok (.iconst 4, 1) := by decide +kernel
theorem dX8_house_122 : decode cX8_house 122 = .ok (.iload_n 1, 1) := by decide +kernel
theorem dX8_house_123 : decode cX8_house 123 = .ok (.iadd, 1) := by decide +kernel
theorem dX8_house_124 : decode cX8_house 124 = .ok (.iaload, 1) := by decide +kernel
theorem dX8_house_125 : decode cX8_house 125 = .ok (.iastore, 1) := by decide +kernel
theorem dX8_house_126 : decode cX8_house 126 = .ok (.iinc 1 1, 3) := by decide +kernel
theorem dX8_house_129 : decode cX8_house 129 = .ok (.goto (-22), 3) := by decide +kernel
theorem dX8_house_132 : decode cX8_house 132 = .ok (.iconst 0, 1) := by decide +kernel
theorem dX8_house_133 : decode cX8_house 133 = .ok (.istore_n 1, 1) := by decide +kernel
theorem dX8_house_134 : decode cX8_house 134 = .ok (.iload_n 1, 1) := by decide +kernel
theorem dX8_house_135 : decode cX8_house 135 = .ok (.bipush 8, 2) := by decide +kernel
theorem dX8_house_137 : decode cX8_house 137 = .ok (.if_icmp .ge 16, 3) := by decide +kernel
theorem dX8_house_140 : decode cX8_house 140 = .ok (.aload_n 0, 1) := by decide +kernel
theorem dX8_house_141 : decode cX8_house 141 = .ok (.getfield 25, 3) := by decide +kernel
theorem dX8_house_144 : decode cX8_house 144 = .ok (.iload_n 1, 1) := by decide +kernel
theorem dX8_house_145 : decode cX8_house 145 = .ok (.iconst 0, 1) := by decide +kernel
theorem dX8_house_146 : decode cX8_house 146 = .ok (.iastore, 1) := by decide +kernel
theorem dX8_house_147 : decode cX8_house 147 = .ok (.iinc 1 1, 3) := by decide +kernel
theorem dX8_house_150 : decode cX8_house 150 = .ok (.goto (-16), 3) := by decide +kernel
theorem dX8_house_153 : decode cX8_house 153 = .ok (.aload_n 0, 1) := by decide +kernel
theorem dX8_house_154 : decode cX8_house 154 = .ok (.getfield 25, 3) := by decide +kernel
theorem dX8_house_157 : decode cX8_house 157 = .ok (.iconst 1, 1) := by decide +kernel
theorem dX8_house_158 : decode cX8_house 158 = .ok (.iconst 1, 1) := by decide +kernel
theorem dX8_house_159 : decode cX8_house 159 = .ok (.aload_n 0, 1) := by decide +kernel
theorem dX8_house_160 : decode cX8_house 160 = .ok (.getfield 22, 3) := by decide +kernel
theorem dX8_house_163 : decode cX8_house 163 = .ok (.iconst 0, 1) := by decide +kernel
theorem dX8_house_164 : decode cX8_house 164 = .ok (.iaload, 1) := by decide +kernel
theorem dX8_house_165 : decode cX8_house 165 = .ok (.ishl, 1) := by decide +kernel
theorem dX8_house_166 : decode cX8_house 166 = .ok (.iconst 1, 1) := by decide +kernel
theorem dX8_house_167 : decode cX8_house 167 = .ok (.isub, 1) := by decide +kernel
theorem dX8_house_168 : decode cX8_house 168 = .ok (.iastore, 1) := by decide +kernel
theorem dX8_house_169 : decode cX8_house 169 = .ok (.aload_n 0, 1) := by decide +kernel
theorem dX8_house_170 : decode cX8_house 170 = .ok (.iconst 0, 1) := by decide +kernel
theorem dX8_house_171 : decode cX8_house 171 = .ok (.putfield 58, 3) := by decide +kernel
theorem dX8_house_174 : decode cX8_house 174 = .ok (.aload_n 0, 1) := by decide +kernel
theorem dX8_house_175 : decode cX8_house 175 = .ok (.iconst 0, 1) := by decide +kernel
theorem dX8_house_176 : decode cX8_house 176 = .ok (.putfield 137, 3) := by decide +kernel
theorem dX8_house_179 : decode cX8_house 179 = .ok (.aload_n 0, 1) := by decide +kernel
theorem dX8_house_180 : decode cX8_house 180 = .ok (.iconst 0, 1) := by decide +kernel
theorem dX8_house_181 : decode cX8_house 181 = .ok (.putfield 140, 3) := by decide +kernel
theorem dX8_house_184 : decode cX8_house 184 = .ok (.aload_n 0, 1) := by decide +kernel
theorem dX8_house_185 : decode cX8_house 185 = .ok (.getfield 34, 3) := by decide +kernel
theorem dX8_house_188 : decode cX8_house 188 = .ok (.iconst 0, 1) := by decide +kernel
theorem dX8_house_189 : decode cX8_house 189 = .ok (.iconst 0, 1) := by decide +kernel
theorem dX8_house_190 : decode cX8_house 190 = .ok (.bastore, 1) := by decide +kernel
theorem dX8_house_191 : decode cX8_house 191 = .ok (.aload_n 0, 1) := by decide +kernel
theorem dX8_house_192 : decode cX8_house 192 = .ok (.getfield 34, 3) := by decide +kernel
theorem dX8_house_195 : decode cX8_house 195 = .ok (.iconst 1, 1) := by decide +kernel
theorem dX8_house_196 : decode cX8_house 196 = .ok (.iconst 0, 1) := by decide +kernel
theorem dX8_house_197 : decode cX8_house 197 = .ok (.bastore, 1) := by decide +kernel
theorem dX8_house_198 : decode cX8_house 198 = .ok (.aload_n 0, 1) := by decide +kernel
theorem dX8_house_199 : decode cX8_house 199 = .ok (.getfield 123, 3) := by decide +kernel
theorem dX8_house_202 : decode cX8_house 202 = .ok (.ireturn, 1) := by decide +kernel
theorem dX8_isMouse_0 : decode cX8_isMouse 0 = .ok (.iload_n 1, 1) := by decide +kernel
theorem dX8_isMouse_1 : decode cX8_isMouse 1 = .ok (.iconst 0, 1) := by decide +kernel
theorem dX8_isMouse_2 : decode cX8_isMouse 2 = .ok (.aload_n 0, 1) := by decide +kernel
theorem dX8_isMouse_3 : decode cX8_isMouse 3 = .ok (.getfield 22, 3) := by decide +kernel
theorem dX8_isMouse_6 : decode cX8_isMouse 6 = .ok (.iconst 0, 1) := by decide +kernel
theorem dX8_isMouse_7 : decode cX8_isMouse 7 = .ok (.iaload, 1) := by decide +kernel
theorem dX8_isMouse_8 : decode cX8_isMouse 8 = .ok (.iconst 1, 1) := by decide +kernel
theorem dX8_isMouse_9 : decode cX8_isMouse 9 = .ok (.isub, 1) := by decide +kernel
theorem dX8_isMouse_10 : decode cX8_isMouse 10 = .ok (.invokestatic 54, 3) := by decide +kernel
theorem dX8_isMouse_13 : decode cX8_isMouse 13 = .ok (.ireturn, 1) := by decide +kernel
theorem dX8_isStep_0 : decode cX8_isStep 0 = .ok (.iload_n 1, 1) := by decide +kernel
theorem dX8_isStep_1 : decode cX8_isStep 1 = .ok (.iconst 0, 1) := by decide +kernel
theorem dX8_isStep_2 : decode cX8_isStep 2 = .ok (.aload_n 0, 1) := by decide +kernel
theorem dX8_isStep_3 : decode cX8_isStep 3 = .ok (.getfield 22, 3) := by decide +kernel
theorem dX8_isStep_6 : decode cX8_isStep 6 = .ok (.iconst 1, 1) := by decide +kernel
theorem dX8_isStep_7 : decode cX8_isStep 7 = .ok (.iaload, 1) := by decide +kernel
theorem dX8_isStep_8 : decode cX8_isStep 8 = .ok (.iconst 1, 1) := by decide +kernel
theorem dX8_isStep_9 : decode cX8_isStep 9 = .ok (.isub, 1) := by decide +kernel
theorem dX8_isStep_10 : decode cX8_isStep 10 = .ok (.invokestatic 54, 3) := by decide +kernel
theorem dX8_isStep_13 : decode cX8_isStep 13 = .ok (.ireturn, 1) := by decide +kernel
theorem dX8_isLiving_0 : decode cX8_isLiving 0 = .ok (.aload_n 0, 1) := by decide +kernel
theorem dX8_isLiving_1 : decode cX8_isLiving 1 = .ok (.getfield 25, 3) := by decide +kernel
theorem dX8_isLiving_4 : decode cX8_isLiving 4 = .ok (.iconst 1, 1) := by decide +kernel
theorem dX8_isLiving_5 : decode cX8_isLiving 5 = .ok (.iaload, 1) := by decide +kernel
theorem dX8_isLiving_6 : decode cX8_isLiving 6 = .ok (.iload_n 1, 1) := by decide +kernel
theorem dX8_isLiving_7 : decode cX8_isLiving 7 = .ok (.ishr, 1) := by decide +kernel
theorem dX8_isLiving_8 : decode cX8_isLiving 8 = .ok (.iconst 1, 1) := by decide +kernel
theorem dX8_isLiving_9 : decode cX8_isLiving 9 = .ok (.iand, 1) := by decide +kernel
theorem dX8_isLiving_10 : decode cX8_isLiving 10 = .ok (.iconst 1, 1) := by decide +kernel
theorem dX8_isLiving_11 : decode cX8_isLiving 11 = .ok (.if_icmp .ne 7, 3) := by decide +kernel
theorem dX8_isLiving_14 : decode cX8_isLiving 14 = .ok (.iconst 1, 1) := by decide +kernel
theorem dX8_isLiving_15 : decode cX8_isLiving 15 = .ok (.goto 4, 3) := by decide +kernel
theorem dX8_isLiving_18 : decode cX8_isLiving 18 = .ok (.iconst 0, 1) := by decide +kernel
theorem dX8_isLiving_19 : decode cX8_isLiving 19 = .ok (.ireturn, 1) := by decide +kernel
theorem dX8_stepsOf_0 : decode cX8_stepsOf 0 = .ok (.iconst 0, 1) := by decide +kernel
theorem dX8_stepsOf_1 : decode cX8_stepsOf 1 = .ok (.istore_n 2, 1) := by decide +kernel
theorem dX8_stepsOf_2 : decode cX8_stepsOf 2 = .ok (.iconst 0, 1) := by decide +kernel
theorem dX8_stepsOf_3 : decode cX8_stepsOf 3 = .ok (.istore_n 3, 1) := by decide +kernel
theorem dX8_stepsOf_4 : decode cX8_stepsOf 4 = .ok (.iload_n 3, 1) := by decide +kernel
theorem dX8_stepsOf_5 : decode cX8_stepsOf 5 = .ok (.aload_n 0, 1) := by decide +kernel
theorem dX8_stepsOf_6 : decode cX8_stepsOf 6 = .ok (.getfield 22, 3) := by decide +kernel
theorem dX8_stepsOf_9 : decode cX8_stepsOf 9 = .ok (.iconst 1, 1) := by decide +kernel
theorem dX8_stepsOf_10 : decode cX8_stepsOf 10 = .ok (.iaload, 1) := by decide +kernel
theorem dX8_stepsOf_11 : decode cX8_stepsOf 11 = .ok (.if_icmp .ge 33, 3) := by decide +kernel
theorem dX8_stepsOf_14 : decode cX8_stepsOf 14 = .ok (.iload_n 2, 1) := by decide +kernel
theorem dX8_stepsOf_15 : decode cX8_stepsOf 15 = .ok (.aload_n 0, 1) := by decide +kernel
theorem dX8_stepsOf_16 : decode cX8_stepsOf 16 = .ok (.getfield 25, 3) := by decide +kernel
theorem dX8_stepsOf_19 : decode cX8_stepsOf 19 = .ok (.iconst 3, 1) := by decide +kernel
theorem dX8_stepsOf_20 : decode cX8_stepsOf 20 = .ok (.iload_n 3, 1) := by decide +kernel
theorem dX8_stepsOf_21 : decode cX8_stepsOf 21 = .ok (.iadd, 1) := by decide +kernel
theorem dX8_stepsOf_22 : decode cX8_stepsOf 22 = .ok (.iaload, 1) := by decide +kernel
theorem dX8_stepsOf_23 : decode cX8_stepsOf 23 = .ok (.iload_n 1, 1) := by decide +kernel
theorem dX8_stepsOf_24 : decode cX8_stepsOf 24 = .ok (.iconst 1, 1) := by decide +kernel
theorem dX8_stepsOf_25 : decode cX8_stepsOf 25 = .ok (.iadd, 1) := by decide +kernel
theorem dX8_stepsOf_26 : decode cX8_stepsOf 26 = .ok (.if_icmp .ne 9, 3) := by decide +kernel
theorem dX8_stepsOf_29 : decode cX8_stepsOf 29 = .ok (.iconst 1, 1) := by decide +kernel
theorem dX8_stepsOf_30 : decode cX8_stepsOf 30 = .ok (.iload_n 3, 1) := by decide +kernel
theorem dX8_stepsOf_31 : decode cX8_stepsOf 31 = .ok (.ishl, 1) := by decide +kernel
theorem dX8_stepsOf_32 : decode cX8_stepsOf 32 = .ok (.goto 4, 3) := by decide +kernel
theorem dX8_stepsOf_35 : decode cX8_stepsOf 35 = .ok (.iconst 0, 1) := by decide +kernel
theorem dX8_stepsOf_36 : decode cX8_stepsOf 36 = .ok (.ior, 1) := by decide +kernel
theorem dX8_stepsOf_37 : decode cX8_stepsOf 37 = .ok (.istore_n 2, 1) := by decide +kernel
theorem dX8_stepsOf_38 : decode cX8_stepsOf 38 = .ok (.iinc 3 1, 3) := by decide +kernel
theorem dX8_stepsOf_41 : decode cX8_stepsOf 41 = .ok (.goto (-37), 3) := by decide +kernel
theorem dX8_stepsOf_44 : decode cX8_stepsOf 44 = .ok (.iload_n 2, 1) := by decide +kernel
theorem dX8_stepsOf_45 : decode cX8_stepsOf 45 = .ok (.ireturn, 1) := by decide +kernel
theorem dX8_mouse_0 : decode cX8_mouse 0 = .ok (.aload_n 0, 1) := by decide +kernel
theorem dX8_mouse_1 : decode cX8_mouse 1 = .ok (.iconst 0, 1) := by decide +kernel
theorem dX8_mouse_2 : decode cX8_mouse 2 = .ok (.putfield 50, 3) := by decide +kernel
theorem dX8_mouse_5 : decode cX8_mouse 5 = .ok (.aload_n 0, 1) := by decide +kernel
theorem dX8_mouse_6 : decode cX8_mouse 6 = .ok (.iload_n 1, 1) := by decide +kernel
theorem dX8_mouse_7 : decode cX8_mouse 7 = .ok (.invokevirtual 143, 3) := by decide +kernel
theorem dX8_mouse_10 : decode cX8_mouse 10 = .ok (.ifCond .ne 6, 3) := by decide +kernel
theorem dX8_mouse_13 : decode cX8_mouse 13 = .ok (.bipush (-2), 2) := by decide +kernel
theorem dX8_mouse_15 : decode cX8_mouse 15 = .ok (.ireturn, 1) := by decide +kernel
theorem dX8_mouse_16 : decode cX8_mouse 16 = .ok (.iload_n 2, 1) := by decide +kernel
theorem dX8_mouse_17 : decode cX8_mouse 17 = .ok (.iconst 0, 1) := by decide +kernel
theorem dX8_mouse_18 : decode cX8_mouse 18 = .ok (.iconst 5, 1) := by decide +kernel
theorem dX8_mouse_19 : decode cX8_mouse 19 = .ok (.invokestatic 54, 3) := by decide +kernel
theorem dX8_mouse_22 : decode cX8_mouse 22 = .ok (.ifCond .ne 6, 3) := by decide +kernel
theorem dX8_mouse_25 : decode cX8_mouse 25 = .ok (.bipush (-3), 2) := by decide +kernel
theorem dX8_mouse_27 : decode cX8_mouse 27 = .ok (.ireturn, 1) := by decide +kernel
theorem dX8_mouse_28 : decode cX8_mouse 28 = .ok (.iload_n 2, 1) := by decide +kernel
theorem dX8_mouse_29 : decode cX8_mouse 29 = .ok (.iconst 4, 1) := by decide +kernel
theorem dX8_mouse_30 : decode cX8_mouse 30 = .ok (.if_icmp .ge 16, 3) := by decide +kernel
theorem dX8_mouse_33 : decode cX8_mouse 33 = .ok (.aload_n 0, 1) := by decide +kernel
theorem dX8_mouse_34 : decode cX8_mouse 34 = .ok (.getfield 13, 3) := by decide +kernel
theorem dX8_mouse_37 : decode cX8_mouse 37 = .ok (.iconst 4, 1) := by decide +kernel
theorem dX8_mouse_38 : decode cX8_mouse 38 = .ok (.iload_n 1, 1) := by decide +kernel
theorem dX8_mouse_39 : decode cX8_mouse 39 = .ok (.imul, 1) := by decide +kernel
theorem dX8_mouse_40 : decode cX8_mouse 40 = .ok (.iload_n 2, 1) := by decide +kernel
theorem dX8_mouse_41 : decode cX8_mouse 41 = .ok (.iadd, 1) := by decide +kernel
theorem dX8_mouse_42 : decode cX8_mouse 42 = .ok (.iaload, 1) := by decide +kernel
theorem dX8_mouse_43 : decode cX8_mouse 43 = .ok (.goto 29, 3) := by decide +kernel
theorem dX8_mouse_46 : decode cX8_mouse 46 = .ok (.iload_n 2, 1) := by decide +kernel
theorem dX8_mouse_47 : decode cX8_mouse 47 = .ok (.iconst 4, 1) := by decide +kernel
theorem dX8_mouse_48 : decode cX8_mouse 48 = .ok (.if_icmp .ne 19, 3) := by decide +kernel
theorem dX8_mouse_51 : decode cX8_mouse 51 = .ok (.aload_n 0, 1) := by decide +kernel
theorem dX8_mouse_52 : decode cX8_mouse 52 = .ok (.iload_n 1, 1) := by decide +kernel
theorem dX8_mouse_53 : decode cX8_mouse 53 = .ok (.invokevirtual 146, 3) := by decide +kernel
theorem dX8_mouse_56 : decode cX8_mouse 56 = .ok (.ifCond .eq 7, 3) := by decide +kernel
theorem dX8_mouse_59 : decode cX8_mouse 59 = .ok (.iconst 1, 1) := by decide +kernel
theorem dX8_mouse_60 : decode cX8_mouse 60 = .ok (.goto 12, 3) := by decide +kernel
theorem dX8_mouse_63 : decode cX8_mouse 63 = .ok (.iconst 0, 1) := by decide +kernel
theorem dX8_mouse_64 : decode cX8_mouse 64 = .ok (.goto 8, 3) := by decide +kernel
theorem dX8_mouse_67 : decode cX8_mouse 67 = .ok (.aload_n 0, 1) := by decide +kernel
theorem dX8_mouse_68 : decode cX8_mouse 68 = .ok (.iload_n 1, 1) := by decide +kernel
theorem dX8_mouse_69 : decode cX8_mouse 69 = .ok (.invokevirtual 149, 3) := by decide +kernel
theorem dX8_mouse_72 : decode cX8_mouse 72 = .ok (.ireturn, 1) := by decide +kernel
theorem dX8_step_0 : decode cX8_step 0 = .ok (.aload_n 0, 1) := by decide +kernel
theorem dX8_step_1 : decode cX8_step 1 = .ok (.iconst 0, 1) := by decide +kernel
theorem dX8_step_2 : decode cX8_step 2 = .ok (.putfield 50, 3) := by decide +kernel
theorem dX8_step_5 : decode cX8_step 5 = .ok (.aload_n 0, 1) := by decide +kernel
theorem dX8_step_6 : decode cX8_step 6 = .ok (.iload_n 1, 1) := by decide +kernel
theorem dX8_step_7 : decode cX8_step 7 = .ok (.invokevirtual 152, 3) := by decide +kernel
theorem dX8_step_10 : decode cX8_step 10 = .ok (.ifCond .ne 6, 3) := by decide +kernel
theorem dX8_step_13 : decode cX8_step 13 = .ok (.bipush (-2), 2) := by decide +kernel
theorem dX8_step_15 : decode cX8_step 15 = .ok (.ireturn, 1) := by decide +kernel
theorem dX8_step_16 : decode cX8_step 16 = .ok (.iload_n 2, 1) := by decide +kernel
theorem dX8_step_17 : decode cX8_step 17 = .ok (.iconst 0, 1) := by decide +kernel
theorem dX8_step_18 : decode cX8_step 18 = .ok (.iconst 1, 1) := by decide +kernel
theorem dX8_step_19 : decode cX8_step 19 = .ok (.invokestatic 54, 3) := by decide +kernel
theorem dX8_step_22 : decode cX8_step 22 = .ok (.ifCond .ne 6, 3) := by decide +kernel
theorem dX8_step_25 : decode cX8_step 25 = .ok (.bipush (-3), 2) := by decide +kernel
theorem dX8_step_27 : decode cX8_step 27 = .ok (.ireturn, 1) := by decide +kernel
theorem dX8_step_28 : decode cX8_step 28 = .ok (.iload_n 2, 1) := by decide +kernel
theorem dX8_step_29 : decode cX8_step 29 = .ok (.ifCond .ne 12, 3) := by decide +kernel
theorem dX8_step_32 : decode cX8_step 32 = .ok (.aload_n 0, 1) := by decide +kernel
theorem dX8_step_33 : decode cX8_step 33 = .ok (.getfield 16, 3) := by decide +kernel
theorem dX8_step_36 : decode cX8_step 36 = .ok (.iload_n 1, 1) := by decide +kernel
theorem dX8_step_37 : decode cX8_step 37 = .ok (.iaload, 1) := by decide +kernel
theorem dX8_step_38 : decode cX8_step 38 = .ok (.goto 13, 3) := by decide +kernel
theorem dX8_step_41 : decode cX8_step 41 = .ok (.aload_n 0, 1) := by decide +kernel
theorem dX8_step_42 : decode cX8_step 42 = .ok (.getfield 25, 3) := by decide +kernel
theorem dX8_step_45 : decode cX8_step 45 = .ok (.iconst 3, 1) := by decide +kernel
theorem dX8_step_46 : decode cX8_step 46 = .ok (.iload_n 1, 1) := by decide +kernel
theorem dX8_step_47 : decode cX8_step 47 = .ok (.iadd, 1) := by decide +kernel
theorem dX8_step_48 : decode cX8_step 48 = .ok (.iaload, 1) := by decide +kernel
theorem dX8_step_49 : decode cX8_step 49 = .ok (.iconst 1, 1) := by decide +kernel
theorem dX8_step_50 : decode cX8_step 50 = .ok (.isub, 1) := by decide +kernel
theorem dX8_step_51 : decode cX8_step 51 = .ok (.ireturn, 1) := by decide +kernel
theorem dX8_rat_0 : decode cX8_rat 0 = .ok (.aload_n 0, 1) := by decide +kernel
theorem dX8_rat_1 : decode cX8_rat 1 = .ok (.iconst 0, 1) := by decide +kernel
theorem dX8_rat_2 : decode cX8_rat 2 = .ok (.putfield 50, 3) := by decide +kernel
theorem dX8_rat_5 : decode cX8_rat 5 = .ok (.iload_n 1, 1) := by decide +kernel
theorem dX8_rat_6 : decode cX8_rat 6 = .ok (.iconst 0, 1) := by decide +kernel
theorem dX8_rat_7 : decode cX8_rat 7 = .ok (.aload_n 0, 1) := by decide +kernel
theorem dX8_rat_8 : decode cX8_rat 8 = .ok (.getfield 22, 3) := by decide +kernel
theorem dX8_rat_11 : decode cX8_rat 11 = .ok (.iconst 2, 1) := by decide +kernel
theorem dX8_rat_12 : decode cX8_rat 12 = .ok (.iaload, 1) := by decide +kernel
theorem dX8_rat_13 : decode cX8_rat 13 = .ok (.iconst 1, 1) := by decide +kernel
theorem dX8_rat_14 : decode cX8_rat 14 = .ok (.isub, 1) := by decide +kernel
theorem dX8_rat_15 : decode cX8_rat 15 = .ok (.invokestatic 54, 3) := by decide +kernel
theorem dX8_rat_18 : decode cX8_rat 18 = .ok (.ifCond .ne 6, 3) := by decide +kernel
theorem dX8_rat_21 : decode cX8_rat 21 = .ok (.bipush (-2), 2) := by decide +kernel
theorem dX8_rat_23 : decode cX8_rat 23 = .ok (.ireturn, 1) := by decide +kernel
theorem dX8_rat_24 : decode cX8_rat 24 = .ok (.iload_n 2, 1) := by decide +kernel
theorem dX8_rat_25 : decode cX8_rat 25 = .ok (.iconst 0, 1) := by decide +kernel
theorem dX8_rat_26 : decode cX8_rat 26 = .ok (.iconst 2, 1) := by decide +kernel
theorem dX8_rat_27 : decode cX8_rat 27 = .ok (.invokestatic 54, 3) := by decide +kernel
theorem dX8_rat_30 : decode cX8_rat 30 = .ok (.ifCond .eq 16, 3) := by decide +kernel
theorem dX8_rat_33 : decode cX8_rat 33 = .ok (.aload_n 0, 1) := by decide +kernel
theorem dX8_rat_34 : decode cX8_rat 34 = .ok (.getfield 19, 3) := by decide +kernel
theorem dX8_rat_37 : decode cX8_rat 37 = .ok (.iconst 3, 1) := by decide +kernel
theorem dX8_rat_38 : decode cX8_rat 38 = .ok (.iload_n 1, 1) := by decide +kernel
theorem dX8_rat_39 : decode cX8_rat 39 = .ok (.imul, 1) := by decide +kernel
theorem dX8_rat_40 : decode cX8_rat 40 = .ok (.iload_n 2, 1) := by decide +kernel
theorem dX8_rat_41 : decode cX8_rat 41 = .ok (.iadd, 1) := by decide +kernel
theorem dX8_rat_42 : decode cX8_rat 42 = .ok (.iaload, 1) := by decide +kernel
theorem dX8_rat_43 : decode cX8_rat 43 = .ok (.goto 5, 3) := by decide +kernel
theorem dX8_rat_46 : decode cX8_rat 46 = .ok (.bipush (-3), 2) := by decide +kernel
theorem dX8_rat_48 : decode cX8_rat 48 = .ok (.ireturn, 1) := by decide +kernel
theorem dX8_dangerBy_0 : decode cX8_dangerBy 0 = .ok (.iload_n 0, 1) := by decide +kernel
theorem dX8_dangerBy_1 : decode cX8_dangerBy 1 = .ok (.iconst 2, 1) := by decide +kernel
theorem dX8_dangerBy_2 : decode cX8_dangerBy 2 = .ok (.if_icmp .ne 11, 3) := by decide +kernel
theorem dX8_dangerBy_5 : decode cX8_dangerBy 5 = .ok (.iload_n 2, 1) := by decide +kernel
theorem dX8_dangerBy_6 : decode cX8_dangerBy 6 = .ok (.iconst 5, 1) := by decide +kernel
theorem dX8_dangerBy_7 : decode cX8_dangerBy 7 = .ok (.if_icmp .le 6, 3) := by decide +kernel
theorem dX8_dangerBy_10 : decode cX8_dangerBy 10 = .ok (.bipush 10, 2) := by decide +kernel
theorem dX8_dangerBy_12 : decode cX8_dangerBy 12 = .ok (.ireturn, 1) := by decide +kernel
theorem dX8_dangerBy_13 : decode cX8_dangerBy 13 = .ok (.iload_n 2, 1) := by decide +kernel
theorem dX8_dangerBy_14 : decode cX8_dangerBy 14 = .ok (.iload_n 1, 1) := by decide +kernel
theorem dX8_dangerBy_15 : decode cX8_dangerBy 15 = .ok (.isub, 1) := by decide +kernel
theorem dX8_dangerBy_16 : decode cX8_dangerBy 16 = .ok (.istore_n 3, 1) := by decide +kernel
theorem dX8_dangerBy_17 : decode cX8_dangerBy 17 = .ok (.iload_n 3, 1) := by decide +kernel
theorem dX8_dangerBy_18 : decode cX8_dangerBy 18 = .ok (.ifCond .ge 7, 3) := by decide +kernel
theorem dX8_dangerBy_21 : decode cX8_dangerBy 21 = .ok (.iconst 0, 1) := by decide +kernel
theorem dX8_dangerBy_22 : decode cX8_dangerBy 22 = .ok (.goto 15, 3) := by decide +kernel
theorem dX8_dangerBy_25 : decode cX8_dangerBy 25 = .ok (.iload_n 3, 1) := by decide +kernel
theorem dX8_dangerBy_26 : decode cX8_dangerBy 26 = .ok (.bipush 10, 2) := by decide +kernel
theorem dX8_dangerBy_28 : decode cX8_dangerBy 28 = .ok (.if_icmp .le 8, 3) := by decide +kernel
theorem dX8_dangerBy_31 : decode cX8_dangerBy 31 = .ok (.bipush 10, 2) := by decide +kernel
theorem dX8_dangerBy_33 : decode cX8_dangerBy 33 = .ok (.goto 4, 3) := by decide +kernel
theorem dX8_dangerBy_36 : decode cX8_dangerBy 36 = .ok (.iload_n 3, 1) := by decide +kernel
theorem dX8_dangerBy_37 : decode cX8_dangerBy 37 = .ok (.istore_n 3, 1) := by decide +kernel
theorem dX8_dangerBy_38 : decode cX8_dangerBy 38 = .ok (.iload_n 0, 1) := by decide +kernel
theorem dX8_dangerBy_39 : decode cX8_dangerBy 39 = .ok (.iconst 1, 1) := by decide +kernel
theorem dX8_dangerBy_40 : decode cX8_dangerBy 40 = .ok (.if_icmp .ne 13, 3) := by decide +kernel
theorem dX8_dangerBy_43 : decode cX8_dangerBy 43 = .ok (.iload_n 3, 1) := by decide +kernel
theorem dX8_dangerBy_44 : decode cX8_dangerBy 44 = .ok (.ifCond .le 9, 3) := by decide +kernel
theorem dX8_dangerBy_47 : decode cX8_dangerBy 47 = .ok (.iload_n 3, 1) := by decide +kernel
theorem dX8_dangerBy_48 : decode cX8_dangerBy 48 = .ok (.iconst 2, 1) := by decide +kernel
theorem dX8_dangerBy_49 : decode cX8_dangerBy 49 = .ok (.iadd, 1) := by decide +kernel
theorem dX8_dangerBy_50 : decode cX8_dangerBy 50 = .ok (.goto 15, 3) := by decide +kernel
theorem dX8_dangerBy_53 : decode cX8_dangerBy 53 = .ok (.iload_n 0, 1) := by decide +kernel
theorem dX8_dangerBy_54 : decode cX8_dangerBy 54 = .ok (.iconst 3, 1) := by decide +kernel
theorem dX8_dangerBy_55 : decode cX8_dangerBy 55 = .ok (.if_icmp .ne 9, 3) := by decide +kernel
theorem dX8_dangerBy_58 : decode cX8_dangerBy 58 = .ok (.iload_n 3, 1) := by decide +kernel
theorem dX8_dangerBy_59 : decode cX8_dangerBy 59 = .ok (.iconst 1, 1) := by decide +kernel
theorem dX8_dangerBy_60 : decode cX8_dangerBy 60 = .ok (.isub, 1) := by decide +kernel
theorem dX8_dangerBy_61 : decode cX8_dangerBy 61 = .ok (.goto 4, 3) := by decide +kernel
theorem dX8_dangerBy_64 : decode cX8_dangerBy 64 = .ok (.iload_n 3, 1) := by decide +kernel
theorem dX8_dangerBy_65 : decode cX8_dangerBy 65 = .ok (.istore_n 3, 1) := by decide +kernel
theorem dX8_dangerBy_66 : decode cX8_dangerBy 66 = .ok (.iload_n 3, 1) := by decide +kernel
theorem dX8_dangerBy_67 : decode cX8_dangerBy 67 = .ok (.ifCond .ge 7, 3) := by decide +kernel
theorem dX8_dangerBy_70 : decode cX8_dangerBy 70 = .ok (.iconst 0, 1) := by decide +kernel
theorem dX8_dangerBy_71 : decode cX8_dangerBy 71 = .ok (.goto 15, 3) := by decide +kernel
theorem dX8_dangerBy_74 : decode cX8_dangerBy 74 = .ok (.iload_n 3, 1) := by decide +kernel
theorem dX8_dangerBy_75 : decode cX8_dangerBy 75 = .ok (.bipush 10, 2) := by decide +kernel
theorem dX8_dangerBy_77 : decode cX8_dangerBy 77 = .ok (.if_icmp .le 8, 3) := by decide +kernel
theorem dX8_dangerBy_80 : decode cX8_dangerBy 80 = .ok (.bipush 10, 2) := by decide +kernel
theorem dX8_dangerBy_82 : decode cX8_dangerBy 82 = .ok (.goto 4, 3) := by decide +kernel
theorem dX8_dangerBy_85 : decode cX8_dangerBy 85 = .ok (.iload_n 3, 1) := by decide +kernel
theorem dX8_dangerBy_86 : decode cX8_dangerBy 86 = .ok (.ireturn, 1) := by decide +kernel
theorem dX8_dangerTo_0 : decode cX8_dangerTo 0 = .ok (.aload_n 0, 1) := by decide +kernel
theorem dX8_dangerTo_1 : decode cX8_dangerTo 1 = .ok (.getfield 13, 3) := by decide +kernel
theorem dX8_dangerTo_4 : decode cX8_dangerTo 4 = .ok (.iconst 4, 1) := by decide +kernel
theorem dX8_dangerTo_5 : decode cX8_dangerTo 5 = .ok (.iload_n 2, 1) := by decide +kernel
theorem dX8_dangerTo_6 : decode cX8_dangerTo 6 = .ok (.imul, 1) := by decide +kernel
theorem dX8_dangerTo_7 : decode cX8_dangerTo 7 = .ok (.iaload, 1) := by decide +kernel
theorem dX8_dangerTo_8 : decode cX8_dangerTo 8 = .ok (.aload_n 0, 1) := by decide +kernel
theorem dX8_dangerTo_9 : decode cX8_dangerTo 9 = .ok (.getfield 13, 3) := by decide +kernel
theorem dX8_dangerTo_12 : decode cX8_dangerTo 12 = .ok (.iconst 4, 1) := by decide +kernel
theorem dX8_dangerTo_13 : decode cX8_dangerTo 13 = .ok (.iload_n 2, 1) := by decide +kernel
theorem dX8_dangerTo_14 : decode cX8_dangerTo 14 = .ok (.imul, 1) := by decide +kernel
theorem dX8_dangerTo_15 : decode cX8_dangerTo 15 = .ok (.iconst 1, 1) := by decide +kernel
theorem dX8_dangerTo_16 : decode cX8_dangerTo 16 = .ok (.iadd, 1) := by decide +kernel
theorem dX8_dangerTo_17 : decode cX8_dangerTo 17 = .ok (.iaload, 1) := by decide +kernel
theorem dX8_dangerTo_18 : decode cX8_dangerTo 18 = .ok (.aload_n 0, 1) := by decide +kernel
theorem dX8_dangerTo_19 : decode cX8_dangerTo 19 = .ok (.getfield 16, 3) := by decide +kernel
theorem dX8_dangerTo_22 : decode cX8_dangerTo 22 = .ok (.iload_n 1, 1) := by decide +kernel
theorem dX8_dangerTo_23 : decode cX8_dangerTo 23 = .ok (.iaload, 1) := by decide +kernel
theorem dX8_dangerTo_24 : decode cX8_dangerTo 24 = .ok (.invokestatic 155, 3) := by decide +kernel
theorem dX8_dangerTo_27 : decode cX8_dangerTo 27 = .ok (.ireturn, 1) := by decide +kernel
theorem dX8_as_0 : decode cX8_as 0 = .ok (.aload_n 0, 1) := by decide +kernel
theorem dX8_as_1 : decode cX8_as 1 = .ok (.iconst 0, 1) := by decide +kernel
theorem dX8_as_2 : decode cX8_as 2 = .ok (.putfield 50, 3) := by decide +kernel
theorem dX8_as_5 : decode cX8_as 5 = .ok (.aload_n 0, 1) := by decide +kernel
theorem dX8_as_6 : decode cX8_as 6 = .ok (.iload_n 1, 1) := by decide +kernel
theorem dX8_as_7 : decode cX8_as 7 = .ok (.invokevirtual 143, 3) := by decide +kernel
theorem dX8_as_10 : decode cX8_as 10 = .ok (.ifCond .ne 6, 3) := by decide +kernel
theorem dX8_as_13 : decode cX8_as 13 = .ok (.bipush (-2), 2) := by decide +kernel
theorem dX8_as_15 : decode cX8_as 15 = .ok (.ireturn, 1) := by decide +kernel
theorem dX8_as_16 : decode cX8_as 16 = .ok (.iload_n 2, 1) := by decide +kernel
theorem dX8_as_17 : decode cX8_as 17 = .ok (.iconst 0, 1) := by decide +kernel
theorem dX8_as_18 : decode cX8_as 18 = .ok (.iconst 4, 1) := by decide +kernel
theorem dX8_as_19 : decode cX8_as 19 = .ok (.invokestatic 54, 3) := by decide +kernel
theorem dX8_as_22 : decode cX8_as 22 = .ok (.ifCond .ne 6, 3) := by decide +kernel
theorem dX8_as_25 : decode cX8_as 25 = .ok (.bipush (-3), 2) := by decide +kernel
theorem dX8_as_27 : decode cX8_as 27 = .ok (.ireturn, 1) := by decide +kernel
theorem dX8_as_28 : decode cX8_as 28 = .ok (.aload_n 0, 1) := by decide +kernel
theorem dX8_as_29 : decode cX8_as 29 = .ok (.getfield 13, 3) := by decide +kernel
theorem dX8_as_32 : decode cX8_as 32 = .ok (.iconst 4, 1) := by decide +kernel
theorem dX8_as_33 : decode cX8_as 33 = .ok (.iload_n 1, 1) := by decide +kernel
theorem dX8_as_34 : decode cX8_as 34 = .ok (.imul, 1) := by decide +kernel
theorem dX8_as_35 : decode cX8_as 35 = .ok (.iaload, 1) := by decide +kernel
theorem dX8_as_36 : decode cX8_as 36 = .ok (.istore_n 3, 1) := by decide +kernel
theorem dX8_as_37 : decode cX8_as 37 = .ok (.iload_n 2, 1) := by decide +kernel
theorem dX8_as_38 : decode cX8_as 38 = .ok (.ifCond .eq 43, 3) := by decide +kernel
theorem dX8_as_41 : decode cX8_as 41 = .ok (.iload_n 2, 1) := by decide +kernel
theorem dX8_as_42 : decode cX8_as 42 = .ok (.iconst 1, 1) := by decide +kernel
theorem dX8_as_43 : decode cX8_as 43 = .ok (.if_icmp .ne 8, 3) := by decide +kernel
theorem dX8_as_46 : decode cX8_as 46 = .ok (.iload_n 3, 1) := by decide +kernel
theorem dX8_as_47 : decode cX8_as 47 = .ok (.iconst 2, 1) := by decide +kernel
theorem dX8_as_48 : decode cX8_as 48 = .ok (.if_icmp .ne 33, 3) := by decide +kernel
theorem dX8_as_51 : decode cX8_as 51 = .ok (.iload_n 2, 1) := by decide +kernel
theorem dX8_as_52 : decode cX8_as 52 = .ok (.iconst 2, 1) := by decide +kernel
theorem dX8_as_53 : decode cX8_as 53 = .ok (.if_icmp .ne 8, 3) := by decide +kernel
theorem dX8_as_56 : decode cX8_as 56 = .ok (.iload_n 3, 1) := by decide +kernel
theorem dX8_as_57 : decode cX8_as 57 = .ok (.iconst 1, 1) := by decide +kernel
theorem dX8_as_58 : decode cX8_as 58 = .ok (.if_icmp .eq 23, 3) := by decide +kernel
theorem dX8_as_61 : decode cX8_as 61 = .ok (.iload_n 2, 1) := by decide +kernel
theorem dX8_as_62 : decode cX8_as 62 = .ok (.iconst 3, 1) := by decide +kernel
theorem dX8_as_63 : decode cX8_as 63 = .ok (.if_icmp .ne 8, 3) := by decide +kernel
theorem dX8_as_66 : decode cX8_as 66 = .ok (.iload_n 3, 1) := by decide +kernel
theorem dX8_as_67 : decode cX8_as 67 = .ok (.iconst 2, 1) := by decide +kernel
theorem dX8_as_68 : decode cX8_as 68 = .ok (.if_icmp .eq 13, 3) := by decide +kernel
theorem dX8_as_71 : decode cX8_as 71 = .ok (.iload_n 2, 1) := by decide +kernel
theorem dX8_as_72 : decode cX8_as 72 = .ok (.iconst 4, 1) := by decide +kernel
theorem dX8_as_73 : decode cX8_as 73 = .ok (.if_icmp .ne 12, 3) := by decide +kernel
theorem dX8_as_76 : decode cX8_as 76 = .ok (.iload_n 3, 1) := by decide +kernel
theorem dX8_as_77 : decode cX8_as 77 = .ok (.iconst 3, 1) := by decide +kernel
theorem dX8_as_78 : decode cX8_as 78 = .ok (.if_icmp .ne 7, 3) := by decide +kernel
theorem dX8_as_81 : decode cX8_as 81 = .ok (.iconst 1, 1) := by decide +kernel
theorem dX8_as_82 : decode cX8_as 82 = .ok (.goto 4, 3) := by decide +kernel
theorem dX8_as_85 : decode cX8_as 85 = .ok (.iconst 0, 1) := by decide +kernel
theorem dX8_as_86 : decode cX8_as 86 = .ok (.istore 4, 2) := by decide +kernel
theorem dX8_as_88 : decode cX8_as 88 = .ok (.iload 4, 2) := by decide +kernel
theorem dX8_as_90 : decode cX8_as 90 = .ok (.ifCond .eq 22, 3) := by decide +kernel
theorem dX8_as_93 : decode cX8_as 93 = .ok (.iload_n 3, 1) := by decide +kernel
theorem dX8_as_94 : decode cX8_as 94 = .ok (.aload_n 0, 1) := by decide +kernel
theorem dX8_as_95 : decode cX8_as 95 = .ok (.getfield 13, 3) := by decide +kernel
theorem dX8_as_98 : decode cX8_as 98 = .ok (.iconst 4, 1) := by decide +kernel
theorem dX8_as_99 : decode cX8_as 99 = .ok (.iload_n 1, 1) := by decide +kernel
theorem dX8_as_100 : decode cX8_as 100 = .ok (.imul, 1) := by decide +kernel
theorem dX8_as_101 : decode cX8_as 101 = .ok (.iconst 1, 1) := by decide +kernel
theorem dX8_as_102 : decode cX8_as 102 = .ok (.iadd, 1) := by decide +kernel
theorem dX8_as_103 : decode cX8_as 103 = .ok (.iaload, 1) := by decide +kernel
theorem dX8_as_104 : decode cX8_as 104 = .ok (.bipush 6, 2) := by decide +kernel
theorem dX8_as_106 : decode cX8_as 106 = .ok (.invokestatic 155, 3) := by decide +kernel
theorem dX8_as_109 : decode cX8_as 109 = .ok (.goto 5, 3) := by decide +kernel
theorem dX8_as_112 : decode cX8_as 112 = .ok (.bipush (-4), 2) := by decide +kernel
theorem dX8_as_114 : decode cX8_as 114 = .ok (.ireturn, 1) := by decide +kernel
theorem dX8_danger_0 : decode cX8_danger 0 = .ok (.aload_n 0, 1) := by decide +kernel
theorem dX8_danger_1 : decode cX8_danger 1 = .ok (.iconst 0, 1) := by decide +kernel
theorem dX8_danger_2 : decode cX8_danger 2 = .ok (.putfield 50, 3) := by decide +kernel
theorem dX8_danger_5 : decode cX8_danger 5 = .ok (.aload_n 0, 1) := by decide +kernel
theorem dX8_danger_6 : decode cX8_danger 6 = .ok (.iload_n 1, 1) := by decide +kernel
theorem dX8_danger_7 : decode cX8_danger 7 = .ok (.invokevirtual 152, 3) := by decide +kernel
theorem dX8_danger_10 : decode cX8_danger 10 = .ok (.ifCond .eq 20, 3) := by decide +kernel
theorem dX8_danger_13 : decode cX8_danger 13 = .ok (.aload_n 0, 1) := by decide +kernel
theorem dX8_danger_14 : decode cX8_danger 14 = .ok (.iload_n 2, 1) := by decide +kernel
theorem dX8_danger_15 : decode cX8_danger 15 = .ok (.invokevirtual 143, 3) := by decide +kernel
theorem dX8_danger_18 : decode cX8_danger 18 = .ok (.ifCond .eq 12, 3) := by decide +kernel
theorem dX8_danger_21 : decode cX8_danger 21 = .ok (.aload_n 0, 1) := by decide +kernel
theorem dX8_danger_22 : decode cX8_danger 22 = .ok (.iload_n 1, 1) := by decide +kernel
theorem dX8_danger_23 : decode cX8_danger 23 = .ok (.iload_n 2, 1) := by decide +kernel
theorem dX8_danger_24 : decode cX8_danger 24 = .ok (.invokevirtual 159, 3) := by decide +kernel
theorem dX8_danger_27 : decode cX8_danger 27 = .ok (.goto 5, 3) := by decide +kernel
theorem dX8_danger_30 : decode cX8_danger 30 = .ok (.bipush (-2), 2) := by decide +kernel
theorem dX8_danger_32 : decode cX8_danger 32 = .ok (.ireturn, 1) := by decide +kernel
theorem dX8_done_0 : decode cX8_done 0 = .ok (.iconst 0, 1) := by decide +kernel
theorem dX8_done_1 : decode cX8_done 1 = .ok (.istore_n 1, 1) := by decide +kernel
theorem dX8_done_2 : decode cX8_done 2 = .ok (.iconst 0, 1) := by decide +kernel
theorem dX8_done_3 : decode cX8_done 3 = .ok (.istore_n 2, 1) := by decide +kernel
theorem dX8_done_4 : decode cX8_done 4 = .ok (.iload_n 2, 1) := by decide +kernel
theorem dX8_done_5 : decode cX8_done 5 = .ok (.aload_n 0, 1) := by decide +kernel
theorem dX8_done_6 : decode cX8_done 6 = .ok (.getfield 22, 3) := by decide +kernel
theorem dX8_done_9 : decode cX8_done 9 = .ok (.iconst 1, 1) := by decide +kernel
theorem dX8_done_10 : decode cX8_done 10 = .ok (.iaload, 1) := by decide +kernel
theorem dX8_done_11 : decode cX8_done 11 = .ok (.if_icmp .ge 28, 3) := by decide +kernel
theorem dX8_done_14 : decode cX8_done 14 = .ok (.iload_n 1, 1) := by decide +kernel
theorem dX8_done_15 : decode cX8_done 15 = .ok (.aload_n 0, 1) := by decide +kernel
theorem dX8_done_16 : decode cX8_done 16 = .ok (.getfield 25, 3) := by decide +kernel
theorem dX8_done_19 : decode cX8_done 19 = .ok (.iconst 3, 1) := by decide +kernel
theorem dX8_done_20 : decode cX8_done 20 = .ok (.iload_n 2, 1) := by decide +kernel
theorem dX8_done_21 : decode cX8_done 21 = .ok (.iadd, 1) := by decide +kernel
theorem dX8_done_22 : decode cX8_done 22 = .ok (.iaload, 1) := by decide +kernel
theorem dX8_done_23 : decode cX8_done 23 = .ok (.ifCond .le 7, 3) := by decide +kernel
theorem dX8_done_26 : decode cX8_done 26 = .ok (.iconst 1, 1) := by decide +kernel
theorem dX8_done_27 : decode cX8_done 27 = .ok (.goto 4, 3) := by decide +kernel
theorem dX8_done_30 : decode cX8_done 30 = .ok (.iconst 0, 1) := by decide +kernel
theorem dX8_done_31 : decode cX8_done 31 = .ok (.iadd, 1) := by decide +kernel
theorem dX8_done_32 : decode cX8_done 32 = .ok (.istore_n 1, 1) := by decide +kernel
theorem dX8_done_33 : decode cX8_done 33 = .ok (.iinc 2 1, 3) := by decide +kernel
theorem dX8_done_36 : decode cX8_done 36 = .ok (.goto (-32), 3) := by decide +kernel
theorem dX8_done_39 : decode cX8_done 39 = .ok (.iload_n 1, 1) := by decide +kernel
theorem dX8_done_40 : decode cX8_done 40 = .ok (.ireturn, 1) := by decide +kernel
theorem dX8_notes_0 : decode cX8_notes 0 = .ok (.aload_n 0, 1) := by decide +kernel
theorem dX8_notes_1 : decode cX8_notes 1 = .ok (.getfield 137, 3) := by decide +kernel
theorem dX8_notes_4 : decode cX8_notes 4 = .ok (.bipush 8, 2) := by decide +kernel
theorem dX8_notes_6 : decode cX8_notes 6 = .ok (.if_icmp .ne 38, 3) := by decide +kernel
theorem dX8_notes_9 : decode cX8_notes 9 = .ok (.iconst 0, 1) := by decide +kernel
theorem dX8_notes_10 : decode cX8_notes 10 = .ok (.istore_n 1, 1) := by decide +kernel
theorem dX8_notes_11 : decode cX8_notes 11 = .ok (.iload_n 1, 1) := by decide +kernel
theorem dX8_notes_12 : decode cX8_notes 12 = .ok (.bipush 56, 2) := by decide +kernel
theorem dX8_notes_14 : decode cX8_notes 14 = .ok (.if_icmp .ge 24, 3) := by decide +kernel
theorem dX8_notes_17 : decode cX8_notes 17 = .ok (.aload_n 0, 1) := by decide +kernel
theorem dX8_notes_18 : decode cX8_notes 18 = .ok (.getfield 28, 3) := by decide +kernel
theorem dX8_notes_21 : decode cX8_notes 21 = .ok (.iload_n 1, 1) := by decide +kernel
theorem dX8_notes_22 : decode cX8_notes 22 = .ok (.aload_n 0, 1) := by decide +kernel
theorem dX8_notes_23 : decode cX8_notes 23 = .ok (.getfield 28, 3) := by decide +kernel
theorem dX8_notes_26 : decode cX8_notes 26 = .ok (.iload_n 1, 1) := by decide +kernel
theorem dX8_notes_27 : decode cX8_notes 27 = .ok (.bipush 8, 2) := by decide +kernel
theorem dX8_notes_29 : decode cX8_notes 29 = .ok (.iadd, 1) := by decide +kernel
theorem dX8_notes_30 : decode cX8_notes 30 = .ok (.iaload, 1) := by decide +kernel
theorem dX8_notes_31 : decode cX8_notes 31 = .ok (.iastore, 1) := by decide +kernel
theorem dX8_notes_32 : decode cX8_notes 32 = .ok (.iinc 1 1, 3) := by decide +kernel
theorem dX8_notes_35 : decode cX8_notes 35 = .ok (.goto (-24), 3) := by decide +kernel
theorem dX8_notes_38 : decode cX8_notes 38 = .ok (.aload_n 0, 1) := by decide +kernel
theorem dX8_notes_39 : decode cX8_notes 39 = .ok (.bipush 7, 2) := by decide +kernel
theorem dX8_notes_41 : decode cX8_notes 41 = .ok (.putfield 137, 3) := by decide +kernel
theorem dX8_notes_44 : decode cX8_notes 44 = .ok (.iconst 0, 1) := by decide +kernel
theorem dX8_notes_45 : decode cX8_notes 45 = .ok (.istore_n 1, 1) := by decide +kernel
theorem dX8_notes_46 : decode cX8_notes 46 = .ok (.iload_n 1, 1) := by decide +kernel
theorem dX8_notes_47 : decode cX8_notes 47 = .ok (.bipush 8, 2) := by decide +kernel
theorem dX8_notes_49 : decode cX8_notes 49 = .ok (.if_icmp .ge 29, 3) := by decide +kernel
theorem dX8_notes_52 : decode cX8_notes 52 = .ok (.aload_n 0, 1) := by decide +kernel
theorem dX8_notes_53 : decode cX8_notes 53 = .ok (.getfield 28, 3) := by decide +kernel
theorem dX8_notes_56 : decode cX8_notes 56 = .ok (.bipush 8, 2) := by decide +kernel
theorem dX8_notes_58 : decode cX8_notes 58 = .ok (.aload_n 0, 1) := by decide +kernel
theorem dX8_notes_59 : decode cX8_notes 59 = .ok (.getfield 137, 3) := by decide +kernel
theorem dX8_notes_62 : decode cX8_notes 62 = .ok (.imul, 1) := by decide +kernel
theorem dX8_notes_63 : decode cX8_notes 63 = .ok (.iload_n 1, 1) := by decide +kernel
theorem dX8_notes_64 : decode cX8_notes 64 = .ok (.iadd, 1) := by decide +kernel
theorem dX8_notes_65 : decode cX8_notes 65 = .ok (.aload_n 0, 1) := by decide +kernel
theorem dX8_notes_66 : decode cX8_notes 66 = .ok (.getfield 25, 3) := by decide +kernel
theorem dX8_notes_69 : decode cX8_notes 69 = .ok (.iload_n 1, 1) := by decide +kernel
theorem dX8_notes_70 : decode cX8_notes 70 = .ok (.iaload, 1) := by decide +kernel
theorem dX8_notes_71 : decode cX8_notes 71 = .ok (.iastore, 1) := by decide +kernel
theorem dX8_notes_72 : decode cX8_notes 72 = .ok (.iinc 1 1, 3) := by decide +kernel
theorem dX8_notes_75 : decode cX8_notes 75 = .ok (.goto (-29), 3) := by decide +kernel
theorem dX8_notes_78 : decode cX8_notes 78 = .ok (.aload_n 0, 1) := by decide +kernel
theorem dX8_notes_79 : decode cX8_notes 79 = .ok (.dup, 1) := by decide +kernel
theorem dX8_notes_80 : decode cX8_notes 80 = .ok (.getfield 137, 3) := by decide +kernel
theorem dX8_notes_83 : decode cX8_notes 83 = .ok (.iconst 1, 1) := by decide +kernel
theorem dX8_notes_84 : decode cX8_notes 84 = .ok (.iadd, 1) := by decide +kernel
theorem dX8_notes_85 : decode cX8_notes 85 = .ok (.putfield 137, 3) := by decide +kernel
theorem dX8_notes_88 : decode cX8_notes 88 = .ok (.return_, 1) := by decide +kernel
theorem dX8_put_0 : decode cX8_put 0 = .ok (.aload_n 0, 1) := by decide +kernel
theorem dX8_put_1 : decode cX8_put 1 = .ok (.iconst 0, 1) := by decide +kernel
theorem dX8_put_2 : decode cX8_put 2 = .ok (.putfield 50, 3) := by decide +kernel
theorem dX8_put_5 : decode cX8_put 5 = .ok (.aload_n 0, 1) := by decide +kernel
theorem dX8_put_6 : decode cX8_put 6 = .ok (.iload_n 1, 1) := by decide +kernel
theorem dX8_put_7 : decode cX8_put 7 = .ok (.invokevirtual 152, 3) := by decide +kernel
theorem dX8_put_10 : decode cX8_put 10 = .ok (.ifCond .eq 11, 3) := by decide +kernel
theorem dX8_put_13 : decode cX8_put 13 = .ok (.aload_n 0, 1) := by decide +kernel
theorem dX8_put_14 : decode cX8_put 14 = .ok (.iload_n 2, 1) := by decide +kernel
theorem dX8_put_15 : decode cX8_put 15 = .ok (.invokevirtual 143, 3) := by decide +kernel
theorem dX8_put_18 : decode cX8_put 18 = .ok (.ifCond .ne 6, 3) := by decide +kernel
theorem dX8_put_21 : decode cX8_put 21 = .ok (.bipush (-2), 2) := by decide +kernel
theorem dX8_put_23 : decode cX8_put 23 = .ok (.ireturn, 1) := by decide +kernel
theorem dX8_put_24 : decode cX8_put 24 = .ok (.aload_n 0, 1) := by decide +kernel
theorem dX8_put_25 : decode cX8_put 25 = .ok (.iload_n 2, 1) := by decide +kernel
theorem dX8_put_26 : decode cX8_put 26 = .ok (.invokevirtual 146, 3) := by decide +kernel
theorem dX8_put_29 : decode cX8_put 29 = .ok (.ifCond .ne 6, 3) := by decide +kernel
theorem dX8_put_32 : decode cX8_put 32 = .ok (.bipush (-4), 2) := by decide +kernel
theorem dX8_put_34 : decode cX8_put 34 = .ok (.ireturn, 1) := by decide +kernel
theorem dX8_put_35 : decode cX8_put 35 = .ok (.aload_n 0, 1) := by decide +kernel
theorem dX8_put_36 : decode cX8_put 36 = .ok (.invokevirtual 163, 3) := by decide +kernel
theorem dX8_put_39 : decode cX8_put 39 = .ok (.aload_n 0, 1) := by decide +kernel
theorem dX8_put_40 : decode cX8_put 40 = .ok (.getfield 25, 3) := by decide +kernel
theorem dX8_put_43 : decode cX8_put 43 = .ok (.iconst 3, 1) := by decide +kernel
theorem dX8_put_44 : decode cX8_put 44 = .ok (.iload_n 1, 1) := by decide +kernel
theorem dX8_put_45 : decode cX8_put 45 = .ok (.iadd, 1) := by decide +kernel
theorem dX8_put_46 : decode cX8_put 46 = .ok (.iload_n 2, 1) := by decide +kernel
theorem dX8_put_47 : decode cX8_put 47 = .ok (.iconst 1, 1) := by decide +kernel
theorem dX8_put_48 : decode cX8_put 48 = .ok (.iadd, 1) := by decide +kernel
theorem dX8_put_49 : decode cX8_put 49 = .ok (.iastore, 1) := by decide +kernel
theorem dX8_put_50 : decode cX8_put 50 = .ok (.aload_n 0, 1) := by decide +kernel
theorem dX8_put_51 : decode cX8_put 51 = .ok (.invokevirtual 166, 3) := by decide +kernel
theorem dX8_put_54 : decode cX8_put 54 = .ok (.ireturn, 1) := by decide +kernel
theorem dX8_clear_0 : decode cX8_clear 0 = .ok (.aload_n 0, 1) := by decide +kernel
theorem dX8_clear_1 : decode cX8_clear 1 = .ok (.iconst 0, 1) := by decide +kernel
theorem dX8_clear_2 : decode cX8_clear 2 = .ok (.putfield 50, 3) := by decide +kernel
theorem dX8_clear_5 : decode cX8_clear 5 = .ok (.aload_n 0, 1) := by decide +kernel
theorem dX8_clear_6 : decode cX8_clear 6 = .ok (.invokevirtual 166, 3) := by decide +kernel
theorem dX8_clear_9 : decode cX8_clear 9 = .ok (.istore_n 1, 1) := by decide +kernel
theorem dX8_clear_10 : decode cX8_clear 10 = .ok (.aload_n 0, 1) := by decide +kernel
theorem dX8_clear_11 : decode cX8_clear 11 = .ok (.invokevirtual 163, 3) := by decide +kernel
theorem dX8_clear_14 : decode cX8_clear 14 = .ok (.iconst 0, 1) := by decide +kernel
theorem dX8_clear_15 : decode cX8_clear 15 = .ok (.istore_n 2, 1) := by decide +kernel
theorem dX8_clear_16 : decode cX8_clear 16 = .ok (.iload_n 2, 1) := by decide +kernel
theorem dX8_clear_17 : decode cX8_clear 17 = .ok (.iconst 5, 1) := by decide +kernel
theorem dX8_clear_18 : decode cX8_clear 18 = .ok (.if_icmp .ge 18, 3) := by decide +kernel
theorem dX8_clear_21 : decode cX8_clear 21 = .ok (.aload_n 0, 1) := by decide +kernel
theorem dX8_clear_22 : decode cX8_clear 22 = .ok (.getfield 25, 3) := by decide +kernel
theorem dX8_clear_25 : decode cX8_clear 25 = .ok (.iconst 3, 1) := by decide +kernel
theorem dX8_clear_26 : decode cX8_clear 26 = .ok (.iload_n 2, 1) := by decide +kernel
theorem dX8_clear_27 : decode cX8_clear 27 = .ok (.iadd, 1) := by decide +kernel
theorem dX8_clear_28 : decode cX8_clear 28 = .ok (.iconst 0, 1) := by decide +kernel
theorem dX8_clear_29 : decode cX8_clear 29 = .ok (.iastore, 1) := by decide +kernel
theorem dX8_clear_30 : decode cX8_clear 30 = .ok (.iinc 2 1, 3) := by decide +kernel
theorem dX8_clear_33 : decode cX8_clear 33 = .ok (.goto (-17), 3) := by decide +kernel
theorem dX8_clear_36 : decode cX8_clear 36 = .ok (.iload_n 1, 1) := by decide +kernel
theorem dX8_clear_37 : decode cX8_clear 37 = .ok (.ireturn, 1) := by decide +kernel
theorem dX8_isWhole_0 : decode cX8_isWhole 0 = .ok (.aload_n 0, 1) := by decide +kernel
theorem dX8_isWhole_1 : decode cX8_isWhole 1 = .ok (.invokevirtual 166, 3) := by decide +kernel
theorem dX8_isWhole_4 : decode cX8_isWhole 4 = .ok (.aload_n 0, 1) := by decide +kernel
theorem dX8_isWhole_5 : decode cX8_isWhole 5 = .ok (.getfield 22, 3) := by decide +kernel
theorem dX8_isWhole_8 : decode cX8_isWhole 8 = .ok (.iconst 1, 1) := by decide +kernel
theorem dX8_isWhole_9 : decode cX8_isWhole 9 = .ok (.iaload, 1) := by decide +kernel
theorem dX8_isWhole_10 : decode cX8_isWhole 10 = .ok (.if_icmp .ne 7, 3) := by decide +kernel
theorem dX8_isWhole_13 : decode cX8_isWhole 13 = .ok (.iconst 1, 1) := by decide +kernel
theorem dX8_isWhole_14 : decode cX8_isWhole 14 = .ok (.goto 4, 3) := by decide +kernel
theorem dX8_isWhole_17 : decode cX8_isWhole 17 = .ok (.iconst 0, 1) := by decide +kernel
theorem dX8_isWhole_18 : decode cX8_isWhole 18 = .ok (.ireturn, 1) := by decide +kernel
theorem dX8_drawOf_0 : decode cX8_drawOf 0 = .ok (.ldc2_w 169, 3) := by decide +kernel
theorem dX8_drawOf_3 : decode cX8_drawOf 3 = .ok (.iload_n 1, 1) := by decide +kernel
theorem dX8_drawOf_4 : decode cX8_drawOf 4 = .ok (.i2l, 1) := by decide +kernel
theorem dX8_drawOf_5 : decode cX8_drawOf 5 = .ok (.lmul, 1) := by decide +kernel
theorem dX8_drawOf_6 : decode cX8_drawOf 6 = .ok (.ldc2_w 171, 3) := by decide +kernel
theorem dX8_drawOf_9 : decode cX8_drawOf 9 = .ok (.iload_n 2, 1) := by decide +kernel
theorem dX8_drawOf_10 : decode cX8_drawOf 10 = .ok (.i2l, 1) := by decide +kernel
theorem dX8_drawOf_11 : decode cX8_drawOf 11 = .ok (.lmul, 1) := by decide +kernel
theorem dX8_drawOf_12 : decode cX8_drawOf 12 = .ok (.ladd, 1) := by decide +kernel
theorem dX8_drawOf_13 : decode cX8_drawOf 13 = .ok (.lconst 1, 1) := by decide +kernel
theorem dX8_drawOf_14 : decode cX8_drawOf 14 = .ok (.ladd, 1) := by decide +kernel
theorem dX8_drawOf_15 : decode cX8_drawOf 15 = .ok (.lstore_n 3, 1) := by decide +kernel
theorem dX8_drawOf_16 : decode cX8_drawOf 16 = .ok (.lload_n 3, 1) := by decide +kernel
theorem dX8_drawOf_17 : decode cX8_drawOf 17 = .ok (.lload_n 3, 1) := by decide +kernel
theorem dX8_drawOf_18 : decode cX8_drawOf 18 = .ok (.lmul, 1) := by decide +kernel
theorem dX8_drawOf_19 : decode cX8_drawOf 19 = .ok (.ldc2_w 173, 3) := by decide +kernel
theorem dX8_drawOf_22 : decode cX8_drawOf 22 = .ok (.lrem, 1) := by decide +kernel
theorem dX8_drawOf_23 : decode cX8_drawOf 23 = .ok (.ldc2_w 175, 3) := by decide +kernel
theorem dX8_drawOf_26 : decode cX8_drawOf 26 = .ok (.lrem, 1) := by decide +kernel
theorem dX8_drawOf_27 : decode cX8_drawOf 27 = .ok (.l2i, 1) := by decide +kernel
theorem dX8_drawOf_28 : decode cX8_drawOf 28 = .ok (.ireturn, 1) := by decide +kernel
theorem dX8_night_0 : decode cX8_night 0 = .ok (.aload_n 0, 1) := by decide +kernel
theorem dX8_night_1 : decode cX8_night 1 = .ok (.iconst 0, 1) := by decide +kernel
theorem dX8_night_2 : decode cX8_night 2 = .ok (.putfield 50, 3) := by decide +kernel
theorem dX8_night_5 : decode cX8_night 5 = .ok (.iload_n 1, 1) := by decide +kernel
theorem dX8_night_6 : decode cX8_night 6 = .ok (.iconst 0, 1) := by decide +kernel
theorem dX8_night_7 : decode cX8_night 7 = .ok (.sipush 9999, 3) := by decide +kernel
theorem dX8_night_10 : decode cX8_night 10 = .ok (.invokestatic 54, 3) := by decide +kernel
theorem dX8_night_13 : decode cX8_night 13 = .ok (.ifCond .ne 6, 3) := by decide +kernel
theorem dX8_night_16 : decode cX8_night 16 = .ok (.bipush (-3), 2) := by decide +kernel
theorem dX8_night_18 : decode cX8_night 18 = .ok (.ireturn, 1) := by decide +kernel
theorem dX8_night_19 : decode cX8_night 19 = .ok (.aload_n 0, 1) := by decide +kernel
theorem dX8_night_20 : decode cX8_night 20 = .ok (.invokevirtual 177, 3) := by decide +kernel
theorem dX8_night_23 : decode cX8_night 23 = .ok (.ifCond .eq 13, 3) := by decide +kernel
theorem dX8_night_26 : decode cX8_night 26 = .ok (.aload_n 0, 1) := by decide +kernel
theorem dX8_night_27 : decode cX8_night 27 = .ok (.getfield 25, 3) := by decide +kernel
theorem dX8_night_30 : decode cX8_night 30 = .ok (.iconst 2, 1) := by decide +kernel
theorem dX8_night_31 : decode cX8_night 31 = .ok (.iaload, 1) := by decide +kernel
theorem dX8_night_32 : decode cX8_night 32 = .ok (.iconst 1, 1) := by decide +kernel
theorem dX8_night_33 : decode cX8_night 33 = .ok (.if_icmp .ne 6, 3) := by decide +kernel
theorem dX8_night_36 : decode cX8_night 36 = .ok (.bipush (-4), 2) := by decide +kernel
theorem dX8_night_38 : decode cX8_night 38 = .ok (.ireturn, 1) := by decide +kernel
theorem dX8_night_39 : decode cX8_night 39 = .ok (.aload_n 0, 1) := by decide +kernel
theorem dX8_night_40 : decode cX8_night 40 = .ok (.getfield 25, 3) := by decide +kernel
theorem dX8_night_43 : decode cX8_night 43 = .ok (.iconst 0, 1) := by decide +kernel
theorem dX8_night_44 : decode cX8_night 44 = .ok (.iaload, 1) := by decide +kernel
theorem dX8_night_45 : decode cX8_night 45 = .ok (.sipush 999, 3) := by decide +kernel
theorem dX8_night_48 : decode cX8_night 48 = .ok (.if_icmp .ne 6, 3) := by decide +kernel
theorem dX8_night_51 : decode cX8_night 51 = .ok (.bipush (-5), 2) := by decide +kernel
theorem dX8_night_53 : decode cX8_night 53 = .ok (.ireturn, 1) := by decide +kernel
theorem dX8_night_54 : decode cX8_night 54 = .ok (.aload_n 0, 1) := by decide +kernel
theorem dX8_night_55 : decode cX8_night 55 = .ok (.invokevirtual 163, 3) := by decide +kernel
theorem dX8_night_58 : decode cX8_night 58 = .ok (.aload_n 0, 1) := by decide +kernel
theorem dX8_night_59 : decode cX8_night 59 = .ok (.getfield 25, 3) := by decide +kernel
theorem dX8_night_62 : decode cX8_night 62 = .ok (.iconst 0, 1) := by decide +kernel
theorem dX8_night_63 : decode cX8_night 63 = .ok (.dup2, 1) := by decide +kernel
theorem dX8_night_64 : decode cX8_night 64 = .ok (.iaload, 1) := by decide +kernel
theorem dX8_night_65 : decode cX8_night 65 = .ok (.iconst 1, 1) := by decide +kernel
theorem dX8_night_66 : decode cX8_night 66 = .ok (.iadd, 1) := by decide +kernel
theorem dX8_night_67 : decode cX8_night 67 = .ok (.iastore, 1) := by decide +kernel
theorem dX8_night_68 : decode cX8_night 68 = .ok (.iconst 0, 1) := by decide +kernel
theorem dX8_night_69 : decode cX8_night 69 = .ok (.istore_n 2, 1) := by decide +kernel
theorem dX8_night_70 : decode cX8_night 70 = .ok (.iload_n 2, 1) := by decide +kernel
theorem dX8_night_71 : decode cX8_night 71 = .ok (.aload_n 0, 1) := by decide +kernel
theorem dX8_night_72 : decode cX8_night 72 = .ok (.getfield 22, 3) := by decide +kernel
theorem dX8_night_75 : decode cX8_night 75 = .ok (.iconst 1, 1) := by decide +kernel
theorem dX8_night_76 : decode cX8_night 76 = .ok (.iaload, 1) := by decide +kernel
theorem dX8_night_77 : decode cX8_night 77 = .ok (.if_icmp .ge 103, 3) := by decide +kernel
theorem dX8_night_80 : decode cX8_night 80 = .ok (.aload_n 0, 1) := by decide +kernel
theorem dX8_night_81 : decode cX8_night 81 = .ok (.getfield 25, 3) := by decide +kernel
theorem dX8_night_84 : decode cX8_night 84 = .ok (.iconst 3, 1) := by decide +kernel
theorem dX8_night_85 : decode cX8_night 85 = .ok (.iload_n 2, 1) := by decide +kernel
theorem dX8_night_86 : decode cX8_night 86 = .ok (.iadd, 1) := by decide +kernel
theorem dX8_night_87 : decode cX8_night 87 = .ok (.iaload, 1) := by decide +kernel
theorem dX8_night_88 : decode cX8_night 88 = .ok (.iconst 1, 1) := by decide +kernel
theorem dX8_night_89 : decode cX8_night 89 = .ok (.isub, 1) := by decide +kernel
theorem dX8_night_90 : decode cX8_night 90 = .ok (.istore_n 3, 1) := by decide +kernel
theorem dX8_night_91 : decode cX8_night 91 = .ok (.aload_n 0, 1) := by decide +kernel
theorem dX8_night_92 : decode cX8_night 92 = .ok (.iload_n 1, 1) := by decide +kernel
theorem dX8_night_93 : decode cX8_night 93 = .ok (.iload_n 2, 1) := by decide +kernel
theorem dX8_night_94 : decode cX8_night 94 = .ok (.invokevirtual 181, 3) := by decide +kernel
theorem dX8_night_97 : decode cX8_night 97 = .ok (.aload_n 0, 1) := by decide +kernel
theorem dX8_night_98 : decode cX8_night 98 = .ok (.iload_n 2, 1) := by decide +kernel
theorem dX8_night_99 : decode cX8_night 99 = .ok (.iload_n 3, 1) := by decide +kernel
theorem dX8_night_100 : decode cX8_night 100 = .ok (.invokevirtual 159, 3) := by decide +kernel
theorem dX8_night_103 : decode cX8_night 103 = .ok (.if_icmp .ge 71, 3) := by decide +kernel
theorem dX8_night_106 : decode cX8_night 106 = .ok (.aload_n 0, 1) := by decide +kernel
theorem dX8_night_107 : decode cX8_night 107 = .ok (.getfield 25, 3) := by decide +kernel
theorem dX8_night_110 : decode cX8_night 110 = .ok (.iconst 1, 1) := by decide +kernel
theorem dX8_night_111 : decode cX8_night 111 = .ok (.dup2, 1) := by decide +kernel
theorem dX8_night_112 : decode cX8_night 112 = .ok (.iaload, 1) := by decide +kernel
theorem dX8_night_113 : decode cX8_night 113 = .ok (.iconst 1, 1) := by decide +kernel
theorem dX8_night_114 : decode cX8_night 114 = .ok (.iload_n 3, 1) := by decide +kernel
theorem dX8_night_115 : decode cX8_night 115 = .ok (.ishl, 1) := by decide +kernel
theorem dX8_night_116 : decode cX8_night 116 = .ok (.iconst (-1), 1) := by decide +kernel
theorem dX8_night_117 : decode cX8_night 117 = .ok (.ixor, 1) := by decide +kernel
theorem dX8_night_118 : decode cX8_night 118 = .ok (.iand, 1) := by decide +kernel
theorem dX8_night_119 : decode cX8_night 119 = .ok (.iastore, 1) := by decide +kernel
theorem dX8_night_120 : decode cX8_night 120 = .ok (.iconst 0, 1) := by decide +kernel
theorem dX8_night_121 : decode cX8_night 121 = .ok (.istore 4, 2) := by decide +kernel
theorem dX8_night_123 : decode cX8_night 123 = .ok (.iload 4, 2) := by decide +kernel
theorem dX8_night_125 : decode cX8_night 125 = .ok (.iconst 5, 1) := by decide +kernel
theorem dX8_night_126 : decode cX8_night 126 = .ok (.if_icmp .ge 46, 3) := by decide +kernel
theorem dX8_night_129 : decode cX8_night 129 = .ok (.aload_n 0, 1) := by decide +kernel
theorem dX8_night_130 : decode cX8_night 130 = .ok (.getfield 25, 3) := by decide +kernel
theorem dX8_night_133 : decode cX8_night 133 = .ok (.iconst 3, 1) := by decide +kernel
theorem dX8_night_134 : decode cX8_night 134 = .ok (.iload 4, 2) := by decide +kernel
theorem dX8_night_136 : decode cX8_night 136 = .ok (.iadd, 1) := by decide +kernel
theorem dX8_night_137 : decode cX8_night 137 = .ok (.aload_n 0, 1) := by decide +kernel
theorem dX8_night_138 : decode cX8_night 138 = .ok (.getfield 25, 3) := by decide +kernel
theorem dX8_night_141 : decode cX8_night 141 = .ok (.iconst 3, 1) := by decide +kernel
theorem dX8_night_142 : decode cX8_night 142 = .ok (.iload 4, 2) := by decide +kernel
theorem dX8_night_144 : decode cX8_night 144 = .ok (.iadd, 1) := by decide +kernel
theorem dX8_night_145 : decode cX8_night 145 = .ok (.iaload, 1) := by decide +kernel
theorem dX8_night_146 : decode cX8_night 146 = .ok (.iload_n 3, 1) := by decide +kernel
theorem dX8_night_147 : decode cX8_night 147 = .ok (.iconst 1, 1) := by decide +kernel
theorem dX8_night_148 : decode cX8_night 148 = .ok (.iadd, 1) := by decide +kernel
theorem dX8_night_149 : decode cX8_night 149 = .ok (.if_icmp .ne 7, 3) := by decide +kernel
theorem dX8_night_152 : decode cX8_night 152 = .ok (.iconst 0, 1) := by decide +kernel
theorem dX8_night_153 : decode cX8_night 153 = .ok (.goto 12, 3) := by decide +kernel
theorem dX8_night_156 : decode cX8_night 156 = .ok (.aload_n 0, 1) := by decide +kernel
theorem dX8_night_157 : decode cX8_night 157 = .ok (.getfield 25, 3) := by decide +kernel
theorem dX8_night_160 : decode cX8_night 160 = .ok (.iconst 3, 1) := by decide +kernel
theorem dX8_night_161 : decode cX8_night 161 = .ok (.iload 4, 2) := by decide +kernel
theorem dX8_night_163 : decode cX8_night 163 = .ok (.iadd, 1) := by decide +kernel
theorem dX8_night_164 : decode cX8_night 164 = .ok (.iaload, 1) := by decide +kernel
theorem dX8_night_165 : decode cX8_night 165 = .ok (.iastore, 1) := by decide +kernel
theorem dX8_night_166 : decode cX8_night 166 = .ok (.iinc 4 1, 3) := by decide +kernel
theorem dX8_night_169 : decode cX8_night 169 = .ok (.goto (-46), 3) := by decide +kernel
theorem dX8_night_172 : decode cX8_night 172 = .ok (.iload_n 3, 1) := by decide +kernel
theorem dX8_night_173 : decode cX8_night 173 = .ok (.ireturn, 1) := by decide +kernel
theorem dX8_night_174 : decode cX8_night 174 = .ok (.iinc 2 1, 3) := by decide +kernel
theorem dX8_night_177 : decode cX8_night 177 = .ok (.goto (-107), 3) := by decide +kernel
theorem dX8_night_180 : decode cX8_night 180 = .ok (.aload_n 0, 1) := by decide +kernel
theorem dX8_night_181 : decode cX8_night 181 = .ok (.getfield 25, 3) := by decide +kernel
theorem dX8_night_184 : decode cX8_night 184 = .ok (.iconst 2, 1) := by decide +kernel
theorem dX8_night_185 : decode cX8_night 185 = .ok (.iconst 1, 1) := by decide +kernel
theorem dX8_night_186 : decode cX8_night 186 = .ok (.iastore, 1) := by decide +kernel
theorem dX8_night_187 : decode cX8_night 187 = .ok (.iconst (-1), 1) := by decide +kernel
theorem dX8_night_188 : decode cX8_night 188 = .ok (.ireturn, 1) := by decide +kernel
theorem dX8_undo_0 : decode cX8_undo 0 = .ok (.aload_n 0, 1) := by decide +kernel
theorem dX8_undo_1 : decode cX8_undo 1 = .ok (.iconst 0, 1) := by decide +kernel
theorem dX8_undo_2 : decode cX8_undo 2 = .ok (.putfield 50, 3) := by decide +kernel
theorem dX8_undo_5 : decode cX8_undo 5 = .ok (.aload_n 0, 1) := by decide +kernel
theorem dX8_undo_6 : decode cX8_undo 6 = .ok (.getfield 137, 3) := by decide +kernel
theorem dX8_undo_9 : decode cX8_undo 9 = .ok (.ifCond .ne 6, 3) := by decide +kernel
theorem dX8_undo_12 : decode cX8_undo 12 = .ok (.bipush (-4), 2) := by decide +kernel
theorem dX8_undo_14 : decode cX8_undo 14 = .ok (.ireturn, 1) := by decide +kernel
theorem dX8_undo_15 : decode cX8_undo 15 = .ok (.aload_n 0, 1) := by decide +kernel
theorem dX8_undo_16 : decode cX8_undo 16 = .ok (.dup, 1) := by decide +kernel
theorem dX8_undo_17 : decode cX8_undo 17 = .ok (.getfield 137, 3) := by decide +kernel
theorem dX8_undo_20 : decode cX8_undo 20 = .ok (.iconst 1, 1) := by decide +kernel
theorem dX8_undo_21 : decode cX8_undo 21 = .ok (.isub, 1) := by decide +kernel
theorem dX8_undo_22 : decode cX8_undo 22 = .ok (.putfield 137, 3) := by decide +kernel
theorem dX8_undo_25 : decode cX8_undo 25 = .ok (.iconst 0, 1) := by decide +kernel
theorem dX8_undo_26 : decode cX8_undo 26 = .ok (.istore_n 1, 1) := by decide +kernel
theorem dX8_undo_27 : decode cX8_undo 27 = .ok (.iload_n 1, 1) := by decide +kernel
theorem dX8_undo_28 : decode cX8_undo 28 = .ok (.bipush 8, 2) := by decide +kernel
theorem dX8_undo_30 : decode cX8_undo 30 = .ok (.if_icmp .ge 29, 3) := by decide +kernel
theorem dX8_undo_33 : decode cX8_undo 33 = .ok (.aload_n 0, 1) := by decide +kernel
theorem dX8_undo_34 : decode cX8_undo 34 = .ok (.getfield 25, 3) := by decide +kernel
theorem dX8_undo_37 : decode cX8_undo 37 = .ok (.iload_n 1, 1) := by decide +kernel
theorem dX8_undo_38 : decode cX8_undo 38 = .ok (.aload_n 0, 1) := by decide +kernel
theorem dX8_undo_39 : decode cX8_undo 39 = .ok (.getfield 28, 3) := by decide +kernel
theorem dX8_undo_42 : decode cX8_undo 42 = .ok (.bipush 8, 2) := by decide +kernel
theorem dX8_undo_44 : decode cX8_undo 44 = .ok (.aload_n 0, 1) := by decide +kernel
theorem dX8_undo_45 : decode cX8_undo 45 = .ok (.getfield 137, 3) := by decide +kernel
theorem dX8_undo_48 : decode cX8_undo 48 = .ok (.imul, 1) := by decide +kernel
theorem dX8_undo_49 : decode cX8_undo 49 = .ok (.iload_n 1, 1) := by decide +kernel
theorem dX8_undo_50 : decode cX8_undo 50 = .ok (.iadd, 1) := by decide +kernel
theorem dX8_undo_51 : decode cX8_undo 51 = .ok (.iaload, 1) := by decide +kernel
theorem dX8_undo_52 : decode cX8_undo 52 = .ok (.iastore, 1) := by decide +kernel
theorem dX8_undo_53 : decode cX8_undo 53 = .ok (.iinc 1 1, 3) := by decide +kernel
theorem dX8_undo_56 : decode cX8_undo 56 = .ok (.goto (-29), 3) := by decide +kernel
theorem dX8_undo_59 : decode cX8_undo 59 = .ok (.aload_n 0, 1) := by decide +kernel
theorem dX8_undo_60 : decode cX8_undo 60 = .ok (.getfield 137, 3) := by decide +kernel
theorem dX8_undo_63 : decode cX8_undo 63 = .ok (.ireturn, 1) := by decide +kernel
theorem dX8_keep_0 : decode cX8_keep 0 = .ok (.aload_n 0, 1) := by decide +kernel
theorem dX8_keep_1 : decode cX8_keep 1 = .ok (.iconst 0, 1) := by decide +kernel
theorem dX8_keep_2 : decode cX8_keep 2 = .ok (.putfield 50, 3) := by decide +kernel
theorem dX8_keep_5 : decode cX8_keep 5 = .ok (.iload_n 1, 1) := by decide +kernel
theorem dX8_keep_6 : decode cX8_keep 6 = .ok (.iconst 0, 1) := by decide +kernel
theorem dX8_keep_7 : decode cX8_keep 7 = .ok (.iconst 1, 1) := by decide +kernel
theorem dX8_keep_8 : decode cX8_keep 8 = .ok (.invokestatic 54, 3) := by decide +kernel
theorem dX8_keep_11 : decode cX8_keep 11 = .ok (.ifCond .ne 6, 3) := by decide +kernel
theorem dX8_keep_14 : decode cX8_keep 14 = .ok (.bipush (-2), 2) := by decide +kernel
theorem dX8_keep_16 : decode cX8_keep 16 = .ok (.ireturn, 1) := by decide +kernel
theorem dX8_keep_17 : decode cX8_keep 17 = .ok (.iconst 0, 1) := by decide +kernel
theorem dX8_keep_18 : decode cX8_keep 18 = .ok (.istore_n 2, 1) := by decide +kernel
theorem dX8_keep_19 : decode cX8_keep 19 = .ok (.iload_n 2, 1) := by decide +kernel
theorem dX8_keep_20 : decode cX8_keep 20 = .ok (.bipush 8, 2) := by decide +kernel
theorem dX8_keep_22 : decode cX8_keep 22 = .ok (.if_icmp .ge 26, 3) := by decide +kernel
theorem dX8_keep_25 : decode cX8_keep 25 = .ok (.aload_n 0, 1) := by decide +kernel
theorem dX8_keep_26 : decode cX8_keep 26 = .ok (.getfield 31, 3) := by decide +kernel
theorem dX8_keep_29 : decode cX8_keep 29 = .ok (.bipush 8, 2) := by decide +kernel
theorem dX8_keep_31 : decode cX8_keep 31 = .ok (.iload_n 1, 1) := by decide +kernel
theorem dX8_keep_32 : decode cX8_keep 32 = .ok (.imul, 1) := by decide +kernel
theorem dX8_keep_33 : decode cX8_keep 33 = .ok (.iload_n 2, 1) := by decide +kernel
theorem dX8_keep_34 : decode cX8_keep 34 = .ok (.iadd, 1) := by decide +kernel
theorem dX8_keep_35 : decode cX8_keep 35 = .ok (.aload_n 0, 1) := by decide +kernel
theorem dX8_keep_36 : decode cX8_keep 36 = .ok (.getfield 25, 3) := by decide +kernel
theorem dX8_keep_39 : decode cX8_keep 39 = .ok (.iload_n 2, 1) := by decide +kernel
theorem dX8_keep_40 : decode cX8_keep 40 = .ok (.iaload, 1) := by decide +kernel
theorem dX8_keep_41 : decode cX8_keep 41 = .ok (.iastore, 1) := by decide +kernel
theorem dX8_keep_42 : decode cX8_keep 42 = .ok (.iinc 2 1, 3) := by decide +kernel
theorem dX8_keep_45 : decode cX8_keep 45 = .ok (.goto (-26), 3) := by decide +kernel
theorem dX8_keep_48 : decode cX8_keep 48 = .ok (.aload_n 0, 1) := by decide +kernel
theorem dX8_keep_49 : decode cX8_keep 49 = .ok (.getfield 34, 3) := by decide +kernel
theorem dX8_keep_52 : decode cX8_keep 52 = .ok (.iload_n 1, 1) := by decide +kernel
theorem dX8_keep_53 : decode cX8_keep 53 = .ok (.iconst 1, 1) := by decide +kernel
theorem dX8_keep_54 : decode cX8_keep 54 = .ok (.bastore, 1) := by decide +kernel
theorem dX8_keep_55 : decode cX8_keep 55 = .ok (.aload_n 0, 1) := by decide +kernel
theorem dX8_keep_56 : decode cX8_keep 56 = .ok (.getfield 25, 3) := by decide +kernel
theorem dX8_keep_59 : decode cX8_keep 59 = .ok (.iconst 0, 1) := by decide +kernel
theorem dX8_keep_60 : decode cX8_keep 60 = .ok (.iaload, 1) := by decide +kernel
theorem dX8_keep_61 : decode cX8_keep 61 = .ok (.ireturn, 1) := by decide +kernel
theorem dX8_back_0 : decode cX8_back 0 = .ok (.aload_n 0, 1) := by decide +kernel
theorem dX8_back_1 : decode cX8_back 1 = .ok (.iconst 0, 1) := by decide +kernel
theorem dX8_back_2 : decode cX8_back 2 = .ok (.putfield 50, 3) := by decide +kernel
theorem dX8_back_5 : decode cX8_back 5 = .ok (.iload_n 1, 1) := by decide +kernel
theorem dX8_back_6 : decode cX8_back 6 = .ok (.iconst 0, 1) := by decide +kernel
theorem dX8_back_7 : decode cX8_back 7 = .ok (.iconst 1, 1) := by decide +kernel
theorem dX8_back_8 : decode cX8_back 8 = .ok (.invokestatic 54, 3) := by decide +kernel
theorem dX8_back_11 : decode cX8_back 11 = .ok (.ifCond .ne 6, 3) := by decide +kernel
theorem dX8_back_14 : decode cX8_back 14 = .ok (.bipush (-2), 2) := by decide +kernel
theorem dX8_back_16 : decode cX8_back 16 = .ok (.ireturn, 1) := by decide +kernel
theorem dX8_back_17 : decode cX8_back 17 = .ok (.aload_n 0, 1) := by decide +kernel
theorem dX8_back_18 : decode cX8_back 18 = .ok (.getfield 34, 3) := by decide +kernel
theorem dX8_back_21 : decode cX8_back 21 = .ok (.iload_n 1, 1) := by decide +kernel
theorem dX8_back_22 : decode cX8_back 22 = .ok (.baload, 1) := by decide +kernel
theorem dX8_back_23 : decode cX8_back 23 = .ok (.ifCond .ne 6, 3) := by decide +kernel
theorem dX8_back_26 : decode cX8_back 26 = .ok (.bipush (-4), 2) := by decide +kernel
theorem dX8_back_28 : decode cX8_back 28 = .ok (.ireturn, 1) := by decide +kernel
theorem dX8_back_29 : decode cX8_back 29 = .ok (.iconst 0, 1) := by decide +kernel
theorem dX8_back_30 : decode cX8_back 30 = .ok (.istore_n 2, 1) := by decide +kernel
theorem dX8_back_31 : decode cX8_back 31 = .ok (.iload_n 2, 1) := by decide +kernel
theorem dX8_back_32 : decode cX8_back 32 = .ok (.bipush 8, 2) := by decide +kernel
theorem dX8_back_34 : decode cX8_back 34 = .ok (.if_icmp .ge 26, 3) := by decide +kernel
theorem dX8_back_37 : decode cX8_back 37 = .ok (.aload_n 0, 1) := by decide +kernel
theorem dX8_back_38 : decode cX8_back 38 = .ok (.getfield 25, 3) := by decide +kernel
theorem dX8_back_41 : decode cX8_back 41 = .ok (.iload_n 2, 1) := by decide +kernel
theorem dX8_back_42 : decode cX8_back 42 = .ok (.aload_n 0, 1) := by decide +kernel
theorem dX8_back_43 : decode cX8_back 43 = .ok (.getfield 31, 3) := by decide +kernel
theorem dX8_back_46 : decode cX8_back 46 = .ok (.bipush 8, 2) := by decide +kernel
theorem dX8_back_48 : decode cX8_back 48 = .ok (.iload_n 1, 1) := by decide +kernel
theorem dX8_back_49 : decode cX8_back 49 = .ok (.imul, 1) := by decide +kernel
theorem dX8_back_50 : decode cX8_back 50 = .ok (.iload_n 2, 1) := by decide +kernel
theorem dX8_back_51 : decode cX8_back 51 = .ok (.iadd, 1) := by decide +kernel
theorem dX8_back_52 : decode cX8_back 52 = .ok (.iaload, 1) := by decide +kernel
theorem dX8_back_53 : decode cX8_back 53 = .ok (.iastore, 1) := by decide +kernel
theorem dX8_back_54 : decode cX8_back 54 = .ok (.iinc 2 1, 3) := by decide +kernel
theorem dX8_back_57 : decode cX8_back 57 = .ok (.goto (-26), 3) := by decide +kernel
theorem dX8_back_60 : decode cX8_back 60 = .ok (.aload_n 0, 1) := by decide +kernel
theorem dX8_back_61 : decode cX8_back 61 = .ok (.iconst 0, 1) := by decide +kernel
theorem dX8_back_62 : decode cX8_back 62 = .ok (.putfield 137, 3) := by decide +kernel
theorem dX8_back_65 : decode cX8_back 65 = .ok (.aload_n 0, 1) := by decide +kernel
theorem dX8_back_66 : decode cX8_back 66 = .ok (.getfield 25, 3) := by decide +kernel
theorem dX8_back_69 : decode cX8_back 69 = .ok (.iconst 0, 1) := by decide +kernel
theorem dX8_back_70 : decode cX8_back 70 = .ok (.iaload, 1) := by decide +kernel
theorem dX8_back_71 : decode cX8_back 71 = .ok (.ireturn, 1) := by decide +kernel
theorem dX8_gcd_0 : decode cX8_gcd 0 = .ok (.lload_n 0, 1) := by decide +kernel
theorem dX8_gcd_1 : decode cX8_gcd 1 = .ok (.lstore 4, 2) := by decide +kernel
theorem dX8_gcd_3 : decode cX8_gcd 3 = .ok (.lload_n 2, 1) := by decide +kernel
theorem dX8_gcd_4 : decode cX8_gcd 4 = .ok (.lstore 6, 2) := by decide +kernel
theorem dX8_gcd_6 : decode cX8_gcd 6 = .ok (.lload 6, 2) := by decide +kernel
theorem dX8_gcd_8 : decode cX8_gcd 8 = .ok (.lconst 0, 1) := by decide +kernel
theorem dX8_gcd_9 : decode cX8_gcd 9 = .ok (.lcmp, 1) := by decide +kernel
theorem dX8_gcd_10 : decode cX8_gcd 10 = .ok (.ifCond .eq 21, 3) := by decide +kernel
theorem dX8_gcd_13 : decode cX8_gcd 13 = .ok (.lload 4, 2) := by decide +kernel
theorem dX8_gcd_15 : decode cX8_gcd 15 = .ok (.lload 6, 2) := by decide +kernel
theorem dX8_gcd_17 : decode cX8_gcd 17 = .ok (.lrem, 1) := by decide +kernel
theorem dX8_gcd_18 : decode cX8_gcd 18 = .ok (.lstore 8, 2) := by decide +kernel
theorem dX8_gcd_20 : decode cX8_gcd 20 = .ok (.lload 6, 2) := by decide +kernel
theorem dX8_gcd_22 : decode cX8_gcd 22 = .ok (.lstore 4, 2) := by decide +kernel
theorem dX8_gcd_24 : decode cX8_gcd 24 = .ok (.lload 8, 2) := by decide +kernel
theorem dX8_gcd_26 : decode cX8_gcd 26 = .ok (.lstore 6, 2) := by decide +kernel
theorem dX8_gcd_28 : decode cX8_gcd 28 = .ok (.goto (-22), 3) := by decide +kernel
theorem dX8_gcd_31 : decode cX8_gcd 31 = .ok (.lload 4, 2) := by decide +kernel
theorem dX8_gcd_33 : decode cX8_gcd 33 = .ok (.lreturn, 1) := by decide +kernel
theorem dX8_part_0 : decode cX8_part 0 = .ok (.lload_n 0, 1) := by decide +kernel
theorem dX8_part_1 : decode cX8_part 1 = .ok (.lload_n 2, 1) := by decide +kernel
theorem dX8_part_2 : decode cX8_part 2 = .ok (.invokestatic 184, 3) := by decide +kernel
theorem dX8_part_5 : decode cX8_part 5 = .ok (.lstore 5, 2) := by decide +kernel
theorem dX8_part_7 : decode cX8_part 7 = .ok (.iload 4, 2) := by decide +kernel
theorem dX8_part_9 : decode cX8_part 9 = .ok (.ifCond .ne 10, 3) := by decide +kernel
theorem dX8_part_12 : decode cX8_part 12 = .ok (.lload_n 0, 1) := by decide +kernel
theorem dX8_part_13 : decode cX8_part 13 = .ok (.lload 5, 2) := by decide +kernel
theorem dX8_part_15 : decode cX8_part 15 = .ok (.ldiv, 1) := by decide +kernel
theorem dX8_part_16 : decode cX8_part 16 = .ok (.goto 7, 3) := by decide +kernel
theorem dX8_part_19 : decode cX8_part 19 = .ok (.lload_n 2, 1) := by decide +kernel
theorem dX8_part_20 : decode cX8_part 20 = .ok (.lload 5, 2) := by decide +kernel
theorem dX8_part_22 : decode cX8_part 22 = .ok (.ldiv, 1) := by decide +kernel
theorem dX8_part_23 : decode cX8_part 23 = .ok (.lreturn, 1) := by decide +kernel
theorem dX8_power_0 : decode cX8_power 0 = .ok (.lconst 1, 1) := by decide +kernel
theorem dX8_power_1 : decode cX8_power 1 = .ok (.lstore_n 3, 1) := by decide +kernel
theorem dX8_power_2 : decode cX8_power 2 = .ok (.iconst 0, 1) := by decide +kernel
theorem dX8_power_3 : decode cX8_power 3 = .ok (.istore 5, 2) := by decide +kernel
theorem dX8_power_5 : decode cX8_power 5 = .ok (.iload 5, 2) := by decide +kernel
theorem dX8_power_7 : decode cX8_power 7 = .ok (.iload_n 2, 1) := by decide +kernel
theorem dX8_power_8 : decode cX8_power 8 = .ok (.if_icmp .ge 13, 3) := by decide +kernel
theorem dX8_power_11 : decode cX8_power 11 = .ok (.lload_n 3, 1) := by decide +kernel
theorem dX8_power_12 : decode cX8_power 12 = .ok (.lload_n 0, 1) := by decide +kernel
theorem dX8_power_13 : decode cX8_power 13 = .ok (.lmul, 1) := by decide +kernel
theorem dX8_power_14 : decode cX8_power 14 = .ok (.lstore_n 3, 1) := by decide +kernel
theorem dX8_power_15 : decode cX8_power 15 = .ok (.iinc 5 1, 3) := by decide +kernel
theorem dX8_power_18 : decode cX8_power 18 = .ok (.goto (-13), 3) := by decide +kernel
theorem dX8_power_21 : decode cX8_power 21 = .ok (.lload_n 3, 1) := by decide +kernel
theorem dX8_power_22 : decode cX8_power 22 = .ok (.lreturn, 1) := by decide +kernel
theorem dX8_isPart_0 : decode cX8_isPart 0 = .ok (.iload_n 0, 1) := by decide +kernel
theorem dX8_isPart_1 : decode cX8_isPart 1 = .ok (.ifCond .eq 8, 3) := by decide +kernel
theorem dX8_isPart_4 : decode cX8_isPart 4 = .ok (.iload_n 0, 1) := by decide +kernel
theorem dX8_isPart_5 : decode cX8_isPart 5 = .ok (.iconst 1, 1) := by decide +kernel
theorem dX8_isPart_6 : decode cX8_isPart 6 = .ok (.if_icmp .ne 7, 3) := by decide +kernel
theorem dX8_isPart_9 : decode cX8_isPart 9 = .ok (.iconst 1, 1) := by decide +kernel
theorem dX8_isPart_10 : decode cX8_isPart 10 = .ok (.goto 4, 3) := by decide +kernel
theorem dX8_isPart_13 : decode cX8_isPart 13 = .ok (.iconst 0, 1) := by decide +kernel
theorem dX8_isPart_14 : decode cX8_isPart 14 = .ok (.ireturn, 1) := by decide +kernel
theorem dX8_throughTo_0 : decode cX8_throughTo 0 = .ok (.lconst 1, 1) := by decide +kernel
theorem dX8_throughTo_1 : decode cX8_throughTo 1 = .ok (.lstore_n 2, 1) := by decide +kernel
theorem dX8_throughTo_2 : decode cX8_throughTo 2 = .ok (.iconst 0, 1) := by decide +kernel
theorem dX8_throughTo_3 : decode cX8_throughTo 3 = .ok (.istore 4, 2) := by decide +kernel
theorem dX8_throughTo_5 : decode cX8_throughTo 5 = .ok (.iload 4, 2) := by decide +kernel
theorem dX8_throughTo_7 : decode cX8_throughTo 7 = .ok (.iload_n 1, 1) := by decide +kernel
theorem dX8_throughTo_8 : decode cX8_throughTo 8 = .ok (.if_icmp .ge 33, 3) := by decide +kernel
theorem dX8_throughTo_11 : decode cX8_throughTo 11 = .ok (.lload_n 2, 1) := by decide +kernel
theorem dX8_throughTo_12 : decode cX8_throughTo 12 = .ok (.bipush 10, 2) := by decide +kernel
theorem dX8_throughTo_14 : decode cX8_throughTo 14 = .ok (.aload_n 0, 1) := by decide +kernel
theorem dX8_throughTo_15 : decode cX8_throughTo 15 = .ok (.iload 4, 2) := by decide +kernel
theorem dX8_throughTo_17 : decode cX8_throughTo 17 = .ok (.aload_n 0, 1) := by decide +kernel
theorem dX8_throughTo_18 : decode cX8_throughTo 18 = .ok (.getfield 25, 3) := by decide +kernel
theorem dX8_throughTo_21 : decode cX8_throughTo 21 = .ok (.iconst 3, 1) := by decide +kernel
theorem dX8_throughTo_22 : decode cX8_throughTo 22 = .ok (.iload 4, 2) := by decide +kernel
theorem dX8_throughTo_24 : decode cX8_throughTo 24 = .ok (.iadd, 1) := by decide +kernel
theorem dX8_throughTo_25 : decode cX8_throughTo 25 = .ok (.iaload, 1) := by decide +kernel
theorem dX8_throughTo_26 : decode cX8_throughTo 26 = .ok (.iconst 1, 1) := by decide +kernel
theorem dX8_throughTo_27 : decode cX8_throughTo 27 = .ok (.isub, 1) := by decide +kernel
theorem dX8_throughTo_28 : decode cX8_throughTo 28 = .ok (.invokevirtual 159, 3) := by decide +kernel
theorem dX8_throughTo_31 : decode cX8_throughTo 31 = .ok (.isub, 1) := by decide +kernel
theorem dX8_throughTo_32 : decode cX8_throughTo 32 = .ok (.i2l, 1) := by decide +kernel
theorem dX8_throughTo_33 : decode cX8_throughTo 33 = .ok (.lmul, 1) := by decide +kernel
theorem dX8_throughTo_34 : decode cX8_throughTo 34 = .ok (.lstore_n 2, 1) := by decide +kernel
theorem dX8_throughTo_35 : decode cX8_throughTo 35 = .ok (.iinc 4 1, 3) := by decide +kernel
theorem dX8_throughTo_38 : decode cX8_throughTo 38 = .ok (.goto (-33), 3) := by decide +kernel
theorem dX8_throughTo_41 : decode cX8_throughTo 41 = .ok (.lload_n 2, 1) := by decide +kernel
theorem dX8_throughTo_42 : decode cX8_throughTo 42 = .ok (.lreturn, 1) := by decide +kernel
theorem dX8_through_0 : decode cX8_through 0 = .ok (.aload_n 0, 1) := by decide +kernel
theorem dX8_through_1 : decode cX8_through 1 = .ok (.iconst 0, 1) := by decide +kernel
theorem dX8_through_2 : decode cX8_through 2 = .ok (.putfield 50, 3) := by decide +kernel
theorem dX8_through_5 : decode cX8_through 5 = .ok (.iload_n 1, 1) := by decide +kernel
theorem dX8_through_6 : decode cX8_through 6 = .ok (.invokestatic 188, 3) := by decide +kernel
theorem dX8_through_9 : decode cX8_through 9 = .ok (.ifCond .ne 6, 3) := by decide +kernel
theorem dX8_through_12 : decode cX8_through 12 = .ok (.bipush (-3), 2) := by decide +kernel
theorem dX8_through_14 : decode cX8_through 14 = .ok (.ireturn, 1) := by decide +kernel
theorem dX8_through_15 : decode cX8_through 15 = .ok (.aload_n 0, 1) := by decide +kernel
theorem dX8_through_16 : decode cX8_through 16 = .ok (.invokevirtual 177, 3) := by decide +kernel
theorem dX8_through_19 : decode cX8_through 19 = .ok (.ifCond .eq 33, 3) := by decide +kernel
theorem dX8_through_22 : decode cX8_through 22 = .ok (.aload_n 0, 1) := by decide +kernel
theorem dX8_through_23 : decode cX8_through 23 = .ok (.aload_n 0, 1) := by decide +kernel
theorem dX8_through_24 : decode cX8_through 24 = .ok (.getfield 22, 3) := by decide +kernel
theorem dX8_through_27 : decode cX8_through 27 = .ok (.iconst 1, 1) := by decide +kernel
theorem dX8_through_28 : decode cX8_through 28 = .ok (.iaload, 1) := by decide +kernel
theorem dX8_through_29 : decode cX8_through 29 = .ok (.invokevirtual 191, 3) := by decide +kernel
theorem dX8_through_32 : decode cX8_through 32 = .ok (.ldc2_w 175, 3) := by decide +kernel
theorem dX8_through_35 : decode cX8_through 35 = .ok (.aload_n 0, 1) := by decide +kernel
theorem dX8_through_36 : decode cX8_through 36 = .ok (.getfield 22, 3) := by decide +kernel
theorem dX8_through_39 : decode cX8_through 39 = .ok (.iconst 1, 1) := by decide +kernel
theorem dX8_through_40 : decode cX8_through 40 = .ok (.iaload, 1) := by decide +kernel
theorem dX8_through_41 : decode cX8_through 41 = .ok (.invokestatic 195, 3) := by decide +kernel
theorem dX8_through_44 : decode cX8_through 44 = .ok (.iload_n 1, 1) := by decide +kernel
theorem dX8_through_45 : decode cX8_through 45 = .ok (.invokestatic 199, 3) := by decide +kernel
theorem dX8_through_48 : decode cX8_through 48 = .ok (.l2i, 1) := by decide +kernel
theorem dX8_through_49 : decode cX8_through 49 = .ok (.goto 5, 3) := by decide +kernel
theorem dX8_through_52 : decode cX8_through 52 = .ok (.bipush (-4), 2) := by decide +kernel
theorem dX8_through_54 : decode cX8_through 54 = .ok (.ireturn, 1) := by decide +kernel
theorem dX8_fails__0 : decode cX8_fails_ 0 = .ok (.aload_n 0, 1) := by decide +kernel
theorem dX8_fails__1 : decode cX8_fails_ 1 = .ok (.iconst 0, 1) := by decide +kernel
theorem dX8_fails__2 : decode cX8_fails_ 2 = .ok (.putfield 50, 3) := by decide +kernel
theorem dX8_fails__5 : decode cX8_fails_ 5 = .ok (.aload_n 0, 1) := by decide +kernel
theorem dX8_fails__6 : decode cX8_fails_ 6 = .ok (.iload_n 1, 1) := by decide +kernel
theorem dX8_fails__7 : decode cX8_fails_ 7 = .ok (.invokevirtual 152, 3) := by decide +kernel
theorem dX8_fails__10 : decode cX8_fails_ 10 = .ok (.ifCond .ne 6, 3) := by decide +kernel
theorem dX8_fails__13 : decode cX8_fails_ 13 = .ok (.bipush (-2), 2) := by decide +kernel
theorem dX8_fails__15 : decode cX8_fails_ 15 = .ok (.ireturn, 1) := by decide +kernel
theorem dX8_fails__16 : decode cX8_fails_ 16 = .ok (.iload_n 2, 1) := by decide +kernel
theorem dX8_fails__17 : decode cX8_fails_ 17 = .ok (.invokestatic 188, 3) := by decide +kernel
theorem dX8_fails__20 : decode cX8_fails_ 20 = .ok (.ifCond .ne 6, 3) := by decide +kernel
theorem dX8_fails__23 : decode cX8_fails_ 23 = .ok (.bipush (-3), 2) := by decide +kernel
theorem dX8_fails__25 : decode cX8_fails_ 25 = .ok (.ireturn, 1) := by decide +kernel
theorem dX8_fails__26 : decode cX8_fails_ 26 = .ok (.aload_n 0, 1) := by decide +kernel
theorem dX8_fails__27 : decode cX8_fails_ 27 = .ok (.invokevirtual 177, 3) := by decide +kernel
theorem dX8_fails__30 : decode cX8_fails_ 30 = .ok (.ifCond .eq 42, 3) := by decide +kernel
theorem dX8_fails__33 : decode cX8_fails_ 33 = .ok (.aload_n 0, 1) := by decide +kernel
theorem dX8_fails__34 : decode cX8_fails_ 34 = .ok (.iload_n 1, 1) := by decide +kernel
theorem dX8_fails__35 : decode cX8_fails_ 35 = .ok (.invokevirtual 191, 3) := by decide +kernel
theorem dX8_fails__38 : decode cX8_fails_ 38 = .ok (.aload_n 0, 1) := by decide +kernel
theorem dX8_fails__39 : decode cX8_fails_ 39 = .ok (.iload_n 1, 1) := by decide +kernel
theorem dX8_fails__40 : decode cX8_fails_ 40 = .ok (.aload_n 0, 1) := by decide +kernel
theorem dX8_fails__41 : decode cX8_fails_ 41 = .ok (.getfield 25, 3) := by decide +kernel
theorem dX8_fails__44 : decode cX8_fails_ 44 = .ok (.iconst 3, 1) := by decide +kernel
theorem dX8_fails__45 : decode cX8_fails_ 45 = .ok (.iload_n 1, 1) := by decide +kernel
theorem dX8_fails__46 : decode cX8_fails_ 46 = .ok (.iadd, 1) := by decide +kernel
theorem dX8_fails__47 : decode cX8_fails_ 47 = .ok (.iaload, 1) := by decide +kernel
theorem dX8_fails__48 : decode cX8_fails_ 48 = .ok (.iconst 1, 1) := by decide +kernel
theorem dX8_fails__49 : decode cX8_fails_ 49 = .ok (.isub, 1) := by decide +kernel
theorem dX8_fails__50 : decode cX8_fails_ 50 = .ok (.invokevirtual 159, 3) := by decide +kernel
theorem dX8_fails__53 : decode cX8_fails_ 53 = .ok (.i2l, 1) := by decide +kernel
theorem dX8_fails__54 : decode cX8_fails_ 54 = .ok (.lmul, 1) := by decide +kernel
theorem dX8_fails__55 : decode cX8_fails_ 55 = .ok (.ldc2_w 175, 3) := by decide +kernel
theorem dX8_fails__58 : decode cX8_fails_ 58 = .ok (.iload_n 1, 1) := by decide +kernel
theorem dX8_fails__59 : decode cX8_fails_ 59 = .ok (.iconst 1, 1) := by decide +kernel
theorem dX8_fails__60 : decode cX8_fails_ 60 = .ok (.iadd, 1) := by decide +kernel
theorem dX8_fails__61 : decode cX8_fails_ 61 = .ok (.invokestatic 195, 3) := by decide +kernel
theorem dX8_fails__64 : decode cX8_fails_ 64 = .ok (.iload_n 2, 1) := by decide +kernel
theorem dX8_fails__65 : decode cX8_fails_ 65 = .ok (.invokestatic 199, 3) := by decide +kernel
theorem dX8_fails__68 : decode cX8_fails_ 68 = .ok (.l2i, 1) := by decide +kernel
theorem dX8_fails__69 : decode cX8_fails_ 69 = .ok (.goto 5, 3) := by decide +kernel
theorem dX8_fails__72 : decode cX8_fails_ 72 = .ok (.bipush (-4), 2) := by decide +kernel
theorem dX8_fails__74 : decode cX8_fails_ 74 = .ok (.ireturn, 1) := by decide +kernel
theorem dX8_loss_0 : decode cX8_loss 0 = .ok (.aload_n 0, 1) := by decide +kernel
theorem dX8_loss_1 : decode cX8_loss 1 = .ok (.iconst 0, 1) := by decide +kernel
theorem dX8_loss_2 : decode cX8_loss 2 = .ok (.putfield 50, 3) := by decide +kernel
theorem dX8_loss_5 : decode cX8_loss 5 = .ok (.iload_n 1, 1) := by decide +kernel
theorem dX8_loss_6 : decode cX8_loss 6 = .ok (.invokestatic 188, 3) := by decide +kernel
theorem dX8_loss_9 : decode cX8_loss 9 = .ok (.ifCond .ne 6, 3) := by decide +kernel
theorem dX8_loss_12 : decode cX8_loss 12 = .ok (.bipush (-3), 2) := by decide +kernel
theorem dX8_loss_14 : decode cX8_loss 14 = .ok (.ireturn, 1) := by decide +kernel
theorem dX8_loss_15 : decode cX8_loss 15 = .ok (.aload_n 0, 1) := by decide +kernel
theorem dX8_loss_16 : decode cX8_loss 16 = .ok (.invokevirtual 177, 3) := by decide +kernel
theorem dX8_loss_19 : decode cX8_loss 19 = .ok (.ifCond .ne 6, 3) := by decide +kernel
theorem dX8_loss_22 : decode cX8_loss 22 = .ok (.bipush (-4), 2) := by decide +kernel
theorem dX8_loss_24 : decode cX8_loss 24 = .ok (.ireturn, 1) := by decide +kernel
theorem dX8_loss_25 : decode cX8_loss 25 = .ok (.lconst 0, 1) := by decide +kernel
theorem dX8_loss_26 : decode cX8_loss 26 = .ok (.lstore_n 2, 1) := by decide +kernel
theorem dX8_loss_27 : decode cX8_loss 27 = .ok (.iconst 0, 1) := by decide +kernel
theorem dX8_loss_28 : decode cX8_loss 28 = .ok (.istore 4, 2) := by decide +kernel
theorem dX8_loss_30 : decode cX8_loss 30 = .ok (.iload 4, 2) := by decide +kernel
theorem dX8_loss_32 : decode cX8_loss 32 = .ok (.aload_n 0, 1) := by decide +kernel
theorem dX8_loss_33 : decode cX8_loss 33 = .ok (.getfield 22, 3) := by decide +kernel
theorem dX8_loss_36 : decode cX8_loss 36 = .ok (.iconst 1, 1) := by decide +kernel
theorem dX8_loss_37 : decode cX8_loss 37 = .ok (.iaload, 1) := by decide +kernel
theorem dX8_loss_38 : decode cX8_loss 38 = .ok (.if_icmp .ge 72, 3) := by decide +kernel
theorem dX8_loss_41 : decode cX8_loss 41 = .ok (.aload_n 0, 1) := by decide +kernel
theorem dX8_loss_42 : decode cX8_loss 42 = .ok (.getfield 25, 3) := by decide +kernel
theorem dX8_loss_45 : decode cX8_loss 45 = .ok (.iconst 3, 1) := by decide +kernel
theorem dX8_loss_46 : decode cX8_loss 46 = .ok (.iload 4, 2) := by decide +kernel
theorem dX8_loss_48 : decode cX8_loss 48 = .ok (.iadd, 1) := by decide +kernel
theorem dX8_loss_49 : decode cX8_loss 49 = .ok (.iaload, 1) := by decide +kernel
theorem dX8_loss_50 : decode cX8_loss 50 = .ok (.iconst 1, 1) := by decide +kernel
theorem dX8_loss_51 : decode cX8_loss 51 = .ok (.isub, 1) := by decide +kernel
theorem dX8_loss_52 : decode cX8_loss 52 = .ok (.istore 5, 2) := by decide +kernel
theorem dX8_loss_54 : decode cX8_loss 54 = .ok (.lload_n 2, 1) := by decide +kernel
theorem dX8_loss_55 : decode cX8_loss 55 = .ok (.aload_n 0, 1) := by decide +kernel
theorem dX8_loss_56 : decode cX8_loss 56 = .ok (.iload 4, 2) := by decide +kernel
theorem dX8_loss_58 : decode cX8_loss 58 = .ok (.invokevirtual 191, 3) := by decide +kernel
theorem dX8_loss_61 : decode cX8_loss 61 = .ok (.aload_n 0, 1) := by decide +kernel
theorem dX8_loss_62 : decode cX8_loss 62 = .ok (.iload 4, 2) := by decide +kernel
theorem dX8_loss_64 : decode cX8_loss 64 = .ok (.iload 5, 2) := by decide +kernel
theorem dX8_loss_66 : decode cX8_loss 66 = .ok (.invokevirtual 159, 3) := by decide +kernel
theorem dX8_loss_69 : decode cX8_loss 69 = .ok (.i2l, 1) := by decide +kernel
theorem dX8_loss_70 : decode cX8_loss 70 = .ok (.lmul, 1) := by decide +kernel
theorem dX8_loss_71 : decode cX8_loss 71 = .ok (.aload_n 0, 1) := by decide +kernel
theorem dX8_loss_72 : decode cX8_loss 72 = .ok (.getfield 13, 3) := by decide +kernel
theorem dX8_loss_75 : decode cX8_loss 75 = .ok (.iconst 4, 1) := by decide +kernel
theorem dX8_loss_76 : decode cX8_loss 76 = .ok (.iload 5, 2) := by decide +kernel
theorem dX8_loss_78 : decode cX8_loss 78 = .ok (.imul, 1) := by decide +kernel
theorem dX8_loss_79 : decode cX8_loss 79 = .ok (.iconst 2, 1) := by decide +kernel
theorem dX8_loss_80 : decode cX8_loss 80 = .ok (.iadd, 1) := by decide +kernel
theorem dX8_loss_81 : decode cX8_loss 81 = .ok (.iaload, 1) := by decide +kernel
theorem dX8_loss_82 : decode cX8_loss 82 = .ok (.i2l, 1) := by decide +kernel
theorem dX8_loss_83 : decode cX8_loss 83 = .ok (.lmul, 1) := by decide +kernel
theorem dX8_loss_84 : decode cX8_loss 84 = .ok (.ldc2_w 175, 3) := by decide +kernel
theorem dX8_loss_87 : decode cX8_loss 87 = .ok (.aload_n 0, 1) := by decide +kernel
theorem dX8_loss_88 : decode cX8_loss 88 = .ok (.getfield 22, 3) := by decide +kernel
theorem dX8_loss_91 : decode cX8_loss 91 = .ok (.iconst 1, 1) := by decide +kernel
theorem dX8_loss_92 : decode cX8_loss 92 = .ok (.iaload, 1) := by decide +kernel
theorem dX8_loss_93 : decode cX8_loss 93 = .ok (.iload 4, 2) := by decide +kernel
theorem dX8_loss_95 : decode cX8_loss 95 = .ok (.isub, 1) := by decide +kernel
theorem dX8_loss_96 : decode cX8_loss 96 = .ok (.iconst 1, 1) := by decide +kernel
theorem dX8_loss_97 : decode cX8_loss 97 = .ok (.isub, 1) := by decide +kernel
theorem dX8_loss_98 : decode cX8_loss 98 = .ok (.invokestatic 195, 3) := by decide +kernel
theorem dX8_loss_101 : decode cX8_loss 101 = .ok (.lmul, 1) := by decide +kernel
theorem dX8_loss_102 : decode cX8_loss 102 = .ok (.ladd, 1) := by decide +kernel
theorem dX8_loss_103 : decode cX8_loss 103 = .ok (.lstore_n 2, 1) := by decide +kernel
theorem dX8_loss_104 : decode cX8_loss 104 = .ok (.iinc 4 1, 3) := by decide +kernel
theorem dX8_loss_107 : decode cX8_loss 107 = .ok (.goto (-77), 3) := by decide +kernel
theorem dX8_loss_110 : decode cX8_loss 110 = .ok (.lload_n 2, 1) := by decide +kernel
theorem dX8_loss_111 : decode cX8_loss 111 = .ok (.ldc2_w 175, 3) := by decide +kernel
theorem dX8_loss_114 : decode cX8_loss 114 = .ok (.aload_n 0, 1) := by decide +kernel
theorem dX8_loss_115 : decode cX8_loss 115 = .ok (.getfield 22, 3) := by decide +kernel
theorem dX8_loss_118 : decode cX8_loss 118 = .ok (.iconst 1, 1) := by decide +kernel
theorem dX8_loss_119 : decode cX8_loss 119 = .ok (.iaload, 1) := by decide +kernel
theorem dX8_loss_120 : decode cX8_loss 120 = .ok (.invokestatic 195, 3) := by decide +kernel
theorem dX8_loss_123 : decode cX8_loss 123 = .ok (.iload_n 1, 1) := by decide +kernel
theorem dX8_loss_124 : decode cX8_loss 124 = .ok (.invokestatic 199, 3) := by decide +kernel
theorem dX8_loss_127 : decode cX8_loss 127 = .ok (.l2i, 1) := by decide +kernel
theorem dX8_loss_128 : decode cX8_loss 128 = .ok (.ireturn, 1) := by decide +kernel
theorem dX8_rowsOf_0 : decode cX8_rowsOf 0 = .ok (.iconst 1, 1) := by decide +kernel
theorem dX8_rowsOf_1 : decode cX8_rowsOf 1 = .ok (.istore_n 2, 1) := by decide +kernel
theorem dX8_rowsOf_2 : decode cX8_rowsOf 2 = .ok (.iconst 0, 1) := by decide +kernel
theorem dX8_rowsOf_3 : decode cX8_rowsOf 3 = .ok (.istore_n 3, 1) := by decide +kernel
theorem dX8_rowsOf_4 : decode cX8_rowsOf 4 = .ok (.iload_n 3, 1) := by decide +kernel
theorem dX8_rowsOf_5 : decode cX8_rowsOf 5 = .ok (.iload_n 1, 1) := by decide +kernel
theorem dX8_rowsOf_6 : decode cX8_rowsOf 6 = .ok (.if_icmp .ge 13, 3) := by decide +kernel
theorem dX8_rowsOf_9 : decode cX8_rowsOf 9 = .ok (.iload_n 2, 1) := by decide +kernel
theorem dX8_rowsOf_10 : decode cX8_rowsOf 10 = .ok (.iload_n 0, 1) := by decide +kernel
theorem dX8_rowsOf_11 : decode cX8_rowsOf 11 = .ok (.imul, 1) := by decide +kernel
theorem dX8_rowsOf_12 : decode cX8_rowsOf 12 = .ok (.istore_n 2, 1) := by decide +kernel
theorem dX8_rowsOf_13 : decode cX8_rowsOf 13 = .ok (.iinc 3 1, 3) := by decide +kernel
theorem dX8_rowsOf_16 : decode cX8_rowsOf 16 = .ok (.goto (-12), 3) := by decide +kernel
theorem dX8_rowsOf_19 : decode cX8_rowsOf 19 = .ok (.iload_n 2, 1) := by decide +kernel
theorem dX8_rowsOf_20 : decode cX8_rowsOf 20 = .ok (.ireturn, 1) := by decide +kernel
theorem dX8_rowOf_0 : decode cX8_rowOf 0 = .ok (.iload_n 1, 1) := by decide +kernel
theorem dX8_rowOf_1 : decode cX8_rowOf 1 = .ok (.istore_n 2, 1) := by decide +kernel
theorem dX8_rowOf_2 : decode cX8_rowOf 2 = .ok (.aload_n 0, 1) := by decide +kernel
theorem dX8_rowOf_3 : decode cX8_rowOf 3 = .ok (.getfield 22, 3) := by decide +kernel
theorem dX8_rowOf_6 : decode cX8_rowOf 6 = .ok (.iconst 1, 1) := by decide +kernel
theorem dX8_rowOf_7 : decode cX8_rowOf 7 = .ok (.iaload, 1) := by decide +kernel
theorem dX8_rowOf_8 : decode cX8_rowOf 8 = .ok (.iconst 1, 1) := by decide +kernel
theorem dX8_rowOf_9 : decode cX8_rowOf 9 = .ok (.isub, 1) := by decide +kernel
theorem dX8_rowOf_10 : decode cX8_rowOf 10 = .ok (.istore_n 3, 1) := by decide +kernel
theorem dX8_rowOf_11 : decode cX8_rowOf 11 = .ok (.iload_n 3, 1) := by decide +kernel
theorem dX8_rowOf_12 : decode cX8_rowOf 12 = .ok (.ifCond .lt 32, 3) := by decide +kernel
theorem dX8_rowOf_15 : decode cX8_rowOf 15 = .ok (.aload_n 0, 1) := by decide +kernel
theorem dX8_rowOf_16 : decode cX8_rowOf 16 = .ok (.getfield 44, 3) := by decide +kernel
theorem dX8_rowOf_19 : decode cX8_rowOf 19 = .ok (.iload_n 3, 1) := by decide +kernel
theorem dX8_rowOf_20 : decode cX8_rowOf 20 = .ok (.iload_n 2, 1) := by decide +kernel
theorem dX8_rowOf_21 : decode cX8_rowOf 21 = .ok (.aload_n 0, 1) := by decide +kernel
theorem dX8_rowOf_22 : decode cX8_rowOf 22 = .ok (.getfield 22, 3) := by decide +kernel
theorem dX8_rowOf_25 : decode cX8_rowOf 25 = .ok (.iconst 0, 1) := by decide +kernel
theorem dX8_rowOf_26 : decode cX8_rowOf 26 = .ok (.iaload, 1) := by decide +kernel
theorem dX8_rowOf_27 : decode cX8_rowOf 27 = .ok (.irem, 1) := by decide +kernel
theorem dX8_rowOf_28 : decode cX8_rowOf 28 = .ok (.iastore, 1) := by decide +kernel
theorem dX8_rowOf_29 : decode cX8_rowOf 29 = .ok (.iload_n 2, 1) := by decide +kernel
theorem dX8_rowOf_30 : decode cX8_rowOf 30 = .ok (.aload_n 0, 1) := by decide +kernel
theorem dX8_rowOf_31 : decode cX8_rowOf 31 = .ok (.getfield 22, 3) := by decide +kernel
theorem dX8_rowOf_34 : decode cX8_rowOf 34 = .ok (.iconst 0, 1) := by decide +kernel
theorem dX8_rowOf_35 : decode cX8_rowOf 35 = .ok (.iaload, 1) := by decide +kernel
theorem dX8_rowOf_36 : decode cX8_rowOf 36 = .ok (.idiv, 1) := by decide +kernel
theorem dX8_rowOf_37 : decode cX8_rowOf 37 = .ok (.istore_n 2, 1) := by decide +kernel
theorem dX8_rowOf_38 : decode cX8_rowOf 38 = .ok (.iinc 3 (-1), 3) := by decide +kernel
theorem dX8_rowOf_41 : decode cX8_rowOf 41 = .ok (.goto (-30), 3) := by decide +kernel
theorem dX8_rowOf_44 : decode cX8_rowOf 44 = .ok (.return_, 1) := by decide +kernel
theorem dX8_mayGo_0 : decode cX8_mayGo 0 = .ok (.aload_n 0, 1) := by decide +kernel
theorem dX8_mayGo_1 : decode cX8_mayGo 1 = .ok (.getfield 22, 3) := by decide +kernel
theorem dX8_mayGo_4 : decode cX8_mayGo 4 = .ok (.iconst 1, 1) := by decide +kernel
theorem dX8_mayGo_5 : decode cX8_mayGo 5 = .ok (.iaload, 1) := by decide +kernel
theorem dX8_mayGo_6 : decode cX8_mayGo 6 = .ok (.aload_n 0, 1) := by decide +kernel
theorem dX8_mayGo_7 : decode cX8_mayGo 7 = .ok (.getfield 25, 3) := by decide +kernel
theorem dX8_mayGo_10 : decode cX8_mayGo 10 = .ok (.iconst 1, 1) := by decide +kernel
theorem dX8_mayGo_11 : decode cX8_mayGo 11 = .ok (.iaload, 1) := by decide +kernel
theorem dX8_mayGo_12 : decode cX8_mayGo 12 = .ok (.invokestatic 203, 3) := by decide +kernel
theorem dX8_mayGo_15 : decode cX8_mayGo 15 = .ok (.if_icmp .gt 7, 3) := by decide +kernel
theorem dX8_mayGo_18 : decode cX8_mayGo 18 = .ok (.iconst 1, 1) := by decide +kernel
theorem dX8_mayGo_19 : decode cX8_mayGo 19 = .ok (.goto 4, 3) := by decide +kernel
theorem dX8_mayGo_22 : decode cX8_mayGo 22 = .ok (.iconst 0, 1) := by decide +kernel
theorem dX8_mayGo_23 : decode cX8_mayGo 23 = .ok (.istore_n 1, 1) := by decide +kernel
theorem dX8_mayGo_24 : decode cX8_mayGo 24 = .ok (.iconst 0, 1) := by decide +kernel
theorem dX8_mayGo_25 : decode cX8_mayGo 25 = .ok (.istore_n 2, 1) := by decide +kernel
theorem dX8_mayGo_26 : decode cX8_mayGo 26 = .ok (.iconst 1, 1) := by decide +kernel
theorem dX8_mayGo_27 : decode cX8_mayGo 27 = .ok (.istore_n 3, 1) := by decide +kernel
theorem dX8_mayGo_28 : decode cX8_mayGo 28 = .ok (.iconst 0, 1) := by decide +kernel
theorem dX8_mayGo_29 : decode cX8_mayGo 29 = .ok (.istore 4, 2) := by decide +kernel
theorem dX8_mayGo_31 : decode cX8_mayGo 31 = .ok (.iload 4, 2) := by decide +kernel
theorem dX8_mayGo_33 : decode cX8_mayGo 33 = .ok (.aload_n 0, 1) := by decide +kernel
theorem dX8_mayGo_34 : decode cX8_mayGo 34 = .ok (.getfield 22, 3) := by decide +kernel
theorem dX8_mayGo_37 : decode cX8_mayGo 37 = .ok (.iconst 1, 1) := by decide +kernel
theorem dX8_mayGo_38 : decode cX8_mayGo 38 = .ok (.iaload, 1) := by decide +kernel
theorem dX8_mayGo_39 : decode cX8_mayGo 39 = .ok (.if_icmp .ge 64, 3) := by decide +kernel
theorem dX8_mayGo_42 : decode cX8_mayGo 42 = .ok (.iload_n 3, 1) := by decide +kernel
theorem dX8_mayGo_43 : decode cX8_mayGo 43 = .ok (.ifCond .eq 40, 3) := by decide +kernel
theorem dX8_mayGo_46 : decode cX8_mayGo 46 = .ok (.aload_n 0, 1) := by decide +kernel
theorem dX8_mayGo_47 : decode cX8_mayGo 47 = .ok (.aload_n 0, 1) := by decide +kernel
theorem dX8_mayGo_48 : decode cX8_mayGo 48 = .ok (.getfield 44, 3) := by decide +kernel
theorem dX8_mayGo_51 : decode cX8_mayGo 51 = .ok (.iload 4, 2) := by decide +kernel
theorem dX8_mayGo_53 : decode cX8_mayGo 53 = .ok (.iaload, 1) := by decide +kernel
theorem dX8_mayGo_54 : decode cX8_mayGo 54 = .ok (.invokevirtual 146, 3) := by decide +kernel
theorem dX8_mayGo_57 : decode cX8_mayGo 57 = .ok (.ifCond .eq 26, 3) := by decide +kernel
theorem dX8_mayGo_60 : decode cX8_mayGo 60 = .ok (.iload_n 1, 1) := by decide +kernel
theorem dX8_mayGo_61 : decode cX8_mayGo 61 = .ok (.ifCond .eq 18, 3) := by decide +kernel
theorem dX8_mayGo_64 : decode cX8_mayGo 64 = .ok (.iload_n 2, 1) := by decide +kernel
theorem dX8_mayGo_65 : decode cX8_mayGo 65 = .ok (.aload_n 0, 1) := by decide +kernel
theorem dX8_mayGo_66 : decode cX8_mayGo 66 = .ok (.getfield 44, 3) := by decide +kernel
theorem dX8_mayGo_69 : decode cX8_mayGo 69 = .ok (.iload 4, 2) := by decide +kernel
theorem dX8_mayGo_71 : decode cX8_mayGo 71 = .ok (.iaload, 1) := by decide +kernel
theorem dX8_mayGo_72 : decode cX8_mayGo 72 = .ok (.ishr, 1) := by decide +kernel
theorem dX8_mayGo_73 : decode cX8_mayGo 73 = .ok (.iconst 1, 1) := by decide +kernel
theorem dX8_mayGo_74 : decode cX8_mayGo 74 = .ok (.iand, 1) := by decide +kernel
theorem dX8_mayGo_75 : decode cX8_mayGo 75 = .ok (.iconst 1, 1) := by decide +kernel
theorem dX8_mayGo_76 : decode cX8_mayGo 76 = .ok (.if_icmp .eq 7, 3) := by decide +kernel
theorem dX8_mayGo_79 : decode cX8_mayGo 79 = .ok (.iconst 1, 1) := by decide +kernel
theorem dX8_mayGo_80 : decode cX8_mayGo 80 = .ok (.goto 4, 3) := by decide +kernel
theorem dX8_mayGo_83 : decode cX8_mayGo 83 = .ok (.iconst 0, 1) := by decide +kernel
theorem dX8_mayGo_84 : decode cX8_mayGo 84 = .ok (.istore_n 3, 1) := by decide +kernel
theorem dX8_mayGo_85 : decode cX8_mayGo 85 = .ok (.iload_n 2, 1) := by decide +kernel
theorem dX8_mayGo_86 : decode cX8_mayGo 86 = .ok (.iconst 1, 1) := by decide +kernel
theorem dX8_mayGo_87 : decode cX8_mayGo 87 = .ok (.aload_n 0, 1) := by decide +kernel
theorem dX8_mayGo_88 : decode cX8_mayGo 88 = .ok (.getfield 44, 3) := by decide +kernel
theorem dX8_mayGo_91 : decode cX8_mayGo 91 = .ok (.iload 4, 2) := by decide +kernel
theorem dX8_mayGo_93 : decode cX8_mayGo 93 = .ok (.iaload, 1) := by decide +kernel
theorem dX8_mayGo_94 : decode cX8_mayGo 94 = .ok (.ishl, 1) := by decide +kernel
theorem dX8_mayGo_95 : decode cX8_mayGo 95 = .ok (.ior, 1) := by decide +kernel
theorem dX8_mayGo_96 : decode cX8_mayGo 96 = .ok (.istore_n 2, 1) := by decide +kernel
theorem dX8_mayGo_97 : decode cX8_mayGo 97 = .ok (.iinc 4 1, 3) := by decide +kernel
theorem dX8_mayGo_100 : decode cX8_mayGo 100 = .ok (.goto (-69), 3) := by decide +kernel
theorem dX8_mayGo_103 : decode cX8_mayGo 103 = .ok (.iload_n 3, 1) := by decide +kernel
theorem dX8_mayGo_104 : decode cX8_mayGo 104 = .ok (.ireturn, 1) := by decide +kernel
theorem dX8_findsBest_0 : decode cX8_findsBest 0 = .ok (.ldc2_w 206, 3) := by decide +kernel
theorem dX8_findsBest_3 : decode cX8_findsBest 3 = .ok (.lstore_n 1, 1) := by decide +kernel
theorem dX8_findsBest_4 : decode cX8_findsBest 4 = .ok (.iconst 0, 1) := by decide +kernel
theorem dX8_findsBest_5 : decode cX8_findsBest 5 = .ok (.istore_n 3, 1) := by decide +kernel
theorem dX8_findsBest_6 : decode cX8_findsBest 6 = .ok (.iload_n 3, 1) := by decide +kernel
theorem dX8_findsBest_7 : decode cX8_findsBest 7 = .ok (.aload_n 0, 1) := by decide +kernel
theorem dX8_findsBest_8 : decode cX8_findsBest 8 = .ok (.getfield 22, 3) := by decide +kernel
theorem dX8_findsBest_11 : decode cX8_findsBest 11 = .ok (.iconst 0, 1) := by decide +kernel
theorem dX8_findsBest_12 : decode cX8_findsBest 12 = .ok (.iaload, 1) := by decide +kernel
theorem dX8_findsBest_13 : decode cX8_findsBest 13 = .ok (.aload_n 0, 1) := by decide +kernel
theorem dX8_findsBest_14 : decode cX8_findsBest 14 = .ok (.getfield 22, 3) := by decide +kernel
theorem dX8_findsBest_17 : decode cX8_findsBest 17 = .ok (.iconst 1, 1) := by decide +kernel
theorem dX8_findsBest_18 : decode cX8_findsBest 18 = .ok (.iaload, 1) := by decide +kernel
theorem dX8_findsBest_19 : decode cX8_findsBest 19 = .ok (.invokestatic 208, 3) := by decide +kernel
theorem dX8_findsBest_22 : decode cX8_findsBest 22 = .ok (.if_icmp .ge 110, 3) := by decide +kernel
theorem dX8_findsBest_25 : decode cX8_findsBest 25 = .ok (.aload_n 0, 1) := by decide +kernel
theorem dX8_findsBest_26 : decode cX8_findsBest 26 = .ok (.iload_n 3, 1) := by decide +kernel
theorem dX8_findsBest_27 : decode cX8_findsBest 27 = .ok (.invokevirtual 211, 3) := by decide +kernel
theorem dX8_findsBest_30 : decode cX8_findsBest 30 = .ok (.aload_n 0, 1) := by decide +kernel
theorem dX8_findsBest_31 : decode cX8_findsBest 31 = .ok (.invokevirtual 214, 3) := by decide +kernel
theorem dX8_findsBest_34 : decode cX8_findsBest 34 = .ok (.ifCond .eq 92, 3) := by decide +kernel
theorem dX8_findsBest_37 : decode cX8_findsBest 37 = .ok (.lconst 1, 1) := by decide +kernel
theorem dX8_findsBest_38 : decode cX8_findsBest 38 = .ok (.lstore 4, 2) := by decide +kernel
theorem dX8_findsBest_40 : decode cX8_findsBest 40 = .ok (.iconst 0, 1) := by decide +kernel
theorem dX8_findsBest_41 : decode cX8_findsBest 41 = .ok (.istore 6, 2) := by decide +kernel
theorem dX8_findsBest_43 : decode cX8_findsBest 43 = .ok (.iload 6, 2) := by decide +kernel
theorem dX8_findsBest_45 : decode cX8_findsBest 45 = .ok (.aload_n 0, 1) := by decide +kernel
theorem dX8_findsBest_46 : decode cX8_findsBest 46 = .ok (.getfield 22, 3) := by decide +kernel
theorem dX8_findsBest_49 : decode cX8_findsBest 49 = .ok (.iconst 1, 1) := by decide +kernel
theorem dX8_findsBest_50 : decode cX8_findsBest 50 = .ok (.iaload, 1) := by decide +kernel
theorem dX8_findsBest_51 : decode cX8_findsBest 51 = .ok (.if_icmp .ge 31, 3) := by decide +kernel
theorem dX8_findsBest_54 : decode cX8_findsBest 54 = .ok (.lload 4, 2) := by decide +kernel
theorem dX8_findsBest_56 : decode cX8_findsBest 56 = .ok (.bipush 10, 2) := by decide +kernel
theorem dX8_findsBest_58 : decode cX8_findsBest 58 = .ok (.aload_n 0, 1) := by decide +kernel
theorem dX8_findsBest_59 : decode cX8_findsBest 59 = .ok (.iload 6, 2) := by decide +kernel
theorem dX8_findsBest_61 : decode cX8_findsBest 61 = .ok (.aload_n 0, 1) := by decide +kernel
theorem dX8_findsBest_62 : decode cX8_findsBest 62 = .ok (.getfield 44, 3) := by decide +kernel
theorem dX8_findsBest_65 : decode cX8_findsBest 65 = .ok (.iload 6, 2) := by decide +kernel
theorem dX8_findsBest_67 : decode cX8_findsBest 67 = .ok (.iaload, 1) := by decide +kernel
theorem dX8_findsBest_68 : decode cX8_findsBest 68 = .ok (.invokevirtual 159, 3) := by decide +kernel
theorem dX8_findsBest_71 : decode cX8_findsBest 71 = .ok (.isub, 1) := by decide +kernel
theorem dX8_findsBest_72 : decode cX8_findsBest 72 = .ok (.i2l, 1) := by decide +kernel
theorem dX8_findsBest_73 : decode cX8_findsBest 73 = .ok (.lmul, 1) := by decide +kernel
theorem dX8_findsBest_74 : decode cX8_findsBest 74 = .ok (.lstore 4, 2) := by decide +kernel
theorem dX8_findsBest_76 : decode cX8_findsBest 76 = .ok (.iinc 6 1, 3) := by decide +kernel
theorem dX8_findsBest_79 : decode cX8_findsBest 79 = .ok (.goto (-36), 3) := by decide +kernel
theorem dX8_findsBest_82 : decode cX8_findsBest 82 = .ok (.lload 4, 2) := by decide +kernel
theorem dX8_findsBest_84 : decode cX8_findsBest 84 = .ok (.lload_n 1, 1) := by decide +kernel
theorem dX8_findsBest_85 : decode cX8_findsBest 85 = .ok (.lcmp, 1) := by decide +kernel
theorem dX8_findsBest_86 : decode cX8_findsBest 86 = .ok (.ifCond .le 40, 3) := by decide +kernel
theorem dX8_findsBest_89 : decode cX8_findsBest 89 = .ok (.lload 4, 2) := by decide +kernel
theorem dX8_findsBest_91 : decode cX8_findsBest 91 = .ok (.lstore_n 1, 1) := by decide +kernel
theorem dX8_findsBest_92 : decode cX8_findsBest 92 = .ok (.iconst 0, 1) := by decide +kernel
theorem dX8_findsBest_93 : decode cX8_findsBest 93 = .ok (.istore 6, 2) := by decide +kernel
theorem dX8_findsBest_95 : decode cX8_findsBest 95 = .ok (.iload 6, 2) := by decide +kernel
theorem dX8_findsBest_97 : decode cX8_findsBest 97 = .ok (.aload_n 0, 1) := by decide +kernel
theorem dX8_findsBest_98 : decode cX8_findsBest 98 = .ok (.getfield 22, 3) := by decide +kernel
theorem dX8_findsBest_101 : decode cX8_findsBest 101 = .ok (.iconst 1, 1) := by decide +kernel
theorem dX8_findsBest_102 : decode cX8_findsBest 102 = .ok (.iaload, 1) := by decide +kernel
theorem dX8_findsBest_103 : decode cX8_findsBest 103 = .ok (.if_icmp .ge 23, 3) := by decide +kernel
theorem dX8_findsBest_106 : decode cX8_findsBest 106 = .ok (.aload_n 0, 1) := by decide +kernel
theorem dX8_findsBest_107 : decode cX8_findsBest 107 = .ok (.getfield 47, 3) := by decide +kernel
theorem dX8_findsBest_110 : decode cX8_findsBest 110 = .ok (.iload 6, 2) := by decide +kernel
theorem dX8_findsBest_112 : decode cX8_findsBest 112 = .ok (.aload_n 0, 1) := by decide +kernel
theorem dX8_findsBest_113 : decode cX8_findsBest 113 = .ok (.getfield 44, 3) := by decide +kernel
theorem dX8_findsBest_116 : decode cX8_findsBest 116 = .ok (.iload 6, 2) := by decide +kernel
theorem dX8_findsBest_118 : decode cX8_findsBest 118 = .ok (.iaload, 1) := by decide +kernel
theorem dX8_findsBest_119 : decode cX8_findsBest 119 = .ok (.iastore, 1) := by decide +kernel
theorem dX8_findsBest_120 : decode cX8_findsBest 120 = .ok (.iinc 6 1, 3) := by decide +kernel
theorem dX8_findsBest_123 : decode cX8_findsBest 123 = .ok (.goto (-28), 3) := by decide +kernel
theorem dX8_findsBest_126 : decode cX8_findsBest 126 = .ok (.iinc 3 1, 3) := by decide +kernel
theorem dX8_findsBest_129 : decode cX8_findsBest 129 = .ok (.goto (-123), 3) := by decide +kernel
theorem dX8_findsBest_132 : decode cX8_findsBest 132 = .ok (.lload_n 1, 1) := by decide +kernel
theorem dX8_findsBest_133 : decode cX8_findsBest 133 = .ok (.lreturn, 1) := by decide +kernel
theorem dX8_best_0 : decode cX8_best 0 = .ok (.aload_n 0, 1) := by decide +kernel
theorem dX8_best_1 : decode cX8_best 1 = .ok (.iconst 0, 1) := by decide +kernel
theorem dX8_best_2 : decode cX8_best 2 = .ok (.putfield 50, 3) := by decide +kernel
theorem dX8_best_5 : decode cX8_best 5 = .ok (.iload_n 1, 1) := by decide +kernel
theorem dX8_best_6 : decode cX8_best 6 = .ok (.invokestatic 188, 3) := by decide +kernel
theorem dX8_best_9 : decode cX8_best 9 = .ok (.ifCond .ne 6, 3) := by decide +kernel
theorem dX8_best_12 : decode cX8_best 12 = .ok (.bipush (-3), 2) := by decide +kernel
theorem dX8_best_14 : decode cX8_best 14 = .ok (.ireturn, 1) := by decide +kernel
theorem dX8_best_15 : decode cX8_best 15 = .ok (.aload_n 0, 1) := by decide +kernel
theorem dX8_best_16 : decode cX8_best 16 = .ok (.getfield 22, 3) := by decide +kernel
theorem dX8_best_19 : decode cX8_best 19 = .ok (.iconst 1, 1) := by decide +kernel
theorem dX8_best_20 : decode cX8_best 20 = .ok (.iaload, 1) := by decide +kernel
theorem dX8_best_21 : decode cX8_best 21 = .ok (.ifCond .ne 5, 3) := by decide +kernel
theorem dX8_best_24 : decode cX8_best 24 = .ok (.iconst 1, 1) := by decide +kernel
theorem dX8_best_25 : decode cX8_best 25 = .ok (.ireturn, 1) := by decide +kernel
theorem dX8_best_26 : decode cX8_best 26 = .ok (.aload_n 0, 1) := by decide +kernel
theorem dX8_best_27 : decode cX8_best 27 = .ok (.invokevirtual 217, 3) := by decide +kernel
theorem dX8_best_30 : decode cX8_best 30 = .ok (.lstore_n 2, 1) := by decide +kernel
theorem dX8_best_31 : decode cX8_best 31 = .ok (.lload_n 2, 1) := by decide +kernel
theorem dX8_best_32 : decode cX8_best 32 = .ok (.lconst 0, 1) := by decide +kernel
theorem dX8_best_33 : decode cX8_best 33 = .ok (.lcmp, 1) := by decide +kernel
theorem dX8_best_34 : decode cX8_best 34 = .ok (.ifCond .ge 8, 3) := by decide +kernel
theorem dX8_best_37 : decode cX8_best 37 = .ok (.bipush (-4), 2) := by decide +kernel
theorem dX8_best_39 : decode cX8_best 39 = .ok (.goto 21, 3) := by decide +kernel
theorem dX8_best_42 : decode cX8_best 42 = .ok (.lload_n 2, 1) := by decide +kernel
theorem dX8_best_43 : decode cX8_best 43 = .ok (.ldc2_w 175, 3) := by decide +kernel
theorem dX8_best_46 : decode cX8_best 46 = .ok (.aload_n 0, 1) := by decide +kernel
theorem dX8_best_47 : decode cX8_best 47 = .ok (.getfield 22, 3) := by decide +kernel
theorem dX8_best_50 : decode cX8_best 50 = .ok (.iconst 1, 1) := by decide +kernel
theorem dX8_best_51 : decode cX8_best 51 = .ok (.iaload, 1) := by decide +kernel
theorem dX8_best_52 : decode cX8_best 52 = .ok (.invokestatic 195, 3) := by decide +kernel
theorem dX8_best_55 : decode cX8_best 55 = .ok (.iload_n 1, 1) := by decide +kernel
theorem dX8_best_56 : decode cX8_best 56 = .ok (.invokestatic 199, 3) := by decide +kernel
theorem dX8_best_59 : decode cX8_best 59 = .ok (.l2i, 1) := by decide +kernel
theorem dX8_best_60 : decode cX8_best 60 = .ok (.ireturn, 1) := by decide +kernel
theorem dX8_bestOf_0 : decode cX8_bestOf 0 = .ok (.aload_n 0, 1) := by decide +kernel
theorem dX8_bestOf_1 : decode cX8_bestOf 1 = .ok (.iconst 0, 1) := by decide +kernel
theorem dX8_bestOf_2 : decode cX8_bestOf 2 = .ok (.putfield 50, 3) := by decide +kernel
theorem dX8_bestOf_5 : decode cX8_bestOf 5 = .ok (.aload_n 0, 1) := by decide +kernel
theorem dX8_bestOf_6 : decode cX8_bestOf 6 = .ok (.iload_n 1, 1) := by decide +kernel
theorem dX8_bestOf_7 : decode cX8_bestOf 7 = .ok (.invokevirtual 152, 3) := by decide +kernel
theorem dX8_bestOf_10 : decode cX8_bestOf 10 = .ok (.ifCond .ne 6, 3) := by decide +kernel
theorem dX8_bestOf_13 : decode cX8_bestOf 13 = .ok (.bipush (-2), 2) := by decide +kernel
theorem dX8_bestOf_15 : decode cX8_bestOf 15 = .ok (.ireturn, 1) := by decide +kernel
theorem dX8_bestOf_16 : decode cX8_bestOf 16 = .ok (.aload_n 0, 1) := by decide +kernel
theorem dX8_bestOf_17 : decode cX8_bestOf 17 = .ok (.invokevirtual 217, 3) := by decide +kernel
theorem dX8_bestOf_20 : decode cX8_bestOf 20 = .ok (.lconst 0, 1) := by decide +kernel
theorem dX8_bestOf_21 : decode cX8_bestOf 21 = .ok (.lcmp, 1) := by decide +kernel
theorem dX8_bestOf_22 : decode cX8_bestOf 22 = .ok (.ifCond .ge 7, 3) := by decide +kernel
theorem dX8_bestOf_25 : decode cX8_bestOf 25 = .ok (.iconst (-1), 1) := by decide +kernel
theorem dX8_bestOf_26 : decode cX8_bestOf 26 = .ok (.goto 9, 3) := by decide +kernel
theorem dX8_bestOf_29 : decode cX8_bestOf 29 = .ok (.aload_n 0, 1) := by decide +kernel
theorem dX8_bestOf_30 : decode cX8_bestOf 30 = .ok (.getfield 47, 3) := by decide +kernel
theorem dX8_bestOf_33 : decode cX8_bestOf 33 = .ok (.iload_n 1, 1) := by decide +kernel
theorem dX8_bestOf_34 : decode cX8_bestOf 34 = .ok (.iaload, 1) := by decide +kernel
theorem dX8_bestOf_35 : decode cX8_bestOf 35 = .ok (.ireturn, 1) := by decide +kernel
theorem dX8_tickets_0 : decode cX8_tickets 0 = .ok (.iconst 0, 1) := by decide +kernel
theorem dX8_tickets_1 : decode cX8_tickets 1 = .ok (.istore_n 1, 1) := by decide +kernel
theorem dX8_tickets_2 : decode cX8_tickets 2 = .ok (.iconst 0, 1) := by decide +kernel
theorem dX8_tickets_3 : decode cX8_tickets 3 = .ok (.istore_n 2, 1) := by decide +kernel
theorem dX8_tickets_4 : decode cX8_tickets 4 = .ok (.iload_n 2, 1) := by decide +kernel
theorem dX8_tickets_5 : decode cX8_tickets 5 = .ok (.aload_n 0, 1) := by decide +kernel
theorem dX8_tickets_6 : decode cX8_tickets 6 = .ok (.getfield 22, 3) := by decide +kernel
theorem dX8_tickets_9 : decode cX8_tickets 9 = .ok (.iconst 0, 1) := by decide +kernel
theorem dX8_tickets_10 : decode cX8_tickets 10 = .ok (.iaload, 1) := by decide +kernel
theorem dX8_tickets_11 : decode cX8_tickets 11 = .ok (.if_icmp .ge 34, 3) := by decide +kernel
theorem dX8_tickets_14 : decode cX8_tickets 14 = .ok (.iload_n 1, 1) := by decide +kernel
theorem dX8_tickets_15 : decode cX8_tickets 15 = .ok (.aload_n 0, 1) := by decide +kernel
theorem dX8_tickets_16 : decode cX8_tickets 16 = .ok (.iload_n 2, 1) := by decide +kernel
theorem dX8_tickets_17 : decode cX8_tickets 17 = .ok (.invokevirtual 146, 3) := by decide +kernel
theorem dX8_tickets_20 : decode cX8_tickets 20 = .ok (.ifCond .eq 16, 3) := by decide +kernel
theorem dX8_tickets_23 : decode cX8_tickets 23 = .ok (.aload_n 0, 1) := by decide +kernel
theorem dX8_tickets_24 : decode cX8_tickets 24 = .ok (.getfield 13, 3) := by decide +kernel
theorem dX8_tickets_27 : decode cX8_tickets 27 = .ok (.iconst 4, 1) := by decide +kernel
theorem dX8_tickets_28 : decode cX8_tickets 28 = .ok (.iload_n 2, 1) := by decide +kernel
theorem dX8_tickets_29 : decode cX8_tickets 29 = .ok (.imul, 1) := by decide +kernel
theorem dX8_tickets_30 : decode cX8_tickets 30 = .ok (.iconst 3, 1) := by decide +kernel
theorem dX8_tickets_31 : decode cX8_tickets 31 = .ok (.iadd, 1) := by decide +kernel
theorem dX8_tickets_32 : decode cX8_tickets 32 = .ok (.iaload, 1) := by decide +kernel
theorem dX8_tickets_33 : decode cX8_tickets 33 = .ok (.goto 4, 3) := by decide +kernel
theorem dX8_tickets_36 : decode cX8_tickets 36 = .ok (.iconst 0, 1) := by decide +kernel
theorem dX8_tickets_37 : decode cX8_tickets 37 = .ok (.iadd, 1) := by decide +kernel
theorem dX8_tickets_38 : decode cX8_tickets 38 = .ok (.istore_n 1, 1) := by decide +kernel
theorem dX8_tickets_39 : decode cX8_tickets 39 = .ok (.iinc 2 1, 3) := by decide +kernel
theorem dX8_tickets_42 : decode cX8_tickets 42 = .ok (.goto (-38), 3) := by decide +kernel
theorem dX8_tickets_45 : decode cX8_tickets 45 = .ok (.iload_n 1, 1) := by decide +kernel
theorem dX8_tickets_46 : decode cX8_tickets 46 = .ok (.ireturn, 1) := by decide +kernel
theorem dX8_drawn_0 : decode cX8_drawn 0 = .ok (.aload_n 0, 1) := by decide +kernel
theorem dX8_drawn_1 : decode cX8_drawn 1 = .ok (.iconst 0, 1) := by decide +kernel
theorem dX8_drawn_2 : decode cX8_drawn 2 = .ok (.putfield 50, 3) := by decide +kernel
theorem dX8_drawn_5 : decode cX8_drawn 5 = .ok (.aload_n 0, 1) := by decide +kernel
theorem dX8_drawn_6 : decode cX8_drawn 6 = .ok (.iload_n 1, 1) := by decide +kernel
theorem dX8_drawn_7 : decode cX8_drawn 7 = .ok (.invokevirtual 143, 3) := by decide +kernel
theorem dX8_drawn_10 : decode cX8_drawn 10 = .ok (.ifCond .ne 6, 3) := by decide +kernel
theorem dX8_drawn_13 : decode cX8_drawn 13 = .ok (.bipush (-2), 2) := by decide +kernel
theorem dX8_drawn_15 : decode cX8_drawn 15 = .ok (.ireturn, 1) := by decide +kernel
theorem dX8_drawn_16 : decode cX8_drawn 16 = .ok (.iload_n 2, 1) := by decide +kernel
theorem dX8_drawn_17 : decode cX8_drawn 17 = .ok (.invokestatic 188, 3) := by decide +kernel
theorem dX8_drawn_20 : decode cX8_drawn 20 = .ok (.ifCond .ne 6, 3) := by decide +kernel
theorem dX8_drawn_23 : decode cX8_drawn 23 = .ok (.bipush (-3), 2) := by decide +kernel
theorem dX8_drawn_25 : decode cX8_drawn 25 = .ok (.ireturn, 1) := by decide +kernel
theorem dX8_drawn_26 : decode cX8_drawn 26 = .ok (.aload_n 0, 1) := by decide +kernel
theorem dX8_drawn_27 : decode cX8_drawn 27 = .ok (.invokevirtual 221, 3) := by decide +kernel
theorem dX8_drawn_30 : decode cX8_drawn 30 = .ok (.ifCond .ne 8, 3) := by decide +kernel
theorem dX8_drawn_33 : decode cX8_drawn 33 = .ok (.bipush (-4), 2) := by decide +kernel
theorem dX8_drawn_35 : decode cX8_drawn 35 = .ok (.goto 36, 3) := by decide +kernel
theorem dX8_drawn_38 : decode cX8_drawn 38 = .ok (.aload_n 0, 1) := by decide +kernel
theorem dX8_drawn_39 : decode cX8_drawn 39 = .ok (.iload_n 1, 1) := by decide +kernel
theorem dX8_drawn_40 : decode cX8_drawn 40 = .ok (.invokevirtual 146, 3) := by decide +kernel
theorem dX8_drawn_43 : decode cX8_drawn 43 = .ok (.ifCond .eq 17, 3) := by decide +kernel
theorem dX8_drawn_46 : decode cX8_drawn 46 = .ok (.aload_n 0, 1) := by decide +kernel
theorem dX8_drawn_47 : decode cX8_drawn 47 = .ok (.getfield 13, 3) := by decide +kernel
theorem dX8_drawn_50 : decode cX8_drawn 50 = .ok (.iconst 4, 1) := by decide +kernel
theorem dX8_drawn_51 : decode cX8_drawn 51 = .ok (.iload_n 1, 1) := by decide +kernel
theorem dX8_drawn_52 : decode cX8_drawn 52 = .ok (.imul, 1) := by decide +kernel
theorem dX8_drawn_53 : decode cX8_drawn 53 = .ok (.iconst 3, 1) := by decide +kernel
theorem dX8_drawn_54 : decode cX8_drawn 54 = .ok (.iadd, 1) := by decide +kernel
theorem dX8_drawn_55 : decode cX8_drawn 55 = .ok (.iaload, 1) := by decide +kernel
theorem dX8_drawn_56 : decode cX8_drawn 56 = .ok (.i2l, 1) := by decide +kernel
theorem dX8_drawn_57 : decode cX8_drawn 57 = .ok (.goto 4, 3) := by decide +kernel
theorem dX8_drawn_60 : decode cX8_drawn 60 = .ok (.lconst 0, 1) := by decide +kernel
theorem dX8_drawn_61 : decode cX8_drawn 61 = .ok (.aload_n 0, 1) := by decide +kernel
theorem dX8_drawn_62 : decode cX8_drawn 62 = .ok (.invokevirtual 221, 3) := by decide +kernel
theorem dX8_drawn_65 : decode cX8_drawn 65 = .ok (.i2l, 1) := by decide +kernel
theorem dX8_drawn_66 : decode cX8_drawn 66 = .ok (.iload_n 2, 1) := by decide +kernel
theorem dX8_drawn_67 : decode cX8_drawn 67 = .ok (.invokestatic 199, 3) := by decide +kernel
theorem dX8_drawn_70 : decode cX8_drawn 70 = .ok (.l2i, 1) := by decide +kernel
theorem dX8_drawn_71 : decode cX8_drawn 71 = .ok (.ireturn, 1) := by decide +kernel
theorem dX8_caughtAlone_0 : decode cX8_caughtAlone 0 = .ok (.lconst 1, 1) := by decide +kernel
theorem dX8_caughtAlone_1 : decode cX8_caughtAlone 1 = .ok (.lstore_n 2, 1) := by decide +kernel
theorem dX8_caughtAlone_2 : decode cX8_caughtAlone 2 = .ok (.iconst 0, 1) := by decide +kernel
theorem dX8_caughtAlone_3 : decode cX8_caughtAlone 3 = .ok (.istore 4, 2) := by decide +kernel
theorem dX8_caughtAlone_5 : decode cX8_caughtAlone 5 = .ok (.iload 4, 2) := by decide +kernel
theorem dX8_caughtAlone_7 : decode cX8_caughtAlone 7 = .ok (.aload_n 0, 1) := by decide +kernel
theorem dX8_caughtAlone_8 : decode cX8_caughtAlone 8 = .ok (.getfield 22, 3) := by decide +kernel
theorem dX8_caughtAlone_11 : decode cX8_caughtAlone 11 = .ok (.iconst 1, 1) := by decide +kernel
theorem dX8_caughtAlone_12 : decode cX8_caughtAlone 12 = .ok (.iaload, 1) := by decide +kernel
theorem dX8_caughtAlone_13 : decode cX8_caughtAlone 13 = .ok (.if_icmp .ge 23, 3) := by decide +kernel
theorem dX8_caughtAlone_16 : decode cX8_caughtAlone 16 = .ok (.lload_n 2, 1) := by decide +kernel
theorem dX8_caughtAlone_17 : decode cX8_caughtAlone 17 = .ok (.bipush 10, 2) := by decide +kernel
theorem dX8_caughtAlone_19 : decode cX8_caughtAlone 19 = .ok (.aload_n 0, 1) := by decide +kernel
theorem dX8_caughtAlone_20 : decode cX8_caughtAlone 20 = .ok (.iload 4, 2) := by decide +kernel
theorem dX8_caughtAlone_22 : decode cX8_caughtAlone 22 = .ok (.iload_n 1, 1) := by decide +kernel
theorem dX8_caughtAlone_23 : decode cX8_caughtAlone 23 = .ok (.invokevirtual 159, 3) := by decide +kernel
theorem dX8_caughtAlone_26 : decode cX8_caughtAlone 26 = .ok (.isub, 1) := by decide +kernel
theorem dX8_caughtAlone_27 : decode cX8_caughtAlone 27 = .ok (.i2l, 1) := by decide +kernel
theorem dX8_caughtAlone_28 : decode cX8_caughtAlone 28 = .ok (.lmul, 1) := by decide +kernel
theorem dX8_caughtAlone_29 : decode cX8_caughtAlone 29 = .ok (.lstore_n 2, 1) := by decide +kernel
theorem dX8_caughtAlone_30 : decode cX8_caughtAlone 30 = .ok (.iinc 4 1, 3) := by decide +kernel
theorem dX8_caughtAlone_33 : decode cX8_caughtAlone 33 = .ok (.goto (-28), 3) := by decide +kernel
theorem dX8_caughtAlone_36 : decode cX8_caughtAlone 36 = .ok (.ldc2_w 175, 3) := by decide +kernel
theorem dX8_caughtAlone_39 : decode cX8_caughtAlone 39 = .ok (.aload_n 0, 1) := by decide +kernel
theorem dX8_caughtAlone_40 : decode cX8_caughtAlone 40 = .ok (.getfield 22, 3) := by decide +kernel
theorem dX8_caughtAlone_43 : decode cX8_caughtAlone 43 = .ok (.iconst 1, 1) := by decide +kernel
theorem dX8_caughtAlone_44 : decode cX8_caughtAlone 44 = .ok (.iaload, 1) := by decide +kernel
theorem dX8_caughtAlone_45 : decode cX8_caughtAlone 45 = .ok (.invokestatic 195, 3) := by decide +kernel
theorem dX8_caughtAlone_48 : decode cX8_caughtAlone 48 = .ok (.lload_n 2, 1) := by decide +kernel
theorem dX8_caughtAlone_49 : decode cX8_caughtAlone 49 = .ok (.lsub, 1) := by decide +kernel
theorem dX8_caughtAlone_50 : decode cX8_caughtAlone 50 = .ok (.lreturn, 1) := by decide +kernel
theorem dX8_alone_0 : decode cX8_alone 0 = .ok (.aload_n 0, 1) := by decide +kernel
theorem dX8_alone_1 : decode cX8_alone 1 = .ok (.iconst 0, 1) := by decide +kernel
theorem dX8_alone_2 : decode cX8_alone 2 = .ok (.putfield 50, 3) := by decide +kernel
theorem dX8_alone_5 : decode cX8_alone 5 = .ok (.aload_n 0, 1) := by decide +kernel
theorem dX8_alone_6 : decode cX8_alone 6 = .ok (.iload_n 1, 1) := by decide +kernel
theorem dX8_alone_7 : decode cX8_alone 7 = .ok (.invokevirtual 143, 3) := by decide +kernel
theorem dX8_alone_10 : decode cX8_alone 10 = .ok (.ifCond .ne 6, 3) := by decide +kernel
theorem dX8_alone_13 : decode cX8_alone 13 = .ok (.bipush (-2), 2) := by decide +kernel
theorem dX8_alone_15 : decode cX8_alone 15 = .ok (.ireturn, 1) := by decide +kernel
theorem dX8_alone_16 : decode cX8_alone 16 = .ok (.iload_n 2, 1) := by decide +kernel
theorem dX8_alone_17 : decode cX8_alone 17 = .ok (.invokestatic 188, 3) := by decide +kernel
theorem dX8_alone_20 : decode cX8_alone 20 = .ok (.ifCond .eq 28, 3) := by decide +kernel
theorem dX8_alone_23 : decode cX8_alone 23 = .ok (.aload_n 0, 1) := by decide +kernel
theorem dX8_alone_24 : decode cX8_alone 24 = .ok (.iload_n 1, 1) := by decide +kernel
theorem dX8_alone_25 : decode cX8_alone 25 = .ok (.invokevirtual 224, 3) := by decide +kernel
theorem dX8_alone_28 : decode cX8_alone 28 = .ok (.ldc2_w 175, 3) := by decide +kernel
theorem dX8_alone_31 : decode cX8_alone 31 = .ok (.aload_n 0, 1) := by decide +kernel
theorem dX8_alone_32 : decode cX8_alone 32 = .ok (.getfield 22, 3) := by decide +kernel
theorem dX8_alone_35 : decode cX8_alone 35 = .ok (.iconst 1, 1) := by decide +kernel
theorem dX8_alone_36 : decode cX8_alone 36 = .ok (.iaload, 1) := by decide +kernel
theorem dX8_alone_37 : decode cX8_alone 37 = .ok (.invokestatic 195, 3) := by decide +kernel
theorem dX8_alone_40 : decode cX8_alone 40 = .ok (.iload_n 2, 1) := by decide +kernel
theorem dX8_alone_41 : decode cX8_alone 41 = .ok (.invokestatic 199, 3) := by decide +kernel
theorem dX8_alone_44 : decode cX8_alone 44 = .ok (.l2i, 1) := by decide +kernel
theorem dX8_alone_45 : decode cX8_alone 45 = .ok (.goto 5, 3) := by decide +kernel
theorem dX8_alone_48 : decode cX8_alone 48 = .ok (.bipush (-3), 2) := by decide +kernel
theorem dX8_alone_50 : decode cX8_alone 50 = .ok (.ireturn, 1) := by decide +kernel
theorem dX8_dreadOf_0 : decode cX8_dreadOf 0 = .ok (.aload_n 0, 1) := by decide +kernel
theorem dX8_dreadOf_1 : decode cX8_dreadOf 1 = .ok (.getfield 13, 3) := by decide +kernel
theorem dX8_dreadOf_4 : decode cX8_dreadOf 4 = .ok (.iconst 4, 1) := by decide +kernel
theorem dX8_dreadOf_5 : decode cX8_dreadOf 5 = .ok (.iload_n 1, 1) := by decide +kernel
theorem dX8_dreadOf_6 : decode cX8_dreadOf 6 = .ok (.imul, 1) := by decide +kernel
theorem dX8_dreadOf_7 : decode cX8_dreadOf 7 = .ok (.iconst 2, 1) := by decide +kernel
theorem dX8_dreadOf_8 : decode cX8_dreadOf 8 = .ok (.iadd, 1) := by decide +kernel
theorem dX8_dreadOf_9 : decode cX8_dreadOf 9 = .ok (.iaload, 1) := by decide +kernel
theorem dX8_dreadOf_10 : decode cX8_dreadOf 10 = .ok (.i2l, 1) := by decide +kernel
theorem dX8_dreadOf_11 : decode cX8_dreadOf 11 = .ok (.aload_n 0, 1) := by decide +kernel
theorem dX8_dreadOf_12 : decode cX8_dreadOf 12 = .ok (.iload_n 1, 1) := by decide +kernel
theorem dX8_dreadOf_13 : decode cX8_dreadOf 13 = .ok (.invokevirtual 224, 3) := by decide +kernel
theorem dX8_dreadOf_16 : decode cX8_dreadOf 16 = .ok (.lmul, 1) := by decide +kernel
theorem dX8_dreadOf_17 : decode cX8_dreadOf 17 = .ok (.lreturn, 1) := by decide +kernel
theorem dX8_dread_0 : decode cX8_dread 0 = .ok (.aload_n 0, 1) := by decide +kernel
theorem dX8_dread_1 : decode cX8_dread 1 = .ok (.iconst 0, 1) := by decide +kernel
theorem dX8_dread_2 : decode cX8_dread 2 = .ok (.putfield 50, 3) := by decide +kernel
theorem dX8_dread_5 : decode cX8_dread 5 = .ok (.aload_n 0, 1) := by decide +kernel
theorem dX8_dread_6 : decode cX8_dread 6 = .ok (.iload_n 1, 1) := by decide +kernel
theorem dX8_dread_7 : decode cX8_dread 7 = .ok (.invokevirtual 143, 3) := by decide +kernel
theorem dX8_dread_10 : decode cX8_dread 10 = .ok (.ifCond .ne 6, 3) := by decide +kernel
theorem dX8_dread_13 : decode cX8_dread 13 = .ok (.bipush (-2), 2) := by decide +kernel
theorem dX8_dread_15 : decode cX8_dread 15 = .ok (.ireturn, 1) := by decide +kernel
theorem dX8_dread_16 : decode cX8_dread 16 = .ok (.iload_n 2, 1) := by decide +kernel
theorem dX8_dread_17 : decode cX8_dread 17 = .ok (.invokestatic 188, 3) := by decide +kernel
theorem dX8_dread_20 : decode cX8_dread 20 = .ok (.ifCond .eq 28, 3) := by decide +kernel
theorem dX8_dread_23 : decode cX8_dread 23 = .ok (.aload_n 0, 1) := by decide +kernel
theorem dX8_dread_24 : decode cX8_dread 24 = .ok (.iload_n 1, 1) := by decide +kernel
theorem dX8_dread_25 : decode cX8_dread 25 = .ok (.invokevirtual 227, 3) := by decide +kernel
theorem dX8_dread_28 : decode cX8_dread 28 = .ok (.ldc2_w 175, 3) := by decide +kernel
theorem dX8_dread_31 : decode cX8_dread 31 = .ok (.aload_n 0, 1) := by decide +kernel
theorem dX8_dread_32 : decode cX8_dread 32 = .ok (.getfield 22, 3) := by decide +kernel
theorem dX8_dread_35 : decode cX8_dread 35 = .ok (.iconst 1, 1) := by decide +kernel
theorem dX8_dread_36 : decode cX8_dread 36 = .ok (.iaload, 1) := by decide +kernel
theorem dX8_dread_37 : decode cX8_dread 37 = .ok (.invokestatic 195, 3) := by decide +kernel
theorem dX8_dread_40 : decode cX8_dread 40 = .ok (.iload_n 2, 1) := by decide +kernel
theorem dX8_dread_41 : decode cX8_dread 41 = .ok (.invokestatic 199, 3) := by decide +kernel
theorem dX8_dread_44 : decode cX8_dread 44 = .ok (.l2i, 1) := by decide +kernel
theorem dX8_dread_45 : decode cX8_dread 45 = .ok (.goto 5, 3) := by decide +kernel
theorem dX8_dread_48 : decode cX8_dread 48 = .ok (.bipush (-3), 2) := by decide +kernel
theorem dX8_dread_50 : decode cX8_dread 50 = .ok (.ireturn, 1) := by decide +kernel
theorem dX8_hires_0 : decode cX8_hires 0 = .ok (.aload_n 0, 1) := by decide +kernel
theorem dX8_hires_1 : decode cX8_hires 1 = .ok (.iconst 0, 1) := by decide +kernel
theorem dX8_hires_2 : decode cX8_hires 2 = .ok (.putfield 50, 3) := by decide +kernel
theorem dX8_hires_5 : decode cX8_hires 5 = .ok (.aload_n 0, 1) := by decide +kernel
theorem dX8_hires_6 : decode cX8_hires 6 = .ok (.iload_n 1, 1) := by decide +kernel
theorem dX8_hires_7 : decode cX8_hires 7 = .ok (.invokevirtual 143, 3) := by decide +kernel
theorem dX8_hires_10 : decode cX8_hires 10 = .ok (.ifCond .ne 6, 3) := by decide +kernel
theorem dX8_hires_13 : decode cX8_hires 13 = .ok (.bipush (-2), 2) := by decide +kernel
theorem dX8_hires_15 : decode cX8_hires 15 = .ok (.ireturn, 1) := by decide +kernel
theorem dX8_hires_16 : decode cX8_hires 16 = .ok (.aload_n 0, 1) := by decide +kernel
theorem dX8_hires_17 : decode cX8_hires 17 = .ok (.iload_n 1, 1) := by decide +kernel
theorem dX8_hires_18 : decode cX8_hires 18 = .ok (.invokevirtual 146, 3) := by decide +kernel
theorem dX8_hires_21 : decode cX8_hires 21 = .ok (.ifCond .ne 6, 3) := by decide +kernel
theorem dX8_hires_24 : decode cX8_hires 24 = .ok (.bipush (-4), 2) := by decide +kernel
theorem dX8_hires_26 : decode cX8_hires 26 = .ok (.ireturn, 1) := by decide +kernel
theorem dX8_hires_27 : decode cX8_hires 27 = .ok (.iload_n 1, 1) := by decide +kernel
theorem dX8_hires_28 : decode cX8_hires 28 = .ok (.istore_n 2, 1) := by decide +kernel
theorem dX8_hires_29 : decode cX8_hires 29 = .ok (.aload_n 0, 1) := by decide +kernel
theorem dX8_hires_30 : decode cX8_hires 30 = .ok (.getfield 22, 3) := by decide +kernel
theorem dX8_hires_33 : decode cX8_hires 33 = .ok (.iconst 0, 1) := by decide +kernel
theorem dX8_hires_34 : decode cX8_hires 34 = .ok (.iaload, 1) := by decide +kernel
theorem dX8_hires_35 : decode cX8_hires 35 = .ok (.iconst 1, 1) := by decide +kernel
theorem dX8_hires_36 : decode cX8_hires 36 = .ok (.isub, 1) := by decide +kernel
theorem dX8_hires_37 : decode cX8_hires 37 = .ok (.istore_n 3, 1) := by decide +kernel
theorem dX8_hires_38 : decode cX8_hires 38 = .ok (.iload_n 3, 1) := by decide +kernel
theorem dX8_hires_39 : decode cX8_hires 39 = .ok (.ifCond .lt 37, 3) := by decide +kernel
theorem dX8_hires_42 : decode cX8_hires 42 = .ok (.aload_n 0, 1) := by decide +kernel
theorem dX8_hires_43 : decode cX8_hires 43 = .ok (.iload_n 3, 1) := by decide +kernel
theorem dX8_hires_44 : decode cX8_hires 44 = .ok (.invokevirtual 146, 3) := by decide +kernel
theorem dX8_hires_47 : decode cX8_hires 47 = .ok (.ifCond .eq 21, 3) := by decide +kernel
theorem dX8_hires_50 : decode cX8_hires 50 = .ok (.aload_n 0, 1) := by decide +kernel
theorem dX8_hires_51 : decode cX8_hires 51 = .ok (.iload_n 3, 1) := by decide +kernel
theorem dX8_hires_52 : decode cX8_hires 52 = .ok (.invokevirtual 227, 3) := by decide +kernel
theorem dX8_hires_55 : decode cX8_hires 55 = .ok (.aload_n 0, 1) := by decide +kernel
theorem dX8_hires_56 : decode cX8_hires 56 = .ok (.iload_n 2, 1) := by decide +kernel
theorem dX8_hires_57 : decode cX8_hires 57 = .ok (.invokevirtual 227, 3) := by decide +kernel
theorem dX8_hires_60 : decode cX8_hires 60 = .ok (.lcmp, 1) := by decide +kernel
theorem dX8_hires_61 : decode cX8_hires 61 = .ok (.ifCond .gt 7, 3) := by decide +kernel
theorem dX8_hires_64 : decode cX8_hires 64 = .ok (.iload_n 3, 1) := by decide +kernel
theorem dX8_hires_65 : decode cX8_hires 65 = .ok (.goto 4, 3) := by decide +kernel
theorem dX8_hires_68 : decode cX8_hires 68 = .ok (.iload_n 2, 1) := by decide +kernel
theorem dX8_hires_69 : decode cX8_hires 69 = .ok (.istore_n 2, 1) := by decide +kernel
theorem dX8_hires_70 : decode cX8_hires 70 = .ok (.iinc 3 (-1), 3) := by decide +kernel
theorem dX8_hires_73 : decode cX8_hires 73 = .ok (.goto (-35), 3) := by decide +kernel
theorem dX8_hires_76 : decode cX8_hires 76 = .ok (.aload_n 0, 1) := by decide +kernel
theorem dX8_hires_77 : decode cX8_hires 77 = .ok (.iload_n 2, 1) := by decide +kernel
theorem dX8_hires_78 : decode cX8_hires 78 = .ok (.invokevirtual 227, 3) := by decide +kernel
theorem dX8_hires_81 : decode cX8_hires 81 = .ok (.aload_n 0, 1) := by decide +kernel
theorem dX8_hires_82 : decode cX8_hires 82 = .ok (.iload_n 1, 1) := by decide +kernel
theorem dX8_hires_83 : decode cX8_hires 83 = .ok (.invokevirtual 227, 3) := by decide +kernel
theorem dX8_hires_86 : decode cX8_hires 86 = .ok (.lcmp, 1) := by decide +kernel
theorem dX8_hires_87 : decode cX8_hires 87 = .ok (.ifCond .ge 7, 3) := by decide +kernel
theorem dX8_hires_90 : decode cX8_hires 90 = .ok (.iload_n 2, 1) := by decide +kernel
theorem dX8_hires_91 : decode cX8_hires 91 = .ok (.goto 4, 3) := by decide +kernel
theorem dX8_hires_94 : decode cX8_hires 94 = .ok (.iload_n 1, 1) := by decide +kernel
theorem dX8_hires_95 : decode cX8_hires 95 = .ok (.ireturn, 1) := by decide +kernel
theorem dX8_isAtRest_0 : decode cX8_isAtRest 0 = .ok (.ldc2_w 175, 3) := by decide +kernel
theorem dX8_isAtRest_3 : decode cX8_isAtRest 3 = .ok (.aload_n 0, 1) := by decide +kernel
theorem dX8_isAtRest_4 : decode cX8_isAtRest 4 = .ok (.getfield 22, 3) := by decide +kernel
theorem dX8_isAtRest_7 : decode cX8_isAtRest 7 = .ok (.iconst 1, 1) := by decide +kernel
theorem dX8_isAtRest_8 : decode cX8_isAtRest 8 = .ok (.iaload, 1) := by decide +kernel
theorem dX8_isAtRest_9 : decode cX8_isAtRest 9 = .ok (.invokestatic 195, 3) := by decide +kernel
theorem dX8_isAtRest_12 : decode cX8_isAtRest 12 = .ok (.lstore_n 3, 1) := by decide +kernel
theorem dX8_isAtRest_13 : decode cX8_isAtRest 13 = .ok (.iconst 1, 1) := by decide +kernel
theorem dX8_isAtRest_14 : decode cX8_isAtRest 14 = .ok (.istore 5, 2) := by decide +kernel
theorem dX8_isAtRest_16 : decode cX8_isAtRest 16 = .ok (.iconst 0, 1) := by decide +kernel
theorem dX8_isAtRest_17 : decode cX8_isAtRest 17 = .ok (.istore 6, 2) := by decide +kernel
theorem dX8_isAtRest_19 : decode cX8_isAtRest 19 = .ok (.iload 6, 2) := by decide +kernel
theorem dX8_isAtRest_21 : decode cX8_isAtRest 21 = .ok (.aload_n 0, 1) := by decide +kernel
theorem dX8_isAtRest_22 : decode cX8_isAtRest 22 = .ok (.getfield 22, 3) := by decide +kernel
theorem dX8_isAtRest_25 : decode cX8_isAtRest 25 = .ok (.iconst 0, 1) := by decide +kernel
theorem dX8_isAtRest_26 : decode cX8_isAtRest 26 = .ok (.iaload, 1) := by decide +kernel
theorem dX8_isAtRest_27 : decode cX8_isAtRest 27 = .ok (.if_icmp .ge 119, 3) := by decide +kernel
theorem dX8_isAtRest_30 : decode cX8_isAtRest 30 = .ok (.aload_n 0, 1) := by decide +kernel
theorem dX8_isAtRest_31 : decode cX8_isAtRest 31 = .ok (.iload 6, 2) := by decide +kernel
theorem dX8_isAtRest_33 : decode cX8_isAtRest 33 = .ok (.invokevirtual 146, 3) := by decide +kernel
theorem dX8_isAtRest_36 : decode cX8_isAtRest 36 = .ok (.ifCond .eq 104, 3) := by decide +kernel
theorem dX8_isAtRest_39 : decode cX8_isAtRest 39 = .ok (.iload_n 2, 1) := by decide +kernel
theorem dX8_isAtRest_40 : decode cX8_isAtRest 40 = .ok (.i2l, 1) := by decide +kernel
theorem dX8_isAtRest_41 : decode cX8_isAtRest 41 = .ok (.lload_n 3, 1) := by decide +kernel
theorem dX8_isAtRest_42 : decode cX8_isAtRest 42 = .ok (.lmul, 1) := by decide +kernel
theorem dX8_isAtRest_43 : decode cX8_isAtRest 43 = .ok (.aload_n 0, 1) := by decide +kernel
theorem dX8_isAtRest_44 : decode cX8_isAtRest 44 = .ok (.iload 6, 2) := by decide +kernel
theorem dX8_isAtRest_46 : decode cX8_isAtRest 46 = .ok (.invokevirtual 227, 3) := by decide +kernel
theorem dX8_isAtRest_49 : decode cX8_isAtRest 49 = .ok (.lsub, 1) := by decide +kernel
theorem dX8_isAtRest_50 : decode cX8_isAtRest 50 = .ok (.lstore 7, 2) := by decide +kernel
theorem dX8_isAtRest_52 : decode cX8_isAtRest 52 = .ok (.iload_n 1, 1) := by decide +kernel
theorem dX8_isAtRest_53 : decode cX8_isAtRest 53 = .ok (.iload 6, 2) := by decide +kernel
theorem dX8_isAtRest_55 : decode cX8_isAtRest 55 = .ok (.ishr, 1) := by decide +kernel
theorem dX8_isAtRest_56 : decode cX8_isAtRest 56 = .ok (.iconst 1, 1) := by decide +kernel
theorem dX8_isAtRest_57 : decode cX8_isAtRest 57 = .ok (.iand, 1) := by decide +kernel
theorem dX8_isAtRest_58 : decode cX8_isAtRest 58 = .ok (.iconst 1, 1) := by decide +kernel
theorem dX8_isAtRest_59 : decode cX8_isAtRest 59 = .ok (.if_icmp .ne 7, 3) := by decide +kernel
theorem dX8_isAtRest_62 : decode cX8_isAtRest 62 = .ok (.iconst 1, 1) := by decide +kernel
theorem dX8_isAtRest_63 : decode cX8_isAtRest 63 = .ok (.goto 4, 3) := by decide +kernel
theorem dX8_isAtRest_66 : decode cX8_isAtRest 66 = .ok (.iconst 0, 1) := by decide +kernel
theorem dX8_isAtRest_67 : decode cX8_isAtRest 67 = .ok (.istore 9, 2) := by decide +kernel
theorem dX8_isAtRest_69 : decode cX8_isAtRest 69 = .ok (.iload_n 1, 1) := by decide +kernel
theorem dX8_isAtRest_70 : decode cX8_isAtRest 70 = .ok (.iconst 1, 1) := by decide +kernel
theorem dX8_isAtRest_71 : decode cX8_isAtRest 71 = .ok (.iload 6, 2) := by decide +kernel
theorem dX8_isAtRest_73 : decode cX8_isAtRest 73 = .ok (.ishl, 1) := by decide +kernel
theorem dX8_isAtRest_74 : decode cX8_isAtRest 74 = .ok (.iconst (-1), 1) := by decide +kernel
theorem dX8_isAtRest_75 : decode cX8_isAtRest 75 = .ok (.ixor, 1) := by decide +kernel
theorem dX8_isAtRest_76 : decode cX8_isAtRest 76 = .ok (.iand, 1) := by decide +kernel
theorem dX8_isAtRest_77 : decode cX8_isAtRest 77 = .ok (.invokestatic 203, 3) := by decide +kernel
theorem dX8_isAtRest_80 : decode cX8_isAtRest 80 = .ok (.istore 10, 2) := by decide +kernel
theorem dX8_isAtRest_82 : decode cX8_isAtRest 82 = .ok (.iload 10, 2) := by decide +kernel
theorem dX8_isAtRest_84 : decode cX8_isAtRest 84 = .ok (.ifCond .ne 18, 3) := by decide +kernel
theorem dX8_isAtRest_87 : decode cX8_isAtRest 87 = .ok (.lload 7, 2) := by decide +kernel
theorem dX8_isAtRest_89 : decode cX8_isAtRest 89 = .ok (.aload_n 0, 1) := by decide +kernel
theorem dX8_isAtRest_90 : decode cX8_isAtRest 90 = .ok (.getfield 22, 3) := by decide +kernel
theorem dX8_isAtRest_93 : decode cX8_isAtRest 93 = .ok (.iconst 3, 1) := by decide +kernel
theorem dX8_isAtRest_94 : decode cX8_isAtRest 94 = .ok (.iaload, 1) := by decide +kernel
theorem dX8_isAtRest_95 : decode cX8_isAtRest 95 = .ok (.i2l, 1) := by decide +kernel
theorem dX8_isAtRest_96 : decode cX8_isAtRest 96 = .ok (.lload_n 3, 1) := by decide +kernel
theorem dX8_isAtRest_97 : decode cX8_isAtRest 97 = .ok (.lmul, 1) := by decide +kernel
theorem dX8_isAtRest_98 : decode cX8_isAtRest 98 = .ok (.ladd, 1) := by decide +kernel
theorem dX8_isAtRest_99 : decode cX8_isAtRest 99 = .ok (.goto 5, 3) := by decide +kernel
theorem dX8_isAtRest_102 : decode cX8_isAtRest 102 = .ok (.lload 7, 2) := by decide +kernel
theorem dX8_isAtRest_104 : decode cX8_isAtRest 104 = .ok (.lstore 11, 2) := by decide +kernel
theorem dX8_isAtRest_106 : decode cX8_isAtRest 106 = .ok (.iload 5, 2) := by decide +kernel
theorem dX8_isAtRest_108 : decode cX8_isAtRest 108 = .ok (.ifCond .eq 29, 3) := by decide +kernel
theorem dX8_isAtRest_111 : decode cX8_isAtRest 111 = .ok (.iload 9, 2) := by decide +kernel
theorem dX8_isAtRest_113 : decode cX8_isAtRest 113 = .ok (.ifCond .eq 13, 3) := by decide +kernel
theorem dX8_isAtRest_116 : decode cX8_isAtRest 116 = .ok (.lload 11, 2) := by decide +kernel
theorem dX8_isAtRest_118 : decode cX8_isAtRest 118 = .ok (.lconst 0, 1) := by decide +kernel
theorem dX8_isAtRest_119 : decode cX8_isAtRest 119 = .ok (.lcmp, 1) := by decide +kernel
theorem dX8_isAtRest_120 : decode cX8_isAtRest 120 = .ok (.ifCond .lt 17, 3) := by decide +kernel
theorem dX8_isAtRest_123 : decode cX8_isAtRest 123 = .ok (.goto 10, 3) := by decide +kernel
theorem dX8_isAtRest_126 : decode cX8_isAtRest 126 = .ok (.lload 11, 2) := by decide +kernel
theorem dX8_isAtRest_128 : decode cX8_isAtRest 128 = .ok (.lconst 0, 1) := by decide +kernel
theorem dX8_isAtRest_129 : decode cX8_isAtRest 129 = .ok (.lcmp, 1) := by decide +kernel
theorem dX8_isAtRest_130 : decode cX8_isAtRest 130 = .ok (.ifCond .gt 7, 3) := by decide +kernel
theorem dX8_isAtRest_133 : decode cX8_isAtRest 133 = .ok (.iconst 1, 1) := by decide +kernel
theorem dX8_isAtRest_134 : decode cX8_isAtRest 134 = .ok (.goto 4, 3) := by decide +kernel
theorem dX8_isAtRest_137 : decode cX8_isAtRest 137 = .ok (.iconst 0, 1) := by decide +kernel
theorem dX8_isAtRest_138 : decode cX8_isAtRest 138 = .ok (.istore 5, 2) := by decide +kernel
theorem dX8_isAtRest_140 : decode cX8_isAtRest 140 = .ok (.iinc 6 1, 3) := by decide +kernel
theorem dX8_isAtRest_143 : decode cX8_isAtRest 143 = .ok (.goto (-124), 3) := by decide +kernel
theorem dX8_isAtRest_146 : decode cX8_isAtRest 146 = .ok (.iload 5, 2) := by decide +kernel
theorem dX8_isAtRest_148 : decode cX8_isAtRest 148 = .ok (.ireturn, 1) := by decide +kernel
theorem dX8_leastAtRest_0 : decode cX8_leastAtRest 0 = .ok (.iload_n 2, 1) := by decide +kernel
theorem dX8_leastAtRest_1 : decode cX8_leastAtRest 1 = .ok (.ifCond .eq 7, 3) := by decide +kernel
theorem dX8_leastAtRest_4 : decode cX8_leastAtRest 4 = .ok (.iconst 1, 1) := by decide +kernel
theorem dX8_leastAtRest_5 : decode cX8_leastAtRest 5 = .ok (.goto 4, 3) := by decide +kernel
theorem dX8_leastAtRest_8 : decode cX8_leastAtRest 8 = .ok (.iconst 0, 1) := by decide +kernel
theorem dX8_leastAtRest_9 : decode cX8_leastAtRest 9 = .ok (.istore_n 3, 1) := by decide +kernel
theorem dX8_leastAtRest_10 : decode cX8_leastAtRest 10 = .ok (.iload_n 3, 1) := by decide +kernel
theorem dX8_leastAtRest_11 : decode cX8_leastAtRest 11 = .ok (.iconst 1, 1) := by decide +kernel
theorem dX8_leastAtRest_12 : decode cX8_leastAtRest 12 = .ok (.aload_n 0, 1) := by decide +kernel
theorem dX8_leastAtRest_13 : decode cX8_leastAtRest 13 = .ok (.getfield 22, 3) := by decide +kernel
theorem dX8_leastAtRest_16 : decode cX8_leastAtRest 16 = .ok (.iconst 0, 1) := by decide +kernel
theorem dX8_leastAtRest_17 : decode cX8_leastAtRest 17 = .ok (.iaload, 1) := by decide +kernel
theorem dX8_leastAtRest_18 : decode cX8_leastAtRest 18 = .ok (.ishl, 1) := by decide +kernel
theorem dX8_leastAtRest_19 : decode cX8_leastAtRest 19 = .ok (.if_icmp .ge 33, 3) := by decide +kernel
theorem dX8_leastAtRest_22 : decode cX8_leastAtRest 22 = .ok (.iload_n 3, 1) := by decide +kernel
theorem dX8_leastAtRest_23 : decode cX8_leastAtRest 23 = .ok (.aload_n 0, 1) := by decide +kernel
theorem dX8_leastAtRest_24 : decode cX8_leastAtRest 24 = .ok (.getfield 25, 3) := by decide +kernel
theorem dX8_leastAtRest_27 : decode cX8_leastAtRest 27 = .ok (.iconst 1, 1) := by decide +kernel
theorem dX8_leastAtRest_28 : decode cX8_leastAtRest 28 = .ok (.iaload, 1) := by decide +kernel
theorem dX8_leastAtRest_29 : decode cX8_leastAtRest 29 = .ok (.iconst (-1), 1) := by decide +kernel
theorem dX8_leastAtRest_30 : decode cX8_leastAtRest 30 = .ok (.ixor, 1) := by decide +kernel
theorem dX8_leastAtRest_31 : decode cX8_leastAtRest 31 = .ok (.iand, 1) := by decide +kernel
theorem dX8_leastAtRest_32 : decode cX8_leastAtRest 32 = .ok (.ifCond .ne 14, 3) := by decide +kernel
theorem dX8_leastAtRest_35 : decode cX8_leastAtRest 35 = .ok (.aload_n 0, 1) := by decide +kernel
theorem dX8_leastAtRest_36 : decode cX8_leastAtRest 36 = .ok (.iload_n 3, 1) := by decide +kernel
theorem dX8_leastAtRest_37 : decode cX8_leastAtRest 37 = .ok (.iload_n 1, 1) := by decide +kernel
theorem dX8_leastAtRest_38 : decode cX8_leastAtRest 38 = .ok (.invokevirtual 230, 3) := by decide +kernel
theorem dX8_leastAtRest_41 : decode cX8_leastAtRest 41 = .ok (.ifCond .eq 5, 3) := by decide +kernel
theorem dX8_leastAtRest_44 : decode cX8_leastAtRest 44 = .ok (.iload_n 3, 1) := by decide +kernel
theorem dX8_leastAtRest_45 : decode cX8_leastAtRest 45 = .ok (.ireturn, 1) := by decide +kernel
theorem dX8_leastAtRest_46 : decode cX8_leastAtRest 46 = .ok (.iinc 3 1, 3) := by decide +kernel
theorem dX8_leastAtRest_49 : decode cX8_leastAtRest 49 = .ok (.goto (-39), 3) := by decide +kernel
theorem dX8_leastAtRest_52 : decode cX8_leastAtRest 52 = .ok (.iconst (-1), 1) := by decide +kernel
theorem dX8_leastAtRest_53 : decode cX8_leastAtRest 53 = .ok (.ireturn, 1) := by decide +kernel
theorem dX8_rests_0 : decode cX8_rests 0 = .ok (.aload_n 0, 1) := by decide +kernel
theorem dX8_rests_1 : decode cX8_rests 1 = .ok (.iconst 0, 1) := by decide +kernel
theorem dX8_rests_2 : decode cX8_rests 2 = .ok (.putfield 50, 3) := by decide +kernel
theorem dX8_rests_5 : decode cX8_rests 5 = .ok (.iload_n 1, 1) := by decide +kernel
theorem dX8_rests_6 : decode cX8_rests 6 = .ok (.iconst 0, 1) := by decide +kernel
theorem dX8_rests_7 : decode cX8_rests 7 = .ok (.bipush 99, 2) := by decide +kernel
theorem dX8_rests_9 : decode cX8_rests 9 = .ok (.invokestatic 54, 3) := by decide +kernel
theorem dX8_rests_12 : decode cX8_rests 12 = .ok (.ifCond .eq 12, 3) := by decide +kernel
theorem dX8_rests_15 : decode cX8_rests 15 = .ok (.iload_n 2, 1) := by decide +kernel
theorem dX8_rests_16 : decode cX8_rests 16 = .ok (.iconst 0, 1) := by decide +kernel
theorem dX8_rests_17 : decode cX8_rests 17 = .ok (.iconst 1, 1) := by decide +kernel
theorem dX8_rests_18 : decode cX8_rests 18 = .ok (.invokestatic 54, 3) := by decide +kernel
theorem dX8_rests_21 : decode cX8_rests 21 = .ok (.ifCond .ne 6, 3) := by decide +kernel
theorem dX8_rests_24 : decode cX8_rests 24 = .ok (.bipush (-3), 2) := by decide +kernel
theorem dX8_rests_26 : decode cX8_rests 26 = .ok (.ireturn, 1) := by decide +kernel
theorem dX8_rests_27 : decode cX8_rests 27 = .ok (.iload_n 2, 1) := by decide +kernel
theorem dX8_rests_28 : decode cX8_rests 28 = .ok (.iconst 1, 1) := by decide +kernel
theorem dX8_rests_29 : decode cX8_rests 29 = .ok (.if_icmp .ne 10, 3) := by decide +kernel
theorem dX8_rests_32 : decode cX8_rests 32 = .ok (.aload_n 0, 1) := by decide +kernel
theorem dX8_rests_33 : decode cX8_rests 33 = .ok (.iload_n 1, 1) := by decide +kernel
theorem dX8_rests_34 : decode cX8_rests 34 = .ok (.iconst 0, 1) := by decide +kernel
theorem dX8_rests_35 : decode cX8_rests 35 = .ok (.invokevirtual 234, 3) := by decide +kernel
theorem dX8_rests_38 : decode cX8_rests 38 = .ok (.ireturn, 1) := by decide +kernel
theorem dX8_rests_39 : decode cX8_rests 39 = .ok (.iconst 0, 1) := by decide +kernel
theorem dX8_rests_40 : decode cX8_rests 40 = .ok (.istore_n 3, 1) := by decide +kernel
theorem dX8_rests_41 : decode cX8_rests 41 = .ok (.iconst 0, 1) := by decide +kernel
theorem dX8_rests_42 : decode cX8_rests 42 = .ok (.istore 4, 2) := by decide +kernel
theorem dX8_rests_44 : decode cX8_rests 44 = .ok (.iload 4, 2) := by decide +kernel
theorem dX8_rests_46 : decode cX8_rests 46 = .ok (.iconst 1, 1) := by decide +kernel
theorem dX8_rests_47 : decode cX8_rests 47 = .ok (.aload_n 0, 1) := by decide +kernel
theorem dX8_rests_48 : decode cX8_rests 48 = .ok (.getfield 22, 3) := by decide +kernel
theorem dX8_rests_51 : decode cX8_rests 51 = .ok (.iconst 0, 1) := by decide +kernel
theorem dX8_rests_52 : decode cX8_rests 52 = .ok (.iaload, 1) := by decide +kernel
theorem dX8_rests_53 : decode cX8_rests 53 = .ok (.ishl, 1) := by decide +kernel
theorem dX8_rests_54 : decode cX8_rests 54 = .ok (.if_icmp .ge 41, 3) := by decide +kernel
theorem dX8_rests_57 : decode cX8_rests 57 = .ok (.iload_n 3, 1) := by decide +kernel
theorem dX8_rests_58 : decode cX8_rests 58 = .ok (.iload 4, 2) := by decide +kernel
theorem dX8_rests_60 : decode cX8_rests 60 = .ok (.aload_n 0, 1) := by decide +kernel
theorem dX8_rests_61 : decode cX8_rests 61 = .ok (.getfield 25, 3) := by decide +kernel
theorem dX8_rests_64 : decode cX8_rests 64 = .ok (.iconst 1, 1) := by decide +kernel
theorem dX8_rests_65 : decode cX8_rests 65 = .ok (.iaload, 1) := by decide +kernel
theorem dX8_rests_66 : decode cX8_rests 66 = .ok (.iconst (-1), 1) := by decide +kernel
theorem dX8_rests_67 : decode cX8_rests 67 = .ok (.ixor, 1) := by decide +kernel
theorem dX8_rests_68 : decode cX8_rests 68 = .ok (.iand, 1) := by decide +kernel
theorem dX8_rests_69 : decode cX8_rests 69 = .ok (.ifCond .ne 17, 3) := by decide +kernel
theorem dX8_rests_72 : decode cX8_rests 72 = .ok (.aload_n 0, 1) := by decide +kernel
theorem dX8_rests_73 : decode cX8_rests 73 = .ok (.iload 4, 2) := by decide +kernel
theorem dX8_rests_75 : decode cX8_rests 75 = .ok (.iload_n 1, 1) := by decide +kernel
theorem dX8_rests_76 : decode cX8_rests 76 = .ok (.invokevirtual 230, 3) := by decide +kernel
theorem dX8_rests_79 : decode cX8_rests 79 = .ok (.ifCond .eq 7, 3) := by decide +kernel
theorem dX8_rests_82 : decode cX8_rests 82 = .ok (.iconst 1, 1) := by decide +kernel
theorem dX8_rests_83 : decode cX8_rests 83 = .ok (.goto 4, 3) := by decide +kernel
theorem dX8_rests_86 : decode cX8_rests 86 = .ok (.iconst 0, 1) := by decide +kernel
theorem dX8_rests_87 : decode cX8_rests 87 = .ok (.iadd, 1) := by decide +kernel
theorem dX8_rests_88 : decode cX8_rests 88 = .ok (.istore_n 3, 1) := by decide +kernel
theorem dX8_rests_89 : decode cX8_rests 89 = .ok (.iinc 4 1, 3) := by decide +kernel
theorem dX8_rests_92 : decode cX8_rests 92 = .ok (.goto (-48), 3) := by decide +kernel
theorem dX8_rests_95 : decode cX8_rests 95 = .ok (.iload_n 3, 1) := by decide +kernel
theorem dX8_rests_96 : decode cX8_rests 96 = .ok (.ireturn, 1) := by decide +kernel
theorem dX8_fund_0 : decode cX8_fund 0 = .ok (.aload_n 0, 1) := by decide +kernel
theorem dX8_fund_1 : decode cX8_fund 1 = .ok (.iconst 0, 1) := by decide +kernel
theorem dX8_fund_2 : decode cX8_fund 2 = .ok (.putfield 50, 3) := by decide +kernel
theorem dX8_fund_5 : decode cX8_fund 5 = .ok (.iconst 0, 1) := by decide +kernel
theorem dX8_fund_6 : decode cX8_fund 6 = .ok (.istore_n 1, 1) := by decide +kernel
theorem dX8_fund_7 : decode cX8_fund 7 = .ok (.iload_n 1, 1) := by decide +kernel
theorem dX8_fund_8 : decode cX8_fund 8 = .ok (.bipush 100, 2) := by decide +kernel
theorem dX8_fund_10 : decode cX8_fund 10 = .ok (.if_icmp .ge 21, 3) := by decide +kernel
theorem dX8_fund_13 : decode cX8_fund 13 = .ok (.aload_n 0, 1) := by decide +kernel
theorem dX8_fund_14 : decode cX8_fund 14 = .ok (.iload_n 1, 1) := by decide +kernel
theorem dX8_fund_15 : decode cX8_fund 15 = .ok (.iconst 1, 1) := by decide +kernel
theorem dX8_fund_16 : decode cX8_fund 16 = .ok (.invokevirtual 234, 3) := by decide +kernel
theorem dX8_fund_19 : decode cX8_fund 19 = .ok (.iconst (-1), 1) := by decide +kernel
theorem dX8_fund_20 : decode cX8_fund 20 = .ok (.if_icmp .eq 5, 3) := by decide +kernel
theorem dX8_fund_23 : decode cX8_fund 23 = .ok (.iload_n 1, 1) := by decide +kernel
theorem dX8_fund_24 : decode cX8_fund 24 = .ok (.ireturn, 1) := by decide +kernel
theorem dX8_fund_25 : decode cX8_fund 25 = .ok (.iinc 1 1, 3) := by decide +kernel
theorem dX8_fund_28 : decode cX8_fund 28 = .ok (.goto (-21), 3) := by decide +kernel
theorem dX8_fund_31 : decode cX8_fund 31 = .ok (.iconst (-1), 1) := by decide +kernel
theorem dX8_fund_32 : decode cX8_fund 32 = .ok (.ireturn, 1) := by decide +kernel
theorem dX8_worthOf_0 : decode cX8_worthOf 0 = .ok (.aload_n 0, 1) := by decide +kernel
theorem dX8_worthOf_1 : decode cX8_worthOf 1 = .ok (.getfield 22, 3) := by decide +kernel
theorem dX8_worthOf_4 : decode cX8_worthOf 4 = .ok (.iconst 3, 1) := by decide +kernel
theorem dX8_worthOf_5 : decode cX8_worthOf 5 = .ok (.iaload, 1) := by decide +kernel
theorem dX8_worthOf_6 : decode cX8_worthOf 6 = .ok (.aload_n 0, 1) := by decide +kernel
theorem dX8_worthOf_7 : decode cX8_worthOf 7 = .ok (.getfield 19, 3) := by decide +kernel
theorem dX8_worthOf_10 : decode cX8_worthOf 10 = .ok (.iconst 3, 1) := by decide +kernel
theorem dX8_worthOf_11 : decode cX8_worthOf 11 = .ok (.iload_n 1, 1) := by decide +kernel
theorem dX8_worthOf_12 : decode cX8_worthOf 12 = .ok (.imul, 1) := by decide +kernel
theorem dX8_worthOf_13 : decode cX8_worthOf 13 = .ok (.iconst 1, 1) := by decide +kernel
theorem dX8_worthOf_14 : decode cX8_worthOf 14 = .ok (.iadd, 1) := by decide +kernel
theorem dX8_worthOf_15 : decode cX8_worthOf 15 = .ok (.iaload, 1) := by decide +kernel
theorem dX8_worthOf_16 : decode cX8_worthOf 16 = .ok (.imul, 1) := by decide +kernel
theorem dX8_worthOf_17 : decode cX8_worthOf 17 = .ok (.aload_n 0, 1) := by decide +kernel
theorem dX8_worthOf_18 : decode cX8_worthOf 18 = .ok (.getfield 19, 3) := by decide +kernel
theorem dX8_worthOf_21 : decode cX8_worthOf 21 = .ok (.iconst 3, 1) := by decide +kernel
theorem dX8_worthOf_22 : decode cX8_worthOf 22 = .ok (.iload_n 1, 1) := by decide +kernel
theorem dX8_worthOf_23 : decode cX8_worthOf 23 = .ok (.imul, 1) := by decide +kernel
theorem dX8_worthOf_24 : decode cX8_worthOf 24 = .ok (.iconst 2, 1) := by decide +kernel
theorem dX8_worthOf_25 : decode cX8_worthOf 25 = .ok (.iadd, 1) := by decide +kernel
theorem dX8_worthOf_26 : decode cX8_worthOf 26 = .ok (.iaload, 1) := by decide +kernel
theorem dX8_worthOf_27 : decode cX8_worthOf 27 = .ok (.imul, 1) := by decide +kernel
theorem dX8_worthOf_28 : decode cX8_worthOf 28 = .ok (.bipush 100, 2) := by decide +kernel
theorem dX8_worthOf_30 : decode cX8_worthOf 30 = .ok (.aload_n 0, 1) := by decide +kernel
theorem dX8_worthOf_31 : decode cX8_worthOf 31 = .ok (.getfield 19, 3) := by decide +kernel
theorem dX8_worthOf_34 : decode cX8_worthOf 34 = .ok (.iconst 3, 1) := by decide +kernel
theorem dX8_worthOf_35 : decode cX8_worthOf 35 = .ok (.iload_n 1, 1) := by decide +kernel
theorem dX8_worthOf_36 : decode cX8_worthOf 36 = .ok (.imul, 1) := by decide +kernel
theorem dX8_worthOf_37 : decode cX8_worthOf 37 = .ok (.iaload, 1) := by decide +kernel
theorem dX8_worthOf_38 : decode cX8_worthOf 38 = .ok (.imul, 1) := by decide +kernel
theorem dX8_worthOf_39 : decode cX8_worthOf 39 = .ok (.isub, 1) := by decide +kernel
theorem dX8_worthOf_40 : decode cX8_worthOf 40 = .ok (.ireturn, 1) := by decide +kernel
theorem dX8_rats_0 : decode cX8_rats 0 = .ok (.aload_n 0, 1) := by decide +kernel
theorem dX8_rats_1 : decode cX8_rats 1 = .ok (.iconst 0, 1) := by decide +kernel
theorem dX8_rats_2 : decode cX8_rats 2 = .ok (.putfield 50, 3) := by decide +kernel
theorem dX8_rats_5 : decode cX8_rats 5 = .ok (.iload_n 1, 1) := by decide +kernel
theorem dX8_rats_6 : decode cX8_rats 6 = .ok (.iconst 0, 1) := by decide +kernel
theorem dX8_rats_7 : decode cX8_rats 7 = .ok (.iconst 1, 1) := by decide +kernel
theorem dX8_rats_8 : decode cX8_rats 8 = .ok (.invokestatic 54, 3) := by decide +kernel
theorem dX8_rats_11 : decode cX8_rats 11 = .ok (.ifCond .ne 6, 3) := by decide +kernel
theorem dX8_rats_14 : decode cX8_rats 14 = .ok (.bipush (-3), 2) := by decide +kernel
theorem dX8_rats_16 : decode cX8_rats 16 = .ok (.ireturn, 1) := by decide +kernel
theorem dX8_rats_17 : decode cX8_rats 17 = .ok (.iconst (-1), 1) := by decide +kernel
theorem dX8_rats_18 : decode cX8_rats 18 = .ok (.istore_n 2, 1) := by decide +kernel
theorem dX8_rats_19 : decode cX8_rats 19 = .ok (.iconst 0, 1) := by decide +kernel
theorem dX8_rats_20 : decode cX8_rats 20 = .ok (.istore_n 3, 1) := by decide +kernel
theorem dX8_rats_21 : decode cX8_rats 21 = .ok (.iconst 0, 1) := by decide +kernel
theorem dX8_rats_22 : decode cX8_rats 22 = .ok (.istore 4, 2) := by decide +kernel
theorem dX8_rats_24 : decode cX8_rats 24 = .ok (.iload 4, 2) := by decide +kernel
theorem dX8_rats_26 : decode cX8_rats 26 = .ok (.aload_n 0, 1) := by decide +kernel
theorem dX8_rats_27 : decode cX8_rats 27 = .ok (.getfield 22, 3) := by decide +kernel
theorem dX8_rats_30 : decode cX8_rats 30 = .ok (.iconst 2, 1) := by decide +kernel
theorem dX8_rats_31 : decode cX8_rats 31 = .ok (.iaload, 1) := by decide +kernel
theorem dX8_rats_32 : decode cX8_rats 32 = .ok (.if_icmp .ge 47, 3) := by decide +kernel
theorem dX8_rats_35 : decode cX8_rats 35 = .ok (.aload_n 0, 1) := by decide +kernel
theorem dX8_rats_36 : decode cX8_rats 36 = .ok (.iload 4, 2) := by decide +kernel
theorem dX8_rats_38 : decode cX8_rats 38 = .ok (.invokevirtual 238, 3) := by decide +kernel
theorem dX8_rats_41 : decode cX8_rats 41 = .ok (.iload_n 3, 1) := by decide +kernel
theorem dX8_rats_42 : decode cX8_rats 42 = .ok (.if_icmp .le 8, 3) := by decide +kernel
theorem dX8_rats_45 : decode cX8_rats 45 = .ok (.iload 4, 2) := by decide +kernel
theorem dX8_rats_47 : decode cX8_rats 47 = .ok (.goto 4, 3) := by decide +kernel
theorem dX8_rats_50 : decode cX8_rats 50 = .ok (.iload_n 2, 1) := by decide +kernel
theorem dX8_rats_51 : decode cX8_rats 51 = .ok (.istore_n 2, 1) := by decide +kernel
theorem dX8_rats_52 : decode cX8_rats 52 = .ok (.aload_n 0, 1) := by decide +kernel
theorem dX8_rats_53 : decode cX8_rats 53 = .ok (.iload 4, 2) := by decide +kernel
theorem dX8_rats_55 : decode cX8_rats 55 = .ok (.invokevirtual 238, 3) := by decide +kernel
theorem dX8_rats_58 : decode cX8_rats 58 = .ok (.iload_n 3, 1) := by decide +kernel
theorem dX8_rats_59 : decode cX8_rats 59 = .ok (.if_icmp .le 12, 3) := by decide +kernel
theorem dX8_rats_62 : decode cX8_rats 62 = .ok (.aload_n 0, 1) := by decide +kernel
theorem dX8_rats_63 : decode cX8_rats 63 = .ok (.iload 4, 2) := by decide +kernel
theorem dX8_rats_65 : decode cX8_rats 65 = .ok (.invokevirtual 238, 3) := by decide +kernel
theorem dX8_rats_68 : decode cX8_rats 68 = .ok (.goto 4, 3) := by decide +kernel
theorem dX8_rats_71 : decode cX8_rats 71 = .ok (.iload_n 3, 1) := by decide +kernel
theorem dX8_rats_72 : decode cX8_rats 72 = .ok (.istore_n 3, 1) := by decide +kernel
theorem dX8_rats_73 : decode cX8_rats 73 = .ok (.iinc 4 1, 3) := by decide +kernel
theorem dX8_rats_76 : decode cX8_rats 76 = .ok (.goto (-52), 3) := by decide +kernel
theorem dX8_rats_79 : decode cX8_rats 79 = .ok (.iload_n 2, 1) := by decide +kernel
theorem dX8_rats_80 : decode cX8_rats 80 = .ok (.iconst (-1), 1) := by decide +kernel
theorem dX8_rats_81 : decode cX8_rats 81 = .ok (.if_icmp .eq 7, 3) := by decide +kernel
theorem dX8_rats_84 : decode cX8_rats 84 = .ok (.iload_n 1, 1) := by decide +kernel
theorem dX8_rats_85 : decode cX8_rats 85 = .ok (.ifCond .ne 7, 3) := by decide +kernel
theorem dX8_rats_88 : decode cX8_rats 88 = .ok (.iload_n 2, 1) := by decide +kernel
theorem dX8_rats_89 : decode cX8_rats 89 = .ok (.goto 4, 3) := by decide +kernel
theorem dX8_rats_92 : decode cX8_rats 92 = .ok (.iload_n 3, 1) := by decide +kernel
theorem dX8_rats_93 : decode cX8_rats 93 = .ok (.ireturn, 1) := by decide +kernel
theorem dX8_choose_0 : decode cX8_choose 0 = .ok (.lconst 1, 1) := by decide +kernel
theorem dX8_choose_1 : decode cX8_choose 1 = .ok (.lstore_n 2, 1) := by decide +kernel
theorem dX8_choose_2 : decode cX8_choose 2 = .ok (.iconst 0, 1) := by decide +kernel
theorem dX8_choose_3 : decode cX8_choose 3 = .ok (.istore 4, 2) := by decide +kernel
theorem dX8_choose_5 : decode cX8_choose 5 = .ok (.iload 4, 2) := by decide +kernel
theorem dX8_choose_7 : decode cX8_choose 7 = .ok (.iload_n 1, 1) := by decide +kernel
theorem dX8_choose_8 : decode cX8_choose 8 = .ok (.if_icmp .ge 23, 3) := by decide +kernel
theorem dX8_choose_11 : decode cX8_choose 11 = .ok (.lload_n 2, 1) := by decide +kernel
theorem dX8_choose_12 : decode cX8_choose 12 = .ok (.iload_n 0, 1) := by decide +kernel
theorem dX8_choose_13 : decode cX8_choose 13 = .ok (.iload 4, 2) := by decide +kernel
theorem dX8_choose_15 : decode cX8_choose 15 = .ok (.isub, 1) := by decide +kernel
theorem dX8_choose_16 : decode cX8_choose 16 = .ok (.i2l, 1) := by decide +kernel
theorem dX8_choose_17 : decode cX8_choose 17 = .ok (.lmul, 1) := by decide +kernel
theorem dX8_choose_18 : decode cX8_choose 18 = .ok (.iload 4, 2) := by decide +kernel
theorem dX8_choose_20 : decode cX8_choose 20 = .ok (.iconst 1, 1) := by decide +kernel
theorem dX8_choose_21 : decode cX8_choose 21 = .ok (.iadd, 1) := by decide +kernel
theorem dX8_choose_22 : decode cX8_choose 22 = .ok (.i2l, 1) := by decide +kernel
theorem dX8_choose_23 : decode cX8_choose 23 = .ok (.ldiv, 1) := by decide +kernel
theorem dX8_choose_24 : decode cX8_choose 24 = .ok (.lstore_n 2, 1) := by decide +kernel
theorem dX8_choose_25 : decode cX8_choose 25 = .ok (.iinc 4 1, 3) := by decide +kernel
theorem dX8_choose_28 : decode cX8_choose 28 = .ok (.goto (-23), 3) := by decide +kernel
theorem dX8_choose_31 : decode cX8_choose 31 = .ok (.lload_n 2, 1) := by decide +kernel
theorem dX8_choose_32 : decode cX8_choose 32 = .ok (.lreturn, 1) := by decide +kernel
theorem dX8_shoe_0 : decode cX8_shoe 0 = .ok (.aload_n 0, 1) := by decide +kernel
theorem dX8_shoe_1 : decode cX8_shoe 1 = .ok (.iconst 0, 1) := by decide +kernel
theorem dX8_shoe_2 : decode cX8_shoe 2 = .ok (.putfield 50, 3) := by decide +kernel
theorem dX8_shoe_5 : decode cX8_shoe 5 = .ok (.aload_n 0, 1) := by decide +kernel
theorem dX8_shoe_6 : decode cX8_shoe 6 = .ok (.iload_n 1, 1) := by decide +kernel
theorem dX8_shoe_7 : decode cX8_shoe 7 = .ok (.invokevirtual 143, 3) := by decide +kernel
theorem dX8_shoe_10 : decode cX8_shoe 10 = .ok (.ifCond .eq 11, 3) := by decide +kernel
theorem dX8_shoe_13 : decode cX8_shoe 13 = .ok (.aload_n 0, 1) := by decide +kernel
theorem dX8_shoe_14 : decode cX8_shoe 14 = .ok (.iload_n 2, 1) := by decide +kernel
theorem dX8_shoe_15 : decode cX8_shoe 15 = .ok (.invokevirtual 152, 3) := by decide +kernel
theorem dX8_shoe_18 : decode cX8_shoe 18 = .ok (.ifCond .ne 7, 3) := by decide +kernel
theorem dX8_shoe_21 : decode cX8_shoe 21 = .ok (.ldc2_w 241, 3) := by decide +kernel
theorem dX8_shoe_24 : decode cX8_shoe 24 = .ok (.lreturn, 1) := by decide +kernel
theorem dX8_shoe_25 : decode cX8_shoe 25 = .ok (.iload_n 3, 1) := by decide +kernel
theorem dX8_shoe_26 : decode cX8_shoe 26 = .ok (.iconst 0, 1) := by decide +kernel
theorem dX8_shoe_27 : decode cX8_shoe 27 = .ok (.bipush 8, 2) := by decide +kernel
theorem dX8_shoe_29 : decode cX8_shoe 29 = .ok (.invokestatic 54, 3) := by decide +kernel
theorem dX8_shoe_32 : decode cX8_shoe 32 = .ok (.ifCond .eq 22, 3) := by decide +kernel
theorem dX8_shoe_35 : decode cX8_shoe 35 = .ok (.iload 4, 2) := by decide +kernel
theorem dX8_shoe_37 : decode cX8_shoe 37 = .ok (.iconst 0, 1) := by decide +kernel
theorem dX8_shoe_38 : decode cX8_shoe 38 = .ok (.bipush 10, 2) := by decide +kernel
theorem dX8_shoe_40 : decode cX8_shoe 40 = .ok (.invokestatic 54, 3) := by decide +kernel
theorem dX8_shoe_43 : decode cX8_shoe 43 = .ok (.ifCond .eq 11, 3) := by decide +kernel
theorem dX8_shoe_46 : decode cX8_shoe 46 = .ok (.iload 5, 2) := by decide +kernel
theorem dX8_shoe_48 : decode cX8_shoe 48 = .ok (.invokestatic 188, 3) := by decide +kernel
theorem dX8_shoe_51 : decode cX8_shoe 51 = .ok (.ifCond .ne 7, 3) := by decide +kernel
theorem dX8_shoe_54 : decode cX8_shoe 54 = .ok (.ldc2_w 243, 3) := by decide +kernel
theorem dX8_shoe_57 : decode cX8_shoe 57 = .ok (.lreturn, 1) := by decide +kernel
theorem dX8_shoe_58 : decode cX8_shoe 58 = .ok (.lconst 0, 1) := by decide +kernel
theorem dX8_shoe_59 : decode cX8_shoe 59 = .ok (.lstore 6, 2) := by decide +kernel
theorem dX8_shoe_61 : decode cX8_shoe 61 = .ok (.iconst 0, 1) := by decide +kernel
theorem dX8_shoe_62 : decode cX8_shoe 62 = .ok (.istore 8, 2) := by decide +kernel
theorem dX8_shoe_64 : decode cX8_shoe 64 = .ok (.iload 8, 2) := by decide +kernel
theorem dX8_shoe_66 : decode cX8_shoe 66 = .ok (.iload_n 3, 1) := by decide +kernel
theorem dX8_shoe_67 : decode cX8_shoe 67 = .ok (.if_icmp .gt 108, 3) := by decide +kernel
theorem dX8_shoe_70 : decode cX8_shoe 70 = .ok (.aload_n 0, 1) := by decide +kernel
theorem dX8_shoe_71 : decode cX8_shoe 71 = .ok (.getfield 13, 3) := by decide +kernel
theorem dX8_shoe_74 : decode cX8_shoe 74 = .ok (.iconst 4, 1) := by decide +kernel
theorem dX8_shoe_75 : decode cX8_shoe 75 = .ok (.iload_n 1, 1) := by decide +kernel
theorem dX8_shoe_76 : decode cX8_shoe 76 = .ok (.imul, 1) := by decide +kernel
theorem dX8_shoe_77 : decode cX8_shoe 77 = .ok (.iconst 1, 1) := by decide +kernel
theorem dX8_shoe_78 : decode cX8_shoe 78 = .ok (.iadd, 1) := by decide +kernel
theorem dX8_shoe_79 : decode cX8_shoe 79 = .ok (.iaload, 1) := by decide +kernel
theorem dX8_shoe_80 : decode cX8_shoe 80 = .ok (.iload 8, 2) := by decide +kernel
theorem dX8_shoe_82 : decode cX8_shoe 82 = .ok (.iadd, 1) := by decide +kernel
theorem dX8_shoe_83 : decode cX8_shoe 83 = .ok (.istore 9, 2) := by decide +kernel
theorem dX8_shoe_85 : decode cX8_shoe 85 = .ok (.aload_n 0, 1) := by decide +kernel
theorem dX8_shoe_86 : decode cX8_shoe 86 = .ok (.getfield 13, 3) := by decide +kernel
theorem dX8_shoe_89 : decode cX8_shoe 89 = .ok (.iconst 4, 1) := by decide +kernel
theorem dX8_shoe_90 : decode cX8_shoe 90 = .ok (.iload_n 1, 1) := by decide +kernel
theorem dX8_shoe_91 : decode cX8_shoe 91 = .ok (.imul, 1) := by decide +kernel
theorem dX8_shoe_92 : decode cX8_shoe 92 = .ok (.iaload, 1) := by decide +kernel
theorem dX8_shoe_93 : decode cX8_shoe 93 = .ok (.iload 9, 2) := by decide +kernel
theorem dX8_shoe_95 : decode cX8_shoe 95 = .ok (.bipush 9, 2) := by decide +kernel
theorem dX8_shoe_97 : decode cX8_shoe 97 = .ok (.if_icmp .le 8, 3) := by decide +kernel
theorem dX8_shoe_100 : decode cX8_shoe 100 = .ok (.bipush 9, 2) := by decide +kernel
theorem dX8_shoe_102 : decode cX8_shoe 102 = .ok (.goto 5, 3) := by decide +kernel
theorem dX8_shoe_105 : decode cX8_shoe 105 = .ok (.iload 9, 2) := by decide +kernel
theorem dX8_shoe_107 : decode cX8_shoe 107 = .ok (.aload_n 0, 1) := by decide +kernel
theorem dX8_shoe_108 : decode cX8_shoe 108 = .ok (.getfield 16, 3) := by decide +kernel
theorem dX8_shoe_111 : decode cX8_shoe 111 = .ok (.iload_n 2, 1) := by decide +kernel
theorem dX8_shoe_112 : decode cX8_shoe 112 = .ok (.iaload, 1) := by decide +kernel
theorem dX8_shoe_113 : decode cX8_shoe 113 = .ok (.invokestatic 155, 3) := by decide +kernel
theorem dX8_shoe_116 : decode cX8_shoe 116 = .ok (.ifCond .ne 7, 3) := by decide +kernel
theorem dX8_shoe_119 : decode cX8_shoe 119 = .ok (.iconst 1, 1) := by decide +kernel
theorem dX8_shoe_120 : decode cX8_shoe 120 = .ok (.goto 4, 3) := by decide +kernel
theorem dX8_shoe_123 : decode cX8_shoe 123 = .ok (.iconst 0, 1) := by decide +kernel
theorem dX8_shoe_124 : decode cX8_shoe 124 = .ok (.istore 10, 2) := by decide +kernel
theorem dX8_shoe_126 : decode cX8_shoe 126 = .ok (.lload 6, 2) := by decide +kernel
theorem dX8_shoe_128 : decode cX8_shoe 128 = .ok (.iload 10, 2) := by decide +kernel
theorem dX8_shoe_130 : decode cX8_shoe 130 = .ok (.ifCond .eq 35, 3) := by decide +kernel
theorem dX8_shoe_133 : decode cX8_shoe 133 = .ok (.iload_n 3, 1) := by decide +kernel
theorem dX8_shoe_134 : decode cX8_shoe 134 = .ok (.iload 8, 2) := by decide +kernel
theorem dX8_shoe_136 : decode cX8_shoe 136 = .ok (.invokestatic 245, 3) := by decide +kernel
theorem dX8_shoe_139 : decode cX8_shoe 139 = .ok (.iload 4, 2) := by decide +kernel
theorem dX8_shoe_141 : decode cX8_shoe 141 = .ok (.i2l, 1) := by decide +kernel
theorem dX8_shoe_142 : decode cX8_shoe 142 = .ok (.iload 8, 2) := by decide +kernel
theorem dX8_shoe_144 : decode cX8_shoe 144 = .ok (.invokestatic 195, 3) := by decide +kernel
theorem dX8_shoe_147 : decode cX8_shoe 147 = .ok (.lmul, 1) := by decide +kernel
theorem dX8_shoe_148 : decode cX8_shoe 148 = .ok (.bipush 10, 2) := by decide +kernel
theorem dX8_shoe_150 : decode cX8_shoe 150 = .ok (.iload 4, 2) := by decide +kernel
theorem dX8_shoe_152 : decode cX8_shoe 152 = .ok (.isub, 1) := by decide +kernel
theorem dX8_shoe_153 : decode cX8_shoe 153 = .ok (.i2l, 1) := by decide +kernel
theorem dX8_shoe_154 : decode cX8_shoe 154 = .ok (.iload_n 3, 1) := by decide +kernel
theorem dX8_shoe_155 : decode cX8_shoe 155 = .ok (.iload 8, 2) := by decide +kernel
theorem dX8_shoe_157 : decode cX8_shoe 157 = .ok (.isub, 1) := by decide +kernel
theorem dX8_shoe_158 : decode cX8_shoe 158 = .ok (.invokestatic 195, 3) := by decide +kernel
theorem dX8_shoe_161 : decode cX8_shoe 161 = .ok (.lmul, 1) := by decide +kernel
theorem dX8_shoe_162 : decode cX8_shoe 162 = .ok (.goto 4, 3) := by decide +kernel
theorem dX8_shoe_165 : decode cX8_shoe 165 = .ok (.lconst 0, 1) := by decide +kernel
theorem dX8_shoe_166 : decode cX8_shoe 166 = .ok (.ladd, 1) := by decide +kernel
theorem dX8_shoe_167 : decode cX8_shoe 167 = .ok (.lstore 6, 2) := by decide +kernel
theorem dX8_shoe_169 : decode cX8_shoe 169 = .ok (.iinc 8 1, 3) := by decide +kernel
theorem dX8_shoe_172 : decode cX8_shoe 172 = .ok (.goto (-108), 3) := by decide +kernel
theorem dX8_shoe_175 : decode cX8_shoe 175 = .ok (.lload 6, 2) := by decide +kernel
theorem dX8_shoe_177 : decode cX8_shoe 177 = .ok (.ldc2_w 175, 3) := by decide +kernel
theorem dX8_shoe_180 : decode cX8_shoe 180 = .ok (.iload_n 3, 1) := by decide +kernel
theorem dX8_shoe_181 : decode cX8_shoe 181 = .ok (.invokestatic 195, 3) := by decide +kernel
theorem dX8_shoe_184 : decode cX8_shoe 184 = .ok (.iload 5, 2) := by decide +kernel
theorem dX8_shoe_186 : decode cX8_shoe 186 = .ok (.invokestatic 199, 3) := by decide +kernel
theorem dX8_shoe_189 : decode cX8_shoe 189 = .ok (.lreturn, 1) := by decide +kernel
theorem dX8_callOff_0 : decode cX8_callOff 0 = .ok (.aload_n 0, 1) := by decide +kernel
theorem dX8_callOff_1 : decode cX8_callOff 1 = .ok (.iconst 0, 1) := by decide +kernel
theorem dX8_callOff_2 : decode cX8_callOff 2 = .ok (.putfield 50, 3) := by decide +kernel
theorem dX8_callOff_5 : decode cX8_callOff 5 = .ok (.iload_n 1, 1) := by decide +kernel
theorem dX8_callOff_6 : decode cX8_callOff 6 = .ok (.iconst 1, 1) := by decide +kernel
theorem dX8_callOff_7 : decode cX8_callOff 7 = .ok (.bipush 6, 2) := by decide +kernel
theorem dX8_callOff_9 : decode cX8_callOff 9 = .ok (.invokestatic 54, 3) := by decide +kernel
theorem dX8_callOff_12 : decode cX8_callOff 12 = .ok (.ifCond .eq 42, 3) := by decide +kernel
theorem dX8_callOff_15 : decode cX8_callOff 15 = .ok (.iload_n 2, 1) := by decide +kernel
theorem dX8_callOff_16 : decode cX8_callOff 16 = .ok (.iconst 0, 1) := by decide +kernel
theorem dX8_callOff_17 : decode cX8_callOff 17 = .ok (.bipush 10, 2) := by decide +kernel
theorem dX8_callOff_19 : decode cX8_callOff 19 = .ok (.invokestatic 54, 3) := by decide +kernel
theorem dX8_callOff_22 : decode cX8_callOff 22 = .ok (.ifCond .eq 32, 3) := by decide +kernel
theorem dX8_callOff_25 : decode cX8_callOff 25 = .ok (.iload_n 3, 1) := by decide +kernel
theorem dX8_callOff_26 : decode cX8_callOff 26 = .ok (.iconst 0, 1) := by decide +kernel
theorem dX8_callOff_27 : decode cX8_callOff 27 = .ok (.bipush 99, 2) := by decide +kernel
theorem dX8_callOff_29 : decode cX8_callOff 29 = .ok (.invokestatic 54, 3) := by decide +kernel
theorem dX8_callOff_32 : decode cX8_callOff 32 = .ok (.ifCond .eq 22, 3) := by decide +kernel
theorem dX8_callOff_35 : decode cX8_callOff 35 = .ok (.iload 4, 2) := by decide +kernel
theorem dX8_callOff_37 : decode cX8_callOff 37 = .ok (.iconst 0, 1) := by decide +kernel
theorem dX8_callOff_38 : decode cX8_callOff 38 = .ok (.bipush 99, 2) := by decide +kernel
theorem dX8_callOff_40 : decode cX8_callOff 40 = .ok (.invokestatic 54, 3) := by decide +kernel
theorem dX8_callOff_43 : decode cX8_callOff 43 = .ok (.ifCond .eq 11, 3) := by decide +kernel
theorem dX8_callOff_46 : decode cX8_callOff 46 = .ok (.iload 5, 2) := by decide +kernel
theorem dX8_callOff_48 : decode cX8_callOff 48 = .ok (.invokestatic 188, 3) := by decide +kernel
theorem dX8_callOff_51 : decode cX8_callOff 51 = .ok (.ifCond .ne 7, 3) := by decide +kernel
theorem dX8_callOff_54 : decode cX8_callOff 54 = .ok (.ldc2_w 243, 3) := by decide +kernel
theorem dX8_callOff_57 : decode cX8_callOff 57 = .ok (.lreturn, 1) := by decide +kernel
theorem dX8_callOff_58 : decode cX8_callOff 58 = .ok (.lconst 0, 1) := by decide +kernel
theorem dX8_callOff_59 : decode cX8_callOff 59 = .ok (.lstore 6, 2) := by decide +kernel
theorem dX8_callOff_61 : decode cX8_callOff 61 = .ok (.lconst 1, 1) := by decide +kernel
theorem dX8_callOff_62 : decode cX8_callOff 62 = .ok (.lstore 8, 2) := by decide +kernel
theorem dX8_callOff_64 : decode cX8_callOff 64 = .ok (.iconst 0, 1) := by decide +kernel
theorem dX8_callOff_65 : decode cX8_callOff 65 = .ok (.istore 10, 2) := by decide +kernel
theorem dX8_callOff_67 : decode cX8_callOff 67 = .ok (.iload 10, 2) := by decide +kernel
theorem dX8_callOff_69 : decode cX8_callOff 69 = .ok (.iload_n 1, 1) := by decide +kernel
theorem dX8_callOff_70 : decode cX8_callOff 70 = .ok (.if_icmp .ge 57, 3) := by decide +kernel
theorem dX8_callOff_73 : decode cX8_callOff 73 = .ok (.iload_n 2, 1) := by decide +kernel
theorem dX8_callOff_74 : decode cX8_callOff 74 = .ok (.iload_n 3, 1) := by decide +kernel
theorem dX8_callOff_75 : decode cX8_callOff 75 = .ok (.imul, 1) := by decide +kernel
theorem dX8_callOff_76 : decode cX8_callOff 76 = .ok (.i2l, 1) := by decide +kernel
theorem dX8_callOff_77 : decode cX8_callOff 77 = .ok (.lload 8, 2) := by decide +kernel
theorem dX8_callOff_79 : decode cX8_callOff 79 = .ok (.lmul, 1) := by decide +kernel
theorem dX8_callOff_80 : decode cX8_callOff 80 = .ok (.bipush 10, 2) := by decide +kernel
theorem dX8_callOff_82 : decode cX8_callOff 82 = .ok (.iload_n 2, 1) := by decide +kernel
theorem dX8_callOff_83 : decode cX8_callOff 83 = .ok (.isub, 1) := by decide +kernel
theorem dX8_callOff_84 : decode cX8_callOff 84 = .ok (.i2l, 1) := by decide +kernel
theorem dX8_callOff_85 : decode cX8_callOff 85 = .ok (.lload 6, 2) := by decide +kernel
theorem dX8_callOff_87 : decode cX8_callOff 87 = .ok (.iload 4, 2) := by decide +kernel
theorem dX8_callOff_89 : decode cX8_callOff 89 = .ok (.i2l, 1) := by decide +kernel
theorem dX8_callOff_90 : decode cX8_callOff 90 = .ok (.lload 8, 2) := by decide +kernel
theorem dX8_callOff_92 : decode cX8_callOff 92 = .ok (.lmul, 1) := by decide +kernel
theorem dX8_callOff_93 : decode cX8_callOff 93 = .ok (.lsub, 1) := by decide +kernel
theorem dX8_callOff_94 : decode cX8_callOff 94 = .ok (.lmul, 1) := by decide +kernel
theorem dX8_callOff_95 : decode cX8_callOff 95 = .ok (.ladd, 1) := by decide +kernel
theorem dX8_callOff_96 : decode cX8_callOff 96 = .ok (.lstore 11, 2) := by decide +kernel
theorem dX8_callOff_98 : decode cX8_callOff 98 = .ok (.lload 11, 2) := by decide +kernel
theorem dX8_callOff_100 : decode cX8_callOff 100 = .ok (.lconst 0, 1) := by decide +kernel
theorem dX8_callOff_101 : decode cX8_callOff 101 = .ok (.lcmp, 1) := by decide +kernel
theorem dX8_callOff_102 : decode cX8_callOff 102 = .ok (.ifCond .le 8, 3) := by decide +kernel
theorem dX8_callOff_105 : decode cX8_callOff 105 = .ok (.lload 11, 2) := by decide +kernel
theorem dX8_callOff_107 : decode cX8_callOff 107 = .ok (.goto 4, 3) := by decide +kernel
theorem dX8_callOff_110 : decode cX8_callOff 110 = .ok (.lconst 0, 1) := by decide +kernel
theorem dX8_callOff_111 : decode cX8_callOff 111 = .ok (.lstore 6, 2) := by decide +kernel
theorem dX8_callOff_113 : decode cX8_callOff 113 = .ok (.lload 8, 2) := by decide +kernel
theorem dX8_callOff_115 : decode cX8_callOff 115 = .ok (.ldc2_w 175, 3) := by decide +kernel
theorem dX8_callOff_118 : decode cX8_callOff 118 = .ok (.lmul, 1) := by decide +kernel
theorem dX8_callOff_119 : decode cX8_callOff 119 = .ok (.lstore 8, 2) := by decide +kernel
theorem dX8_callOff_121 : decode cX8_callOff 121 = .ok (.iinc 10 1, 3) := by decide +kernel
theorem dX8_callOff_124 : decode cX8_callOff 124 = .ok (.goto (-57), 3) := by decide +kernel
theorem dX8_callOff_127 : decode cX8_callOff 127 = .ok (.lload 6, 2) := by decide +kernel
theorem dX8_callOff_129 : decode cX8_callOff 129 = .ok (.lload 8, 2) := by decide +kernel
theorem dX8_callOff_131 : decode cX8_callOff 131 = .ok (.iload 5, 2) := by decide +kernel
theorem dX8_callOff_133 : decode cX8_callOff 133 = .ok (.invokestatic 199, 3) := by decide +kernel
theorem dX8_callOff_136 : decode cX8_callOff 136 = .ok (.lreturn, 1) := by decide +kernel
theorem dX8_seen_0 : decode cX8_seen 0 = .ok (.aload_n 0, 1) := by decide +kernel
theorem dX8_seen_1 : decode cX8_seen 1 = .ok (.iconst 0, 1) := by decide +kernel
theorem dX8_seen_2 : decode cX8_seen 2 = .ok (.putfield 50, 3) := by decide +kernel
theorem dX8_seen_5 : decode cX8_seen 5 = .ok (.aload_n 0, 1) := by decide +kernel
theorem dX8_seen_6 : decode cX8_seen 6 = .ok (.iload_n 1, 1) := by decide +kernel
theorem dX8_seen_7 : decode cX8_seen 7 = .ok (.invokevirtual 152, 3) := by decide +kernel
theorem dX8_seen_10 : decode cX8_seen 10 = .ok (.ifCond .eq 11, 3) := by decide +kernel
theorem dX8_seen_13 : decode cX8_seen 13 = .ok (.aload_n 0, 1) := by decide +kernel
theorem dX8_seen_14 : decode cX8_seen 14 = .ok (.iload_n 2, 1) := by decide +kernel
theorem dX8_seen_15 : decode cX8_seen 15 = .ok (.invokevirtual 143, 3) := by decide +kernel
theorem dX8_seen_18 : decode cX8_seen 18 = .ok (.ifCond .ne 6, 3) := by decide +kernel
theorem dX8_seen_21 : decode cX8_seen 21 = .ok (.bipush (-2), 2) := by decide +kernel
theorem dX8_seen_23 : decode cX8_seen 23 = .ok (.ireturn, 1) := by decide +kernel
theorem dX8_seen_24 : decode cX8_seen 24 = .ok (.aload_n 0, 1) := by decide +kernel
theorem dX8_seen_25 : decode cX8_seen 25 = .ok (.getfield 140, 3) := by decide +kernel
theorem dX8_seen_28 : decode cX8_seen 28 = .ok (.bipush 6, 2) := by decide +kernel
theorem dX8_seen_30 : decode cX8_seen 30 = .ok (.if_icmp .ne 6, 3) := by decide +kernel
theorem dX8_seen_33 : decode cX8_seen 33 = .ok (.bipush (-5), 2) := by decide +kernel
theorem dX8_seen_35 : decode cX8_seen 35 = .ok (.ireturn, 1) := by decide +kernel
theorem dX8_seen_36 : decode cX8_seen 36 = .ok (.aload_n 0, 1) := by decide +kernel
theorem dX8_seen_37 : decode cX8_seen 37 = .ok (.getfield 38, 3) := by decide +kernel
theorem dX8_seen_40 : decode cX8_seen 40 = .ok (.aload_n 0, 1) := by decide +kernel
theorem dX8_seen_41 : decode cX8_seen 41 = .ok (.getfield 140, 3) := by decide +kernel
theorem dX8_seen_44 : decode cX8_seen 44 = .ok (.iload_n 1, 1) := by decide +kernel
theorem dX8_seen_45 : decode cX8_seen 45 = .ok (.iastore, 1) := by decide +kernel
theorem dX8_seen_46 : decode cX8_seen 46 = .ok (.aload_n 0, 1) := by decide +kernel
theorem dX8_seen_47 : decode cX8_seen 47 = .ok (.getfield 41, 3) := by decide +kernel
theorem dX8_seen_50 : decode cX8_seen 50 = .ok (.aload_n 0, 1) := by decide +kernel
theorem dX8_seen_51 : decode cX8_seen 51 = .ok (.getfield 140, 3) := by decide +kernel
theorem dX8_seen_54 : decode cX8_seen 54 = .ok (.iload_n 2, 1) := by decide +kernel
theorem dX8_seen_55 : decode cX8_seen 55 = .ok (.iastore, 1) := by decide +kernel
theorem dX8_seen_56 : decode cX8_seen 56 = .ok (.aload_n 0, 1) := by decide +kernel
theorem dX8_seen_57 : decode cX8_seen 57 = .ok (.dup, 1) := by decide +kernel
theorem dX8_seen_58 : decode cX8_seen 58 = .ok (.getfield 140, 3) := by decide +kernel
theorem dX8_seen_61 : decode cX8_seen 61 = .ok (.iconst 1, 1) := by decide +kernel
theorem dX8_seen_62 : decode cX8_seen 62 = .ok (.iadd, 1) := by decide +kernel
theorem dX8_seen_63 : decode cX8_seen 63 = .ok (.putfield 140, 3) := by decide +kernel
theorem dX8_seen_66 : decode cX8_seen 66 = .ok (.aload_n 0, 1) := by decide +kernel
theorem dX8_seen_67 : decode cX8_seen 67 = .ok (.getfield 140, 3) := by decide +kernel
theorem dX8_seen_70 : decode cX8_seen 70 = .ok (.ireturn, 1) := by decide +kernel
theorem dX8_forget_0 : decode cX8_forget 0 = .ok (.aload_n 0, 1) := by decide +kernel
theorem dX8_forget_1 : decode cX8_forget 1 = .ok (.iconst 0, 1) := by decide +kernel
theorem dX8_forget_2 : decode cX8_forget 2 = .ok (.putfield 50, 3) := by decide +kernel
theorem dX8_forget_5 : decode cX8_forget 5 = .ok (.aload_n 0, 1) := by decide +kernel
theorem dX8_forget_6 : decode cX8_forget 6 = .ok (.getfield 140, 3) := by decide +kernel
theorem dX8_forget_9 : decode cX8_forget 9 = .ok (.istore_n 1, 1) := by decide +kernel
theorem dX8_forget_10 : decode cX8_forget 10 = .ok (.aload_n 0, 1) := by decide +kernel
theorem dX8_forget_11 : decode cX8_forget 11 = .ok (.iconst 0, 1) := by decide +kernel
theorem dX8_forget_12 : decode cX8_forget 12 = .ok (.putfield 140, 3) := by decide +kernel
theorem dX8_forget_15 : decode cX8_forget 15 = .ok (.iload_n 1, 1) := by decide +kernel
theorem dX8_forget_16 : decode cX8_forget 16 = .ok (.ireturn, 1) := by decide +kernel
theorem dX8_couldBe_0 : decode cX8_couldBe 0 = .ok (.iconst 1, 1) := by decide +kernel
theorem dX8_couldBe_1 : decode cX8_couldBe 1 = .ok (.istore_n 1, 1) := by decide +kernel
theorem dX8_couldBe_2 : decode cX8_couldBe 2 = .ok (.iconst 0, 1) := by decide +kernel
theorem dX8_couldBe_3 : decode cX8_couldBe 3 = .ok (.istore_n 2, 1) := by decide +kernel
theorem dX8_couldBe_4 : decode cX8_couldBe 4 = .ok (.iload_n 2, 1) := by decide +kernel
theorem dX8_couldBe_5 : decode cX8_couldBe 5 = .ok (.aload_n 0, 1) := by decide +kernel
theorem dX8_couldBe_6 : decode cX8_couldBe 6 = .ok (.getfield 140, 3) := by decide +kernel
theorem dX8_couldBe_9 : decode cX8_couldBe 9 = .ok (.if_icmp .ge 102, 3) := by decide +kernel
theorem dX8_couldBe_12 : decode cX8_couldBe 12 = .ok (.iload_n 1, 1) := by decide +kernel
theorem dX8_couldBe_13 : decode cX8_couldBe 13 = .ok (.ifCond .eq 46, 3) := by decide +kernel
theorem dX8_couldBe_16 : decode cX8_couldBe 16 = .ok (.aload_n 0, 1) := by decide +kernel
theorem dX8_couldBe_17 : decode cX8_couldBe 17 = .ok (.getfield 44, 3) := by decide +kernel
theorem dX8_couldBe_20 : decode cX8_couldBe 20 = .ok (.aload_n 0, 1) := by decide +kernel
theorem dX8_couldBe_21 : decode cX8_couldBe 21 = .ok (.getfield 38, 3) := by decide +kernel
theorem dX8_couldBe_24 : decode cX8_couldBe 24 = .ok (.iload_n 2, 1) := by decide +kernel
theorem dX8_couldBe_25 : decode cX8_couldBe 25 = .ok (.iaload, 1) := by decide +kernel
theorem dX8_couldBe_26 : decode cX8_couldBe 26 = .ok (.iaload, 1) := by decide +kernel
theorem dX8_couldBe_27 : decode cX8_couldBe 27 = .ok (.aload_n 0, 1) := by decide +kernel
theorem dX8_couldBe_28 : decode cX8_couldBe 28 = .ok (.getfield 41, 3) := by decide +kernel
theorem dX8_couldBe_31 : decode cX8_couldBe 31 = .ok (.iload_n 2, 1) := by decide +kernel
theorem dX8_couldBe_32 : decode cX8_couldBe 32 = .ok (.iaload, 1) := by decide +kernel
theorem dX8_couldBe_33 : decode cX8_couldBe 33 = .ok (.if_icmp .ne 26, 3) := by decide +kernel
theorem dX8_couldBe_36 : decode cX8_couldBe 36 = .ok (.aload_n 0, 1) := by decide +kernel
theorem dX8_couldBe_37 : decode cX8_couldBe 37 = .ok (.aload_n 0, 1) := by decide +kernel
theorem dX8_couldBe_38 : decode cX8_couldBe 38 = .ok (.getfield 38, 3) := by decide +kernel
theorem dX8_couldBe_41 : decode cX8_couldBe 41 = .ok (.iload_n 2, 1) := by decide +kernel
theorem dX8_couldBe_42 : decode cX8_couldBe 42 = .ok (.iaload, 1) := by decide +kernel
theorem dX8_couldBe_43 : decode cX8_couldBe 43 = .ok (.aload_n 0, 1) := by decide +kernel
theorem dX8_couldBe_44 : decode cX8_couldBe 44 = .ok (.getfield 41, 3) := by decide +kernel
theorem dX8_couldBe_47 : decode cX8_couldBe 47 = .ok (.iload_n 2, 1) := by decide +kernel
theorem dX8_couldBe_48 : decode cX8_couldBe 48 = .ok (.iaload, 1) := by decide +kernel
theorem dX8_couldBe_49 : decode cX8_couldBe 49 = .ok (.invokevirtual 159, 3) := by decide +kernel
theorem dX8_couldBe_52 : decode cX8_couldBe 52 = .ok (.ifCond .le 7, 3) := by decide +kernel
theorem dX8_couldBe_55 : decode cX8_couldBe 55 = .ok (.iconst 1, 1) := by decide +kernel
theorem dX8_couldBe_56 : decode cX8_couldBe 56 = .ok (.goto 4, 3) := by decide +kernel
theorem dX8_couldBe_59 : decode cX8_couldBe 59 = .ok (.iconst 0, 1) := by decide +kernel
theorem dX8_couldBe_60 : decode cX8_couldBe 60 = .ok (.istore_n 1, 1) := by decide +kernel
theorem dX8_couldBe_61 : decode cX8_couldBe 61 = .ok (.iconst 0, 1) := by decide +kernel
theorem dX8_couldBe_62 : decode cX8_couldBe 62 = .ok (.istore_n 3, 1) := by decide +kernel
theorem dX8_couldBe_63 : decode cX8_couldBe 63 = .ok (.iload_n 3, 1) := by decide +kernel
theorem dX8_couldBe_64 : decode cX8_couldBe 64 = .ok (.aload_n 0, 1) := by decide +kernel
theorem dX8_couldBe_65 : decode cX8_couldBe 65 = .ok (.getfield 38, 3) := by decide +kernel
theorem dX8_couldBe_68 : decode cX8_couldBe 68 = .ok (.iload_n 2, 1) := by decide +kernel
theorem dX8_couldBe_69 : decode cX8_couldBe 69 = .ok (.iaload, 1) := by decide +kernel
theorem dX8_couldBe_70 : decode cX8_couldBe 70 = .ok (.if_icmp .ge 35, 3) := by decide +kernel
theorem dX8_couldBe_73 : decode cX8_couldBe 73 = .ok (.iload_n 1, 1) := by decide +kernel
theorem dX8_couldBe_74 : decode cX8_couldBe 74 = .ok (.ifCond .eq 23, 3) := by decide +kernel
theorem dX8_couldBe_77 : decode cX8_couldBe 77 = .ok (.aload_n 0, 1) := by decide +kernel
theorem dX8_couldBe_78 : decode cX8_couldBe 78 = .ok (.iload_n 3, 1) := by decide +kernel
theorem dX8_couldBe_79 : decode cX8_couldBe 79 = .ok (.aload_n 0, 1) := by decide +kernel
theorem dX8_couldBe_80 : decode cX8_couldBe 80 = .ok (.getfield 44, 3) := by decide +kernel
theorem dX8_couldBe_83 : decode cX8_couldBe 83 = .ok (.iload_n 3, 1) := by decide +kernel
theorem dX8_couldBe_84 : decode cX8_couldBe 84 = .ok (.iaload, 1) := by decide +kernel
theorem dX8_couldBe_85 : decode cX8_couldBe 85 = .ok (.invokevirtual 159, 3) := by decide +kernel
theorem dX8_couldBe_88 : decode cX8_couldBe 88 = .ok (.bipush 10, 2) := by decide +kernel
theorem dX8_couldBe_90 : decode cX8_couldBe 90 = .ok (.if_icmp .ge 7, 3) := by decide +kernel
theorem dX8_couldBe_93 : decode cX8_couldBe 93 = .ok (.iconst 1, 1) := by decide +kernel
theorem dX8_couldBe_94 : decode cX8_couldBe 94 = .ok (.goto 4, 3) := by decide +kernel
theorem dX8_couldBe_97 : decode cX8_couldBe 97 = .ok (.iconst 0, 1) := by decide +kernel
theorem dX8_couldBe_98 : decode cX8_couldBe 98 = .ok (.istore_n 1, 1) := by decide +kernel
theorem dX8_couldBe_99 : decode cX8_couldBe 99 = .ok (.iinc 3 1, 3) := by decide +kernel
theorem dX8_couldBe_102 : decode cX8_couldBe 102 = .ok (.goto (-39), 3) := by decide +kernel
theorem dX8_couldBe_105 : decode cX8_couldBe 105 = .ok (.iinc 2 1, 3) := by decide +kernel
theorem dX8_couldBe_108 : decode cX8_couldBe 108 = .ok (.goto (-104), 3) := by decide +kernel
theorem dX8_couldBe_111 : decode cX8_couldBe 111 = .ok (.iload_n 1, 1) := by decide +kernel
theorem dX8_couldBe_112 : decode cX8_couldBe 112 = .ok (.ireturn, 1) := by decide +kernel
theorem dX8_rowSet_0 : decode cX8_rowSet 0 = .ok (.iconst 0, 1) := by decide +kernel
theorem dX8_rowSet_1 : decode cX8_rowSet 1 = .ok (.istore_n 1, 1) := by decide +kernel
theorem dX8_rowSet_2 : decode cX8_rowSet 2 = .ok (.iconst 0, 1) := by decide +kernel
theorem dX8_rowSet_3 : decode cX8_rowSet 3 = .ok (.istore_n 2, 1) := by decide +kernel
theorem dX8_rowSet_4 : decode cX8_rowSet 4 = .ok (.iload_n 2, 1) := by decide +kernel
theorem dX8_rowSet_5 : decode cX8_rowSet 5 = .ok (.aload_n 0, 1) := by decide +kernel
theorem dX8_rowSet_6 : decode cX8_rowSet 6 = .ok (.getfield 22, 3) := by decide +kernel
theorem dX8_rowSet_9 : decode cX8_rowSet 9 = .ok (.iconst 1, 1) := by decide +kernel
theorem dX8_rowSet_10 : decode cX8_rowSet 10 = .ok (.iaload, 1) := by decide +kernel
theorem dX8_rowSet_11 : decode cX8_rowSet 11 = .ok (.if_icmp .ge 20, 3) := by decide +kernel
theorem dX8_rowSet_14 : decode cX8_rowSet 14 = .ok (.iload_n 1, 1) := by decide +kernel
theorem dX8_rowSet_15 : decode cX8_rowSet 15 = .ok (.iconst 1, 1) := by decide +kernel
theorem dX8_rowSet_16 : decode cX8_rowSet 16 = .ok (.aload_n 0, 1) := by decide +kernel
theorem dX8_rowSet_17 : decode cX8_rowSet 17 = .ok (.getfield 44, 3) := by decide +kernel
theorem dX8_rowSet_20 : decode cX8_rowSet 20 = .ok (.iload_n 2, 1) := by decide +kernel
theorem dX8_rowSet_21 : decode cX8_rowSet 21 = .ok (.iaload, 1) := by decide +kernel
theorem dX8_rowSet_22 : decode cX8_rowSet 22 = .ok (.ishl, 1) := by decide +kernel
theorem dX8_rowSet_23 : decode cX8_rowSet 23 = .ok (.ior, 1) := by decide +kernel
theorem dX8_rowSet_24 : decode cX8_rowSet 24 = .ok (.istore_n 1, 1) := by decide +kernel
theorem dX8_rowSet_25 : decode cX8_rowSet 25 = .ok (.iinc 2 1, 3) := by decide +kernel
theorem dX8_rowSet_28 : decode cX8_rowSet 28 = .ok (.goto (-24), 3) := by decide +kernel
theorem dX8_rowSet_31 : decode cX8_rowSet 31 = .ok (.iload_n 1, 1) := by decide +kernel
theorem dX8_rowSet_32 : decode cX8_rowSet 32 = .ok (.ireturn, 1) := by decide +kernel
theorem dX8_teams_0 : decode cX8_teams 0 = .ok (.aload_n 0, 1) := by decide +kernel
theorem dX8_teams_1 : decode cX8_teams 1 = .ok (.iconst 0, 1) := by decide +kernel
theorem dX8_teams_2 : decode cX8_teams 2 = .ok (.putfield 50, 3) := by decide +kernel
theorem dX8_teams_5 : decode cX8_teams 5 = .ok (.iload_n 1, 1) := by decide +kernel
theorem dX8_teams_6 : decode cX8_teams 6 = .ok (.iconst 0, 1) := by decide +kernel
theorem dX8_teams_7 : decode cX8_teams 7 = .ok (.iconst 1, 1) := by decide +kernel
theorem dX8_teams_8 : decode cX8_teams 8 = .ok (.invokestatic 54, 3) := by decide +kernel
theorem dX8_teams_11 : decode cX8_teams 11 = .ok (.ifCond .ne 6, 3) := by decide +kernel
theorem dX8_teams_14 : decode cX8_teams 14 = .ok (.bipush (-3), 2) := by decide +kernel
theorem dX8_teams_16 : decode cX8_teams 16 = .ok (.ireturn, 1) := by decide +kernel
theorem dX8_teams_17 : decode cX8_teams 17 = .ok (.iconst 0, 1) := by decide +kernel
theorem dX8_teams_18 : decode cX8_teams 18 = .ok (.istore_n 2, 1) := by decide +kernel
theorem dX8_teams_19 : decode cX8_teams 19 = .ok (.bipush 63, 2) := by decide +kernel
theorem dX8_teams_21 : decode cX8_teams 21 = .ok (.istore_n 3, 1) := by decide +kernel
theorem dX8_teams_22 : decode cX8_teams 22 = .ok (.iconst 0, 1) := by decide +kernel
theorem dX8_teams_23 : decode cX8_teams 23 = .ok (.istore 4, 2) := by decide +kernel
theorem dX8_teams_25 : decode cX8_teams 25 = .ok (.iload 4, 2) := by decide +kernel
theorem dX8_teams_27 : decode cX8_teams 27 = .ok (.aload_n 0, 1) := by decide +kernel
theorem dX8_teams_28 : decode cX8_teams 28 = .ok (.getfield 22, 3) := by decide +kernel
theorem dX8_teams_31 : decode cX8_teams 31 = .ok (.iconst 0, 1) := by decide +kernel
theorem dX8_teams_32 : decode cX8_teams 32 = .ok (.iaload, 1) := by decide +kernel
theorem dX8_teams_33 : decode cX8_teams 33 = .ok (.aload_n 0, 1) := by decide +kernel
theorem dX8_teams_34 : decode cX8_teams 34 = .ok (.getfield 22, 3) := by decide +kernel
theorem dX8_teams_37 : decode cX8_teams 37 = .ok (.iconst 1, 1) := by decide +kernel
theorem dX8_teams_38 : decode cX8_teams 38 = .ok (.iaload, 1) := by decide +kernel
theorem dX8_teams_39 : decode cX8_teams 39 = .ok (.invokestatic 208, 3) := by decide +kernel
theorem dX8_teams_42 : decode cX8_teams 42 = .ok (.if_icmp .ge 32, 3) := by decide +kernel
theorem dX8_teams_45 : decode cX8_teams 45 = .ok (.aload_n 0, 1) := by decide +kernel
theorem dX8_teams_46 : decode cX8_teams 46 = .ok (.iload 4, 2) := by decide +kernel
theorem dX8_teams_48 : decode cX8_teams 48 = .ok (.invokevirtual 211, 3) := by decide +kernel
theorem dX8_teams_51 : decode cX8_teams 51 = .ok (.aload_n 0, 1) := by decide +kernel
theorem dX8_teams_52 : decode cX8_teams 52 = .ok (.invokevirtual 249, 3) := by decide +kernel
theorem dX8_teams_55 : decode cX8_teams 55 = .ok (.ifCond .eq 13, 3) := by decide +kernel
theorem dX8_teams_58 : decode cX8_teams 58 = .ok (.iinc 2 1, 3) := by decide +kernel
theorem dX8_teams_61 : decode cX8_teams 61 = .ok (.iload_n 3, 1) := by decide +kernel
theorem dX8_teams_62 : decode cX8_teams 62 = .ok (.aload_n 0, 1) := by decide +kernel
theorem dX8_teams_63 : decode cX8_teams 63 = .ok (.invokevirtual 252, 3) := by decide +kernel
theorem dX8_teams_66 : decode cX8_teams 66 = .ok (.iand, 1) := by decide +kernel
theorem dX8_teams_67 : decode cX8_teams 67 = .ok (.istore_n 3, 1) := by decide +kernel
theorem dX8_teams_68 : decode cX8_teams 68 = .ok (.iinc 4 1, 3) := by decide +kernel
theorem dX8_teams_71 : decode cX8_teams 71 = .ok (.goto (-46), 3) := by decide +kernel
theorem dX8_teams_74 : decode cX8_teams 74 = .ok (.iload_n 1, 1) := by decide +kernel
theorem dX8_teams_75 : decode cX8_teams 75 = .ok (.ifCond .ne 7, 3) := by decide +kernel
theorem dX8_teams_78 : decode cX8_teams 78 = .ok (.iload_n 2, 1) := by decide +kernel
theorem dX8_teams_79 : decode cX8_teams 79 = .ok (.goto 12, 3) := by decide +kernel
theorem dX8_teams_82 : decode cX8_teams 82 = .ok (.iload_n 2, 1) := by decide +kernel
theorem dX8_teams_83 : decode cX8_teams 83 = .ok (.ifCond .ne 7, 3) := by decide +kernel
theorem dX8_teams_86 : decode cX8_teams 86 = .ok (.iconst 0, 1) := by decide +kernel
theorem dX8_teams_87 : decode cX8_teams 87 = .ok (.goto 4, 3) := by decide +kernel
theorem dX8_teams_90 : decode cX8_teams 90 = .ok (.iload_n 3, 1) := by decide +kernel
theorem dX8_teams_91 : decode cX8_teams 91 = .ok (.ireturn, 1) := by decide +kernel
theorem dX8_teamOf_0 : decode cX8_teamOf 0 = .ok (.aload_n 0, 1) := by decide +kernel
theorem dX8_teamOf_1 : decode cX8_teamOf 1 = .ok (.iconst 0, 1) := by decide +kernel
theorem dX8_teamOf_2 : decode cX8_teamOf 2 = .ok (.putfield 50, 3) := by decide +kernel
theorem dX8_teamOf_5 : decode cX8_teamOf 5 = .ok (.aload_n 0, 1) := by decide +kernel
theorem dX8_teamOf_6 : decode cX8_teamOf 6 = .ok (.iload_n 1, 1) := by decide +kernel
theorem dX8_teamOf_7 : decode cX8_teamOf 7 = .ok (.invokevirtual 152, 3) := by decide +kernel
theorem dX8_teamOf_10 : decode cX8_teamOf 10 = .ok (.ifCond .ne 6, 3) := by decide +kernel
theorem dX8_teamOf_13 : decode cX8_teamOf 13 = .ok (.bipush (-2), 2) := by decide +kernel
theorem dX8_teamOf_15 : decode cX8_teamOf 15 = .ok (.ireturn, 1) := by decide +kernel
theorem dX8_teamOf_16 : decode cX8_teamOf 16 = .ok (.iconst 0, 1) := by decide +kernel
theorem dX8_teamOf_17 : decode cX8_teamOf 17 = .ok (.istore_n 2, 1) := by decide +kernel
theorem dX8_teamOf_18 : decode cX8_teamOf 18 = .ok (.iload_n 2, 1) := by decide +kernel
theorem dX8_teamOf_19 : decode cX8_teamOf 19 = .ok (.aload_n 0, 1) := by decide +kernel
theorem dX8_teamOf_20 : decode cX8_teamOf 20 = .ok (.getfield 22, 3) := by decide +kernel
theorem dX8_teamOf_23 : decode cX8_teamOf 23 = .ok (.iconst 0, 1) := by decide +kernel
theorem dX8_teamOf_24 : decode cX8_teamOf 24 = .ok (.iaload, 1) := by decide +kernel
theorem dX8_teamOf_25 : decode cX8_teamOf 25 = .ok (.aload_n 0, 1) := by decide +kernel
theorem dX8_teamOf_26 : decode cX8_teamOf 26 = .ok (.getfield 22, 3) := by decide +kernel
theorem dX8_teamOf_29 : decode cX8_teamOf 29 = .ok (.iconst 1, 1) := by decide +kernel
theorem dX8_teamOf_30 : decode cX8_teamOf 30 = .ok (.iaload, 1) := by decide +kernel
theorem dX8_teamOf_31 : decode cX8_teamOf 31 = .ok (.invokestatic 208, 3) := by decide +kernel
theorem dX8_teamOf_34 : decode cX8_teamOf 34 = .ok (.if_icmp .ge 28, 3) := by decide +kernel
theorem dX8_teamOf_37 : decode cX8_teamOf 37 = .ok (.aload_n 0, 1) := by decide +kernel
theorem dX8_teamOf_38 : decode cX8_teamOf 38 = .ok (.iload_n 2, 1) := by decide +kernel
theorem dX8_teamOf_39 : decode cX8_teamOf 39 = .ok (.invokevirtual 211, 3) := by decide +kernel
theorem dX8_teamOf_42 : decode cX8_teamOf 42 = .ok (.aload_n 0, 1) := by decide +kernel
theorem dX8_teamOf_43 : decode cX8_teamOf 43 = .ok (.invokevirtual 249, 3) := by decide +kernel
theorem dX8_teamOf_46 : decode cX8_teamOf 46 = .ok (.ifCond .eq 10, 3) := by decide +kernel
theorem dX8_teamOf_49 : decode cX8_teamOf 49 = .ok (.aload_n 0, 1) := by decide +kernel
theorem dX8_teamOf_50 : decode cX8_teamOf 50 = .ok (.getfield 44, 3) := by decide +kernel
theorem dX8_teamOf_53 : decode cX8_teamOf 53 = .ok (.iload_n 1, 1) := by decide +kernel
theorem dX8_teamOf_54 : decode cX8_teamOf 54 = .ok (.iaload, 1) := by decide +kernel
theorem dX8_teamOf_55 : decode cX8_teamOf 55 = .ok (.ireturn, 1) := by decide +kernel
theorem dX8_teamOf_56 : decode cX8_teamOf 56 = .ok (.iinc 2 1, 3) := by decide +kernel
theorem dX8_teamOf_59 : decode cX8_teamOf 59 = .ok (.goto (-41), 3) := by decide +kernel
theorem dX8_teamOf_62 : decode cX8_teamOf 62 = .ok (.iconst (-1), 1) := by decide +kernel
theorem dX8_teamOf_63 : decode cX8_teamOf 63 = .ok (.ireturn, 1) := by decide +kernel
theorem dX8_count_0 : decode cX8_count 0 = .ok (.aload_n 0, 1) := by decide +kernel
theorem dX8_count_1 : decode cX8_count 1 = .ok (.iconst 0, 1) := by decide +kernel
theorem dX8_count_2 : decode cX8_count 2 = .ok (.putfield 50, 3) := by decide +kernel
theorem dX8_count_5 : decode cX8_count 5 = .ok (.iload_n 1, 1) := by decide +kernel
theorem dX8_count_6 : decode cX8_count 6 = .ok (.iconst 0, 1) := by decide +kernel
theorem dX8_count_7 : decode cX8_count 7 = .ok (.bipush 10, 2) := by decide +kernel
theorem dX8_count_9 : decode cX8_count 9 = .ok (.invokestatic 54, 3) := by decide +kernel
theorem dX8_count_12 : decode cX8_count 12 = .ok (.ifCond .ne 6, 3) := by decide +kernel
theorem dX8_count_15 : decode cX8_count 15 = .ok (.bipush (-3), 2) := by decide +kernel
theorem dX8_count_17 : decode cX8_count 17 = .ok (.ireturn, 1) := by decide +kernel
theorem dX8_count_18 : decode cX8_count 18 = .ok (.iload_n 1, 1) := by decide +kernel
theorem dX8_count_19 : decode cX8_count 19 = .ok (.iconst 4, 1) := by decide +kernel
theorem dX8_count_20 : decode cX8_count 20 = .ok (.if_icmp .ge 10, 3) := by decide +kernel
theorem dX8_count_23 : decode cX8_count 23 = .ok (.aload_n 0, 1) := by decide +kernel
theorem dX8_count_24 : decode cX8_count 24 = .ok (.getfield 22, 3) := by decide +kernel
theorem dX8_count_27 : decode cX8_count 27 = .ok (.iload_n 1, 1) := by decide +kernel
theorem dX8_count_28 : decode cX8_count 28 = .ok (.iaload, 1) := by decide +kernel
theorem dX8_count_29 : decode cX8_count 29 = .ok (.ireturn, 1) := by decide +kernel
theorem dX8_count_30 : decode cX8_count 30 = .ok (.iload_n 1, 1) := by decide +kernel
theorem dX8_count_31 : decode cX8_count 31 = .ok (.bipush 7, 2) := by decide +kernel
theorem dX8_count_33 : decode cX8_count 33 = .ok (.if_icmp .ge 12, 3) := by decide +kernel
theorem dX8_count_36 : decode cX8_count 36 = .ok (.aload_n 0, 1) := by decide +kernel
theorem dX8_count_37 : decode cX8_count 37 = .ok (.getfield 25, 3) := by decide +kernel
theorem dX8_count_40 : decode cX8_count 40 = .ok (.iload_n 1, 1) := by decide +kernel
theorem dX8_count_41 : decode cX8_count 41 = .ok (.iconst 4, 1) := by decide +kernel
theorem dX8_count_42 : decode cX8_count 42 = .ok (.isub, 1) := by decide +kernel
theorem dX8_count_43 : decode cX8_count 43 = .ok (.iaload, 1) := by decide +kernel
theorem dX8_count_44 : decode cX8_count 44 = .ok (.ireturn, 1) := by decide +kernel
theorem dX8_count_45 : decode cX8_count 45 = .ok (.iload_n 1, 1) := by decide +kernel
theorem dX8_count_46 : decode cX8_count 46 = .ok (.bipush 7, 2) := by decide +kernel
theorem dX8_count_48 : decode cX8_count 48 = .ok (.if_icmp .ne 10, 3) := by decide +kernel
theorem dX8_count_51 : decode cX8_count 51 = .ok (.aload_n 0, 1) := by decide +kernel
theorem dX8_count_52 : decode cX8_count 52 = .ok (.invokevirtual 166, 3) := by decide +kernel
theorem dX8_count_55 : decode cX8_count 55 = .ok (.goto 33, 3) := by decide +kernel
theorem dX8_count_58 : decode cX8_count 58 = .ok (.iload_n 1, 1) := by decide +kernel
theorem dX8_count_59 : decode cX8_count 59 = .ok (.bipush 8, 2) := by decide +kernel
theorem dX8_count_61 : decode cX8_count 61 = .ok (.if_icmp .ne 10, 3) := by decide +kernel
theorem dX8_count_64 : decode cX8_count 64 = .ok (.aload_n 0, 1) := by decide +kernel
theorem dX8_count_65 : decode cX8_count 65 = .ok (.getfield 140, 3) := by decide +kernel
theorem dX8_count_68 : decode cX8_count 68 = .ok (.goto 20, 3) := by decide +kernel
theorem dX8_count_71 : decode cX8_count 71 = .ok (.iload_n 1, 1) := by decide +kernel
theorem dX8_count_72 : decode cX8_count 72 = .ok (.bipush 9, 2) := by decide +kernel
theorem dX8_count_74 : decode cX8_count 74 = .ok (.if_icmp .ne 10, 3) := by decide +kernel
theorem dX8_count_77 : decode cX8_count 77 = .ok (.aload_n 0, 1) := by decide +kernel
theorem dX8_count_78 : decode cX8_count 78 = .ok (.getfield 137, 3) := by decide +kernel
theorem dX8_count_81 : decode cX8_count 81 = .ok (.goto 7, 3) := by decide +kernel
theorem dX8_count_84 : decode cX8_count 84 = .ok (.aload_n 0, 1) := by decide +kernel
theorem dX8_count_85 : decode cX8_count 85 = .ok (.getfield 58, 3) := by decide +kernel
theorem dX8_count_88 : decode cX8_count 88 = .ok (.ireturn, 1) := by decide +kernel
