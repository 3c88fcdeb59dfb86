theorem dX7_init_0 : decode cX7_init 0 = .ok (.aload_n 0, 1) := by decide +kernel
theorem dX7_init_1 : decode cX7_init 1 = .ok (.invokespecial 1, 3) := by decide +kernel
theorem dX7_init_4 : decode cX7_init 4 = .ok (.aload_n 0, 1) := by decide +kernel
theorem dX7_init_5 : decode cX7_init 5 = .ok (.new 7, 3) := by decide +kernel
theorem dX7_init_8 : decode cX7_init 8 = .ok (.dup, 1) := by decide +kernel
theorem dX7_init_9 : decode cX7_init 9 = .ok (.invokespecial 9, 3) := by decide +kernel
theorem dX7_init_12 : decode cX7_init 12 = .ok (.putfield 10, 3) := by decide +kernel
theorem dX7_init_15 : decode cX7_init 15 = .ok (.aload_n 0, 1) := by decide +kernel
theorem dX7_init_16 : decode cX7_init 16 = .ok (.new 16, 3) := by decide +kernel
theorem dX7_init_19 : decode cX7_init 19 = .ok (.dup, 1) := by decide +kernel
theorem dX7_init_20 : decode cX7_init 20 = .ok (.invokespecial 18, 3) := by decide +kernel
theorem dX7_init_23 : decode cX7_init 23 = .ok (.putfield 19, 3) := by decide +kernel
theorem dX7_init_26 : decode cX7_init 26 = .ok (.aload_n 0, 1) := by decide +kernel
theorem dX7_init_27 : decode cX7_init 27 = .ok (.new 16, 3) := by decide +kernel
theorem dX7_init_30 : decode cX7_init 30 = .ok (.dup, 1) := by decide +kernel
theorem dX7_init_31 : decode cX7_init 31 = .ok (.invokespecial 18, 3) := by decide +kernel
theorem dX7_init_34 : decode cX7_init 34 = .ok (.putfield 23, 3) := by decide +kernel
theorem dX7_init_37 : decode cX7_init 37 = .ok (.aload_n 0, 1) := by decide +kernel
theorem dX7_init_38 : decode cX7_init 38 = .ok (.new 26, 3) := by decide +kernel
theorem dX7_init_41 : decode cX7_init 41 = .ok (.dup, 1) := by decide +kernel
theorem dX7_init_42 : decode cX7_init 42 = .ok (.invokespecial 28, 3) := by decide +kernel
theorem dX7_init_45 : decode cX7_init 45 = .ok (.putfield 29, 3) := by decide +kernel
theorem dX7_init_48 : decode cX7_init 48 = .ok (.aload_n 0, 1) := by decide +kernel
theorem dX7_init_49 : decode cX7_init 49 = .ok (.new 33, 3) := by decide +kernel
theorem dX7_init_52 : decode cX7_init 52 = .ok (.dup, 1) := by decide +kernel
theorem dX7_init_53 : decode cX7_init 53 = .ok (.invokespecial 35, 3) := by decide +kernel
theorem dX7_init_56 : decode cX7_init 56 = .ok (.putfield 36, 3) := by decide +kernel
theorem dX7_init_59 : decode cX7_init 59 = .ok (.aload_n 0, 1) := by decide +kernel
theorem dX7_init_60 : decode cX7_init 60 = .ok (.iconst 2, 1) := by decide +kernel
theorem dX7_init_61 : decode cX7_init 61 = .ok (.anewarray 26, 3) := by decide +kernel
theorem dX7_init_64 : decode cX7_init 64 = .ok (.putfield 40, 3) := by decide +kernel
theorem dX7_init_67 : decode cX7_init 67 = .ok (.iconst 0, 1) := by decide +kernel
theorem dX7_init_68 : decode cX7_init 68 = .ok (.istore_n 1, 1) := by decide +kernel
theorem dX7_init_69 : decode cX7_init 69 = .ok (.iload_n 1, 1) := by decide +kernel
theorem dX7_init_70 : decode cX7_init 70 = .ok (.iconst 2, 1) := by decide +kernel
theorem dX7_init_71 : decode cX7_init 71 = .ok (.if_icmp .ge 22, 3) := by decide +kernel
theorem dX7_init_74 : decode cX7_init 74 = .ok (.aload_n 0, 1) := by decide +kernel
theorem dX7_init_75 : decode cX7_init 75 = .ok (.getfield 40, 3) := by decide +kernel
theorem dX7_init_78 : decode cX7_init 78 = .ok (.iload_n 1, 1) := by decide +kernel
theorem dX7_init_79 : decode cX7_init 79 = .ok (.new 26, 3) := by decide +kernel
theorem dX7_init_82 : decode cX7_init 82 = .ok (.dup, 1) := by decide +kernel
theorem dX7_init_83 : decode cX7_init 83 = .ok (.invokespecial 28, 3) := by decide +kernel
theorem dX7_init_86 : decode cX7_init 86 = .ok (.aastore, 1) := by decide +kernel
theorem dX7_init_87 : decode cX7_init 87 = .ok (.iinc 1 1, 3) := by decide +kernel
theorem dX7_init_90 : decode cX7_init 90 = .ok (.goto (-21), 3) := by decide +kernel
theorem dX7_init_93 : decode cX7_init 93 = .ok (.aload_n 0, 1) := by decide +kernel
theorem dX7_init_94 : decode cX7_init 94 = .ok (.iconst 2, 1) := by decide +kernel
theorem dX7_init_95 : decode cX7_init 95 = .ok (.newarray .boolean, 2) := by decide +kernel
theorem dX7_init_97 : decode cX7_init 97 = .ok (.putfield 44, 3) := by decide +kernel
theorem dX7_init_100 : decode cX7_init 100 = .ok (.aload_n 0, 1) := by decide +kernel
theorem dX7_init_101 : decode cX7_init 101 = .ok (.new 48, 3) := by decide +kernel
theorem dX7_init_104 : decode cX7_init 104 = .ok (.dup, 1) := by decide +kernel
theorem dX7_init_105 : decode cX7_init 105 = .ok (.invokespecial 50, 3) := by decide +kernel
theorem dX7_init_108 : decode cX7_init 108 = .ok (.putfield 51, 3) := by decide +kernel
theorem dX7_init_111 : decode cX7_init 111 = .ok (.aload_n 0, 1) := by decide +kernel
theorem dX7_init_112 : decode cX7_init 112 = .ok (.new 55, 3) := by decide +kernel
theorem dX7_init_115 : decode cX7_init 115 = .ok (.dup, 1) := by decide +kernel
theorem dX7_init_116 : decode cX7_init 116 = .ok (.invokespecial 57, 3) := by decide +kernel
theorem dX7_init_119 : decode cX7_init 119 = .ok (.putfield 58, 3) := by decide +kernel
theorem dX7_init_122 : decode cX7_init 122 = .ok (.aload_n 0, 1) := by decide +kernel
theorem dX7_init_123 : decode cX7_init 123 = .ok (.new 62, 3) := by decide +kernel
theorem dX7_init_126 : decode cX7_init 126 = .ok (.dup, 1) := by decide +kernel
theorem dX7_init_127 : decode cX7_init 127 = .ok (.invokespecial 64, 3) := by decide +kernel
theorem dX7_init_130 : decode cX7_init 130 = .ok (.putfield 65, 3) := by decide +kernel
theorem dX7_init_133 : decode cX7_init 133 = .ok (.return_, 1) := by decide +kernel
theorem dX7_write_0 : decode cX7_write 0 = .ok (.iload_n 1, 1) := by decide +kernel
theorem dX7_write_1 : decode cX7_write 1 = .ok (.sipush 255, 3) := by decide +kernel
theorem dX7_write_4 : decode cX7_write 4 = .ok (.invokestatic 69, 3) := by decide +kernel
theorem dX7_write_7 : decode cX7_write 7 = .ok (.ifCond .ne 6, 3) := by decide +kernel
theorem dX7_write_10 : decode cX7_write 10 = .ok (.bipush (-3), 2) := by decide +kernel
theorem dX7_write_12 : decode cX7_write 12 = .ok (.ireturn, 1) := by decide +kernel
theorem dX7_write_13 : decode cX7_write 13 = .ok (.aload_n 0, 1) := by decide +kernel
theorem dX7_write_14 : decode cX7_write 14 = .ok (.getfield 10, 3) := by decide +kernel
theorem dX7_write_17 : decode cX7_write 17 = .ok (.iload_n 1, 1) := by decide +kernel
theorem dX7_write_18 : decode cX7_write 18 = .ok (.invokevirtual 73, 3) := by decide +kernel
theorem dX7_write_21 : decode cX7_write 21 = .ok (.ifCond .eq 13, 3) := by decide +kernel
theorem dX7_write_24 : decode cX7_write 24 = .ok (.aload_n 0, 1) := by decide +kernel
theorem dX7_write_25 : decode cX7_write 25 = .ok (.getfield 10, 3) := by decide +kernel
theorem dX7_write_28 : decode cX7_write 28 = .ok (.getfield 77, 3) := by decide +kernel
theorem dX7_write_31 : decode cX7_write 31 = .ok (.goto 5, 3) := by decide +kernel
theorem dX7_write_34 : decode cX7_write 34 = .ok (.bipush (-5), 2) := by decide +kernel
theorem dX7_write_36 : decode cX7_write 36 = .ok (.ireturn, 1) := by decide +kernel
theorem dX7_erase_0 : decode cX7_erase 0 = .ok (.aload_n 0, 1) := by decide +kernel
theorem dX7_erase_1 : decode cX7_erase 1 = .ok (.getfield 10, 3) := by decide +kernel
theorem dX7_erase_4 : decode cX7_erase 4 = .ok (.getfield 77, 3) := by decide +kernel
theorem dX7_erase_7 : decode cX7_erase 7 = .ok (.istore_n 1, 1) := by decide +kernel
theorem dX7_erase_8 : decode cX7_erase 8 = .ok (.aload_n 0, 1) := by decide +kernel
theorem dX7_erase_9 : decode cX7_erase 9 = .ok (.getfield 10, 3) := by decide +kernel
theorem dX7_erase_12 : decode cX7_erase 12 = .ok (.iconst 0, 1) := by decide +kernel
theorem dX7_erase_13 : decode cX7_erase 13 = .ok (.putfield 77, 3) := by decide +kernel
theorem dX7_erase_16 : decode cX7_erase 16 = .ok (.iload_n 1, 1) := by decide +kernel
theorem dX7_erase_17 : decode cX7_erase 17 = .ok (.ireturn, 1) := by decide +kernel
theorem dX7_fault_0 : decode cX7_fault 0 = .ok (.aload_n 0, 1) := by decide +kernel
theorem dX7_fault_1 : decode cX7_fault 1 = .ok (.invokevirtual 81, 3) := by decide +kernel
theorem dX7_fault_4 : decode cX7_fault 4 = .ok (.ireturn, 1) := by decide +kernel
theorem dX7_house_0 : decode cX7_house 0 = .ok (.aload_n 0, 1) := by decide +kernel
theorem dX7_house_1 : decode cX7_house 1 = .ok (.invokevirtual 81, 3) := by decide +kernel
theorem dX7_house_4 : decode cX7_house 4 = .ok (.iconst (-1), 1) := by decide +kernel
theorem dX7_house_5 : decode cX7_house 5 = .ok (.if_icmp .eq 6, 3) := by decide +kernel
theorem dX7_house_8 : decode cX7_house 8 = .ok (.bipush (-4), 2) := by decide +kernel
theorem dX7_house_10 : decode cX7_house 10 = .ok (.ireturn, 1) := by decide +kernel
theorem dX7_house_11 : decode cX7_house 11 = .ok (.aload_n 0, 1) := by decide +kernel
theorem dX7_house_12 : decode cX7_house 12 = .ok (.getfield 19, 3) := by decide +kernel
theorem dX7_house_15 : decode cX7_house 15 = .ok (.aload_n 0, 1) := by decide +kernel
theorem dX7_house_16 : decode cX7_house 16 = .ok (.getfield 23, 3) := by decide +kernel
theorem dX7_house_19 : decode cX7_house 19 = .ok (.invokevirtual 85, 3) := by decide +kernel
theorem dX7_house_22 : decode cX7_house 22 = .ok (.aload_n 0, 1) := by decide +kernel
theorem dX7_house_23 : decode cX7_house 23 = .ok (.getfield 10, 3) := by decide +kernel
theorem dX7_house_26 : decode cX7_house 26 = .ok (.iconst 0, 1) := by decide +kernel
theorem dX7_house_27 : decode cX7_house 27 = .ok (.putfield 77, 3) := by decide +kernel
theorem dX7_house_30 : decode cX7_house 30 = .ok (.aload_n 0, 1) := by decide +kernel
theorem dX7_house_31 : decode cX7_house 31 = .ok (.getfield 29, 3) := by decide +kernel
theorem dX7_house_34 : decode cX7_house 34 = .ok (.aload_n 0, 1) := by decide +kernel
theorem dX7_house_35 : decode cX7_house 35 = .ok (.getfield 19, 3) := by decide +kernel
theorem dX7_house_38 : decode cX7_house 38 = .ok (.getfield 89, 3) := by decide +kernel
theorem dX7_house_41 : decode cX7_house 41 = .ok (.invokevirtual 92, 3) := by decide +kernel
theorem dX7_house_44 : decode cX7_house 44 = .ok (.aload_n 0, 1) := by decide +kernel
theorem dX7_house_45 : decode cX7_house 45 = .ok (.getfield 36, 3) := by decide +kernel
theorem dX7_house_48 : decode cX7_house 48 = .ok (.iconst 0, 1) := by decide +kernel
theorem dX7_house_49 : decode cX7_house 49 = .ok (.putfield 96, 3) := by decide +kernel
theorem dX7_house_52 : decode cX7_house 52 = .ok (.aload_n 0, 1) := by decide +kernel
theorem dX7_house_53 : decode cX7_house 53 = .ok (.getfield 51, 3) := by decide +kernel
theorem dX7_house_56 : decode cX7_house 56 = .ok (.iconst 0, 1) := by decide +kernel
theorem dX7_house_57 : decode cX7_house 57 = .ok (.putfield 99, 3) := by decide +kernel
theorem dX7_house_60 : decode cX7_house 60 = .ok (.iconst 0, 1) := by decide +kernel
theorem dX7_house_61 : decode cX7_house 61 = .ok (.istore_n 1, 1) := by decide +kernel
theorem dX7_house_62 : decode cX7_house 62 = .ok (.iload_n 1, 1) := by decide +kernel
theorem dX7_house_63 : decode cX7_house 63 = .ok (.iconst 2, 1) := by decide +kernel
theorem dX7_house_64 : decode cX7_house 64 = .ok (.if_icmp .ge 16, 3) := by decide +kernel
theorem dX7_house_67 : decode cX7_house 67 = .ok (.aload_n 0, 1) := by decide +kernel
theorem dX7_house_68 : decode cX7_house 68 = .ok (.getfield 44, 3) := by decide +kernel
theorem dX7_house_71 : decode cX7_house 71 = .ok (.iload_n 1, 1) := by decide +kernel
theorem dX7_house_72 : decode cX7_house 72 = .ok (.iconst 0, 1) := by decide +kernel
theorem dX7_house_73 : decode cX7_house 73 = .ok (.bastore, 1) := by decide +kernel
theorem dX7_house_74 : decode cX7_house 74 = .ok (.iinc 1 1, 3) := by decide +kernel
theorem dX7_house_77 : decode cX7_house 77 = .ok (.goto (-15), 3) := by decide +kernel
theorem dX7_house_80 : decode cX7_house 80 = .ok (.aload_n 0, 1) := by decide +kernel
theorem dX7_house_81 : decode cX7_house 81 = .ok (.getfield 10, 3) := by decide +kernel
theorem dX7_house_84 : decode cX7_house 84 = .ok (.getfield 102, 3) := by decide +kernel
theorem dX7_house_87 : decode cX7_house 87 = .ok (.ireturn, 1) := by decide +kernel
theorem dX7_mouse_0 : decode cX7_mouse 0 = .ok (.aload_n 0, 1) := by decide +kernel
theorem dX7_mouse_1 : decode cX7_mouse 1 = .ok (.getfield 19, 3) := by decide +kernel
theorem dX7_mouse_4 : decode cX7_mouse 4 = .ok (.iload_n 1, 1) := by decide +kernel
theorem dX7_mouse_5 : decode cX7_mouse 5 = .ok (.invokevirtual 105, 3) := by decide +kernel
theorem dX7_mouse_8 : decode cX7_mouse 8 = .ok (.ifCond .ne 6, 3) := by decide +kernel
theorem dX7_mouse_11 : decode cX7_mouse 11 = .ok (.bipush (-2), 2) := by decide +kernel
theorem dX7_mouse_13 : decode cX7_mouse 13 = .ok (.ireturn, 1) := by decide +kernel
theorem dX7_mouse_14 : decode cX7_mouse 14 = .ok (.iload_n 2, 1) := by decide +kernel
theorem dX7_mouse_15 : decode cX7_mouse 15 = .ok (.tableswitch 103 0 5 #[37, 47, 57, 67, 77, 94], 37) := by decide +kernel
theorem dX7_mouse_52 : decode cX7_mouse 52 = .ok (.aload_n 0, 1) := by decide +kernel
theorem dX7_mouse_53 : decode cX7_mouse 53 = .ok (.getfield 19, 3) := by decide +kernel
theorem dX7_mouse_56 : decode cX7_mouse 56 = .ok (.getfield 108, 3) := by decide +kernel
theorem dX7_mouse_59 : decode cX7_mouse 59 = .ok (.iload_n 1, 1) := by decide +kernel
theorem dX7_mouse_60 : decode cX7_mouse 60 = .ok (.iaload, 1) := by decide +kernel
theorem dX7_mouse_61 : decode cX7_mouse 61 = .ok (.ireturn, 1) := by decide +kernel
theorem dX7_mouse_62 : decode cX7_mouse 62 = .ok (.aload_n 0, 1) := by decide +kernel
theorem dX7_mouse_63 : decode cX7_mouse 63 = .ok (.getfield 19, 3) := by decide +kernel
theorem dX7_mouse_66 : decode cX7_mouse 66 = .ok (.getfield 112, 3) := by decide +kernel
theorem dX7_mouse_69 : decode cX7_mouse 69 = .ok (.iload_n 1, 1) := by decide +kernel
theorem dX7_mouse_70 : decode cX7_mouse 70 = .ok (.iaload, 1) := by decide +kernel
theorem dX7_mouse_71 : decode cX7_mouse 71 = .ok (.ireturn, 1) := by decide +kernel
theorem dX7_mouse_72 : decode cX7_mouse 72 = .ok (.aload_n 0, 1) := by decide +kernel
theorem dX7_mouse_73 : decode cX7_mouse 73 = .ok (.getfield 19, 3) := by decide +kernel
theorem dX7_mouse_76 : decode cX7_mouse 76 = .ok (.getfield 115, 3) := by decide +kernel
theorem dX7_mouse_79 : decode cX7_mouse 79 = .ok (.iload_n 1, 1) := by decide +kernel
theorem dX7_mouse_80 : decode cX7_mouse 80 = .ok (.iaload, 1) := by decide +kernel
theorem dX7_mouse_81 : decode cX7_mouse 81 = .ok (.ireturn, 1) := by decide +kernel
theorem dX7_mouse_82 : decode cX7_mouse 82 = .ok (.aload_n 0, 1) := by decide +kernel
theorem dX7_mouse_83 : decode cX7_mouse 83 = .ok (.getfield 19, 3) := by decide +kernel
theorem dX7_mouse_86 : decode cX7_mouse 86 = .ok (.getfield 118, 3) := by decide +kernel
theorem dX7_mouse_89 : decode cX7_mouse 89 = .ok (.iload_n 1, 1) := by decide +kernel
theorem dX7_mouse_90 : decode cX7_mouse 90 = .ok (.iaload, 1) := by decide +kernel
theorem dX7_mouse_91 : decode cX7_mouse 91 = .ok (.ireturn, 1) := by decide +kernel
theorem dX7_mouse_92 : decode cX7_mouse 92 = .ok (.aload_n 0, 1) := by decide +kernel
theorem dX7_mouse_93 : decode cX7_mouse 93 = .ok (.getfield 29, 3) := by decide +kernel
theorem dX7_mouse_96 : decode cX7_mouse 96 = .ok (.iload_n 1, 1) := by decide +kernel
theorem dX7_mouse_97 : decode cX7_mouse 97 = .ok (.invokevirtual 121, 3) := by decide +kernel
theorem dX7_mouse_100 : decode cX7_mouse 100 = .ok (.ifCond .eq 7, 3) := by decide +kernel
theorem dX7_mouse_103 : decode cX7_mouse 103 = .ok (.iconst 1, 1) := by decide +kernel
theorem dX7_mouse_104 : decode cX7_mouse 104 = .ok (.goto 4, 3) := by decide +kernel
theorem dX7_mouse_107 : decode cX7_mouse 107 = .ok (.iconst 0, 1) := by decide +kernel
theorem dX7_mouse_108 : decode cX7_mouse 108 = .ok (.ireturn, 1) := by decide +kernel
theorem dX7_mouse_109 : decode cX7_mouse 109 = .ok (.aload_n 0, 1) := by decide +kernel
theorem dX7_mouse_110 : decode cX7_mouse 110 = .ok (.getfield 29, 3) := by decide +kernel
theorem dX7_mouse_113 : decode cX7_mouse 113 = .ok (.iload_n 1, 1) := by decide +kernel
theorem dX7_mouse_114 : decode cX7_mouse 114 = .ok (.invokevirtual 124, 3) := by decide +kernel
theorem dX7_mouse_117 : decode cX7_mouse 117 = .ok (.ireturn, 1) := by decide +kernel
theorem dX7_mouse_118 : decode cX7_mouse 118 = .ok (.bipush (-3), 2) := by decide +kernel
theorem dX7_mouse_120 : decode cX7_mouse 120 = .ok (.ireturn, 1) := by decide +kernel
theorem dX7_step_0 : decode cX7_step 0 = .ok (.aload_n 0, 1) := by decide +kernel
theorem dX7_step_1 : decode cX7_step 1 = .ok (.getfield 19, 3) := by decide +kernel
theorem dX7_step_4 : decode cX7_step 4 = .ok (.iload_n 1, 1) := by decide +kernel
theorem dX7_step_5 : decode cX7_step 5 = .ok (.invokevirtual 128, 3) := by decide +kernel
theorem dX7_step_8 : decode cX7_step 8 = .ok (.ifCond .ne 6, 3) := by decide +kernel
theorem dX7_step_11 : decode cX7_step 11 = .ok (.bipush (-2), 2) := by decide +kernel
theorem dX7_step_13 : decode cX7_step 13 = .ok (.ireturn, 1) := by decide +kernel
theorem dX7_step_14 : decode cX7_step 14 = .ok (.iload_n 2, 1) := by decide +kernel
theorem dX7_step_15 : decode cX7_step 15 = .ok (.lookupswitch 44 #[(0, 25), (1, 35)], 25) := by decide +kernel
theorem dX7_step_40 : decode cX7_step 40 = .ok (.aload_n 0, 1) := by decide +kernel
theorem dX7_step_41 : decode cX7_step 41 = .ok (.getfield 19, 3) := by decide +kernel
theorem dX7_step_44 : decode cX7_step 44 = .ok (.getfield 131, 3) := by decide +kernel
theorem dX7_step_47 : decode cX7_step 47 = .ok (.iload_n 1, 1) := by decide +kernel
theorem dX7_step_48 : decode cX7_step 48 = .ok (.iaload, 1) := by decide +kernel
theorem dX7_step_49 : decode cX7_step 49 = .ok (.ireturn, 1) := by decide +kernel
theorem dX7_step_50 : decode cX7_step 50 = .ok (.aload_n 0, 1) := by decide +kernel
theorem dX7_step_51 : decode cX7_step 51 = .ok (.getfield 29, 3) := by decide +kernel
theorem dX7_step_54 : decode cX7_step 54 = .ok (.iload_n 1, 1) := by decide +kernel
theorem dX7_step_55 : decode cX7_step 55 = .ok (.invokevirtual 134, 3) := by decide +kernel
theorem dX7_step_58 : decode cX7_step 58 = .ok (.ireturn, 1) := by decide +kernel
theorem dX7_step_59 : decode cX7_step 59 = .ok (.bipush (-3), 2) := by decide +kernel
theorem dX7_step_61 : decode cX7_step 61 = .ok (.ireturn, 1) := by decide +kernel
theorem dX7_rat_0 : decode cX7_rat 0 = .ok (.aload_n 0, 1) := by decide +kernel
theorem dX7_rat_1 : decode cX7_rat 1 = .ok (.getfield 19, 3) := by decide +kernel
theorem dX7_rat_4 : decode cX7_rat 4 = .ok (.iload_n 1, 1) := by decide +kernel
theorem dX7_rat_5 : decode cX7_rat 5 = .ok (.invokevirtual 137, 3) := by decide +kernel
theorem dX7_rat_8 : decode cX7_rat 8 = .ok (.ifCond .ne 6, 3) := by decide +kernel
theorem dX7_rat_11 : decode cX7_rat 11 = .ok (.bipush (-2), 2) := by decide +kernel
theorem dX7_rat_13 : decode cX7_rat 13 = .ok (.ireturn, 1) := by decide +kernel
theorem dX7_rat_14 : decode cX7_rat 14 = .ok (.iload_n 2, 1) := by decide +kernel
theorem dX7_rat_15 : decode cX7_rat 15 = .ok (.tableswitch 55 0 2 #[25, 35, 45], 25) := by decide +kernel
theorem dX7_rat_40 : decode cX7_rat 40 = .ok (.aload_n 0, 1) := by decide +kernel
theorem dX7_rat_41 : decode cX7_rat 41 = .ok (.getfield 19, 3) := by decide +kernel
theorem dX7_rat_44 : decode cX7_rat 44 = .ok (.getfield 140, 3) := by decide +kernel
theorem dX7_rat_47 : decode cX7_rat 47 = .ok (.iload_n 1, 1) := by decide +kernel
theorem dX7_rat_48 : decode cX7_rat 48 = .ok (.iaload, 1) := by decide +kernel
theorem dX7_rat_49 : decode cX7_rat 49 = .ok (.ireturn, 1) := by decide +kernel
theorem dX7_rat_50 : decode cX7_rat 50 = .ok (.aload_n 0, 1) := by decide +kernel
theorem dX7_rat_51 : decode cX7_rat 51 = .ok (.getfield 19, 3) := by decide +kernel
theorem dX7_rat_54 : decode cX7_rat 54 = .ok (.getfield 143, 3) := by decide +kernel
theorem dX7_rat_57 : decode cX7_rat 57 = .ok (.iload_n 1, 1) := by decide +kernel
theorem dX7_rat_58 : decode cX7_rat 58 = .ok (.iaload, 1) := by decide +kernel
theorem dX7_rat_59 : decode cX7_rat 59 = .ok (.ireturn, 1) := by decide +kernel
theorem dX7_rat_60 : decode cX7_rat 60 = .ok (.aload_n 0, 1) := by decide +kernel
theorem dX7_rat_61 : decode cX7_rat 61 = .ok (.getfield 19, 3) := by decide +kernel
theorem dX7_rat_64 : decode cX7_rat 64 = .ok (.getfield 146, 3) := by decide +kernel
theorem dX7_rat_67 : decode cX7_rat 67 = .ok (.iload_n 1, 1) := by decide +kernel
theorem dX7_rat_68 : decode cX7_rat 68 = .ok (.iaload, 1) := by decide +kernel
theorem dX7_rat_69 : decode cX7_rat 69 = .ok (.ireturn, 1) := by decide +kernel
theorem dX7_rat_70 : decode cX7_rat 70 = .ok (.bipush (-3), 2) := by decide +kernel
theorem dX7_rat_72 : decode cX7_rat 72 = .ok (.ireturn, 1) := by decide +kernel
theorem dX7_as_0 : decode cX7_as 0 = .ok (.aload_n 0, 1) := by decide +kernel
theorem dX7_as_1 : decode cX7_as 1 = .ok (.getfield 19, 3) := by decide +kernel
theorem dX7_as_4 : decode cX7_as 4 = .ok (.iload_n 1, 1) := by decide +kernel
theorem dX7_as_5 : decode cX7_as 5 = .ok (.invokevirtual 105, 3) := by decide +kernel
theorem dX7_as_8 : decode cX7_as 8 = .ok (.ifCond .ne 6, 3) := by decide +kernel
theorem dX7_as_11 : decode cX7_as 11 = .ok (.bipush (-2), 2) := by decide +kernel
theorem dX7_as_13 : decode cX7_as 13 = .ok (.ireturn, 1) := by decide +kernel
theorem dX7_as_14 : decode cX7_as 14 = .ok (.iload_n 2, 1) := by decide +kernel
theorem dX7_as_15 : decode cX7_as 15 = .ok (.iconst 4, 1) := by decide +kernel
theorem dX7_as_16 : decode cX7_as 16 = .ok (.invokestatic 69, 3) := by decide +kernel
theorem dX7_as_19 : decode cX7_as 19 = .ok (.ifCond .ne 6, 3) := by decide +kernel
theorem dX7_as_22 : decode cX7_as 22 = .ok (.bipush (-3), 2) := by decide +kernel
theorem dX7_as_24 : decode cX7_as 24 = .ok (.ireturn, 1) := by decide +kernel
theorem dX7_as_25 : decode cX7_as 25 = .ok (.aload_n 0, 1) := by decide +kernel
theorem dX7_as_26 : decode cX7_as 26 = .ok (.getfield 19, 3) := by decide +kernel
theorem dX7_as_29 : decode cX7_as 29 = .ok (.getfield 108, 3) := by decide +kernel
theorem dX7_as_32 : decode cX7_as 32 = .ok (.iload_n 1, 1) := by decide +kernel
theorem dX7_as_33 : decode cX7_as 33 = .ok (.iaload, 1) := by decide +kernel
theorem dX7_as_34 : decode cX7_as 34 = .ok (.iload_n 2, 1) := by decide +kernel
theorem dX7_as_35 : decode cX7_as 35 = .ok (.invokestatic 149, 3) := by decide +kernel
theorem dX7_as_38 : decode cX7_as 38 = .ok (.ifCond .ne 6, 3) := by decide +kernel
theorem dX7_as_41 : decode cX7_as 41 = .ok (.bipush (-4), 2) := by decide +kernel
theorem dX7_as_43 : decode cX7_as 43 = .ok (.ireturn, 1) := by decide +kernel
theorem dX7_as_44 : decode cX7_as 44 = .ok (.bipush 6, 2) := by decide +kernel
theorem dX7_as_46 : decode cX7_as 46 = .ok (.aload_n 0, 1) := by decide +kernel
theorem dX7_as_47 : decode cX7_as 47 = .ok (.getfield 19, 3) := by decide +kernel
theorem dX7_as_50 : decode cX7_as 50 = .ok (.getfield 108, 3) := by decide +kernel
theorem dX7_as_53 : decode cX7_as 53 = .ok (.iload_n 1, 1) := by decide +kernel
theorem dX7_as_54 : decode cX7_as 54 = .ok (.iaload, 1) := by decide +kernel
theorem dX7_as_55 : decode cX7_as 55 = .ok (.aload_n 0, 1) := by decide +kernel
theorem dX7_as_56 : decode cX7_as 56 = .ok (.getfield 19, 3) := by decide +kernel
theorem dX7_as_59 : decode cX7_as 59 = .ok (.getfield 112, 3) := by decide +kernel
theorem dX7_as_62 : decode cX7_as 62 = .ok (.iload_n 1, 1) := by decide +kernel
theorem dX7_as_63 : decode cX7_as 63 = .ok (.iaload, 1) := by decide +kernel
theorem dX7_as_64 : decode cX7_as 64 = .ok (.invokestatic 152, 3) := by decide +kernel
theorem dX7_as_67 : decode cX7_as 67 = .ok (.ireturn, 1) := by decide +kernel
theorem dX7_danger_0 : decode cX7_danger 0 = .ok (.aload_n 0, 1) := by decide +kernel
theorem dX7_danger_1 : decode cX7_danger 1 = .ok (.getfield 19, 3) := by decide +kernel
theorem dX7_danger_4 : decode cX7_danger 4 = .ok (.iload_n 1, 1) := by decide +kernel
theorem dX7_danger_5 : decode cX7_danger 5 = .ok (.invokevirtual 128, 3) := by decide +kernel
theorem dX7_danger_8 : decode cX7_danger 8 = .ok (.ifCond .eq 14, 3) := by decide +kernel
theorem dX7_danger_11 : decode cX7_danger 11 = .ok (.aload_n 0, 1) := by decide +kernel
theorem dX7_danger_12 : decode cX7_danger 12 = .ok (.getfield 19, 3) := by decide +kernel
theorem dX7_danger_15 : decode cX7_danger 15 = .ok (.iload_n 2, 1) := by decide +kernel
theorem dX7_danger_16 : decode cX7_danger 16 = .ok (.invokevirtual 105, 3) := by decide +kernel
theorem dX7_danger_19 : decode cX7_danger 19 = .ok (.ifCond .ne 6, 3) := by decide +kernel
theorem dX7_danger_22 : decode cX7_danger 22 = .ok (.bipush (-2), 2) := by decide +kernel
theorem dX7_danger_24 : decode cX7_danger 24 = .ok (.ireturn, 1) := by decide +kernel
theorem dX7_danger_25 : decode cX7_danger 25 = .ok (.aload_n 0, 1) := by decide +kernel
theorem dX7_danger_26 : decode cX7_danger 26 = .ok (.getfield 19, 3) := by decide +kernel
theorem dX7_danger_29 : decode cX7_danger 29 = .ok (.iload_n 1, 1) := by decide +kernel
theorem dX7_danger_30 : decode cX7_danger 30 = .ok (.iload_n 2, 1) := by decide +kernel
theorem dX7_danger_31 : decode cX7_danger 31 = .ok (.invokevirtual 156, 3) := by decide +kernel
theorem dX7_danger_34 : decode cX7_danger 34 = .ok (.ireturn, 1) := by decide +kernel
theorem dX7_put_0 : decode cX7_put 0 = .ok (.aload_n 0, 1) := by decide +kernel
theorem dX7_put_1 : decode cX7_put 1 = .ok (.getfield 19, 3) := by decide +kernel
theorem dX7_put_4 : decode cX7_put 4 = .ok (.iload_n 1, 1) := by decide +kernel
theorem dX7_put_5 : decode cX7_put 5 = .ok (.invokevirtual 128, 3) := by decide +kernel
theorem dX7_put_8 : decode cX7_put 8 = .ok (.ifCond .eq 14, 3) := by decide +kernel
theorem dX7_put_11 : decode cX7_put 11 = .ok (.aload_n 0, 1) := by decide +kernel
theorem dX7_put_12 : decode cX7_put 12 = .ok (.getfield 19, 3) := by decide +kernel
theorem dX7_put_15 : decode cX7_put 15 = .ok (.iload_n 2, 1) := by decide +kernel
theorem dX7_put_16 : decode cX7_put 16 = .ok (.invokevirtual 105, 3) := by decide +kernel
theorem dX7_put_19 : decode cX7_put 19 = .ok (.ifCond .ne 6, 3) := by decide +kernel
theorem dX7_put_22 : decode cX7_put 22 = .ok (.bipush (-2), 2) := by decide +kernel
theorem dX7_put_24 : decode cX7_put 24 = .ok (.ireturn, 1) := by decide +kernel
theorem dX7_put_25 : decode cX7_put 25 = .ok (.aload_n 0, 1) := by decide +kernel
theorem dX7_put_26 : decode cX7_put 26 = .ok (.getfield 29, 3) := by decide +kernel
theorem dX7_put_29 : decode cX7_put 29 = .ok (.iload_n 2, 1) := by decide +kernel
theorem dX7_put_30 : decode cX7_put 30 = .ok (.invokevirtual 121, 3) := by decide +kernel
theorem dX7_put_33 : decode cX7_put 33 = .ok (.ifCond .ne 6, 3) := by decide +kernel
theorem dX7_put_36 : decode cX7_put 36 = .ok (.bipush (-4), 2) := by decide +kernel
theorem dX7_put_38 : decode cX7_put 38 = .ok (.ireturn, 1) := by decide +kernel
theorem dX7_put_39 : decode cX7_put 39 = .ok (.aload_n 0, 1) := by decide +kernel
theorem dX7_put_40 : decode cX7_put 40 = .ok (.getfield 36, 3) := by decide +kernel
theorem dX7_put_43 : decode cX7_put 43 = .ok (.aload_n 0, 1) := by decide +kernel
theorem dX7_put_44 : decode cX7_put 44 = .ok (.getfield 29, 3) := by decide +kernel
theorem dX7_put_47 : decode cX7_put 47 = .ok (.invokevirtual 160, 3) := by decide +kernel
theorem dX7_put_50 : decode cX7_put 50 = .ok (.aload_n 0, 1) := by decide +kernel
theorem dX7_put_51 : decode cX7_put 51 = .ok (.getfield 29, 3) := by decide +kernel
theorem dX7_put_54 : decode cX7_put 54 = .ok (.iload_n 1, 1) := by decide +kernel
theorem dX7_put_55 : decode cX7_put 55 = .ok (.iload_n 2, 1) := by decide +kernel
theorem dX7_put_56 : decode cX7_put 56 = .ok (.invokevirtual 164, 3) := by decide +kernel
theorem dX7_put_59 : decode cX7_put 59 = .ok (.aload_n 0, 1) := by decide +kernel
theorem dX7_put_60 : decode cX7_put 60 = .ok (.getfield 29, 3) := by decide +kernel
theorem dX7_put_63 : decode cX7_put 63 = .ok (.invokevirtual 168, 3) := by decide +kernel
theorem dX7_put_66 : decode cX7_put 66 = .ok (.ireturn, 1) := by decide +kernel
theorem dX7_clear_0 : decode cX7_clear 0 = .ok (.aload_n 0, 1) := by decide +kernel
theorem dX7_clear_1 : decode cX7_clear 1 = .ok (.getfield 36, 3) := by decide +kernel
theorem dX7_clear_4 : decode cX7_clear 4 = .ok (.aload_n 0, 1) := by decide +kernel
theorem dX7_clear_5 : decode cX7_clear 5 = .ok (.getfield 29, 3) := by decide +kernel
theorem dX7_clear_8 : decode cX7_clear 8 = .ok (.invokevirtual 160, 3) := by decide +kernel
theorem dX7_clear_11 : decode cX7_clear 11 = .ok (.aload_n 0, 1) := by decide +kernel
theorem dX7_clear_12 : decode cX7_clear 12 = .ok (.getfield 29, 3) := by decide +kernel
theorem dX7_clear_15 : decode cX7_clear 15 = .ok (.invokevirtual 168, 3) := by decide +kernel
theorem dX7_clear_18 : decode cX7_clear 18 = .ok (.istore_n 1, 1) := by decide +kernel
theorem dX7_clear_19 : decode cX7_clear 19 = .ok (.aload_n 0, 1) := by decide +kernel
theorem dX7_clear_20 : decode cX7_clear 20 = .ok (.getfield 29, 3) := by decide +kernel
theorem dX7_clear_23 : decode cX7_clear 23 = .ok (.invokevirtual 171, 3) := by decide +kernel
theorem dX7_clear_26 : decode cX7_clear 26 = .ok (.iload_n 1, 1) := by decide +kernel
theorem dX7_clear_27 : decode cX7_clear 27 = .ok (.ireturn, 1) := by decide +kernel
theorem dX7_night_0 : decode cX7_night 0 = .ok (.iload_n 1, 1) := by decide +kernel
theorem dX7_night_1 : decode cX7_night 1 = .ok (.sipush 9999, 3) := by decide +kernel
theorem dX7_night_4 : decode cX7_night 4 = .ok (.invokestatic 69, 3) := by decide +kernel
theorem dX7_night_7 : decode cX7_night 7 = .ok (.ifCond .ne 6, 3) := by decide +kernel
theorem dX7_night_10 : decode cX7_night 10 = .ok (.bipush (-3), 2) := by decide +kernel
theorem dX7_night_12 : decode cX7_night 12 = .ok (.ireturn, 1) := by decide +kernel
theorem dX7_night_13 : decode cX7_night 13 = .ok (.aload_n 0, 1) := by decide +kernel
theorem dX7_night_14 : decode cX7_night 14 = .ok (.getfield 29, 3) := by decide +kernel
theorem dX7_night_17 : decode cX7_night 17 = .ok (.getfield 174, 3) := by decide +kernel
theorem dX7_night_20 : decode cX7_night 20 = .ok (.ifCond .ne 20, 3) := by decide +kernel
theorem dX7_night_23 : decode cX7_night 23 = .ok (.aload_n 0, 1) := by decide +kernel
theorem dX7_night_24 : decode cX7_night 24 = .ok (.getfield 29, 3) := by decide +kernel
theorem dX7_night_27 : decode cX7_night 27 = .ok (.aload_n 0, 1) := by decide +kernel
theorem dX7_night_28 : decode cX7_night 28 = .ok (.getfield 19, 3) := by decide +kernel
theorem dX7_night_31 : decode cX7_night 31 = .ok (.getfield 178, 3) := by decide +kernel
theorem dX7_night_34 : decode cX7_night 34 = .ok (.invokevirtual 181, 3) := by decide +kernel
theorem dX7_night_37 : decode cX7_night 37 = .ok (.ifCond .ne 6, 3) := by decide +kernel
theorem dX7_night_40 : decode cX7_night 40 = .ok (.bipush (-4), 2) := by decide +kernel
theorem dX7_night_42 : decode cX7_night 42 = .ok (.ireturn, 1) := by decide +kernel
theorem dX7_night_43 : decode cX7_night 43 = .ok (.aload_n 0, 1) := by decide +kernel
theorem dX7_night_44 : decode cX7_night 44 = .ok (.getfield 29, 3) := by decide +kernel
theorem dX7_night_47 : decode cX7_night 47 = .ok (.getfield 184, 3) := by decide +kernel
theorem dX7_night_50 : decode cX7_night 50 = .ok (.sipush 999, 3) := by decide +kernel
theorem dX7_night_53 : decode cX7_night 53 = .ok (.if_icmp .lt 6, 3) := by decide +kernel
theorem dX7_night_56 : decode cX7_night 56 = .ok (.bipush (-5), 2) := by decide +kernel
theorem dX7_night_58 : decode cX7_night 58 = .ok (.ireturn, 1) := by decide +kernel
theorem dX7_night_59 : decode cX7_night 59 = .ok (.aload_n 0, 1) := by decide +kernel
theorem dX7_night_60 : decode cX7_night 60 = .ok (.getfield 36, 3) := by decide +kernel
theorem dX7_night_63 : decode cX7_night 63 = .ok (.aload_n 0, 1) := by decide +kernel
theorem dX7_night_64 : decode cX7_night 64 = .ok (.getfield 29, 3) := by decide +kernel
theorem dX7_night_67 : decode cX7_night 67 = .ok (.invokevirtual 160, 3) := by decide +kernel
theorem dX7_night_70 : decode cX7_night 70 = .ok (.aload_n 0, 1) := by decide +kernel
theorem dX7_night_71 : decode cX7_night 71 = .ok (.iload_n 1, 1) := by decide +kernel
theorem dX7_night_72 : decode cX7_night 72 = .ok (.invokevirtual 187, 3) := by decide +kernel
theorem dX7_night_75 : decode cX7_night 75 = .ok (.istore_n 2, 1) := by decide +kernel
theorem dX7_night_76 : decode cX7_night 76 = .ok (.iload_n 2, 1) := by decide +kernel
theorem dX7_night_77 : decode cX7_night 77 = .ok (.iconst (-1), 1) := by decide +kernel
theorem dX7_night_78 : decode cX7_night 78 = .ok (.if_icmp .ne 14, 3) := by decide +kernel
theorem dX7_night_81 : decode cX7_night 81 = .ok (.aload_n 0, 1) := by decide +kernel
theorem dX7_night_82 : decode cX7_night 82 = .ok (.getfield 29, 3) := by decide +kernel
theorem dX7_night_85 : decode cX7_night 85 = .ok (.iconst 1, 1) := by decide +kernel
theorem dX7_night_86 : decode cX7_night 86 = .ok (.putfield 174, 3) := by decide +kernel
theorem dX7_night_89 : decode cX7_night 89 = .ok (.goto 11, 3) := by decide +kernel
theorem dX7_night_92 : decode cX7_night 92 = .ok (.aload_n 0, 1) := by decide +kernel
theorem dX7_night_93 : decode cX7_night 93 = .ok (.getfield 29, 3) := by decide +kernel
theorem dX7_night_96 : decode cX7_night 96 = .ok (.iload_n 2, 1) := by decide +kernel
theorem dX7_night_97 : decode cX7_night 97 = .ok (.invokevirtual 190, 3) := by decide +kernel
theorem dX7_night_100 : decode cX7_night 100 = .ok (.aload_n 0, 1) := by decide +kernel
theorem dX7_night_101 : decode cX7_night 101 = .ok (.getfield 29, 3) := by decide +kernel
theorem dX7_night_104 : decode cX7_night 104 = .ok (.dup, 1) := by decide +kernel
theorem dX7_night_105 : decode cX7_night 105 = .ok (.getfield 184, 3) := by decide +kernel
theorem dX7_night_108 : decode cX7_night 108 = .ok (.iconst 1, 1) := by decide +kernel
theorem dX7_night_109 : decode cX7_night 109 = .ok (.iadd, 1) := by decide +kernel
theorem dX7_night_110 : decode cX7_night 110 = .ok (.putfield 184, 3) := by decide +kernel
theorem dX7_night_113 : decode cX7_night 113 = .ok (.iload_n 2, 1) := by decide +kernel
theorem dX7_night_114 : decode cX7_night 114 = .ok (.ireturn, 1) := by decide +kernel
theorem dX7_undo_0 : decode cX7_undo 0 = .ok (.aload_n 0, 1) := by decide +kernel
theorem dX7_undo_1 : decode cX7_undo 1 = .ok (.getfield 36, 3) := by decide +kernel
theorem dX7_undo_4 : decode cX7_undo 4 = .ok (.aload_n 0, 1) := by decide +kernel
theorem dX7_undo_5 : decode cX7_undo 5 = .ok (.getfield 29, 3) := by decide +kernel
theorem dX7_undo_8 : decode cX7_undo 8 = .ok (.invokevirtual 193, 3) := by decide +kernel
theorem dX7_undo_11 : decode cX7_undo 11 = .ok (.ifCond .eq 13, 3) := by decide +kernel
theorem dX7_undo_14 : decode cX7_undo 14 = .ok (.aload_n 0, 1) := by decide +kernel
theorem dX7_undo_15 : decode cX7_undo 15 = .ok (.getfield 36, 3) := by decide +kernel
theorem dX7_undo_18 : decode cX7_undo 18 = .ok (.getfield 96, 3) := by decide +kernel
theorem dX7_undo_21 : decode cX7_undo 21 = .ok (.goto 5, 3) := by decide +kernel
theorem dX7_undo_24 : decode cX7_undo 24 = .ok (.bipush (-4), 2) := by decide +kernel
theorem dX7_undo_26 : decode cX7_undo 26 = .ok (.ireturn, 1) := by decide +kernel
theorem dX7_keep_0 : decode cX7_keep 0 = .ok (.iload_n 1, 1) := by decide +kernel
theorem dX7_keep_1 : decode cX7_keep 1 = .ok (.iconst 1, 1) := by decide +kernel
theorem dX7_keep_2 : decode cX7_keep 2 = .ok (.invokestatic 69, 3) := by decide +kernel
theorem dX7_keep_5 : decode cX7_keep 5 = .ok (.ifCond .ne 6, 3) := by decide +kernel
theorem dX7_keep_8 : decode cX7_keep 8 = .ok (.bipush (-2), 2) := by decide +kernel
theorem dX7_keep_10 : decode cX7_keep 10 = .ok (.ireturn, 1) := by decide +kernel
theorem dX7_keep_11 : decode cX7_keep 11 = .ok (.aload_n 0, 1) := by decide +kernel
theorem dX7_keep_12 : decode cX7_keep 12 = .ok (.getfield 29, 3) := by decide +kernel
theorem dX7_keep_15 : decode cX7_keep 15 = .ok (.aload_n 0, 1) := by decide +kernel
theorem dX7_keep_16 : decode cX7_keep 16 = .ok (.getfield 40, 3) := by decide +kernel
theorem dX7_keep_19 : decode cX7_keep 19 = .ok (.iload_n 1, 1) := by decide +kernel
theorem dX7_keep_20 : decode cX7_keep 20 = .ok (.aaload, 1) := by decide +kernel
theorem dX7_keep_21 : decode cX7_keep 21 = .ok (.invokestatic 197, 3) := by decide +kernel
theorem dX7_keep_24 : decode cX7_keep 24 = .ok (.aload_n 0, 1) := by decide +kernel
theorem dX7_keep_25 : decode cX7_keep 25 = .ok (.getfield 44, 3) := by decide +kernel
theorem dX7_keep_28 : decode cX7_keep 28 = .ok (.iload_n 1, 1) := by decide +kernel
theorem dX7_keep_29 : decode cX7_keep 29 = .ok (.iconst 1, 1) := by decide +kernel
theorem dX7_keep_30 : decode cX7_keep 30 = .ok (.bastore, 1) := by decide +kernel
theorem dX7_keep_31 : decode cX7_keep 31 = .ok (.aload_n 0, 1) := by decide +kernel
theorem dX7_keep_32 : decode cX7_keep 32 = .ok (.getfield 29, 3) := by decide +kernel
theorem dX7_keep_35 : decode cX7_keep 35 = .ok (.getfield 184, 3) := by decide +kernel
theorem dX7_keep_38 : decode cX7_keep 38 = .ok (.ireturn, 1) := by decide +kernel
theorem dX7_back_0 : decode cX7_back 0 = .ok (.iload_n 1, 1) := by decide +kernel
theorem dX7_back_1 : decode cX7_back 1 = .ok (.iconst 1, 1) := by decide +kernel
theorem dX7_back_2 : decode cX7_back 2 = .ok (.invokestatic 69, 3) := by decide +kernel
theorem dX7_back_5 : decode cX7_back 5 = .ok (.ifCond .ne 6, 3) := by decide +kernel
theorem dX7_back_8 : decode cX7_back 8 = .ok (.bipush (-2), 2) := by decide +kernel
theorem dX7_back_10 : decode cX7_back 10 = .ok (.ireturn, 1) := by decide +kernel
theorem dX7_back_11 : decode cX7_back 11 = .ok (.aload_n 0, 1) := by decide +kernel
theorem dX7_back_12 : decode cX7_back 12 = .ok (.getfield 44, 3) := by decide +kernel
theorem dX7_back_15 : decode cX7_back 15 = .ok (.iload_n 1, 1) := by decide +kernel
theorem dX7_back_16 : decode cX7_back 16 = .ok (.baload, 1) := by decide +kernel
theorem dX7_back_17 : decode cX7_back 17 = .ok (.ifCond .ne 6, 3) := by decide +kernel
theorem dX7_back_20 : decode cX7_back 20 = .ok (.bipush (-4), 2) := by decide +kernel
theorem dX7_back_22 : decode cX7_back 22 = .ok (.ireturn, 1) := by decide +kernel
theorem dX7_back_23 : decode cX7_back 23 = .ok (.aload_n 0, 1) := by decide +kernel
theorem dX7_back_24 : decode cX7_back 24 = .ok (.getfield 40, 3) := by decide +kernel
theorem dX7_back_27 : decode cX7_back 27 = .ok (.iload_n 1, 1) := by decide +kernel
theorem dX7_back_28 : decode cX7_back 28 = .ok (.aaload, 1) := by decide +kernel
theorem dX7_back_29 : decode cX7_back 29 = .ok (.aload_n 0, 1) := by decide +kernel
theorem dX7_back_30 : decode cX7_back 30 = .ok (.getfield 29, 3) := by decide +kernel
theorem dX7_back_33 : decode cX7_back 33 = .ok (.invokestatic 197, 3) := by decide +kernel
theorem dX7_back_36 : decode cX7_back 36 = .ok (.aload_n 0, 1) := by decide +kernel
theorem dX7_back_37 : decode cX7_back 37 = .ok (.getfield 36, 3) := by decide +kernel
theorem dX7_back_40 : decode cX7_back 40 = .ok (.iconst 0, 1) := by decide +kernel
theorem dX7_back_41 : decode cX7_back 41 = .ok (.putfield 96, 3) := by decide +kernel
theorem dX7_back_44 : decode cX7_back 44 = .ok (.aload_n 0, 1) := by decide +kernel
theorem dX7_back_45 : decode cX7_back 45 = .ok (.getfield 29, 3) := by decide +kernel
theorem dX7_back_48 : decode cX7_back 48 = .ok (.getfield 184, 3) := by decide +kernel
theorem dX7_back_51 : decode cX7_back 51 = .ok (.ireturn, 1) := by decide +kernel
theorem dX7_through_0 : decode cX7_through 0 = .ok (.iload_n 1, 1) := by decide +kernel
theorem dX7_through_1 : decode cX7_through 1 = .ok (.invokestatic 201, 3) := by decide +kernel
theorem dX7_through_4 : decode cX7_through 4 = .ok (.ifCond .ne 6, 3) := by decide +kernel
theorem dX7_through_7 : decode cX7_through 7 = .ok (.bipush (-3), 2) := by decide +kernel
theorem dX7_through_9 : decode cX7_through 9 = .ok (.ireturn, 1) := by decide +kernel
theorem dX7_through_10 : decode cX7_through 10 = .ok (.aload_n 0, 1) := by decide +kernel
theorem dX7_through_11 : decode cX7_through 11 = .ok (.getfield 29, 3) := by decide +kernel
theorem dX7_through_14 : decode cX7_through 14 = .ok (.aload_n 0, 1) := by decide +kernel
theorem dX7_through_15 : decode cX7_through 15 = .ok (.getfield 19, 3) := by decide +kernel
theorem dX7_through_18 : decode cX7_through 18 = .ok (.getfield 178, 3) := by decide +kernel
theorem dX7_through_21 : decode cX7_through 21 = .ok (.invokevirtual 181, 3) := by decide +kernel
theorem dX7_through_24 : decode cX7_through 24 = .ok (.ifCond .ne 6, 3) := by decide +kernel
theorem dX7_through_27 : decode cX7_through 27 = .ok (.bipush (-4), 2) := by decide +kernel
theorem dX7_through_29 : decode cX7_through 29 = .ok (.ireturn, 1) := by decide +kernel
theorem dX7_through_30 : decode cX7_through 30 = .ok (.aload_n 0, 1) := by decide +kernel
theorem dX7_through_31 : decode cX7_through 31 = .ok (.aload_n 0, 1) := by decide +kernel
theorem dX7_through_32 : decode cX7_through 32 = .ok (.getfield 19, 3) := by decide +kernel
theorem dX7_through_35 : decode cX7_through 35 = .ok (.getfield 178, 3) := by decide +kernel
theorem dX7_through_38 : decode cX7_through 38 = .ok (.invokevirtual 204, 3) := by decide +kernel
theorem dX7_through_41 : decode cX7_through 41 = .ok (.aload_n 0, 1) := by decide +kernel
theorem dX7_through_42 : decode cX7_through 42 = .ok (.getfield 19, 3) := by decide +kernel
theorem dX7_through_45 : decode cX7_through 45 = .ok (.getfield 178, 3) := by decide +kernel
theorem dX7_through_48 : decode cX7_through 48 = .ok (.invokestatic 208, 3) := by decide +kernel
theorem dX7_through_51 : decode cX7_through 51 = .ok (.iload_n 1, 1) := by decide +kernel
theorem dX7_through_52 : decode cX7_through 52 = .ok (.invokestatic 211, 3) := by decide +kernel
theorem dX7_through_55 : decode cX7_through 55 = .ok (.l2i, 1) := by decide +kernel
theorem dX7_through_56 : decode cX7_through 56 = .ok (.ireturn, 1) := by decide +kernel
theorem dX7_fails_0 : decode cX7_fails 0 = .ok (.aload_n 0, 1) := by decide +kernel
theorem dX7_fails_1 : decode cX7_fails 1 = .ok (.getfield 19, 3) := by decide +kernel
theorem dX7_fails_4 : decode cX7_fails 4 = .ok (.iload_n 1, 1) := by decide +kernel
theorem dX7_fails_5 : decode cX7_fails 5 = .ok (.invokevirtual 128, 3) := by decide +kernel
theorem dX7_fails_8 : decode cX7_fails 8 = .ok (.ifCond .ne 6, 3) := by decide +kernel
theorem dX7_fails_11 : decode cX7_fails 11 = .ok (.bipush (-2), 2) := by decide +kernel
theorem dX7_fails_13 : decode cX7_fails 13 = .ok (.ireturn, 1) := by decide +kernel
theorem dX7_fails_14 : decode cX7_fails 14 = .ok (.iload_n 2, 1) := by decide +kernel
theorem dX7_fails_15 : decode cX7_fails 15 = .ok (.invokestatic 201, 3) := by decide +kernel
theorem dX7_fails_18 : decode cX7_fails 18 = .ok (.ifCond .ne 6, 3) := by decide +kernel
theorem dX7_fails_21 : decode cX7_fails 21 = .ok (.bipush (-3), 2) := by decide +kernel
theorem dX7_fails_23 : decode cX7_fails 23 = .ok (.ireturn, 1) := by decide +kernel
theorem dX7_fails_24 : decode cX7_fails 24 = .ok (.aload_n 0, 1) := by decide +kernel
theorem dX7_fails_25 : decode cX7_fails 25 = .ok (.getfield 29, 3) := by decide +kernel
theorem dX7_fails_28 : decode cX7_fails 28 = .ok (.aload_n 0, 1) := by decide +kernel
theorem dX7_fails_29 : decode cX7_fails 29 = .ok (.getfield 19, 3) := by decide +kernel
theorem dX7_fails_32 : decode cX7_fails 32 = .ok (.getfield 178, 3) := by decide +kernel
theorem dX7_fails_35 : decode cX7_fails 35 = .ok (.invokevirtual 181, 3) := by decide +kernel
theorem dX7_fails_38 : decode cX7_fails 38 = .ok (.ifCond .ne 6, 3) := by decide +kernel
theorem dX7_fails_41 : decode cX7_fails 41 = .ok (.bipush (-4), 2) := by decide +kernel
theorem dX7_fails_43 : decode cX7_fails 43 = .ok (.ireturn, 1) := by decide +kernel
theorem dX7_fails_44 : decode cX7_fails 44 = .ok (.aload_n 0, 1) := by decide +kernel
theorem dX7_fails_45 : decode cX7_fails 45 = .ok (.iload_n 1, 1) := by decide +kernel
theorem dX7_fails_46 : decode cX7_fails 46 = .ok (.invokevirtual 215, 3) := by decide +kernel
theorem dX7_fails_49 : decode cX7_fails 49 = .ok (.iload_n 1, 1) := by decide +kernel
theorem dX7_fails_50 : decode cX7_fails 50 = .ok (.iconst 1, 1) := by decide +kernel
theorem dX7_fails_51 : decode cX7_fails 51 = .ok (.iadd, 1) := by decide +kernel
theorem dX7_fails_52 : decode cX7_fails 52 = .ok (.invokestatic 208, 3) := by decide +kernel
theorem dX7_fails_55 : decode cX7_fails 55 = .ok (.iload_n 2, 1) := by decide +kernel
theorem dX7_fails_56 : decode cX7_fails 56 = .ok (.invokestatic 211, 3) := by decide +kernel
theorem dX7_fails_59 : decode cX7_fails 59 = .ok (.l2i, 1) := by decide +kernel
theorem dX7_fails_60 : decode cX7_fails 60 = .ok (.ireturn, 1) := by decide +kernel
theorem dX7_loss_0 : decode cX7_loss 0 = .ok (.iload_n 1, 1) := by decide +kernel
theorem dX7_loss_1 : decode cX7_loss 1 = .ok (.invokestatic 201, 3) := by decide +kernel
theorem dX7_loss_4 : decode cX7_loss 4 = .ok (.ifCond .ne 6, 3) := by decide +kernel
theorem dX7_loss_7 : decode cX7_loss 7 = .ok (.bipush (-3), 2) := by decide +kernel
theorem dX7_loss_9 : decode cX7_loss 9 = .ok (.ireturn, 1) := by decide +kernel
theorem dX7_loss_10 : decode cX7_loss 10 = .ok (.aload_n 0, 1) := by decide +kernel
theorem dX7_loss_11 : decode cX7_loss 11 = .ok (.getfield 29, 3) := by decide +kernel
theorem dX7_loss_14 : decode cX7_loss 14 = .ok (.aload_n 0, 1) := by decide +kernel
theorem dX7_loss_15 : decode cX7_loss 15 = .ok (.getfield 19, 3) := by decide +kernel
theorem dX7_loss_18 : decode cX7_loss 18 = .ok (.getfield 178, 3) := by decide +kernel
theorem dX7_loss_21 : decode cX7_loss 21 = .ok (.invokevirtual 181, 3) := by decide +kernel
theorem dX7_loss_24 : decode cX7_loss 24 = .ok (.ifCond .ne 6, 3) := by decide +kernel
theorem dX7_loss_27 : decode cX7_loss 27 = .ok (.bipush (-4), 2) := by decide +kernel
theorem dX7_loss_29 : decode cX7_loss 29 = .ok (.ireturn, 1) := by decide +kernel
theorem dX7_loss_30 : decode cX7_loss 30 = .ok (.lconst 0, 1) := by decide +kernel
theorem dX7_loss_31 : decode cX7_loss 31 = .ok (.lstore_n 2, 1) := by decide +kernel
theorem dX7_loss_32 : decode cX7_loss 32 = .ok (.iconst 0, 1) := by decide +kernel
theorem dX7_loss_33 : decode cX7_loss 33 = .ok (.istore 4, 2) := by decide +kernel
theorem dX7_loss_35 : decode cX7_loss 35 = .ok (.iload 4, 2) := by decide +kernel
theorem dX7_loss_37 : decode cX7_loss 37 = .ok (.aload_n 0, 1) := by decide +kernel
theorem dX7_loss_38 : decode cX7_loss 38 = .ok (.getfield 19, 3) := by decide +kernel
theorem dX7_loss_41 : decode cX7_loss 41 = .ok (.getfield 178, 3) := by decide +kernel
theorem dX7_loss_44 : decode cX7_loss 44 = .ok (.if_icmp .ge 40, 3) := by decide +kernel
theorem dX7_loss_47 : decode cX7_loss 47 = .ok (.ldc2_w 218, 3) := by decide +kernel
theorem dX7_loss_50 : decode cX7_loss 50 = .ok (.lload_n 2, 1) := by decide +kernel
theorem dX7_loss_51 : decode cX7_loss 51 = .ok (.lmul, 1) := by decide +kernel
theorem dX7_loss_52 : decode cX7_loss 52 = .ok (.aload_n 0, 1) := by decide +kernel
theorem dX7_loss_53 : decode cX7_loss 53 = .ok (.getfield 19, 3) := by decide +kernel
theorem dX7_loss_56 : decode cX7_loss 56 = .ok (.aload_n 0, 1) := by decide +kernel
theorem dX7_loss_57 : decode cX7_loss 57 = .ok (.getfield 29, 3) := by decide +kernel
theorem dX7_loss_60 : decode cX7_loss 60 = .ok (.iload 4, 2) := by decide +kernel
theorem dX7_loss_62 : decode cX7_loss 62 = .ok (.invokevirtual 134, 3) := by decide +kernel
theorem dX7_loss_65 : decode cX7_loss 65 = .ok (.invokevirtual 220, 3) := by decide +kernel
theorem dX7_loss_68 : decode cX7_loss 68 = .ok (.i2l, 1) := by decide +kernel
theorem dX7_loss_69 : decode cX7_loss 69 = .ok (.aload_n 0, 1) := by decide +kernel
theorem dX7_loss_70 : decode cX7_loss 70 = .ok (.iload 4, 2) := by decide +kernel
theorem dX7_loss_72 : decode cX7_loss 72 = .ok (.invokevirtual 215, 3) := by decide +kernel
theorem dX7_loss_75 : decode cX7_loss 75 = .ok (.lmul, 1) := by decide +kernel
theorem dX7_loss_76 : decode cX7_loss 76 = .ok (.ladd, 1) := by decide +kernel
theorem dX7_loss_77 : decode cX7_loss 77 = .ok (.lstore_n 2, 1) := by decide +kernel
theorem dX7_loss_78 : decode cX7_loss 78 = .ok (.iinc 4 1, 3) := by decide +kernel
theorem dX7_loss_81 : decode cX7_loss 81 = .ok (.goto (-46), 3) := by decide +kernel
theorem dX7_loss_84 : decode cX7_loss 84 = .ok (.lload_n 2, 1) := by decide +kernel
theorem dX7_loss_85 : decode cX7_loss 85 = .ok (.aload_n 0, 1) := by decide +kernel
theorem dX7_loss_86 : decode cX7_loss 86 = .ok (.getfield 19, 3) := by decide +kernel
theorem dX7_loss_89 : decode cX7_loss 89 = .ok (.getfield 178, 3) := by decide +kernel
theorem dX7_loss_92 : decode cX7_loss 92 = .ok (.invokestatic 208, 3) := by decide +kernel
theorem dX7_loss_95 : decode cX7_loss 95 = .ok (.iload_n 1, 1) := by decide +kernel
theorem dX7_loss_96 : decode cX7_loss 96 = .ok (.invokestatic 211, 3) := by decide +kernel
theorem dX7_loss_99 : decode cX7_loss 99 = .ok (.l2i, 1) := by decide +kernel
theorem dX7_loss_100 : decode cX7_loss 100 = .ok (.ireturn, 1) := by decide +kernel
theorem dX7_best_0 : decode cX7_best 0 = .ok (.iload_n 1, 1) := by decide +kernel
theorem dX7_best_1 : decode cX7_best 1 = .ok (.invokestatic 201, 3) := by decide +kernel
theorem dX7_best_4 : decode cX7_best 4 = .ok (.ifCond .ne 6, 3) := by decide +kernel
theorem dX7_best_7 : decode cX7_best 7 = .ok (.bipush (-3), 2) := by decide +kernel
theorem dX7_best_9 : decode cX7_best 9 = .ok (.ireturn, 1) := by decide +kernel
theorem dX7_best_10 : decode cX7_best 10 = .ok (.aload_n 0, 1) := by decide +kernel
theorem dX7_best_11 : decode cX7_best 11 = .ok (.getfield 58, 3) := by decide +kernel
theorem dX7_best_14 : decode cX7_best 14 = .ok (.aload_n 0, 1) := by decide +kernel
theorem dX7_best_15 : decode cX7_best 15 = .ok (.getfield 19, 3) := by decide +kernel
theorem dX7_best_18 : decode cX7_best 18 = .ok (.aload_n 0, 1) := by decide +kernel
theorem dX7_best_19 : decode cX7_best 19 = .ok (.getfield 29, 3) := by decide +kernel
theorem dX7_best_22 : decode cX7_best 22 = .ok (.getfield 223, 3) := by decide +kernel
theorem dX7_best_25 : decode cX7_best 25 = .ok (.invokevirtual 226, 3) := by decide +kernel
theorem dX7_best_28 : decode cX7_best 28 = .ok (.aload_n 0, 1) := by decide +kernel
theorem dX7_best_29 : decode cX7_best 29 = .ok (.getfield 58, 3) := by decide +kernel
theorem dX7_best_32 : decode cX7_best 32 = .ok (.getfield 230, 3) := by decide +kernel
theorem dX7_best_35 : decode cX7_best 35 = .ok (.lconst 0, 1) := by decide +kernel
theorem dX7_best_36 : decode cX7_best 36 = .ok (.lcmp, 1) := by decide +kernel
theorem dX7_best_37 : decode cX7_best 37 = .ok (.ifCond .ge 6, 3) := by decide +kernel
theorem dX7_best_40 : decode cX7_best 40 = .ok (.bipush (-4), 2) := by decide +kernel
theorem dX7_best_42 : decode cX7_best 42 = .ok (.ireturn, 1) := by decide +kernel
theorem dX7_best_43 : decode cX7_best 43 = .ok (.aload_n 0, 1) := by decide +kernel
theorem dX7_best_44 : decode cX7_best 44 = .ok (.getfield 58, 3) := by decide +kernel
theorem dX7_best_47 : decode cX7_best 47 = .ok (.getfield 230, 3) := by decide +kernel
theorem dX7_best_50 : decode cX7_best 50 = .ok (.aload_n 0, 1) := by decide +kernel
theorem dX7_best_51 : decode cX7_best 51 = .ok (.getfield 19, 3) := by decide +kernel
theorem dX7_best_54 : decode cX7_best 54 = .ok (.getfield 178, 3) := by decide +kernel
theorem dX7_best_57 : decode cX7_best 57 = .ok (.invokestatic 208, 3) := by decide +kernel
theorem dX7_best_60 : decode cX7_best 60 = .ok (.iload_n 1, 1) := by decide +kernel
theorem dX7_best_61 : decode cX7_best 61 = .ok (.invokestatic 211, 3) := by decide +kernel
theorem dX7_best_64 : decode cX7_best 64 = .ok (.l2i, 1) := by decide +kernel
theorem dX7_best_65 : decode cX7_best 65 = .ok (.ireturn, 1) := by decide +kernel
theorem dX7_bestOf_0 : decode cX7_bestOf 0 = .ok (.aload_n 0, 1) := by decide +kernel
theorem dX7_bestOf_1 : decode cX7_bestOf 1 = .ok (.getfield 19, 3) := by decide +kernel
theorem dX7_bestOf_4 : decode cX7_bestOf 4 = .ok (.iload_n 1, 1) := by decide +kernel
theorem dX7_bestOf_5 : decode cX7_bestOf 5 = .ok (.invokevirtual 128, 3) := by decide +kernel
theorem dX7_bestOf_8 : decode cX7_bestOf 8 = .ok (.ifCond .ne 6, 3) := by decide +kernel
theorem dX7_bestOf_11 : decode cX7_bestOf 11 = .ok (.bipush (-2), 2) := by decide +kernel
theorem dX7_bestOf_13 : decode cX7_bestOf 13 = .ok (.ireturn, 1) := by decide +kernel
theorem dX7_bestOf_14 : decode cX7_bestOf 14 = .ok (.aload_n 0, 1) := by decide +kernel
theorem dX7_bestOf_15 : decode cX7_bestOf 15 = .ok (.getfield 58, 3) := by decide +kernel
theorem dX7_bestOf_18 : decode cX7_bestOf 18 = .ok (.aload_n 0, 1) := by decide +kernel
theorem dX7_bestOf_19 : decode cX7_bestOf 19 = .ok (.getfield 19, 3) := by decide +kernel
theorem dX7_bestOf_22 : decode cX7_bestOf 22 = .ok (.aload_n 0, 1) := by decide +kernel
theorem dX7_bestOf_23 : decode cX7_bestOf 23 = .ok (.getfield 29, 3) := by decide +kernel
theorem dX7_bestOf_26 : decode cX7_bestOf 26 = .ok (.getfield 223, 3) := by decide +kernel
theorem dX7_bestOf_29 : decode cX7_bestOf 29 = .ok (.invokevirtual 226, 3) := by decide +kernel
theorem dX7_bestOf_32 : decode cX7_bestOf 32 = .ok (.aload_n 0, 1) := by decide +kernel
theorem dX7_bestOf_33 : decode cX7_bestOf 33 = .ok (.getfield 58, 3) := by decide +kernel
theorem dX7_bestOf_36 : decode cX7_bestOf 36 = .ok (.getfield 234, 3) := by decide +kernel
theorem dX7_bestOf_39 : decode cX7_bestOf 39 = .ok (.iload_n 1, 1) := by decide +kernel
theorem dX7_bestOf_40 : decode cX7_bestOf 40 = .ok (.iaload, 1) := by decide +kernel
theorem dX7_bestOf_41 : decode cX7_bestOf 41 = .ok (.ireturn, 1) := by decide +kernel
theorem dX7_drawn_0 : decode cX7_drawn 0 = .ok (.aload_n 0, 1) := by decide +kernel
theorem dX7_drawn_1 : decode cX7_drawn 1 = .ok (.getfield 19, 3) := by decide +kernel
theorem dX7_drawn_4 : decode cX7_drawn 4 = .ok (.iload_n 1, 1) := by decide +kernel
theorem dX7_drawn_5 : decode cX7_drawn 5 = .ok (.invokevirtual 105, 3) := by decide +kernel
theorem dX7_drawn_8 : decode cX7_drawn 8 = .ok (.ifCond .ne 6, 3) := by decide +kernel
theorem dX7_drawn_11 : decode cX7_drawn 11 = .ok (.bipush (-2), 2) := by decide +kernel
theorem dX7_drawn_13 : decode cX7_drawn 13 = .ok (.ireturn, 1) := by decide +kernel
theorem dX7_drawn_14 : decode cX7_drawn 14 = .ok (.iload_n 2, 1) := by decide +kernel
theorem dX7_drawn_15 : decode cX7_drawn 15 = .ok (.invokestatic 201, 3) := by decide +kernel
theorem dX7_drawn_18 : decode cX7_drawn 18 = .ok (.ifCond .ne 6, 3) := by decide +kernel
theorem dX7_drawn_21 : decode cX7_drawn 21 = .ok (.bipush (-3), 2) := by decide +kernel
theorem dX7_drawn_23 : decode cX7_drawn 23 = .ok (.ireturn, 1) := by decide +kernel
theorem dX7_drawn_24 : decode cX7_drawn 24 = .ok (.iconst 0, 1) := by decide +kernel
theorem dX7_drawn_25 : decode cX7_drawn 25 = .ok (.istore_n 3, 1) := by decide +kernel
theorem dX7_drawn_26 : decode cX7_drawn 26 = .ok (.iconst 0, 1) := by decide +kernel
theorem dX7_drawn_27 : decode cX7_drawn 27 = .ok (.istore 4, 2) := by decide +kernel
theorem dX7_drawn_29 : decode cX7_drawn 29 = .ok (.iload 4, 2) := by decide +kernel
theorem dX7_drawn_31 : decode cX7_drawn 31 = .ok (.aload_n 0, 1) := by decide +kernel
theorem dX7_drawn_32 : decode cX7_drawn 32 = .ok (.getfield 19, 3) := by decide +kernel
theorem dX7_drawn_35 : decode cX7_drawn 35 = .ok (.getfield 89, 3) := by decide +kernel
theorem dX7_drawn_38 : decode cX7_drawn 38 = .ok (.if_icmp .ge 18, 3) := by decide +kernel
theorem dX7_drawn_41 : decode cX7_drawn 41 = .ok (.iload_n 3, 1) := by decide +kernel
theorem dX7_drawn_42 : decode cX7_drawn 42 = .ok (.aload_n 0, 1) := by decide +kernel
theorem dX7_drawn_43 : decode cX7_drawn 43 = .ok (.iload 4, 2) := by decide +kernel
theorem dX7_drawn_45 : decode cX7_drawn 45 = .ok (.invokevirtual 237, 3) := by decide +kernel
theorem dX7_drawn_48 : decode cX7_drawn 48 = .ok (.iadd, 1) := by decide +kernel
theorem dX7_drawn_49 : decode cX7_drawn 49 = .ok (.istore_n 3, 1) := by decide +kernel
theorem dX7_drawn_50 : decode cX7_drawn 50 = .ok (.iinc 4 1, 3) := by decide +kernel
theorem dX7_drawn_53 : decode cX7_drawn 53 = .ok (.goto (-24), 3) := by decide +kernel
theorem dX7_drawn_56 : decode cX7_drawn 56 = .ok (.iload_n 3, 1) := by decide +kernel
theorem dX7_drawn_57 : decode cX7_drawn 57 = .ok (.ifCond .ne 6, 3) := by decide +kernel
theorem dX7_drawn_60 : decode cX7_drawn 60 = .ok (.bipush (-4), 2) := by decide +kernel
theorem dX7_drawn_62 : decode cX7_drawn 62 = .ok (.ireturn, 1) := by decide +kernel
theorem dX7_drawn_63 : decode cX7_drawn 63 = .ok (.aload_n 0, 1) := by decide +kernel
theorem dX7_drawn_64 : decode cX7_drawn 64 = .ok (.iload_n 1, 1) := by decide +kernel
theorem dX7_drawn_65 : decode cX7_drawn 65 = .ok (.invokevirtual 237, 3) := by decide +kernel
theorem dX7_drawn_68 : decode cX7_drawn 68 = .ok (.i2l, 1) := by decide +kernel
theorem dX7_drawn_69 : decode cX7_drawn 69 = .ok (.iload_n 3, 1) := by decide +kernel
theorem dX7_drawn_70 : decode cX7_drawn 70 = .ok (.i2l, 1) := by decide +kernel
theorem dX7_drawn_71 : decode cX7_drawn 71 = .ok (.iload_n 2, 1) := by decide +kernel
theorem dX7_drawn_72 : decode cX7_drawn 72 = .ok (.invokestatic 211, 3) := by decide +kernel
theorem dX7_drawn_75 : decode cX7_drawn 75 = .ok (.l2i, 1) := by decide +kernel
theorem dX7_drawn_76 : decode cX7_drawn 76 = .ok (.ireturn, 1) := by decide +kernel
theorem dX7_alone_0 : decode cX7_alone 0 = .ok (.aload_n 0, 1) := by decide +kernel
theorem dX7_alone_1 : decode cX7_alone 1 = .ok (.getfield 19, 3) := by decide +kernel
theorem dX7_alone_4 : decode cX7_alone 4 = .ok (.iload_n 1, 1) := by decide +kernel
theorem dX7_alone_5 : decode cX7_alone 5 = .ok (.invokevirtual 105, 3) := by decide +kernel
theorem dX7_alone_8 : decode cX7_alone 8 = .ok (.ifCond .ne 6, 3) := by decide +kernel
theorem dX7_alone_11 : decode cX7_alone 11 = .ok (.bipush (-2), 2) := by decide +kernel
theorem dX7_alone_13 : decode cX7_alone 13 = .ok (.ireturn, 1) := by decide +kernel
theorem dX7_alone_14 : decode cX7_alone 14 = .ok (.iload_n 2, 1) := by decide +kernel
theorem dX7_alone_15 : decode cX7_alone 15 = .ok (.invokestatic 201, 3) := by decide +kernel
theorem dX7_alone_18 : decode cX7_alone 18 = .ok (.ifCond .ne 6, 3) := by decide +kernel
theorem dX7_alone_21 : decode cX7_alone 21 = .ok (.bipush (-3), 2) := by decide +kernel
theorem dX7_alone_23 : decode cX7_alone 23 = .ok (.ireturn, 1) := by decide +kernel
theorem dX7_alone_24 : decode cX7_alone 24 = .ok (.aload_n 0, 1) := by decide +kernel
theorem dX7_alone_25 : decode cX7_alone 25 = .ok (.getfield 19, 3) := by decide +kernel
theorem dX7_alone_28 : decode cX7_alone 28 = .ok (.iload_n 1, 1) := by decide +kernel
theorem dX7_alone_29 : decode cX7_alone 29 = .ok (.invokevirtual 240, 3) := by decide +kernel
theorem dX7_alone_32 : decode cX7_alone 32 = .ok (.aload_n 0, 1) := by decide +kernel
theorem dX7_alone_33 : decode cX7_alone 33 = .ok (.getfield 19, 3) := by decide +kernel
theorem dX7_alone_36 : decode cX7_alone 36 = .ok (.getfield 178, 3) := by decide +kernel
theorem dX7_alone_39 : decode cX7_alone 39 = .ok (.invokestatic 208, 3) := by decide +kernel
theorem dX7_alone_42 : decode cX7_alone 42 = .ok (.iload_n 2, 1) := by decide +kernel
theorem dX7_alone_43 : decode cX7_alone 43 = .ok (.invokestatic 211, 3) := by decide +kernel
theorem dX7_alone_46 : decode cX7_alone 46 = .ok (.l2i, 1) := by decide +kernel
theorem dX7_alone_47 : decode cX7_alone 47 = .ok (.ireturn, 1) := by decide +kernel
theorem dX7_dread_0 : decode cX7_dread 0 = .ok (.aload_n 0, 1) := by decide +kernel
theorem dX7_dread_1 : decode cX7_dread 1 = .ok (.getfield 19, 3) := by decide +kernel
theorem dX7_dread_4 : decode cX7_dread 4 = .ok (.iload_n 1, 1) := by decide +kernel
theorem dX7_dread_5 : decode cX7_dread 5 = .ok (.invokevirtual 105, 3) := by decide +kernel
theorem dX7_dread_8 : decode cX7_dread 8 = .ok (.ifCond .ne 6, 3) := by decide +kernel
theorem dX7_dread_11 : decode cX7_dread 11 = .ok (.bipush (-2), 2) := by decide +kernel
theorem dX7_dread_13 : decode cX7_dread 13 = .ok (.ireturn, 1) := by decide +kernel
theorem dX7_dread_14 : decode cX7_dread 14 = .ok (.iload_n 2, 1) := by decide +kernel
theorem dX7_dread_15 : decode cX7_dread 15 = .ok (.invokestatic 201, 3) := by decide +kernel
theorem dX7_dread_18 : decode cX7_dread 18 = .ok (.ifCond .ne 6, 3) := by decide +kernel
theorem dX7_dread_21 : decode cX7_dread 21 = .ok (.bipush (-3), 2) := by decide +kernel
theorem dX7_dread_23 : decode cX7_dread 23 = .ok (.ireturn, 1) := by decide +kernel
theorem dX7_dread_24 : decode cX7_dread 24 = .ok (.aload_n 0, 1) := by decide +kernel
theorem dX7_dread_25 : decode cX7_dread 25 = .ok (.getfield 19, 3) := by decide +kernel
theorem dX7_dread_28 : decode cX7_dread 28 = .ok (.iload_n 1, 1) := by decide +kernel
theorem dX7_dread_29 : decode cX7_dread 29 = .ok (.invokevirtual 243, 3) := by decide +kernel
theorem dX7_dread_32 : decode cX7_dread 32 = .ok (.aload_n 0, 1) := by decide +kernel
theorem dX7_dread_33 : decode cX7_dread 33 = .ok (.getfield 19, 3) := by decide +kernel
theorem dX7_dread_36 : decode cX7_dread 36 = .ok (.getfield 178, 3) := by decide +kernel
theorem dX7_dread_39 : decode cX7_dread 39 = .ok (.invokestatic 208, 3) := by decide +kernel
theorem dX7_dread_42 : decode cX7_dread 42 = .ok (.iload_n 2, 1) := by decide +kernel
theorem dX7_dread_43 : decode cX7_dread 43 = .ok (.invokestatic 211, 3) := by decide +kernel
theorem dX7_dread_46 : decode cX7_dread 46 = .ok (.l2i, 1) := by decide +kernel
theorem dX7_dread_47 : decode cX7_dread 47 = .ok (.ireturn, 1) := by decide +kernel
theorem dX7_hires_0 : decode cX7_hires 0 = .ok (.aload_n 0, 1) := by decide +kernel
theorem dX7_hires_1 : decode cX7_hires 1 = .ok (.getfield 19, 3) := by decide +kernel
theorem dX7_hires_4 : decode cX7_hires 4 = .ok (.iload_n 1, 1) := by decide +kernel
theorem dX7_hires_5 : decode cX7_hires 5 = .ok (.invokevirtual 105, 3) := by decide +kernel
theorem dX7_hires_8 : decode cX7_hires 8 = .ok (.ifCond .ne 6, 3) := by decide +kernel
theorem dX7_hires_11 : decode cX7_hires 11 = .ok (.bipush (-2), 2) := by decide +kernel
theorem dX7_hires_13 : decode cX7_hires 13 = .ok (.ireturn, 1) := by decide +kernel
theorem dX7_hires_14 : decode cX7_hires 14 = .ok (.aload_n 0, 1) := by decide +kernel
theorem dX7_hires_15 : decode cX7_hires 15 = .ok (.getfield 29, 3) := by decide +kernel
theorem dX7_hires_18 : decode cX7_hires 18 = .ok (.iload_n 1, 1) := by decide +kernel
theorem dX7_hires_19 : decode cX7_hires 19 = .ok (.invokevirtual 121, 3) := by decide +kernel
theorem dX7_hires_22 : decode cX7_hires 22 = .ok (.ifCond .ne 6, 3) := by decide +kernel
theorem dX7_hires_25 : decode cX7_hires 25 = .ok (.bipush (-4), 2) := by decide +kernel
theorem dX7_hires_27 : decode cX7_hires 27 = .ok (.ireturn, 1) := by decide +kernel
theorem dX7_hires_28 : decode cX7_hires 28 = .ok (.aload_n 0, 1) := by decide +kernel
theorem dX7_hires_29 : decode cX7_hires 29 = .ok (.invokevirtual 246, 3) := by decide +kernel
theorem dX7_hires_32 : decode cX7_hires 32 = .ok (.istore_n 2, 1) := by decide +kernel
theorem dX7_hires_33 : decode cX7_hires 33 = .ok (.aload_n 0, 1) := by decide +kernel
theorem dX7_hires_34 : decode cX7_hires 34 = .ok (.getfield 19, 3) := by decide +kernel
theorem dX7_hires_37 : decode cX7_hires 37 = .ok (.iload_n 2, 1) := by decide +kernel
theorem dX7_hires_38 : decode cX7_hires 38 = .ok (.invokevirtual 243, 3) := by decide +kernel
theorem dX7_hires_41 : decode cX7_hires 41 = .ok (.aload_n 0, 1) := by decide +kernel
theorem dX7_hires_42 : decode cX7_hires 42 = .ok (.getfield 19, 3) := by decide +kernel
theorem dX7_hires_45 : decode cX7_hires 45 = .ok (.iload_n 1, 1) := by decide +kernel
theorem dX7_hires_46 : decode cX7_hires 46 = .ok (.invokevirtual 243, 3) := by decide +kernel
theorem dX7_hires_49 : decode cX7_hires 49 = .ok (.lcmp, 1) := by decide +kernel
theorem dX7_hires_50 : decode cX7_hires 50 = .ok (.ifCond .ge 7, 3) := by decide +kernel
theorem dX7_hires_53 : decode cX7_hires 53 = .ok (.iload_n 2, 1) := by decide +kernel
theorem dX7_hires_54 : decode cX7_hires 54 = .ok (.goto 4, 3) := by decide +kernel
theorem dX7_hires_57 : decode cX7_hires 57 = .ok (.iload_n 1, 1) := by decide +kernel
theorem dX7_hires_58 : decode cX7_hires 58 = .ok (.ireturn, 1) := by decide +kernel
theorem dX7_rests_0 : decode cX7_rests 0 = .ok (.iload_n 1, 1) := by decide +kernel
theorem dX7_rests_1 : decode cX7_rests 1 = .ok (.bipush 99, 2) := by decide +kernel
theorem dX7_rests_3 : decode cX7_rests 3 = .ok (.invokestatic 69, 3) := by decide +kernel
theorem dX7_rests_6 : decode cX7_rests 6 = .ok (.ifCond .eq 11, 3) := by decide +kernel
theorem dX7_rests_9 : decode cX7_rests 9 = .ok (.iload_n 2, 1) := by decide +kernel
theorem dX7_rests_10 : decode cX7_rests 10 = .ok (.iconst 1, 1) := by decide +kernel
theorem dX7_rests_11 : decode cX7_rests 11 = .ok (.invokestatic 69, 3) := by decide +kernel
theorem dX7_rests_14 : decode cX7_rests 14 = .ok (.ifCond .ne 6, 3) := by decide +kernel
theorem dX7_rests_17 : decode cX7_rests 17 = .ok (.bipush (-3), 2) := by decide +kernel
theorem dX7_rests_19 : decode cX7_rests 19 = .ok (.ireturn, 1) := by decide +kernel
theorem dX7_rests_20 : decode cX7_rests 20 = .ok (.aload_n 0, 1) := by decide +kernel
theorem dX7_rests_21 : decode cX7_rests 21 = .ok (.getfield 65, 3) := by decide +kernel
theorem dX7_rests_24 : decode cX7_rests 24 = .ok (.aload_n 0, 1) := by decide +kernel
theorem dX7_rests_25 : decode cX7_rests 25 = .ok (.getfield 19, 3) := by decide +kernel
theorem dX7_rests_28 : decode cX7_rests 28 = .ok (.aload_n 0, 1) := by decide +kernel
theorem dX7_rests_29 : decode cX7_rests 29 = .ok (.getfield 29, 3) := by decide +kernel
theorem dX7_rests_32 : decode cX7_rests 32 = .ok (.getfield 223, 3) := by decide +kernel
theorem dX7_rests_35 : decode cX7_rests 35 = .ok (.iload_n 1, 1) := by decide +kernel
theorem dX7_rests_36 : decode cX7_rests 36 = .ok (.invokevirtual 249, 3) := by decide +kernel
theorem dX7_rests_39 : decode cX7_rests 39 = .ok (.iload_n 2, 1) := by decide +kernel
theorem dX7_rests_40 : decode cX7_rests 40 = .ok (.ifCond .ne 13, 3) := by decide +kernel
theorem dX7_rests_43 : decode cX7_rests 43 = .ok (.aload_n 0, 1) := by decide +kernel
theorem dX7_rests_44 : decode cX7_rests 44 = .ok (.getfield 65, 3) := by decide +kernel
theorem dX7_rests_47 : decode cX7_rests 47 = .ok (.invokevirtual 253, 3) := by decide +kernel
theorem dX7_rests_50 : decode cX7_rests 50 = .ok (.goto 10, 3) := by decide +kernel
theorem dX7_rests_53 : decode cX7_rests 53 = .ok (.aload_n 0, 1) := by decide +kernel
theorem dX7_rests_54 : decode cX7_rests 54 = .ok (.getfield 65, 3) := by decide +kernel
theorem dX7_rests_57 : decode cX7_rests 57 = .ok (.invokevirtual 256, 3) := by decide +kernel
theorem dX7_rests_60 : decode cX7_rests 60 = .ok (.ireturn, 1) := by decide +kernel
theorem dX7_fund_0 : decode cX7_fund 0 = .ok (.aload_n 0, 1) := by decide +kernel
theorem dX7_fund_1 : decode cX7_fund 1 = .ok (.invokevirtual 246, 3) := by decide +kernel
theorem dX7_fund_4 : decode cX7_fund 4 = .ok (.istore_n 1, 1) := by decide +kernel
theorem dX7_fund_5 : decode cX7_fund 5 = .ok (.aload_n 0, 1) := by decide +kernel
theorem dX7_fund_6 : decode cX7_fund 6 = .ok (.getfield 19, 3) := by decide +kernel
theorem dX7_fund_9 : decode cX7_fund 9 = .ok (.getfield 178, 3) := by decide +kernel
theorem dX7_fund_12 : decode cX7_fund 12 = .ok (.invokestatic 208, 3) := by decide +kernel
theorem dX7_fund_15 : decode cX7_fund 15 = .ok (.lstore_n 2, 1) := by decide +kernel
theorem dX7_fund_16 : decode cX7_fund 16 = .ok (.iconst 0, 1) := by decide +kernel
theorem dX7_fund_17 : decode cX7_fund 17 = .ok (.istore 4, 2) := by decide +kernel
theorem dX7_fund_19 : decode cX7_fund 19 = .ok (.iload 4, 2) := by decide +kernel
theorem dX7_fund_21 : decode cX7_fund 21 = .ok (.bipush 99, 2) := by decide +kernel
theorem dX7_fund_23 : decode cX7_fund 23 = .ok (.if_icmp .gt 42, 3) := by decide +kernel
theorem dX7_fund_26 : decode cX7_fund 26 = .ok (.iload_n 1, 1) := by decide +kernel
theorem dX7_fund_27 : decode cX7_fund 27 = .ok (.iconst (-1), 1) := by decide +kernel
theorem dX7_fund_28 : decode cX7_fund 28 = .ok (.if_icmp .eq 37, 3) := by decide +kernel
theorem dX7_fund_31 : decode cX7_fund 31 = .ok (.aload_n 0, 1) := by decide +kernel
theorem dX7_fund_32 : decode cX7_fund 32 = .ok (.getfield 19, 3) := by decide +kernel
theorem dX7_fund_35 : decode cX7_fund 35 = .ok (.iload_n 1, 1) := by decide +kernel
theorem dX7_fund_36 : decode cX7_fund 36 = .ok (.invokevirtual 243, 3) := by decide +kernel
theorem dX7_fund_39 : decode cX7_fund 39 = .ok (.iload 4, 2) := by decide +kernel
theorem dX7_fund_41 : decode cX7_fund 41 = .ok (.aload_n 0, 1) := by decide +kernel
theorem dX7_fund_42 : decode cX7_fund 42 = .ok (.getfield 19, 3) := by decide +kernel
theorem dX7_fund_45 : decode cX7_fund 45 = .ok (.getfield 259, 3) := by decide +kernel
theorem dX7_fund_48 : decode cX7_fund 48 = .ok (.iadd, 1) := by decide +kernel
theorem dX7_fund_49 : decode cX7_fund 49 = .ok (.i2l, 1) := by decide +kernel
theorem dX7_fund_50 : decode cX7_fund 50 = .ok (.lload_n 2, 1) := by decide +kernel
theorem dX7_fund_51 : decode cX7_fund 51 = .ok (.lmul, 1) := by decide +kernel
theorem dX7_fund_52 : decode cX7_fund 52 = .ok (.lcmp, 1) := by decide +kernel
theorem dX7_fund_53 : decode cX7_fund 53 = .ok (.ifCond .gt 6, 3) := by decide +kernel
theorem dX7_fund_56 : decode cX7_fund 56 = .ok (.iload 4, 2) := by decide +kernel
theorem dX7_fund_58 : decode cX7_fund 58 = .ok (.ireturn, 1) := by decide +kernel
theorem dX7_fund_59 : decode cX7_fund 59 = .ok (.iinc 4 1, 3) := by decide +kernel
theorem dX7_fund_62 : decode cX7_fund 62 = .ok (.goto (-43), 3) := by decide +kernel
theorem dX7_fund_65 : decode cX7_fund 65 = .ok (.iconst (-1), 1) := by decide +kernel
theorem dX7_fund_66 : decode cX7_fund 66 = .ok (.ireturn, 1) := by decide +kernel
theorem dX7_rats_0 : decode cX7_rats 0 = .ok (.iload_n 1, 1) := by decide +kernel
theorem dX7_rats_1 : decode cX7_rats 1 = .ok (.iconst 1, 1) := by decide +kernel
theorem dX7_rats_2 : decode cX7_rats 2 = .ok (.invokestatic 69, 3) := by decide +kernel
theorem dX7_rats_5 : decode cX7_rats 5 = .ok (.ifCond .ne 6, 3) := by decide +kernel
theorem dX7_rats_8 : decode cX7_rats 8 = .ok (.bipush (-3), 2) := by decide +kernel
theorem dX7_rats_10 : decode cX7_rats 10 = .ok (.ireturn, 1) := by decide +kernel
theorem dX7_rats_11 : decode cX7_rats 11 = .ok (.iconst (-1), 1) := by decide +kernel
theorem dX7_rats_12 : decode cX7_rats 12 = .ok (.istore_n 2, 1) := by decide +kernel
theorem dX7_rats_13 : decode cX7_rats 13 = .ok (.iconst 0, 1) := by decide +kernel
theorem dX7_rats_14 : decode cX7_rats 14 = .ok (.istore_n 3, 1) := by decide +kernel
theorem dX7_rats_15 : decode cX7_rats 15 = .ok (.iconst 0, 1) := by decide +kernel
theorem dX7_rats_16 : decode cX7_rats 16 = .ok (.istore 4, 2) := by decide +kernel
theorem dX7_rats_18 : decode cX7_rats 18 = .ok (.iload 4, 2) := by decide +kernel
theorem dX7_rats_20 : decode cX7_rats 20 = .ok (.aload_n 0, 1) := by decide +kernel
theorem dX7_rats_21 : decode cX7_rats 21 = .ok (.getfield 19, 3) := by decide +kernel
theorem dX7_rats_24 : decode cX7_rats 24 = .ok (.getfield 262, 3) := by decide +kernel
theorem dX7_rats_27 : decode cX7_rats 27 = .ok (.if_icmp .ge 35, 3) := by decide +kernel
theorem dX7_rats_30 : decode cX7_rats 30 = .ok (.aload_n 0, 1) := by decide +kernel
theorem dX7_rats_31 : decode cX7_rats 31 = .ok (.getfield 19, 3) := by decide +kernel
theorem dX7_rats_34 : decode cX7_rats 34 = .ok (.iload 4, 2) := by decide +kernel
theorem dX7_rats_36 : decode cX7_rats 36 = .ok (.invokevirtual 265, 3) := by decide +kernel
theorem dX7_rats_39 : decode cX7_rats 39 = .ok (.iload_n 3, 1) := by decide +kernel
theorem dX7_rats_40 : decode cX7_rats 40 = .ok (.if_icmp .le 16, 3) := by decide +kernel
theorem dX7_rats_43 : decode cX7_rats 43 = .ok (.iload 4, 2) := by decide +kernel
theorem dX7_rats_45 : decode cX7_rats 45 = .ok (.istore_n 2, 1) := by decide +kernel
theorem dX7_rats_46 : decode cX7_rats 46 = .ok (.aload_n 0, 1) := by decide +kernel
theorem dX7_rats_47 : decode cX7_rats 47 = .ok (.getfield 19, 3) := by decide +kernel
theorem dX7_rats_50 : decode cX7_rats 50 = .ok (.iload 4, 2) := by decide +kernel
theorem dX7_rats_52 : decode cX7_rats 52 = .ok (.invokevirtual 265, 3) := by decide +kernel
theorem dX7_rats_55 : decode cX7_rats 55 = .ok (.istore_n 3, 1) := by decide +kernel
theorem dX7_rats_56 : decode cX7_rats 56 = .ok (.iinc 4 1, 3) := by decide +kernel
theorem dX7_rats_59 : decode cX7_rats 59 = .ok (.goto (-41), 3) := by decide +kernel
theorem dX7_rats_62 : decode cX7_rats 62 = .ok (.iload_n 2, 1) := by decide +kernel
theorem dX7_rats_63 : decode cX7_rats 63 = .ok (.iconst (-1), 1) := by decide +kernel
theorem dX7_rats_64 : decode cX7_rats 64 = .ok (.if_icmp .ne 5, 3) := by decide +kernel
theorem dX7_rats_67 : decode cX7_rats 67 = .ok (.iconst (-1), 1) := by decide +kernel
theorem dX7_rats_68 : decode cX7_rats 68 = .ok (.ireturn, 1) := by decide +kernel
theorem dX7_rats_69 : decode cX7_rats 69 = .ok (.iload_n 1, 1) := by decide +kernel
theorem dX7_rats_70 : decode cX7_rats 70 = .ok (.ifCond .ne 7, 3) := by decide +kernel
theorem dX7_rats_73 : decode cX7_rats 73 = .ok (.iload_n 2, 1) := by decide +kernel
theorem dX7_rats_74 : decode cX7_rats 74 = .ok (.goto 4, 3) := by decide +kernel
theorem dX7_rats_77 : decode cX7_rats 77 = .ok (.iload_n 3, 1) := by decide +kernel
theorem dX7_rats_78 : decode cX7_rats 78 = .ok (.ireturn, 1) := by decide +kernel
theorem dX7_shoe_0 : decode cX7_shoe 0 = .ok (.aload_n 0, 1) := by decide +kernel
theorem dX7_shoe_1 : decode cX7_shoe 1 = .ok (.getfield 19, 3) := by decide +kernel
theorem dX7_shoe_4 : decode cX7_shoe 4 = .ok (.iload_n 1, 1) := by decide +kernel
theorem dX7_shoe_5 : decode cX7_shoe 5 = .ok (.invokevirtual 105, 3) := by decide +kernel
theorem dX7_shoe_8 : decode cX7_shoe 8 = .ok (.ifCond .eq 14, 3) := by decide +kernel
theorem dX7_shoe_11 : decode cX7_shoe 11 = .ok (.aload_n 0, 1) := by decide +kernel
theorem dX7_shoe_12 : decode cX7_shoe 12 = .ok (.getfield 19, 3) := by decide +kernel
theorem dX7_shoe_15 : decode cX7_shoe 15 = .ok (.iload_n 2, 1) := by decide +kernel
theorem dX7_shoe_16 : decode cX7_shoe 16 = .ok (.invokevirtual 128, 3) := by decide +kernel
theorem dX7_shoe_19 : decode cX7_shoe 19 = .ok (.ifCond .ne 7, 3) := by decide +kernel
theorem dX7_shoe_22 : decode cX7_shoe 22 = .ok (.ldc2_w 268, 3) := by decide +kernel
theorem dX7_shoe_25 : decode cX7_shoe 25 = .ok (.lreturn, 1) := by decide +kernel
theorem dX7_shoe_26 : decode cX7_shoe 26 = .ok (.iload_n 3, 1) := by decide +kernel
theorem dX7_shoe_27 : decode cX7_shoe 27 = .ok (.bipush 8, 2) := by decide +kernel
theorem dX7_shoe_29 : decode cX7_shoe 29 = .ok (.invokestatic 69, 3) := by decide +kernel
theorem dX7_shoe_32 : decode cX7_shoe 32 = .ok (.ifCond .eq 21, 3) := by decide +kernel
theorem dX7_shoe_35 : decode cX7_shoe 35 = .ok (.iload 4, 2) := by decide +kernel
theorem dX7_shoe_37 : decode cX7_shoe 37 = .ok (.bipush 10, 2) := by decide +kernel
theorem dX7_shoe_39 : decode cX7_shoe 39 = .ok (.invokestatic 69, 3) := by decide +kernel
theorem dX7_shoe_42 : decode cX7_shoe 42 = .ok (.ifCond .eq 11, 3) := by decide +kernel
theorem dX7_shoe_45 : decode cX7_shoe 45 = .ok (.iload 5, 2) := by decide +kernel
theorem dX7_shoe_47 : decode cX7_shoe 47 = .ok (.invokestatic 201, 3) := by decide +kernel
theorem dX7_shoe_50 : decode cX7_shoe 50 = .ok (.ifCond .ne 7, 3) := by decide +kernel
theorem dX7_shoe_53 : decode cX7_shoe 53 = .ok (.ldc2_w 270, 3) := by decide +kernel
theorem dX7_shoe_56 : decode cX7_shoe 56 = .ok (.lreturn, 1) := by decide +kernel
theorem dX7_shoe_57 : decode cX7_shoe 57 = .ok (.lconst 0, 1) := by decide +kernel
theorem dX7_shoe_58 : decode cX7_shoe 58 = .ok (.lstore 6, 2) := by decide +kernel
theorem dX7_shoe_60 : decode cX7_shoe 60 = .ok (.iconst 0, 1) := by decide +kernel
theorem dX7_shoe_61 : decode cX7_shoe 61 = .ok (.istore 8, 2) := by decide +kernel
theorem dX7_shoe_63 : decode cX7_shoe 63 = .ok (.iload 8, 2) := by decide +kernel
theorem dX7_shoe_65 : decode cX7_shoe 65 = .ok (.iload_n 3, 1) := by decide +kernel
theorem dX7_shoe_66 : decode cX7_shoe 66 = .ok (.if_icmp .gt 86, 3) := by decide +kernel
theorem dX7_shoe_69 : decode cX7_shoe 69 = .ok (.bipush 9, 2) := by decide +kernel
theorem dX7_shoe_71 : decode cX7_shoe 71 = .ok (.aload_n 0, 1) := by decide +kernel
theorem dX7_shoe_72 : decode cX7_shoe 72 = .ok (.getfield 19, 3) := by decide +kernel
theorem dX7_shoe_75 : decode cX7_shoe 75 = .ok (.getfield 112, 3) := by decide +kernel
theorem dX7_shoe_78 : decode cX7_shoe 78 = .ok (.iload_n 1, 1) := by decide +kernel
theorem dX7_shoe_79 : decode cX7_shoe 79 = .ok (.iaload, 1) := by decide +kernel
theorem dX7_shoe_80 : decode cX7_shoe 80 = .ok (.iload 8, 2) := by decide +kernel
theorem dX7_shoe_82 : decode cX7_shoe 82 = .ok (.iadd, 1) := by decide +kernel
theorem dX7_shoe_83 : decode cX7_shoe 83 = .ok (.invokestatic 272, 3) := by decide +kernel
theorem dX7_shoe_86 : decode cX7_shoe 86 = .ok (.istore 9, 2) := by decide +kernel
theorem dX7_shoe_88 : decode cX7_shoe 88 = .ok (.aload_n 0, 1) := by decide +kernel
theorem dX7_shoe_89 : decode cX7_shoe 89 = .ok (.getfield 19, 3) := by decide +kernel
theorem dX7_shoe_92 : decode cX7_shoe 92 = .ok (.getfield 131, 3) := by decide +kernel
theorem dX7_shoe_95 : decode cX7_shoe 95 = .ok (.iload_n 2, 1) := by decide +kernel
theorem dX7_shoe_96 : decode cX7_shoe 96 = .ok (.iaload, 1) := by decide +kernel
theorem dX7_shoe_97 : decode cX7_shoe 97 = .ok (.aload_n 0, 1) := by decide +kernel
theorem dX7_shoe_98 : decode cX7_shoe 98 = .ok (.getfield 19, 3) := by decide +kernel
theorem dX7_shoe_101 : decode cX7_shoe 101 = .ok (.getfield 108, 3) := by decide +kernel
theorem dX7_shoe_104 : decode cX7_shoe 104 = .ok (.iload_n 1, 1) := by decide +kernel
theorem dX7_shoe_105 : decode cX7_shoe 105 = .ok (.iaload, 1) := by decide +kernel
theorem dX7_shoe_106 : decode cX7_shoe 106 = .ok (.iload 9, 2) := by decide +kernel
theorem dX7_shoe_108 : decode cX7_shoe 108 = .ok (.invokestatic 152, 3) := by decide +kernel
theorem dX7_shoe_111 : decode cX7_shoe 111 = .ok (.ifCond .ne 35, 3) := by decide +kernel
theorem dX7_shoe_114 : decode cX7_shoe 114 = .ok (.lload 6, 2) := by decide +kernel
theorem dX7_shoe_116 : decode cX7_shoe 116 = .ok (.iload_n 3, 1) := by decide +kernel
theorem dX7_shoe_117 : decode cX7_shoe 117 = .ok (.iload 8, 2) := by decide +kernel
theorem dX7_shoe_119 : decode cX7_shoe 119 = .ok (.invokestatic 277, 3) := by decide +kernel
theorem dX7_shoe_122 : decode cX7_shoe 122 = .ok (.iload 4, 2) := by decide +kernel
theorem dX7_shoe_124 : decode cX7_shoe 124 = .ok (.iload 8, 2) := by decide +kernel
theorem dX7_shoe_126 : decode cX7_shoe 126 = .ok (.invokestatic 281, 3) := by decide +kernel
theorem dX7_shoe_129 : decode cX7_shoe 129 = .ok (.lmul, 1) := by decide +kernel
theorem dX7_shoe_130 : decode cX7_shoe 130 = .ok (.bipush 10, 2) := by decide +kernel
theorem dX7_shoe_132 : decode cX7_shoe 132 = .ok (.iload 4, 2) := by decide +kernel
theorem dX7_shoe_134 : decode cX7_shoe 134 = .ok (.isub, 1) := by decide +kernel
theorem dX7_shoe_135 : decode cX7_shoe 135 = .ok (.iload_n 3, 1) := by decide +kernel
theorem dX7_shoe_136 : decode cX7_shoe 136 = .ok (.iload 8, 2) := by decide +kernel
theorem dX7_shoe_138 : decode cX7_shoe 138 = .ok (.isub, 1) := by decide +kernel
theorem dX7_shoe_139 : decode cX7_shoe 139 = .ok (.invokestatic 281, 3) := by decide +kernel
theorem dX7_shoe_142 : decode cX7_shoe 142 = .ok (.lmul, 1) := by decide +kernel
theorem dX7_shoe_143 : decode cX7_shoe 143 = .ok (.ladd, 1) := by decide +kernel
theorem dX7_shoe_144 : decode cX7_shoe 144 = .ok (.lstore 6, 2) := by decide +kernel
theorem dX7_shoe_146 : decode cX7_shoe 146 = .ok (.iinc 8 1, 3) := by decide +kernel
theorem dX7_shoe_149 : decode cX7_shoe 149 = .ok (.goto (-86), 3) := by decide +kernel
theorem dX7_shoe_152 : decode cX7_shoe 152 = .ok (.lload 6, 2) := by decide +kernel
theorem dX7_shoe_154 : decode cX7_shoe 154 = .ok (.iload_n 3, 1) := by decide +kernel
theorem dX7_shoe_155 : decode cX7_shoe 155 = .ok (.invokestatic 208, 3) := by decide +kernel
theorem dX7_shoe_158 : decode cX7_shoe 158 = .ok (.iload 5, 2) := by decide +kernel
theorem dX7_shoe_160 : decode cX7_shoe 160 = .ok (.invokestatic 211, 3) := by decide +kernel
theorem dX7_shoe_163 : decode cX7_shoe 163 = .ok (.lreturn, 1) := by decide +kernel
theorem dX7_callOff_0 : decode cX7_callOff 0 = .ok (.iload_n 1, 1) := by decide +kernel
theorem dX7_callOff_1 : decode cX7_callOff 1 = .ok (.iconst 1, 1) := by decide +kernel
theorem dX7_callOff_2 : decode cX7_callOff 2 = .ok (.if_icmp .lt 45, 3) := by decide +kernel
theorem dX7_callOff_5 : decode cX7_callOff 5 = .ok (.iload_n 1, 1) := by decide +kernel
theorem dX7_callOff_6 : decode cX7_callOff 6 = .ok (.bipush 6, 2) := by decide +kernel
theorem dX7_callOff_8 : decode cX7_callOff 8 = .ok (.if_icmp .gt 39, 3) := by decide +kernel
theorem dX7_callOff_11 : decode cX7_callOff 11 = .ok (.iload_n 2, 1) := by decide +kernel
theorem dX7_callOff_12 : decode cX7_callOff 12 = .ok (.bipush 10, 2) := by decide +kernel
theorem dX7_callOff_14 : decode cX7_callOff 14 = .ok (.invokestatic 69, 3) := by decide +kernel
theorem dX7_callOff_17 : decode cX7_callOff 17 = .ok (.ifCond .eq 30, 3) := by decide +kernel
theorem dX7_callOff_20 : decode cX7_callOff 20 = .ok (.iload_n 3, 1) := by decide +kernel
theorem dX7_callOff_21 : decode cX7_callOff 21 = .ok (.bipush 99, 2) := by decide +kernel
theorem dX7_callOff_23 : decode cX7_callOff 23 = .ok (.invokestatic 69, 3) := by decide +kernel
theorem dX7_callOff_26 : decode cX7_callOff 26 = .ok (.ifCond .eq 21, 3) := by decide +kernel
theorem dX7_callOff_29 : decode cX7_callOff 29 = .ok (.iload 4, 2) := by decide +kernel
theorem dX7_callOff_31 : decode cX7_callOff 31 = .ok (.bipush 99, 2) := by decide +kernel
theorem dX7_callOff_33 : decode cX7_callOff 33 = .ok (.invokestatic 69, 3) := by decide +kernel
theorem dX7_callOff_36 : decode cX7_callOff 36 = .ok (.ifCond .eq 11, 3) := by decide +kernel
theorem dX7_callOff_39 : decode cX7_callOff 39 = .ok (.iload 5, 2) := by decide +kernel
theorem dX7_callOff_41 : decode cX7_callOff 41 = .ok (.invokestatic 201, 3) := by decide +kernel
theorem dX7_callOff_44 : decode cX7_callOff 44 = .ok (.ifCond .ne 7, 3) := by decide +kernel
theorem dX7_callOff_47 : decode cX7_callOff 47 = .ok (.ldc2_w 270, 3) := by decide +kernel
theorem dX7_callOff_50 : decode cX7_callOff 50 = .ok (.lreturn, 1) := by decide +kernel
theorem dX7_callOff_51 : decode cX7_callOff 51 = .ok (.lconst 0, 1) := by decide +kernel
theorem dX7_callOff_52 : decode cX7_callOff 52 = .ok (.lstore 6, 2) := by decide +kernel
theorem dX7_callOff_54 : decode cX7_callOff 54 = .ok (.lconst 1, 1) := by decide +kernel
theorem dX7_callOff_55 : decode cX7_callOff 55 = .ok (.lstore 8, 2) := by decide +kernel
theorem dX7_callOff_57 : decode cX7_callOff 57 = .ok (.iconst 1, 1) := by decide +kernel
theorem dX7_callOff_58 : decode cX7_callOff 58 = .ok (.istore 10, 2) := by decide +kernel
theorem dX7_callOff_60 : decode cX7_callOff 60 = .ok (.iload 10, 2) := by decide +kernel
theorem dX7_callOff_62 : decode cX7_callOff 62 = .ok (.iload_n 1, 1) := by decide +kernel
theorem dX7_callOff_63 : decode cX7_callOff 63 = .ok (.if_icmp .gt 46, 3) := by decide +kernel
theorem dX7_callOff_66 : decode cX7_callOff 66 = .ok (.lconst 0, 1) := by decide +kernel
theorem dX7_callOff_67 : decode cX7_callOff 67 = .ok (.iload_n 2, 1) := by decide +kernel
theorem dX7_callOff_68 : decode cX7_callOff 68 = .ok (.iload_n 3, 1) := by decide +kernel
theorem dX7_callOff_69 : decode cX7_callOff 69 = .ok (.imul, 1) := by decide +kernel
theorem dX7_callOff_70 : decode cX7_callOff 70 = .ok (.i2l, 1) := by decide +kernel
theorem dX7_callOff_71 : decode cX7_callOff 71 = .ok (.lload 8, 2) := by decide +kernel
theorem dX7_callOff_73 : decode cX7_callOff 73 = .ok (.lmul, 1) := by decide +kernel
theorem dX7_callOff_74 : decode cX7_callOff 74 = .ok (.bipush 10, 2) := by decide +kernel
theorem dX7_callOff_76 : decode cX7_callOff 76 = .ok (.iload_n 2, 1) := by decide +kernel
theorem dX7_callOff_77 : decode cX7_callOff 77 = .ok (.isub, 1) := by decide +kernel
theorem dX7_callOff_78 : decode cX7_callOff 78 = .ok (.i2l, 1) := by decide +kernel
theorem dX7_callOff_79 : decode cX7_callOff 79 = .ok (.lload 6, 2) := by decide +kernel
theorem dX7_callOff_81 : decode cX7_callOff 81 = .ok (.iload 4, 2) := by decide +kernel
theorem dX7_callOff_83 : decode cX7_callOff 83 = .ok (.i2l, 1) := by decide +kernel
theorem dX7_callOff_84 : decode cX7_callOff 84 = .ok (.lload 8, 2) := by decide +kernel
theorem dX7_callOff_86 : decode cX7_callOff 86 = .ok (.lmul, 1) := by decide +kernel
theorem dX7_callOff_87 : decode cX7_callOff 87 = .ok (.lsub, 1) := by decide +kernel
theorem dX7_callOff_88 : decode cX7_callOff 88 = .ok (.lmul, 1) := by decide +kernel
theorem dX7_callOff_89 : decode cX7_callOff 89 = .ok (.ladd, 1) := by decide +kernel
theorem dX7_callOff_90 : decode cX7_callOff 90 = .ok (.invokestatic 284, 3) := by decide +kernel
theorem dX7_callOff_93 : decode cX7_callOff 93 = .ok (.lstore 6, 2) := by decide +kernel
theorem dX7_callOff_95 : decode cX7_callOff 95 = .ok (.lload 8, 2) := by decide +kernel
theorem dX7_callOff_97 : decode cX7_callOff 97 = .ok (.ldc2_w 218, 3) := by decide +kernel
theorem dX7_callOff_100 : decode cX7_callOff 100 = .ok (.lmul, 1) := by decide +kernel
theorem dX7_callOff_101 : decode cX7_callOff 101 = .ok (.lstore 8, 2) := by decide +kernel
theorem dX7_callOff_103 : decode cX7_callOff 103 = .ok (.iinc 10 1, 3) := by decide +kernel
theorem dX7_callOff_106 : decode cX7_callOff 106 = .ok (.goto (-46), 3) := by decide +kernel
theorem dX7_callOff_109 : decode cX7_callOff 109 = .ok (.lload 6, 2) := by decide +kernel
theorem dX7_callOff_111 : decode cX7_callOff 111 = .ok (.lload 8, 2) := by decide +kernel
theorem dX7_callOff_113 : decode cX7_callOff 113 = .ok (.iload 5, 2) := by decide +kernel
theorem dX7_callOff_115 : decode cX7_callOff 115 = .ok (.invokestatic 211, 3) := by decide +kernel
theorem dX7_callOff_118 : decode cX7_callOff 118 = .ok (.lreturn, 1) := by decide +kernel
theorem dX7_seen_0 : decode cX7_seen 0 = .ok (.aload_n 0, 1) := by decide +kernel
theorem dX7_seen_1 : decode cX7_seen 1 = .ok (.getfield 19, 3) := by decide +kernel
theorem dX7_seen_4 : decode cX7_seen 4 = .ok (.iload_n 1, 1) := by decide +kernel
theorem dX7_seen_5 : decode cX7_seen 5 = .ok (.invokevirtual 128, 3) := by decide +kernel
theorem dX7_seen_8 : decode cX7_seen 8 = .ok (.ifCond .eq 14, 3) := by decide +kernel
theorem dX7_seen_11 : decode cX7_seen 11 = .ok (.aload_n 0, 1) := by decide +kernel
theorem dX7_seen_12 : decode cX7_seen 12 = .ok (.getfield 19, 3) := by decide +kernel
theorem dX7_seen_15 : decode cX7_seen 15 = .ok (.iload_n 2, 1) := by decide +kernel
theorem dX7_seen_16 : decode cX7_seen 16 = .ok (.invokevirtual 105, 3) := by decide +kernel
theorem dX7_seen_19 : decode cX7_seen 19 = .ok (.ifCond .ne 6, 3) := by decide +kernel
theorem dX7_seen_22 : decode cX7_seen 22 = .ok (.bipush (-2), 2) := by decide +kernel
theorem dX7_seen_24 : decode cX7_seen 24 = .ok (.ireturn, 1) := by decide +kernel
theorem dX7_seen_25 : decode cX7_seen 25 = .ok (.aload_n 0, 1) := by decide +kernel
theorem dX7_seen_26 : decode cX7_seen 26 = .ok (.getfield 51, 3) := by decide +kernel
theorem dX7_seen_29 : decode cX7_seen 29 = .ok (.iload_n 1, 1) := by decide +kernel
theorem dX7_seen_30 : decode cX7_seen 30 = .ok (.iload_n 2, 1) := by decide +kernel
theorem dX7_seen_31 : decode cX7_seen 31 = .ok (.invokevirtual 288, 3) := by decide +kernel
theorem dX7_seen_34 : decode cX7_seen 34 = .ok (.ifCond .eq 13, 3) := by decide +kernel
theorem dX7_seen_37 : decode cX7_seen 37 = .ok (.aload_n 0, 1) := by decide +kernel
theorem dX7_seen_38 : decode cX7_seen 38 = .ok (.getfield 51, 3) := by decide +kernel
theorem dX7_seen_41 : decode cX7_seen 41 = .ok (.getfield 99, 3) := by decide +kernel
theorem dX7_seen_44 : decode cX7_seen 44 = .ok (.goto 5, 3) := by decide +kernel
theorem dX7_seen_47 : decode cX7_seen 47 = .ok (.bipush (-5), 2) := by decide +kernel
theorem dX7_seen_49 : decode cX7_seen 49 = .ok (.ireturn, 1) := by decide +kernel
theorem dX7_forget_0 : decode cX7_forget 0 = .ok (.aload_n 0, 1) := by decide +kernel
theorem dX7_forget_1 : decode cX7_forget 1 = .ok (.getfield 51, 3) := by decide +kernel
theorem dX7_forget_4 : decode cX7_forget 4 = .ok (.getfield 99, 3) := by decide +kernel
theorem dX7_forget_7 : decode cX7_forget 7 = .ok (.istore_n 1, 1) := by decide +kernel
theorem dX7_forget_8 : decode cX7_forget 8 = .ok (.aload_n 0, 1) := by decide +kernel
theorem dX7_forget_9 : decode cX7_forget 9 = .ok (.getfield 51, 3) := by decide +kernel
theorem dX7_forget_12 : decode cX7_forget 12 = .ok (.iconst 0, 1) := by decide +kernel
theorem dX7_forget_13 : decode cX7_forget 13 = .ok (.putfield 99, 3) := by decide +kernel
theorem dX7_forget_16 : decode cX7_forget 16 = .ok (.iload_n 1, 1) := by decide +kernel
theorem dX7_forget_17 : decode cX7_forget 17 = .ok (.ireturn, 1) := by decide +kernel
theorem dX7_teams_0 : decode cX7_teams 0 = .ok (.iload_n 1, 1) := by decide +kernel
theorem dX7_teams_1 : decode cX7_teams 1 = .ok (.iconst 1, 1) := by decide +kernel
theorem dX7_teams_2 : decode cX7_teams 2 = .ok (.invokestatic 69, 3) := by decide +kernel
theorem dX7_teams_5 : decode cX7_teams 5 = .ok (.ifCond .ne 6, 3) := by decide +kernel
theorem dX7_teams_8 : decode cX7_teams 8 = .ok (.bipush (-3), 2) := by decide +kernel
theorem dX7_teams_10 : decode cX7_teams 10 = .ok (.ireturn, 1) := by decide +kernel
theorem dX7_teams_11 : decode cX7_teams 11 = .ok (.iload_n 1, 1) := by decide +kernel
theorem dX7_teams_12 : decode cX7_teams 12 = .ok (.ifCond .ne 17, 3) := by decide +kernel
theorem dX7_teams_15 : decode cX7_teams 15 = .ok (.aload_n 0, 1) := by decide +kernel
theorem dX7_teams_16 : decode cX7_teams 16 = .ok (.getfield 51, 3) := by decide +kernel
theorem dX7_teams_19 : decode cX7_teams 19 = .ok (.aload_n 0, 1) := by decide +kernel
theorem dX7_teams_20 : decode cX7_teams 20 = .ok (.getfield 19, 3) := by decide +kernel
theorem dX7_teams_23 : decode cX7_teams 23 = .ok (.invokevirtual 291, 3) := by decide +kernel
theorem dX7_teams_26 : decode cX7_teams 26 = .ok (.goto 14, 3) := by decide +kernel
theorem dX7_teams_29 : decode cX7_teams 29 = .ok (.aload_n 0, 1) := by decide +kernel
theorem dX7_teams_30 : decode cX7_teams 30 = .ok (.getfield 51, 3) := by decide +kernel
theorem dX7_teams_33 : decode cX7_teams 33 = .ok (.aload_n 0, 1) := by decide +kernel
theorem dX7_teams_34 : decode cX7_teams 34 = .ok (.getfield 19, 3) := by decide +kernel
theorem dX7_teams_37 : decode cX7_teams 37 = .ok (.invokevirtual 295, 3) := by decide +kernel
theorem dX7_teams_40 : decode cX7_teams 40 = .ok (.ireturn, 1) := by decide +kernel
theorem dX7_teamOf_0 : decode cX7_teamOf 0 = .ok (.aload_n 0, 1) := by decide +kernel
theorem dX7_teamOf_1 : decode cX7_teamOf 1 = .ok (.getfield 19, 3) := by decide +kernel
theorem dX7_teamOf_4 : decode cX7_teamOf 4 = .ok (.iload_n 1, 1) := by decide +kernel
theorem dX7_teamOf_5 : decode cX7_teamOf 5 = .ok (.invokevirtual 128, 3) := by decide +kernel
theorem dX7_teamOf_8 : decode cX7_teamOf 8 = .ok (.ifCond .ne 6, 3) := by decide +kernel
theorem dX7_teamOf_11 : decode cX7_teamOf 11 = .ok (.bipush (-2), 2) := by decide +kernel
theorem dX7_teamOf_13 : decode cX7_teamOf 13 = .ok (.ireturn, 1) := by decide +kernel
theorem dX7_teamOf_14 : decode cX7_teamOf 14 = .ok (.aload_n 0, 1) := by decide +kernel
theorem dX7_teamOf_15 : decode cX7_teamOf 15 = .ok (.getfield 51, 3) := by decide +kernel
theorem dX7_teamOf_18 : decode cX7_teamOf 18 = .ok (.aload_n 0, 1) := by decide +kernel
theorem dX7_teamOf_19 : decode cX7_teamOf 19 = .ok (.getfield 19, 3) := by decide +kernel
theorem dX7_teamOf_22 : decode cX7_teamOf 22 = .ok (.invokevirtual 291, 3) := by decide +kernel
theorem dX7_teamOf_25 : decode cX7_teamOf 25 = .ok (.ifCond .ne 5, 3) := by decide +kernel
theorem dX7_teamOf_28 : decode cX7_teamOf 28 = .ok (.iconst (-1), 1) := by decide +kernel
theorem dX7_teamOf_29 : decode cX7_teamOf 29 = .ok (.ireturn, 1) := by decide +kernel
theorem dX7_teamOf_30 : decode cX7_teamOf 30 = .ok (.aload_n 0, 1) := by decide +kernel
theorem dX7_teamOf_31 : decode cX7_teamOf 31 = .ok (.getfield 51, 3) := by decide +kernel
theorem dX7_teamOf_34 : decode cX7_teamOf 34 = .ok (.aload_n 0, 1) := by decide +kernel
theorem dX7_teamOf_35 : decode cX7_teamOf 35 = .ok (.getfield 19, 3) := by decide +kernel
theorem dX7_teamOf_38 : decode cX7_teamOf 38 = .ok (.iload_n 1, 1) := by decide +kernel
theorem dX7_teamOf_39 : decode cX7_teamOf 39 = .ok (.invokevirtual 298, 3) := by decide +kernel
theorem dX7_teamOf_42 : decode cX7_teamOf 42 = .ok (.invokestatic 302, 3) := by decide +kernel
theorem dX7_teamOf_45 : decode cX7_teamOf 45 = .ok (.ireturn, 1) := by decide +kernel
theorem dX7_count_0 : decode cX7_count 0 = .ok (.iload_n 1, 1) := by decide +kernel
theorem dX7_count_1 : decode cX7_count 1 = .ok (.tableswitch 155 0 10 #[59, 67, 75, 83, 91, 99, 107, 123, 131, 139, 147], 59) := by decide +kernel
theorem dX7_count_60 : decode cX7_count 60 = .ok (.aload_n 0, 1) := by decide +kernel
theorem dX7_count_61 : decode cX7_count 61 = .ok (.getfield 19, 3) := by decide +kernel
theorem dX7_count_64 : decode cX7_count 64 = .ok (.getfield 89, 3) := by decide +kernel
theorem dX7_count_67 : decode cX7_count 67 = .ok (.ireturn, 1) := by decide +kernel
theorem dX7_count_68 : decode cX7_count 68 = .ok (.aload_n 0, 1) := by decide +kernel
theorem dX7_count_69 : decode cX7_count 69 = .ok (.getfield 19, 3) := by decide +kernel
theorem dX7_count_72 : decode cX7_count 72 = .ok (.getfield 178, 3) := by decide +kernel
theorem dX7_count_75 : decode cX7_count 75 = .ok (.ireturn, 1) := by decide +kernel
theorem dX7_count_76 : decode cX7_count 76 = .ok (.aload_n 0, 1) := by decide +kernel
theorem dX7_count_77 : decode cX7_count 77 = .ok (.getfield 19, 3) := by decide +kernel
theorem dX7_count_80 : decode cX7_count 80 = .ok (.getfield 262, 3) := by decide +kernel
theorem dX7_count_83 : decode cX7_count 83 = .ok (.ireturn, 1) := by decide +kernel
theorem dX7_count_84 : decode cX7_count 84 = .ok (.aload_n 0, 1) := by decide +kernel
theorem dX7_count_85 : decode cX7_count 85 = .ok (.getfield 19, 3) := by decide +kernel
theorem dX7_count_88 : decode cX7_count 88 = .ok (.getfield 259, 3) := by decide +kernel
theorem dX7_count_91 : decode cX7_count 91 = .ok (.ireturn, 1) := by decide +kernel
theorem dX7_count_92 : decode cX7_count 92 = .ok (.aload_n 0, 1) := by decide +kernel
theorem dX7_count_93 : decode cX7_count 93 = .ok (.getfield 29, 3) := by decide +kernel
theorem dX7_count_96 : decode cX7_count 96 = .ok (.getfield 184, 3) := by decide +kernel
theorem dX7_count_99 : decode cX7_count 99 = .ok (.ireturn, 1) := by decide +kernel
theorem dX7_count_100 : decode cX7_count 100 = .ok (.aload_n 0, 1) := by decide +kernel
theorem dX7_count_101 : decode cX7_count 101 = .ok (.getfield 29, 3) := by decide +kernel
theorem dX7_count_104 : decode cX7_count 104 = .ok (.getfield 223, 3) := by decide +kernel
theorem dX7_count_107 : decode cX7_count 107 = .ok (.ireturn, 1) := by decide +kernel
theorem dX7_count_108 : decode cX7_count 108 = .ok (.aload_n 0, 1) := by decide +kernel
theorem dX7_count_109 : decode cX7_count 109 = .ok (.getfield 29, 3) := by decide +kernel
theorem dX7_count_112 : decode cX7_count 112 = .ok (.getfield 174, 3) := by decide +kernel
theorem dX7_count_115 : decode cX7_count 115 = .ok (.ifCond .eq 7, 3) := by decide +kernel
theorem dX7_count_118 : decode cX7_count 118 = .ok (.iconst 1, 1) := by decide +kernel
theorem dX7_count_119 : decode cX7_count 119 = .ok (.goto 4, 3) := by decide +kernel
theorem dX7_count_122 : decode cX7_count 122 = .ok (.iconst 0, 1) := by decide +kernel
theorem dX7_count_123 : decode cX7_count 123 = .ok (.ireturn, 1) := by decide +kernel
theorem dX7_count_124 : decode cX7_count 124 = .ok (.aload_n 0, 1) := by decide +kernel
theorem dX7_count_125 : decode cX7_count 125 = .ok (.getfield 29, 3) := by decide +kernel
theorem dX7_count_128 : decode cX7_count 128 = .ok (.invokevirtual 168, 3) := by decide +kernel
theorem dX7_count_131 : decode cX7_count 131 = .ok (.ireturn, 1) := by decide +kernel
theorem dX7_count_132 : decode cX7_count 132 = .ok (.aload_n 0, 1) := by decide +kernel
theorem dX7_count_133 : decode cX7_count 133 = .ok (.getfield 51, 3) := by decide +kernel
theorem dX7_count_136 : decode cX7_count 136 = .ok (.getfield 99, 3) := by decide +kernel
theorem dX7_count_139 : decode cX7_count 139 = .ok (.ireturn, 1) := by decide +kernel
theorem dX7_count_140 : decode cX7_count 140 = .ok (.aload_n 0, 1) := by decide +kernel
theorem dX7_count_141 : decode cX7_count 141 = .ok (.getfield 36, 3) := by decide +kernel
theorem dX7_count_144 : decode cX7_count 144 = .ok (.getfield 96, 3) := by decide +kernel
theorem dX7_count_147 : decode cX7_count 147 = .ok (.ireturn, 1) := by decide +kernel
theorem dX7_count_148 : decode cX7_count 148 = .ok (.aload_n 0, 1) := by decide +kernel
theorem dX7_count_149 : decode cX7_count 149 = .ok (.getfield 10, 3) := by decide +kernel
theorem dX7_count_152 : decode cX7_count 152 = .ok (.getfield 77, 3) := by decide +kernel
theorem dX7_count_155 : decode cX7_count 155 = .ok (.ireturn, 1) := by decide +kernel
theorem dX7_count_156 : decode cX7_count 156 = .ok (.bipush (-3), 2) := by decide +kernel
theorem dX7_count_158 : decode cX7_count 158 = .ok (.ireturn, 1) := by decide +kernel
theorem dX7_readDraft_0 : decode cX7_readDraft 0 = .ok (.aload_n 0, 1) := by decide +kernel
theorem dX7_readDraft_1 : decode cX7_readDraft 1 = .ok (.getfield 23, 3) := by decide +kernel
theorem dX7_readDraft_4 : decode cX7_readDraft 4 = .ok (.aload_n 0, 1) := by decide +kernel
theorem dX7_readDraft_5 : decode cX7_readDraft 5 = .ok (.getfield 19, 3) := by decide +kernel
theorem dX7_readDraft_8 : decode cX7_readDraft 8 = .ok (.invokevirtual 85, 3) := by decide +kernel
theorem dX7_readDraft_11 : decode cX7_readDraft 11 = .ok (.aload_n 0, 1) := by decide +kernel
theorem dX7_readDraft_12 : decode cX7_readDraft 12 = .ok (.getfield 10, 3) := by decide +kernel
theorem dX7_readDraft_15 : decode cX7_readDraft 15 = .ok (.aload_n 0, 1) := by decide +kernel
theorem dX7_readDraft_16 : decode cX7_readDraft 16 = .ok (.getfield 23, 3) := by decide +kernel
theorem dX7_readDraft_19 : decode cX7_readDraft 19 = .ok (.invokevirtual 305, 3) := by decide +kernel
theorem dX7_readDraft_22 : decode cX7_readDraft 22 = .ok (.ireturn, 1) := by decide +kernel
theorem dX7_caughtBy_0 : decode cX7_caughtBy 0 = .ok (.iconst 0, 1) := by decide +kernel
theorem dX7_caughtBy_1 : decode cX7_caughtBy 1 = .ok (.istore_n 2, 1) := by decide +kernel
theorem dX7_caughtBy_2 : decode cX7_caughtBy 2 = .ok (.iload_n 2, 1) := by decide +kernel
theorem dX7_caughtBy_3 : decode cX7_caughtBy 3 = .ok (.aload_n 0, 1) := by decide +kernel
theorem dX7_caughtBy_4 : decode cX7_caughtBy 4 = .ok (.getfield 19, 3) := by decide +kernel
theorem dX7_caughtBy_7 : decode cX7_caughtBy 7 = .ok (.getfield 178, 3) := by decide +kernel
theorem dX7_caughtBy_10 : decode cX7_caughtBy 10 = .ok (.if_icmp .ge 37, 3) := by decide +kernel
theorem dX7_caughtBy_13 : decode cX7_caughtBy 13 = .ok (.aload_n 0, 1) := by decide +kernel
theorem dX7_caughtBy_14 : decode cX7_caughtBy 14 = .ok (.getfield 29, 3) := by decide +kernel
theorem dX7_caughtBy_17 : decode cX7_caughtBy 17 = .ok (.iload_n 2, 1) := by decide +kernel
theorem dX7_caughtBy_18 : decode cX7_caughtBy 18 = .ok (.invokevirtual 134, 3) := by decide +kernel
theorem dX7_caughtBy_21 : decode cX7_caughtBy 21 = .ok (.istore_n 3, 1) := by decide +kernel
theorem dX7_caughtBy_22 : decode cX7_caughtBy 22 = .ok (.iload_n 1, 1) := by decide +kernel
theorem dX7_caughtBy_23 : decode cX7_caughtBy 23 = .ok (.iload_n 2, 1) := by decide +kernel
theorem dX7_caughtBy_24 : decode cX7_caughtBy 24 = .ok (.invokestatic 308, 3) := by decide +kernel
theorem dX7_caughtBy_27 : decode cX7_caughtBy 27 = .ok (.aload_n 0, 1) := by decide +kernel
theorem dX7_caughtBy_28 : decode cX7_caughtBy 28 = .ok (.getfield 19, 3) := by decide +kernel
theorem dX7_caughtBy_31 : decode cX7_caughtBy 31 = .ok (.iload_n 2, 1) := by decide +kernel
theorem dX7_caughtBy_32 : decode cX7_caughtBy 32 = .ok (.iload_n 3, 1) := by decide +kernel
theorem dX7_caughtBy_33 : decode cX7_caughtBy 33 = .ok (.invokevirtual 156, 3) := by decide +kernel
theorem dX7_caughtBy_36 : decode cX7_caughtBy 36 = .ok (.if_icmp .ge 5, 3) := by decide +kernel
theorem dX7_caughtBy_39 : decode cX7_caughtBy 39 = .ok (.iload_n 3, 1) := by decide +kernel
theorem dX7_caughtBy_40 : decode cX7_caughtBy 40 = .ok (.ireturn, 1) := by decide +kernel
theorem dX7_caughtBy_41 : decode cX7_caughtBy 41 = .ok (.iinc 2 1, 3) := by decide +kernel
theorem dX7_caughtBy_44 : decode cX7_caughtBy 44 = .ok (.goto (-42), 3) := by decide +kernel
theorem dX7_caughtBy_47 : decode cX7_caughtBy 47 = .ok (.iconst (-1), 1) := by decide +kernel
theorem dX7_caughtBy_48 : decode cX7_caughtBy 48 = .ok (.ireturn, 1) := by decide +kernel
theorem dX7_ticketsInLot_0 : decode cX7_ticketsInLot 0 = .ok (.aload_n 0, 1) := by decide +kernel
theorem dX7_ticketsInLot_1 : decode cX7_ticketsInLot 1 = .ok (.getfield 19, 3) := by decide +kernel
theorem dX7_ticketsInLot_4 : decode cX7_ticketsInLot 4 = .ok (.iload_n 1, 1) := by decide +kernel
theorem dX7_ticketsInLot_5 : decode cX7_ticketsInLot 5 = .ok (.invokevirtual 105, 3) := by decide +kernel
theorem dX7_ticketsInLot_8 : decode cX7_ticketsInLot 8 = .ok (.ifCond .eq 26, 3) := by decide +kernel
theorem dX7_ticketsInLot_11 : decode cX7_ticketsInLot 11 = .ok (.aload_n 0, 1) := by decide +kernel
theorem dX7_ticketsInLot_12 : decode cX7_ticketsInLot 12 = .ok (.getfield 29, 3) := by decide +kernel
theorem dX7_ticketsInLot_15 : decode cX7_ticketsInLot 15 = .ok (.iload_n 1, 1) := by decide +kernel
theorem dX7_ticketsInLot_16 : decode cX7_ticketsInLot 16 = .ok (.invokevirtual 121, 3) := by decide +kernel
theorem dX7_ticketsInLot_19 : decode cX7_ticketsInLot 19 = .ok (.ifCond .eq 15, 3) := by decide +kernel
theorem dX7_ticketsInLot_22 : decode cX7_ticketsInLot 22 = .ok (.aload_n 0, 1) := by decide +kernel
theorem dX7_ticketsInLot_23 : decode cX7_ticketsInLot 23 = .ok (.getfield 19, 3) := by decide +kernel
theorem dX7_ticketsInLot_26 : decode cX7_ticketsInLot 26 = .ok (.getfield 118, 3) := by decide +kernel
theorem dX7_ticketsInLot_29 : decode cX7_ticketsInLot 29 = .ok (.iload_n 1, 1) := by decide +kernel
theorem dX7_ticketsInLot_30 : decode cX7_ticketsInLot 30 = .ok (.iaload, 1) := by decide +kernel
theorem dX7_ticketsInLot_31 : decode cX7_ticketsInLot 31 = .ok (.goto 4, 3) := by decide +kernel
theorem dX7_ticketsInLot_34 : decode cX7_ticketsInLot 34 = .ok (.iconst 0, 1) := by decide +kernel
theorem dX7_ticketsInLot_35 : decode cX7_ticketsInLot 35 = .ok (.ireturn, 1) := by decide +kernel
theorem dX7_leastAfraid_0 : decode cX7_leastAfraid 0 = .ok (.iconst (-1), 1) := by decide +kernel
theorem dX7_leastAfraid_1 : decode cX7_leastAfraid 1 = .ok (.istore_n 1, 1) := by decide +kernel
theorem dX7_leastAfraid_2 : decode cX7_leastAfraid 2 = .ok (.iconst 0, 1) := by decide +kernel
theorem dX7_leastAfraid_3 : decode cX7_leastAfraid 3 = .ok (.istore_n 2, 1) := by decide +kernel
theorem dX7_leastAfraid_4 : decode cX7_leastAfraid 4 = .ok (.iload_n 2, 1) := by decide +kernel
theorem dX7_leastAfraid_5 : decode cX7_leastAfraid 5 = .ok (.aload_n 0, 1) := by decide +kernel
theorem dX7_leastAfraid_6 : decode cX7_leastAfraid 6 = .ok (.getfield 19, 3) := by decide +kernel
theorem dX7_leastAfraid_9 : decode cX7_leastAfraid 9 = .ok (.getfield 89, 3) := by decide +kernel
theorem dX7_leastAfraid_12 : decode cX7_leastAfraid 12 = .ok (.if_icmp .ge 47, 3) := by decide +kernel
theorem dX7_leastAfraid_15 : decode cX7_leastAfraid 15 = .ok (.aload_n 0, 1) := by decide +kernel
theorem dX7_leastAfraid_16 : decode cX7_leastAfraid 16 = .ok (.getfield 29, 3) := by decide +kernel
theorem dX7_leastAfraid_19 : decode cX7_leastAfraid 19 = .ok (.iload_n 2, 1) := by decide +kernel
theorem dX7_leastAfraid_20 : decode cX7_leastAfraid 20 = .ok (.invokevirtual 121, 3) := by decide +kernel
theorem dX7_leastAfraid_23 : decode cX7_leastAfraid 23 = .ok (.ifCond .eq 30, 3) := by decide +kernel
theorem dX7_leastAfraid_26 : decode cX7_leastAfraid 26 = .ok (.iload_n 1, 1) := by decide +kernel
theorem dX7_leastAfraid_27 : decode cX7_leastAfraid 27 = .ok (.iconst (-1), 1) := by decide +kernel
theorem dX7_leastAfraid_28 : decode cX7_leastAfraid 28 = .ok (.if_icmp .eq 23, 3) := by decide +kernel
theorem dX7_leastAfraid_31 : decode cX7_leastAfraid 31 = .ok (.aload_n 0, 1) := by decide +kernel
theorem dX7_leastAfraid_32 : decode cX7_leastAfraid 32 = .ok (.getfield 19, 3) := by decide +kernel
theorem dX7_leastAfraid_35 : decode cX7_leastAfraid 35 = .ok (.iload_n 2, 1) := by decide +kernel
theorem dX7_leastAfraid_36 : decode cX7_leastAfraid 36 = .ok (.invokevirtual 243, 3) := by decide +kernel
theorem dX7_leastAfraid_39 : decode cX7_leastAfraid 39 = .ok (.aload_n 0, 1) := by decide +kernel
theorem dX7_leastAfraid_40 : decode cX7_leastAfraid 40 = .ok (.getfield 19, 3) := by decide +kernel
theorem dX7_leastAfraid_43 : decode cX7_leastAfraid 43 = .ok (.iload_n 1, 1) := by decide +kernel
theorem dX7_leastAfraid_44 : decode cX7_leastAfraid 44 = .ok (.invokevirtual 243, 3) := by decide +kernel
theorem dX7_leastAfraid_47 : decode cX7_leastAfraid 47 = .ok (.lcmp, 1) := by decide +kernel
theorem dX7_leastAfraid_48 : decode cX7_leastAfraid 48 = .ok (.ifCond .ge 5, 3) := by decide +kernel
theorem dX7_leastAfraid_51 : decode cX7_leastAfraid 51 = .ok (.iload_n 2, 1) := by decide +kernel
theorem dX7_leastAfraid_52 : decode cX7_leastAfraid 52 = .ok (.istore_n 1, 1) := by decide +kernel
theorem dX7_leastAfraid_53 : decode cX7_leastAfraid 53 = .ok (.iinc 2 1, 3) := by decide +kernel
theorem dX7_leastAfraid_56 : decode cX7_leastAfraid 56 = .ok (.goto (-52), 3) := by decide +kernel
theorem dX7_leastAfraid_59 : decode cX7_leastAfraid 59 = .ok (.iload_n 1, 1) := by decide +kernel
theorem dX7_leastAfraid_60 : decode cX7_leastAfraid 60 = .ok (.ireturn, 1) := by decide +kernel
theorem dX7_comeUpTo_0 : decode cX7_comeUpTo 0 = .ok (.lconst 1, 1) := by decide +kernel
theorem dX7_comeUpTo_1 : decode cX7_comeUpTo 1 = .ok (.lstore_n 2, 1) := by decide +kernel
theorem dX7_comeUpTo_2 : decode cX7_comeUpTo 2 = .ok (.iconst 0, 1) := by decide +kernel
theorem dX7_comeUpTo_3 : decode cX7_comeUpTo 3 = .ok (.istore 4, 2) := by decide +kernel
theorem dX7_comeUpTo_5 : decode cX7_comeUpTo 5 = .ok (.iload 4, 2) := by decide +kernel
theorem dX7_comeUpTo_7 : decode cX7_comeUpTo 7 = .ok (.iload_n 1, 1) := by decide +kernel
theorem dX7_comeUpTo_8 : decode cX7_comeUpTo 8 = .ok (.if_icmp .ge 34, 3) := by decide +kernel
theorem dX7_comeUpTo_11 : decode cX7_comeUpTo 11 = .ok (.lload_n 2, 1) := by decide +kernel
theorem dX7_comeUpTo_12 : decode cX7_comeUpTo 12 = .ok (.bipush 10, 2) := by decide +kernel
theorem dX7_comeUpTo_14 : decode cX7_comeUpTo 14 = .ok (.aload_n 0, 1) := by decide +kernel
theorem dX7_comeUpTo_15 : decode cX7_comeUpTo 15 = .ok (.getfield 19, 3) := by decide +kernel
theorem dX7_comeUpTo_18 : decode cX7_comeUpTo 18 = .ok (.iload 4, 2) := by decide +kernel
theorem dX7_comeUpTo_20 : decode cX7_comeUpTo 20 = .ok (.aload_n 0, 1) := by decide +kernel
theorem dX7_comeUpTo_21 : decode cX7_comeUpTo 21 = .ok (.getfield 29, 3) := by decide +kernel
theorem dX7_comeUpTo_24 : decode cX7_comeUpTo 24 = .ok (.iload 4, 2) := by decide +kernel
theorem dX7_comeUpTo_26 : decode cX7_comeUpTo 26 = .ok (.invokevirtual 134, 3) := by decide +kernel
theorem dX7_comeUpTo_29 : decode cX7_comeUpTo 29 = .ok (.invokevirtual 156, 3) := by decide +kernel
theorem dX7_comeUpTo_32 : decode cX7_comeUpTo 32 = .ok (.isub, 1) := by decide +kernel
theorem dX7_comeUpTo_33 : decode cX7_comeUpTo 33 = .ok (.i2l, 1) := by decide +kernel
theorem dX7_comeUpTo_34 : decode cX7_comeUpTo 34 = .ok (.lmul, 1) := by decide +kernel
theorem dX7_comeUpTo_35 : decode cX7_comeUpTo 35 = .ok (.lstore_n 2, 1) := by decide +kernel
theorem dX7_comeUpTo_36 : decode cX7_comeUpTo 36 = .ok (.iinc 4 1, 3) := by decide +kernel
theorem dX7_comeUpTo_39 : decode cX7_comeUpTo 39 = .ok (.goto (-34), 3) := by decide +kernel
theorem dX7_comeUpTo_42 : decode cX7_comeUpTo 42 = .ok (.lload_n 2, 1) := by decide +kernel
theorem dX7_comeUpTo_43 : decode cX7_comeUpTo 43 = .ok (.lreturn, 1) := by decide +kernel
theorem dX7_caughtAt_0 : decode cX7_caughtAt 0 = .ok (.aload_n 0, 1) := by decide +kernel
theorem dX7_caughtAt_1 : decode cX7_caughtAt 1 = .ok (.iload_n 1, 1) := by decide +kernel
theorem dX7_caughtAt_2 : decode cX7_caughtAt 2 = .ok (.invokevirtual 204, 3) := by decide +kernel
theorem dX7_caughtAt_5 : decode cX7_caughtAt 5 = .ok (.aload_n 0, 1) := by decide +kernel
theorem dX7_caughtAt_6 : decode cX7_caughtAt 6 = .ok (.getfield 19, 3) := by decide +kernel
theorem dX7_caughtAt_9 : decode cX7_caughtAt 9 = .ok (.iload_n 1, 1) := by decide +kernel
theorem dX7_caughtAt_10 : decode cX7_caughtAt 10 = .ok (.aload_n 0, 1) := by decide +kernel
theorem dX7_caughtAt_11 : decode cX7_caughtAt 11 = .ok (.getfield 29, 3) := by decide +kernel
theorem dX7_caughtAt_14 : decode cX7_caughtAt 14 = .ok (.iload_n 1, 1) := by decide +kernel
theorem dX7_caughtAt_15 : decode cX7_caughtAt 15 = .ok (.invokevirtual 134, 3) := by decide +kernel
theorem dX7_caughtAt_18 : decode cX7_caughtAt 18 = .ok (.invokevirtual 156, 3) := by decide +kernel
theorem dX7_caughtAt_21 : decode cX7_caughtAt 21 = .ok (.i2l, 1) := by decide +kernel
theorem dX7_caughtAt_22 : decode cX7_caughtAt 22 = .ok (.lmul, 1) := by decide +kernel
theorem dX7_caughtAt_23 : decode cX7_caughtAt 23 = .ok (.lreturn, 1) := by decide +kernel
theorem dX7_within_0 : decode cX7_within 0 = .ok (.iload_n 0, 1) := by decide +kernel
theorem dX7_within_1 : decode cX7_within 1 = .ok (.ifCond .lt 12, 3) := by decide +kernel
theorem dX7_within_4 : decode cX7_within 4 = .ok (.iload_n 0, 1) := by decide +kernel
theorem dX7_within_5 : decode cX7_within 5 = .ok (.iload_n 1, 1) := by decide +kernel
theorem dX7_within_6 : decode cX7_within 6 = .ok (.if_icmp .gt 7, 3) := by decide +kernel
theorem dX7_within_9 : decode cX7_within 9 = .ok (.iconst 1, 1) := by decide +kernel
theorem dX7_within_10 : decode cX7_within 10 = .ok (.goto 4, 3) := by decide +kernel
theorem dX7_within_13 : decode cX7_within 13 = .ok (.iconst 0, 1) := by decide +kernel
theorem dX7_within_14 : decode cX7_within 14 = .ok (.ireturn, 1) := by decide +kernel
theorem dX7_isPart_0 : decode cX7_isPart 0 = .ok (.iload_n 0, 1) := by decide +kernel
theorem dX7_isPart_1 : decode cX7_isPart 1 = .ok (.iconst 1, 1) := by decide +kernel
theorem dX7_isPart_2 : decode cX7_isPart 2 = .ok (.invokestatic 69, 3) := by decide +kernel
theorem dX7_isPart_5 : decode cX7_isPart 5 = .ok (.ireturn, 1) := by decide +kernel
theorem dX7_drawOf_0 : decode cX7_drawOf 0 = .ok (.ldc2_w 311, 3) := by decide +kernel
theorem dX7_drawOf_3 : decode cX7_drawOf 3 = .ok (.iload_n 0, 1) := by decide +kernel
theorem dX7_drawOf_4 : decode cX7_drawOf 4 = .ok (.i2l, 1) := by decide +kernel
theorem dX7_drawOf_5 : decode cX7_drawOf 5 = .ok (.lmul, 1) := by decide +kernel
theorem dX7_drawOf_6 : decode cX7_drawOf 6 = .ok (.ldc2_w 313, 3) := by decide +kernel
theorem dX7_drawOf_9 : decode cX7_drawOf 9 = .ok (.iload_n 1, 1) := by decide +kernel
theorem dX7_drawOf_10 : decode cX7_drawOf 10 = .ok (.i2l, 1) := by decide +kernel
theorem dX7_drawOf_11 : decode cX7_drawOf 11 = .ok (.lmul, 1) := by decide +kernel
theorem dX7_drawOf_12 : decode cX7_drawOf 12 = .ok (.ladd, 1) := by decide +kernel
theorem dX7_drawOf_13 : decode cX7_drawOf 13 = .ok (.lconst 1, 1) := by decide +kernel
theorem dX7_drawOf_14 : decode cX7_drawOf 14 = .ok (.ladd, 1) := by decide +kernel
theorem dX7_drawOf_15 : decode cX7_drawOf 15 = .ok (.lstore_n 2, 1) := by decide +kernel
theorem dX7_drawOf_16 : decode cX7_drawOf 16 = .ok (.lload_n 2, 1) := by decide +kernel
theorem dX7_drawOf_17 : decode cX7_drawOf 17 = .ok (.lload_n 2, 1) := by decide +kernel
theorem dX7_drawOf_18 : decode cX7_drawOf 18 = .ok (.lmul, 1) := by decide +kernel
theorem dX7_drawOf_19 : decode cX7_drawOf 19 = .ok (.ldc2_w 315, 3) := by decide +kernel
theorem dX7_drawOf_22 : decode cX7_drawOf 22 = .ok (.lrem, 1) := by decide +kernel
theorem dX7_drawOf_23 : decode cX7_drawOf 23 = .ok (.ldc2_w 218, 3) := by decide +kernel
theorem dX7_drawOf_26 : decode cX7_drawOf 26 = .ok (.lrem, 1) := by decide +kernel
theorem dX7_drawOf_27 : decode cX7_drawOf 27 = .ok (.l2i, 1) := by decide +kernel
theorem dX7_drawOf_28 : decode cX7_drawOf 28 = .ok (.ireturn, 1) := by decide +kernel
theorem dX7_dangerOf_0 : decode cX7_dangerOf 0 = .ok (.bipush 10, 2) := by decide +kernel
theorem dX7_dangerOf_2 : decode cX7_dangerOf 2 = .ok (.iconst 0, 1) := by decide +kernel
theorem dX7_dangerOf_3 : decode cX7_dangerOf 3 = .ok (.iload_n 0, 1) := by decide +kernel
theorem dX7_dangerOf_4 : decode cX7_dangerOf 4 = .ok (.iload_n 2, 1) := by decide +kernel
theorem dX7_dangerOf_5 : decode cX7_dangerOf 5 = .ok (.isub, 1) := by decide +kernel
theorem dX7_dangerOf_6 : decode cX7_dangerOf 6 = .ok (.invokestatic 317, 3) := by decide +kernel
theorem dX7_dangerOf_9 : decode cX7_dangerOf 9 = .ok (.invokestatic 272, 3) := by decide +kernel
theorem dX7_dangerOf_12 : decode cX7_dangerOf 12 = .ok (.istore_n 3, 1) := by decide +kernel
theorem dX7_dangerOf_13 : decode cX7_dangerOf 13 = .ok (.iload_n 1, 1) := by decide +kernel
theorem dX7_dangerOf_14 : decode cX7_dangerOf 14 = .ok (.tableswitch 63 1 3 #[26, 43, 55], 26) := by decide +kernel
theorem dX7_dangerOf_40 : decode cX7_dangerOf 40 = .ok (.iload_n 3, 1) := by decide +kernel
theorem dX7_dangerOf_41 : decode cX7_dangerOf 41 = .ok (.ifCond .le 14, 3) := by decide +kernel
theorem dX7_dangerOf_44 : decode cX7_dangerOf 44 = .ok (.bipush 10, 2) := by decide +kernel
theorem dX7_dangerOf_46 : decode cX7_dangerOf 46 = .ok (.iload_n 3, 1) := by decide +kernel
theorem dX7_dangerOf_47 : decode cX7_dangerOf 47 = .ok (.iconst 2, 1) := by decide +kernel
theorem dX7_dangerOf_48 : decode cX7_dangerOf 48 = .ok (.iadd, 1) := by decide +kernel
theorem dX7_dangerOf_49 : decode cX7_dangerOf 49 = .ok (.invokestatic 272, 3) := by decide +kernel
theorem dX7_dangerOf_52 : decode cX7_dangerOf 52 = .ok (.goto 4, 3) := by decide +kernel
theorem dX7_dangerOf_55 : decode cX7_dangerOf 55 = .ok (.iconst 0, 1) := by decide +kernel
theorem dX7_dangerOf_56 : decode cX7_dangerOf 56 = .ok (.ireturn, 1) := by decide +kernel
theorem dX7_dangerOf_57 : decode cX7_dangerOf 57 = .ok (.iload_n 0, 1) := by decide +kernel
theorem dX7_dangerOf_58 : decode cX7_dangerOf 58 = .ok (.iconst 5, 1) := by decide +kernel
theorem dX7_dangerOf_59 : decode cX7_dangerOf 59 = .ok (.if_icmp .le 8, 3) := by decide +kernel
theorem dX7_dangerOf_62 : decode cX7_dangerOf 62 = .ok (.bipush 10, 2) := by decide +kernel
theorem dX7_dangerOf_64 : decode cX7_dangerOf 64 = .ok (.goto 4, 3) := by decide +kernel
theorem dX7_dangerOf_67 : decode cX7_dangerOf 67 = .ok (.iload_n 3, 1) := by decide +kernel
theorem dX7_dangerOf_68 : decode cX7_dangerOf 68 = .ok (.ireturn, 1) := by decide +kernel
theorem dX7_dangerOf_69 : decode cX7_dangerOf 69 = .ok (.iconst 0, 1) := by decide +kernel
theorem dX7_dangerOf_70 : decode cX7_dangerOf 70 = .ok (.iload_n 3, 1) := by decide +kernel
theorem dX7_dangerOf_71 : decode cX7_dangerOf 71 = .ok (.iconst 1, 1) := by decide +kernel
theorem dX7_dangerOf_72 : decode cX7_dangerOf 72 = .ok (.isub, 1) := by decide +kernel
theorem dX7_dangerOf_73 : decode cX7_dangerOf 73 = .ok (.invokestatic 317, 3) := by decide +kernel
theorem dX7_dangerOf_76 : decode cX7_dangerOf 76 = .ok (.ireturn, 1) := by decide +kernel
theorem dX7_dangerOf_77 : decode cX7_dangerOf 77 = .ok (.iload_n 3, 1) := by decide +kernel
theorem dX7_dangerOf_78 : decode cX7_dangerOf 78 = .ok (.ireturn, 1) := by decide +kernel
theorem dX7_canBeTakenAs_0 : decode cX7_canBeTakenAs 0 = .ok (.iload_n 1, 1) := by decide +kernel
theorem dX7_canBeTakenAs_1 : decode cX7_canBeTakenAs 1 = .ok (.lookupswitch 40 #[(0, 27), (1, 29)], 27) := by decide +kernel
theorem dX7_canBeTakenAs_28 : decode cX7_canBeTakenAs 28 = .ok (.iconst 1, 1) := by decide +kernel
theorem dX7_canBeTakenAs_29 : decode cX7_canBeTakenAs 29 = .ok (.ireturn, 1) := by decide +kernel
theorem dX7_canBeTakenAs_30 : decode cX7_canBeTakenAs 30 = .ok (.iload_n 0, 1) := by decide +kernel
theorem dX7_canBeTakenAs_31 : decode cX7_canBeTakenAs 31 = .ok (.iconst 2, 1) := by decide +kernel
theorem dX7_canBeTakenAs_32 : decode cX7_canBeTakenAs 32 = .ok (.if_icmp .eq 7, 3) := by decide +kernel
theorem dX7_canBeTakenAs_35 : decode cX7_canBeTakenAs 35 = .ok (.iconst 1, 1) := by decide +kernel
theorem dX7_canBeTakenAs_36 : decode cX7_canBeTakenAs 36 = .ok (.goto 4, 3) := by decide +kernel
theorem dX7_canBeTakenAs_39 : decode cX7_canBeTakenAs 39 = .ok (.iconst 0, 1) := by decide +kernel
theorem dX7_canBeTakenAs_40 : decode cX7_canBeTakenAs 40 = .ok (.ireturn, 1) := by decide +kernel
theorem dX7_canBeTakenAs_41 : decode cX7_canBeTakenAs 41 = .ok (.iload_n 0, 1) := by decide +kernel
theorem dX7_canBeTakenAs_42 : decode cX7_canBeTakenAs 42 = .ok (.iload_n 1, 1) := by decide +kernel
theorem dX7_canBeTakenAs_43 : decode cX7_canBeTakenAs 43 = .ok (.iconst 1, 1) := by decide +kernel
theorem dX7_canBeTakenAs_44 : decode cX7_canBeTakenAs 44 = .ok (.isub, 1) := by decide +kernel
theorem dX7_canBeTakenAs_45 : decode cX7_canBeTakenAs 45 = .ok (.if_icmp .ne 7, 3) := by decide +kernel
theorem dX7_canBeTakenAs_48 : decode cX7_canBeTakenAs 48 = .ok (.iconst 1, 1) := by decide +kernel
theorem dX7_canBeTakenAs_49 : decode cX7_canBeTakenAs 49 = .ok (.goto 4, 3) := by decide +kernel
theorem dX7_canBeTakenAs_52 : decode cX7_canBeTakenAs 52 = .ok (.iconst 0, 1) := by decide +kernel
theorem dX7_canBeTakenAs_53 : decode cX7_canBeTakenAs 53 = .ok (.ireturn, 1) := by decide +kernel
theorem dX7_copyTeam_0 : decode cX7_copyTeam 0 = .ok (.aload_n 0, 1) := by decide +kernel
theorem dX7_copyTeam_1 : decode cX7_copyTeam 1 = .ok (.ifnull 7, 3) := by decide +kernel
theorem dX7_copyTeam_4 : decode cX7_copyTeam 4 = .ok (.aload_n 1, 1) := by decide +kernel
theorem dX7_copyTeam_5 : decode cX7_copyTeam 5 = .ok (.ifnonnull 4, 3) := by decide +kernel
theorem dX7_copyTeam_8 : decode cX7_copyTeam 8 = .ok (.return_, 1) := by decide +kernel
theorem dX7_copyTeam_9 : decode cX7_copyTeam 9 = .ok (.iconst 0, 1) := by decide +kernel
theorem dX7_copyTeam_10 : decode cX7_copyTeam 10 = .ok (.istore_n 2, 1) := by decide +kernel
theorem dX7_copyTeam_11 : decode cX7_copyTeam 11 = .ok (.iload_n 2, 1) := by decide +kernel
theorem dX7_copyTeam_12 : decode cX7_copyTeam 12 = .ok (.iconst 5, 1) := by decide +kernel
theorem dX7_copyTeam_13 : decode cX7_copyTeam 13 = .ok (.if_icmp .ge 21, 3) := by decide +kernel
theorem dX7_copyTeam_16 : decode cX7_copyTeam 16 = .ok (.aload_n 1, 1) := by decide +kernel
theorem dX7_copyTeam_17 : decode cX7_copyTeam 17 = .ok (.getfield 319, 3) := by decide +kernel
theorem dX7_copyTeam_20 : decode cX7_copyTeam 20 = .ok (.iload_n 2, 1) := by decide +kernel
theorem dX7_copyTeam_21 : decode cX7_copyTeam 21 = .ok (.aload_n 0, 1) := by decide +kernel
theorem dX7_copyTeam_22 : decode cX7_copyTeam 22 = .ok (.getfield 319, 3) := by decide +kernel
theorem dX7_copyTeam_25 : decode cX7_copyTeam 25 = .ok (.iload_n 2, 1) := by decide +kernel
theorem dX7_copyTeam_26 : decode cX7_copyTeam 26 = .ok (.iaload, 1) := by decide +kernel
theorem dX7_copyTeam_27 : decode cX7_copyTeam 27 = .ok (.iastore, 1) := by decide +kernel
theorem dX7_copyTeam_28 : decode cX7_copyTeam 28 = .ok (.iinc 2 1, 3) := by decide +kernel
theorem dX7_copyTeam_31 : decode cX7_copyTeam 31 = .ok (.goto (-20), 3) := by decide +kernel
theorem dX7_copyTeam_34 : decode cX7_copyTeam 34 = .ok (.aload_n 1, 1) := by decide +kernel
theorem dX7_copyTeam_35 : decode cX7_copyTeam 35 = .ok (.aload_n 0, 1) := by decide +kernel
theorem dX7_copyTeam_36 : decode cX7_copyTeam 36 = .ok (.getfield 184, 3) := by decide +kernel
theorem dX7_copyTeam_39 : decode cX7_copyTeam 39 = .ok (.putfield 184, 3) := by decide +kernel
theorem dX7_copyTeam_42 : decode cX7_copyTeam 42 = .ok (.aload_n 1, 1) := by decide +kernel
theorem dX7_copyTeam_43 : decode cX7_copyTeam 43 = .ok (.aload_n 0, 1) := by decide +kernel
theorem dX7_copyTeam_44 : decode cX7_copyTeam 44 = .ok (.getfield 223, 3) := by decide +kernel
theorem dX7_copyTeam_47 : decode cX7_copyTeam 47 = .ok (.putfield 223, 3) := by decide +kernel
theorem dX7_copyTeam_50 : decode cX7_copyTeam 50 = .ok (.aload_n 1, 1) := by decide +kernel
theorem dX7_copyTeam_51 : decode cX7_copyTeam 51 = .ok (.aload_n 0, 1) := by decide +kernel
theorem dX7_copyTeam_52 : decode cX7_copyTeam 52 = .ok (.getfield 174, 3) := by decide +kernel
theorem dX7_copyTeam_55 : decode cX7_copyTeam 55 = .ok (.putfield 174, 3) := by decide +kernel
theorem dX7_copyTeam_58 : decode cX7_copyTeam 58 = .ok (.return_, 1) := by decide +kernel
theorem dX7_partOf_0 : decode cX7_partOf 0 = .ok (.lload_n 0, 1) := by decide +kernel
theorem dX7_partOf_1 : decode cX7_partOf 1 = .ok (.lload_n 2, 1) := by decide +kernel
theorem dX7_partOf_2 : decode cX7_partOf 2 = .ok (.invokestatic 322, 3) := by decide +kernel
theorem dX7_partOf_5 : decode cX7_partOf 5 = .ok (.lstore 5, 2) := by decide +kernel
theorem dX7_partOf_7 : decode cX7_partOf 7 = .ok (.lload 5, 2) := by decide +kernel
theorem dX7_partOf_9 : decode cX7_partOf 9 = .ok (.lconst 0, 1) := by decide +kernel
theorem dX7_partOf_10 : decode cX7_partOf 10 = .ok (.lcmp, 1) := by decide +kernel
theorem dX7_partOf_11 : decode cX7_partOf 11 = .ok (.ifCond .ne 5, 3) := by decide +kernel
theorem dX7_partOf_14 : decode cX7_partOf 14 = .ok (.lconst 0, 1) := by decide +kernel
theorem dX7_partOf_15 : decode cX7_partOf 15 = .ok (.lreturn, 1) := by decide +kernel
theorem dX7_partOf_16 : decode cX7_partOf 16 = .ok (.iload 4, 2) := by decide +kernel
theorem dX7_partOf_18 : decode cX7_partOf 18 = .ok (.ifCond .ne 7, 3) := by decide +kernel
theorem dX7_partOf_21 : decode cX7_partOf 21 = .ok (.lload_n 0, 1) := by decide +kernel
theorem dX7_partOf_22 : decode cX7_partOf 22 = .ok (.goto 4, 3) := by decide +kernel
theorem dX7_partOf_25 : decode cX7_partOf 25 = .ok (.lload_n 2, 1) := by decide +kernel
theorem dX7_partOf_26 : decode cX7_partOf 26 = .ok (.lload 5, 2) := by decide +kernel
theorem dX7_partOf_28 : decode cX7_partOf 28 = .ok (.ldiv, 1) := by decide +kernel
theorem dX7_partOf_29 : decode cX7_partOf 29 = .ok (.lreturn, 1) := by decide +kernel
theorem dX7_commonDivisor_0 : decode cX7_commonDivisor 0 = .ok (.lload_n 0, 1) := by decide +kernel
theorem dX7_commonDivisor_1 : decode cX7_commonDivisor 1 = .ok (.lstore 4, 2) := by decide +kernel
theorem dX7_commonDivisor_3 : decode cX7_commonDivisor 3 = .ok (.lload_n 2, 1) := by decide +kernel
theorem dX7_commonDivisor_4 : decode cX7_commonDivisor 4 = .ok (.lstore 6, 2) := by decide +kernel
theorem dX7_commonDivisor_6 : decode cX7_commonDivisor 6 = .ok (.iconst 0, 1) := by decide +kernel
theorem dX7_commonDivisor_7 : decode cX7_commonDivisor 7 = .ok (.istore 8, 2) := by decide +kernel
theorem dX7_commonDivisor_9 : decode cX7_commonDivisor 9 = .ok (.iload 8, 2) := by decide +kernel
theorem dX7_commonDivisor_11 : decode cX7_commonDivisor 11 = .ok (.sipush 200, 3) := by decide +kernel
theorem dX7_commonDivisor_14 : decode cX7_commonDivisor 14 = .ok (.if_icmp .ge 31, 3) := by decide +kernel
theorem dX7_commonDivisor_17 : decode cX7_commonDivisor 17 = .ok (.lload 6, 2) := by decide +kernel
theorem dX7_commonDivisor_19 : decode cX7_commonDivisor 19 = .ok (.lconst 0, 1) := by decide +kernel
theorem dX7_commonDivisor_20 : decode cX7_commonDivisor 20 = .ok (.lcmp, 1) := by decide +kernel
theorem dX7_commonDivisor_21 : decode cX7_commonDivisor 21 = .ok (.ifCond .eq 24, 3) := by decide +kernel
theorem dX7_commonDivisor_24 : decode cX7_commonDivisor 24 = .ok (.lload 4, 2) := by decide +kernel
theorem dX7_commonDivisor_26 : decode cX7_commonDivisor 26 = .ok (.lload 6, 2) := by decide +kernel
theorem dX7_commonDivisor_28 : decode cX7_commonDivisor 28 = .ok (.lrem, 1) := by decide +kernel
theorem dX7_commonDivisor_29 : decode cX7_commonDivisor 29 = .ok (.lstore 9, 2) := by decide +kernel
theorem dX7_commonDivisor_31 : decode cX7_commonDivisor 31 = .ok (.lload 6, 2) := by decide +kernel
theorem dX7_commonDivisor_33 : decode cX7_commonDivisor 33 = .ok (.lstore 4, 2) := by decide +kernel
theorem dX7_commonDivisor_35 : decode cX7_commonDivisor 35 = .ok (.lload 9, 2) := by decide +kernel
theorem dX7_commonDivisor_37 : decode cX7_commonDivisor 37 = .ok (.lstore 6, 2) := by decide +kernel
theorem dX7_commonDivisor_39 : decode cX7_commonDivisor 39 = .ok (.iinc 8 1, 3) := by decide +kernel
theorem dX7_commonDivisor_42 : decode cX7_commonDivisor 42 = .ok (.goto (-33), 3) := by decide +kernel
theorem dX7_commonDivisor_45 : decode cX7_commonDivisor 45 = .ok (.lload 4, 2) := by decide +kernel
theorem dX7_commonDivisor_47 : decode cX7_commonDivisor 47 = .ok (.lreturn, 1) := by decide +kernel
theorem dX7_power_0 : decode cX7_power 0 = .ok (.lconst 1, 1) := by decide +kernel
theorem dX7_power_1 : decode cX7_power 1 = .ok (.lstore_n 2, 1) := by decide +kernel
theorem dX7_power_2 : decode cX7_power 2 = .ok (.iconst 0, 1) := by decide +kernel
theorem dX7_power_3 : decode cX7_power 3 = .ok (.istore 4, 2) := by decide +kernel
theorem dX7_power_5 : decode cX7_power 5 = .ok (.iload 4, 2) := by decide +kernel
theorem dX7_power_7 : decode cX7_power 7 = .ok (.iload_n 1, 1) := by decide +kernel
theorem dX7_power_8 : decode cX7_power 8 = .ok (.if_icmp .ge 14, 3) := by decide +kernel
theorem dX7_power_11 : decode cX7_power 11 = .ok (.lload_n 2, 1) := by decide +kernel
theorem dX7_power_12 : decode cX7_power 12 = .ok (.iload_n 0, 1) := by decide +kernel
theorem dX7_power_13 : decode cX7_power 13 = .ok (.i2l, 1) := by decide +kernel
theorem dX7_power_14 : decode cX7_power 14 = .ok (.lmul, 1) := by decide +kernel
theorem dX7_power_15 : decode cX7_power 15 = .ok (.lstore_n 2, 1) := by decide +kernel
theorem dX7_power_16 : decode cX7_power 16 = .ok (.iinc 4 1, 3) := by decide +kernel
theorem dX7_power_19 : decode cX7_power 19 = .ok (.goto (-14), 3) := by decide +kernel
theorem dX7_power_22 : decode cX7_power 22 = .ok (.lload_n 2, 1) := by decide +kernel
theorem dX7_power_23 : decode cX7_power 23 = .ok (.lreturn, 1) := by decide +kernel
theorem dX7_tenTo_0 : decode cX7_tenTo 0 = .ok (.bipush 10, 2) := by decide +kernel
theorem dX7_tenTo_2 : decode cX7_tenTo 2 = .ok (.iload_n 0, 1) := by decide +kernel
theorem dX7_tenTo_3 : decode cX7_tenTo 3 = .ok (.invokestatic 281, 3) := by decide +kernel
theorem dX7_tenTo_6 : decode cX7_tenTo 6 = .ok (.lreturn, 1) := by decide +kernel
theorem dX7_waysToChoose_0 : decode cX7_waysToChoose 0 = .ok (.lconst 1, 1) := by decide +kernel
theorem dX7_waysToChoose_1 : decode cX7_waysToChoose 1 = .ok (.lstore_n 2, 1) := by decide +kernel
theorem dX7_waysToChoose_2 : decode cX7_waysToChoose 2 = .ok (.iconst 1, 1) := by decide +kernel
theorem dX7_waysToChoose_3 : decode cX7_waysToChoose 3 = .ok (.istore 4, 2) := by decide +kernel
theorem dX7_waysToChoose_5 : decode cX7_waysToChoose 5 = .ok (.iload 4, 2) := by decide +kernel
theorem dX7_waysToChoose_7 : decode cX7_waysToChoose 7 = .ok (.iload_n 1, 1) := by decide +kernel
theorem dX7_waysToChoose_8 : decode cX7_waysToChoose 8 = .ok (.if_icmp .gt 23, 3) := by decide +kernel
theorem dX7_waysToChoose_11 : decode cX7_waysToChoose 11 = .ok (.lload_n 2, 1) := by decide +kernel
theorem dX7_waysToChoose_12 : decode cX7_waysToChoose 12 = .ok (.iload_n 0, 1) := by decide +kernel
theorem dX7_waysToChoose_13 : decode cX7_waysToChoose 13 = .ok (.iload_n 1, 1) := by decide +kernel
theorem dX7_waysToChoose_14 : decode cX7_waysToChoose 14 = .ok (.isub, 1) := by decide +kernel
theorem dX7_waysToChoose_15 : decode cX7_waysToChoose 15 = .ok (.iload 4, 2) := by decide +kernel
theorem dX7_waysToChoose_17 : decode cX7_waysToChoose 17 = .ok (.iadd, 1) := by decide +kernel
theorem dX7_waysToChoose_18 : decode cX7_waysToChoose 18 = .ok (.i2l, 1) := by decide +kernel
theorem dX7_waysToChoose_19 : decode cX7_waysToChoose 19 = .ok (.lmul, 1) := by decide +kernel
theorem dX7_waysToChoose_20 : decode cX7_waysToChoose 20 = .ok (.iload 4, 2) := by decide +kernel
theorem dX7_waysToChoose_22 : decode cX7_waysToChoose 22 = .ok (.i2l, 1) := by decide +kernel
theorem dX7_waysToChoose_23 : decode cX7_waysToChoose 23 = .ok (.ldiv, 1) := by decide +kernel
theorem dX7_waysToChoose_24 : decode cX7_waysToChoose 24 = .ok (.lstore_n 2, 1) := by decide +kernel
theorem dX7_waysToChoose_25 : decode cX7_waysToChoose 25 = .ok (.iinc 4 1, 3) := by decide +kernel
theorem dX7_waysToChoose_28 : decode cX7_waysToChoose 28 = .ok (.goto (-23), 3) := by decide +kernel
theorem dX7_waysToChoose_31 : decode cX7_waysToChoose 31 = .ok (.lload_n 2, 1) := by decide +kernel
theorem dX7_waysToChoose_32 : decode cX7_waysToChoose 32 = .ok (.lreturn, 1) := by decide +kernel
theorem dX7_leastOf_0 : decode cX7_leastOf 0 = .ok (.iconst 0, 1) := by decide +kernel
theorem dX7_leastOf_1 : decode cX7_leastOf 1 = .ok (.istore_n 1, 1) := by decide +kernel
theorem dX7_leastOf_2 : decode cX7_leastOf 2 = .ok (.iload_n 1, 1) := by decide +kernel
theorem dX7_leastOf_3 : decode cX7_leastOf 3 = .ok (.bipush 6, 2) := by decide +kernel
theorem dX7_leastOf_5 : decode cX7_leastOf 5 = .ok (.if_icmp .ge 20, 3) := by decide +kernel
theorem dX7_leastOf_8 : decode cX7_leastOf 8 = .ok (.iload_n 0, 1) := by decide +kernel
theorem dX7_leastOf_9 : decode cX7_leastOf 9 = .ok (.iload_n 1, 1) := by decide +kernel
theorem dX7_leastOf_10 : decode cX7_leastOf 10 = .ok (.ishr, 1) := by decide +kernel
theorem dX7_leastOf_11 : decode cX7_leastOf 11 = .ok (.iconst 1, 1) := by decide +kernel
theorem dX7_leastOf_12 : decode cX7_leastOf 12 = .ok (.iand, 1) := by decide +kernel
theorem dX7_leastOf_13 : decode cX7_leastOf 13 = .ok (.iconst 1, 1) := by decide +kernel
theorem dX7_leastOf_14 : decode cX7_leastOf 14 = .ok (.if_icmp .ne 5, 3) := by decide +kernel
theorem dX7_leastOf_17 : decode cX7_leastOf 17 = .ok (.iload_n 1, 1) := by decide +kernel
theorem dX7_leastOf_18 : decode cX7_leastOf 18 = .ok (.ireturn, 1) := by decide +kernel
theorem dX7_leastOf_19 : decode cX7_leastOf 19 = .ok (.iinc 1 1, 3) := by decide +kernel
theorem dX7_leastOf_22 : decode cX7_leastOf 22 = .ok (.goto (-20), 3) := by decide +kernel
theorem dX7_leastOf_25 : decode cX7_leastOf 25 = .ok (.iconst (-1), 1) := by decide +kernel
theorem dX7_leastOf_26 : decode cX7_leastOf 26 = .ok (.ireturn, 1) := by decide +kernel
