theorem dX7_add_49 : decode cX7_add 49 = .ok (.getfield 21, 3) := by decide +kernel
theorem dX7_add_52 : decode cX7_add 52 = .ok (.iconst 1, 1) := by decide +kernel
theorem dX7_add_53 : decode cX7_add 53 = .ok (.iadd, 1) := by decide +kernel
theorem dX7_add_54 : decode cX7_add 54 = .ok (.putfield 21, 3) := by decide +kernel
theorem dX7_add_57 : decode cX7_add 57 = .ok (.iconst 1, 1) := by decide +kernel
theorem dX7_add_58 : decode cX7_add 58 = .ok (.ireturn, 1) := by decide +kernel
theorem dX7_copy_0 : decode cX7_copy 0 = .ok (.aload_n 0, 1) := by decide +kernel
theorem dX7_copy_1 : decode cX7_copy 1 = .ok (.aload_n 1, 1) := by decide +kernel
theorem dX7_copy_2 : decode cX7_copy 2 = .ok (.getfield 21, 3) := by decide +kernel
theorem dX7_copy_5 : decode cX7_copy 5 = .ok (.putfield 21, 3) := by decide +kernel
theorem dX7_copy_8 : decode cX7_copy 8 = .ok (.aload_n 1, 1) := by decide +kernel
theorem dX7_copy_9 : decode cX7_copy 9 = .ok (.getfield 9, 3) := by decide +kernel
theorem dX7_copy_12 : decode cX7_copy 12 = .ok (.aload_n 0, 1) := by decide +kernel
theorem dX7_copy_13 : decode cX7_copy 13 = .ok (.getfield 9, 3) := by decide +kernel
theorem dX7_copy_16 : decode cX7_copy 16 = .ok (.invokestatic 29, 3) := by decide +kernel
theorem dX7_copy_19 : decode cX7_copy 19 = .ok (.aload_n 1, 1) := by decide +kernel
theorem dX7_copy_20 : decode cX7_copy 20 = .ok (.getfield 15, 3) := by decide +kernel
theorem dX7_copy_23 : decode cX7_copy 23 = .ok (.aload_n 0, 1) := by decide +kernel
theorem dX7_copy_24 : decode cX7_copy 24 = .ok (.getfield 15, 3) := by decide +kernel
theorem dX7_copy_27 : decode cX7_copy 27 = .ok (.invokestatic 29, 3) := by decide +kernel
theorem dX7_copy_30 : decode cX7_copy 30 = .ok (.aload_n 1, 1) := by decide +kernel
theorem dX7_copy_31 : decode cX7_copy 31 = .ok (.getfield 18, 3) := by decide +kernel
theorem dX7_copy_34 : decode cX7_copy 34 = .ok (.aload_n 0, 1) := by decide +kernel
theorem dX7_copy_35 : decode cX7_copy 35 = .ok (.getfield 18, 3) := by decide +kernel
theorem dX7_copy_38 : decode cX7_copy 38 = .ok (.invokestatic 29, 3) := by decide +kernel
theorem dX7_copy_41 : decode cX7_copy 41 = .ok (.return_, 1) := by decide +kernel
theorem dX7_suspects_0 : decode cX7_suspects 0 = .ok (.iconst 0, 1) := by decide +kernel
theorem dX7_suspects_1 : decode cX7_suspects 1 = .ok (.istore_n 2, 1) := by decide +kernel
theorem dX7_suspects_2 : decode cX7_suspects 2 = .ok (.iconst 0, 1) := by decide +kernel
theorem dX7_suspects_3 : decode cX7_suspects 3 = .ok (.istore_n 3, 1) := by decide +kernel
theorem dX7_suspects_4 : decode cX7_suspects 4 = .ok (.iload_n 3, 1) := by decide +kernel
theorem dX7_suspects_5 : decode cX7_suspects 5 = .ok (.aload_n 1, 1) := by decide +kernel
theorem dX7_suspects_6 : decode cX7_suspects 6 = .ok (.getfield 33, 3) := by decide +kernel
theorem dX7_suspects_9 : decode cX7_suspects 9 = .ok (.if_icmp .ge 24, 3) := by decide +kernel
theorem dX7_suspects_12 : decode cX7_suspects 12 = .ok (.aload_n 0, 1) := by decide +kernel
theorem dX7_suspects_13 : decode cX7_suspects 13 = .ok (.aload_n 1, 1) := by decide +kernel
theorem dX7_suspects_14 : decode cX7_suspects 14 = .ok (.iload_n 3, 1) := by decide +kernel
theorem dX7_suspects_15 : decode cX7_suspects 15 = .ok (.invokevirtual 38, 3) := by decide +kernel
theorem dX7_suspects_18 : decode cX7_suspects 18 = .ok (.ifCond .eq 9, 3) := by decide +kernel
theorem dX7_suspects_21 : decode cX7_suspects 21 = .ok (.iload_n 2, 1) := by decide +kernel
theorem dX7_suspects_22 : decode cX7_suspects 22 = .ok (.iconst 1, 1) := by decide +kernel
theorem dX7_suspects_23 : decode cX7_suspects 23 = .ok (.iload_n 3, 1) := by decide +kernel
theorem dX7_suspects_24 : decode cX7_suspects 24 = .ok (.ishl, 1) := by decide +kernel
theorem dX7_suspects_25 : decode cX7_suspects 25 = .ok (.ior, 1) := by decide +kernel
theorem dX7_suspects_26 : decode cX7_suspects 26 = .ok (.istore_n 2, 1) := by decide +kernel
theorem dX7_suspects_27 : decode cX7_suspects 27 = .ok (.iinc 3 1, 3) := by decide +kernel
theorem dX7_suspects_30 : decode cX7_suspects 30 = .ok (.goto (-26), 3) := by decide +kernel
theorem dX7_suspects_33 : decode cX7_suspects 33 = .ok (.iload_n 2, 1) := by decide +kernel
theorem dX7_suspects_34 : decode cX7_suspects 34 = .ok (.ireturn, 1) := by decide +kernel
theorem dX7_fits_0 : decode cX7_fits 0 = .ok (.iconst 0, 1) := by decide +kernel
theorem dX7_fits_1 : decode cX7_fits 1 = .ok (.istore_n 3, 1) := by decide +kernel
theorem dX7_fits_2 : decode cX7_fits 2 = .ok (.iload_n 3, 1) := by decide +kernel
theorem dX7_fits_3 : decode cX7_fits 3 = .ok (.aload_n 0, 1) := by decide +kernel
theorem dX7_fits_4 : decode cX7_fits 4 = .ok (.getfield 21, 3) := by decide +kernel
theorem dX7_fits_7 : decode cX7_fits 7 = .ok (.if_icmp .ge 54, 3) := by decide +kernel
theorem dX7_fits_10 : decode cX7_fits 10 = .ok (.aload_n 1, 1) := by decide +kernel
theorem dX7_fits_11 : decode cX7_fits 11 = .ok (.getfield 42, 3) := by decide +kernel
theorem dX7_fits_14 : decode cX7_fits 14 = .ok (.aload_n 0, 1) := by decide +kernel
theorem dX7_fits_15 : decode cX7_fits 15 = .ok (.getfield 9, 3) := by decide +kernel
theorem dX7_fits_18 : decode cX7_fits 18 = .ok (.iload_n 3, 1) := by decide +kernel
theorem dX7_fits_19 : decode cX7_fits 19 = .ok (.invokestatic 43, 3) := by decide +kernel
theorem dX7_fits_22 : decode cX7_fits 22 = .ok (.invokestatic 43, 3) := by decide +kernel
theorem dX7_fits_25 : decode cX7_fits 25 = .ok (.istore 4, 2) := by decide +kernel
theorem dX7_fits_27 : decode cX7_fits 27 = .ok (.aload_n 1, 1) := by decide +kernel
theorem dX7_fits_28 : decode cX7_fits 28 = .ok (.iload_n 2, 1) := by decide +kernel
theorem dX7_fits_29 : decode cX7_fits 29 = .ok (.iload 4, 2) := by decide +kernel
theorem dX7_fits_31 : decode cX7_fits 31 = .ok (.aload_n 0, 1) := by decide +kernel
theorem dX7_fits_32 : decode cX7_fits 32 = .ok (.getfield 15, 3) := by decide +kernel
theorem dX7_fits_35 : decode cX7_fits 35 = .ok (.iload_n 3, 1) := by decide +kernel
theorem dX7_fits_36 : decode cX7_fits 36 = .ok (.invokestatic 43, 3) := by decide +kernel
theorem dX7_fits_39 : decode cX7_fits 39 = .ok (.invokevirtual 47, 3) := by decide +kernel
theorem dX7_fits_42 : decode cX7_fits 42 = .ok (.aload_n 0, 1) := by decide +kernel
theorem dX7_fits_43 : decode cX7_fits 43 = .ok (.getfield 18, 3) := by decide +kernel
theorem dX7_fits_46 : decode cX7_fits 46 = .ok (.iload_n 3, 1) := by decide +kernel
theorem dX7_fits_47 : decode cX7_fits 47 = .ok (.invokestatic 43, 3) := by decide +kernel
theorem dX7_fits_50 : decode cX7_fits 50 = .ok (.if_icmp .eq 5, 3) := by decide +kernel
theorem dX7_fits_53 : decode cX7_fits 53 = .ok (.iconst 0, 1) := by decide +kernel
theorem dX7_fits_54 : decode cX7_fits 54 = .ok (.ireturn, 1) := by decide +kernel
theorem dX7_fits_55 : decode cX7_fits 55 = .ok (.iinc 3 1, 3) := by decide +kernel
theorem dX7_fits_58 : decode cX7_fits 58 = .ok (.goto (-56), 3) := by decide +kernel
theorem dX7_fits_61 : decode cX7_fits 61 = .ok (.iconst 1, 1) := by decide +kernel
theorem dX7_fits_62 : decode cX7_fits 62 = .ok (.ireturn, 1) := by decide +kernel
theorem dX8_init_0 : decode cX8_init 0 = .ok (.aload_n 0, 1) := by decide +kernel
theorem dX8_init_1 : decode cX8_init 1 = .ok (.invokespecial 3, 3) := by decide +kernel
theorem dX8_init_4 : decode cX8_init 4 = .ok (.aload_n 0, 1) := by decide +kernel
theorem dX8_init_5 : decode cX8_init 5 = .ok (.bipush 40, 2) := by decide +kernel
theorem dX8_init_7 : decode cX8_init 7 = .ok (.newarray .int, 2) := by decide +kernel
theorem dX8_init_9 : decode cX8_init 9 = .ok (.putfield 9, 3) := by decide +kernel
theorem dX8_init_12 : decode cX8_init 12 = .ok (.aload_n 0, 1) := by decide +kernel
theorem dX8_init_13 : decode cX8_init 13 = .ok (.bipush 40, 2) := by decide +kernel
theorem dX8_init_15 : decode cX8_init 15 = .ok (.newarray .int, 2) := by decide +kernel
theorem dX8_init_17 : decode cX8_init 17 = .ok (.putfield 15, 3) := by decide +kernel
theorem dX8_init_20 : decode cX8_init 20 = .ok (.aload_n 0, 1) := by decide +kernel
theorem dX8_init_21 : decode cX8_init 21 = .ok (.bipush 40, 2) := by decide +kernel
theorem dX8_init_23 : decode cX8_init 23 = .ok (.newarray .int, 2) := by decide +kernel
theorem dX8_init_25 : decode cX8_init 25 = .ok (.putfield 18, 3) := by decide +kernel
theorem dX8_init_28 : decode cX8_init 28 = .ok (.return_, 1) := by decide +kernel
theorem dX8_add_0 : decode cX8_add 0 = .ok (.aload_n 0, 1) := by decide +kernel
theorem dX8_add_1 : decode cX8_add 1 = .ok (.getfield 21, 3) := by decide +kernel
theorem dX8_add_4 : decode cX8_add 4 = .ok (.bipush 40, 2) := by decide +kernel
theorem dX8_add_6 : decode cX8_add 6 = .ok (.if_icmp .ge 49, 3) := by decide +kernel
theorem dX8_add_9 : decode cX8_add 9 = .ok (.aload_n 0, 1) := by decide +kernel
theorem dX8_add_10 : decode cX8_add 10 = .ok (.getfield 9, 3) := by decide +kernel
theorem dX8_add_13 : decode cX8_add 13 = .ok (.aload_n 0, 1) := by decide +kernel
theorem dX8_add_14 : decode cX8_add 14 = .ok (.getfield 21, 3) := by decide +kernel
theorem dX8_add_17 : decode cX8_add 17 = .ok (.iload_n 1, 1) := by decide +kernel
theorem dX8_add_18 : decode cX8_add 18 = .ok (.invokestatic 25, 3) := by decide +kernel
theorem dX8_add_21 : decode cX8_add 21 = .ok (.aload_n 0, 1) := by decide +kernel
theorem dX8_add_22 : decode cX8_add 22 = .ok (.getfield 15, 3) := by decide +kernel
theorem dX8_add_25 : decode cX8_add 25 = .ok (.aload_n 0, 1) := by decide +kernel
theorem dX8_add_26 : decode cX8_add 26 = .ok (.getfield 21, 3) := by decide +kernel
theorem dX8_add_29 : decode cX8_add 29 = .ok (.iload_n 2, 1) := by decide +kernel
theorem dX8_add_30 : decode cX8_add 30 = .ok (.invokestatic 25, 3) := by decide +kernel
theorem dX8_add_33 : decode cX8_add 33 = .ok (.aload_n 0, 1) := by decide +kernel
theorem dX8_add_34 : decode cX8_add 34 = .ok (.getfield 18, 3) := by decide +kernel
theorem dX8_add_37 : decode cX8_add 37 = .ok (.aload_n 0, 1) := by decide +kernel
theorem dX8_add_38 : decode cX8_add 38 = .ok (.getfield 21, 3) := by decide +kernel
theorem dX8_add_41 : decode cX8_add 41 = .ok (.iload_n 3, 1) := by decide +kernel
theorem dX8_add_42 : decode cX8_add 42 = .ok (.invokestatic 25, 3) := by decide +kernel
theorem dX8_add_45 : decode cX8_add 45 = .ok (.aload_n 0, 1) := by decide +kernel
theorem dX8_add_46 : decode cX8_add 46 = .ok (.dup, 1) := by decide +kernel
theorem dX8_add_47 : decode cX8_add 47 = .ok (.getfield 21, 3) := by decide +kernel
theorem dX8_add_50 : decode cX8_add 50 = .ok (.iconst 1, 1) := by decide +kernel
theorem dX8_add_51 : decode cX8_add 51 = .ok (.iadd, 1) := by decide +kernel
theorem dX8_add_52 : decode cX8_add 52 = .ok (.putfield 21, 3) := by decide +kernel
theorem dX8_add_55 : decode cX8_add 55 = .ok (.return_, 1) := by decide +kernel
theorem dX8_copy_0 : decode cX8_copy 0 = .ok (.aload_n 0, 1) := by decide +kernel
theorem dX8_copy_1 : decode cX8_copy 1 = .ok (.aload_n 1, 1) := by decide +kernel
theorem dX8_copy_2 : decode cX8_copy 2 = .ok (.getfield 21, 3) := by decide +kernel
theorem dX8_copy_5 : decode cX8_copy 5 = .ok (.putfield 21, 3) := by decide +kernel
theorem dX8_copy_8 : decode cX8_copy 8 = .ok (.aload_n 1, 1) := by decide +kernel
theorem dX8_copy_9 : decode cX8_copy 9 = .ok (.getfield 9, 3) := by decide +kernel
theorem dX8_copy_12 : decode cX8_copy 12 = .ok (.aload_n 0, 1) := by decide +kernel
theorem dX8_copy_13 : decode cX8_copy 13 = .ok (.getfield 9, 3) := by decide +kernel
theorem dX8_copy_16 : decode cX8_copy 16 = .ok (.invokestatic 29, 3) := by decide +kernel
theorem dX8_copy_19 : decode cX8_copy 19 = .ok (.aload_n 1, 1) := by decide +kernel
theorem dX8_copy_20 : decode cX8_copy 20 = .ok (.getfield 15, 3) := by decide +kernel
theorem dX8_copy_23 : decode cX8_copy 23 = .ok (.aload_n 0, 1) := by decide +kernel
theorem dX8_copy_24 : decode cX8_copy 24 = .ok (.getfield 15, 3) := by decide +kernel
theorem dX8_copy_27 : decode cX8_copy 27 = .ok (.invokestatic 29, 3) := by decide +kernel
theorem dX8_copy_30 : decode cX8_copy 30 = .ok (.aload_n 1, 1) := by decide +kernel
theorem dX8_copy_31 : decode cX8_copy 31 = .ok (.getfield 18, 3) := by decide +kernel
theorem dX8_copy_34 : decode cX8_copy 34 = .ok (.aload_n 0, 1) := by decide +kernel
theorem dX8_copy_35 : decode cX8_copy 35 = .ok (.getfield 18, 3) := by decide +kernel
theorem dX8_copy_38 : decode cX8_copy 38 = .ok (.invokestatic 29, 3) := by decide +kernel
theorem dX8_copy_41 : decode cX8_copy 41 = .ok (.return_, 1) := by decide +kernel
theorem dX8_play_0 : decode cX8_play 0 = .ok (.aload_n 0, 1) := by decide +kernel
theorem dX8_play_1 : decode cX8_play 1 = .ok (.getfield 15, 3) := by decide +kernel
theorem dX8_play_4 : decode cX8_play 4 = .ok (.iload_n 3, 1) := by decide +kernel
theorem dX8_play_5 : decode cX8_play 5 = .ok (.invokestatic 33, 3) := by decide +kernel
theorem dX8_play_8 : decode cX8_play 8 = .ok (.istore 4, 2) := by decide +kernel
theorem dX8_play_10 : decode cX8_play 10 = .ok (.aload_n 0, 1) := by decide +kernel
theorem dX8_play_11 : decode cX8_play 11 = .ok (.getfield 18, 3) := by decide +kernel
theorem dX8_play_14 : decode cX8_play 14 = .ok (.iload_n 3, 1) := by decide +kernel
theorem dX8_play_15 : decode cX8_play 15 = .ok (.invokestatic 33, 3) := by decide +kernel
theorem dX8_play_18 : decode cX8_play 18 = .ok (.istore 5, 2) := by decide +kernel
theorem dX8_play_20 : decode cX8_play 20 = .ok (.aload_n 0, 1) := by decide +kernel
theorem dX8_play_21 : decode cX8_play 21 = .ok (.getfield 9, 3) := by decide +kernel
theorem dX8_play_24 : decode cX8_play 24 = .ok (.iload_n 3, 1) := by decide +kernel
theorem dX8_play_25 : decode cX8_play 25 = .ok (.invokestatic 33, 3) := by decide +kernel
theorem dX8_play_28 : decode cX8_play 28 = .ok (.tableswitch 121 0 4 #[36, 59, 121, 79, 105], 36) := by decide +kernel
theorem dX8_play_64 : decode cX8_play 64 = .ok (.aload_n 2, 1) := by decide +kernel
theorem dX8_play_65 : decode cX8_play 65 = .ok (.aload_n 1, 1) := by decide +kernel
theorem dX8_play_66 : decode cX8_play 66 = .ok (.iload 4, 2) := by decide +kernel
theorem dX8_play_68 : decode cX8_play 68 = .ok (.iload 5, 2) := by decide +kernel
theorem dX8_play_70 : decode cX8_play 70 = .ok (.invokevirtual 37, 3) := by decide +kernel
theorem dX8_play_73 : decode cX8_play 73 = .ok (.ifCond .ne 5, 3) := by decide +kernel
theorem dX8_play_76 : decode cX8_play 76 = .ok (.iconst 0, 1) := by decide +kernel
theorem dX8_play_77 : decode cX8_play 77 = .ok (.ireturn, 1) := by decide +kernel
theorem dX8_play_78 : decode cX8_play 78 = .ok (.aload_n 2, 1) := by decide +kernel
theorem dX8_play_79 : decode cX8_play 79 = .ok (.aload_n 1, 1) := by decide +kernel
theorem dX8_play_80 : decode cX8_play 80 = .ok (.iload 5, 2) := by decide +kernel
theorem dX8_play_82 : decode cX8_play 82 = .ok (.invokevirtual 43, 3) := by decide +kernel
theorem dX8_play_85 : decode cX8_play 85 = .ok (.iconst 1, 1) := by decide +kernel
theorem dX8_play_86 : decode cX8_play 86 = .ok (.ireturn, 1) := by decide +kernel
theorem dX8_play_87 : decode cX8_play 87 = .ok (.aload_n 2, 1) := by decide +kernel
theorem dX8_play_88 : decode cX8_play 88 = .ok (.aload_n 1, 1) := by decide +kernel
theorem dX8_play_89 : decode cX8_play 89 = .ok (.iload 4, 2) := by decide +kernel
theorem dX8_play_91 : decode cX8_play 91 = .ok (.invokevirtual 47, 3) := by decide +kernel
theorem dX8_play_94 : decode cX8_play 94 = .ok (.ifCond .ne 5, 3) := by decide +kernel
theorem dX8_play_97 : decode cX8_play 97 = .ok (.iconst 0, 1) := by decide +kernel
theorem dX8_play_98 : decode cX8_play 98 = .ok (.ireturn, 1) := by decide +kernel
theorem dX8_play_99 : decode cX8_play 99 = .ok (.aload_n 2, 1) := by decide +kernel
theorem dX8_play_100 : decode cX8_play 100 = .ok (.iload 4, 2) := by decide +kernel
theorem dX8_play_102 : decode cX8_play 102 = .ok (.putfield 51, 3) := by decide +kernel
theorem dX8_play_105 : decode cX8_play 105 = .ok (.iconst 1, 1) := by decide +kernel
theorem dX8_play_106 : decode cX8_play 106 = .ok (.ireturn, 1) := by decide +kernel
theorem dX8_play_107 : decode cX8_play 107 = .ok (.aload_n 2, 1) := by decide +kernel
theorem dX8_play_108 : decode cX8_play 108 = .ok (.aload_n 1, 1) := by decide +kernel
theorem dX8_play_109 : decode cX8_play 109 = .ok (.iload 4, 2) := by decide +kernel
theorem dX8_play_111 : decode cX8_play 111 = .ok (.iload 5, 2) := by decide +kernel
theorem dX8_play_113 : decode cX8_play 113 = .ok (.invokevirtual 54, 3) := by decide +kernel
theorem dX8_play_116 : decode cX8_play 116 = .ok (.ifCond .ne 5, 3) := by decide +kernel
theorem dX8_play_119 : decode cX8_play 119 = .ok (.iconst 0, 1) := by decide +kernel
theorem dX8_play_120 : decode cX8_play 120 = .ok (.ireturn, 1) := by decide +kernel
theorem dX8_play_121 : decode cX8_play 121 = .ok (.aload_n 2, 1) := by decide +kernel
theorem dX8_play_122 : decode cX8_play 122 = .ok (.aload_n 1, 1) := by decide +kernel
theorem dX8_play_123 : decode cX8_play 123 = .ok (.iload 4, 2) := by decide +kernel
theorem dX8_play_125 : decode cX8_play 125 = .ok (.iload 5, 2) := by decide +kernel
theorem dX8_play_127 : decode cX8_play 127 = .ok (.invokevirtual 57, 3) := by decide +kernel
theorem dX8_play_130 : decode cX8_play 130 = .ok (.pop, 1) := by decide +kernel
theorem dX8_play_131 : decode cX8_play 131 = .ok (.iconst 1, 1) := by decide +kernel
theorem dX8_play_132 : decode cX8_play 132 = .ok (.ireturn, 1) := by decide +kernel
theorem dX8_play_133 : decode cX8_play 133 = .ok (.aload_n 2, 1) := by decide +kernel
theorem dX8_play_134 : decode cX8_play 134 = .ok (.invokevirtual 61, 3) := by decide +kernel
theorem dX8_play_137 : decode cX8_play 137 = .ok (.ifCond .ne 5, 3) := by decide +kernel
theorem dX8_play_140 : decode cX8_play 140 = .ok (.iconst 0, 1) := by decide +kernel
theorem dX8_play_141 : decode cX8_play 141 = .ok (.ireturn, 1) := by decide +kernel
theorem dX8_play_142 : decode cX8_play 142 = .ok (.aload_n 2, 1) := by decide +kernel
theorem dX8_play_143 : decode cX8_play 143 = .ok (.invokevirtual 65, 3) := by decide +kernel
theorem dX8_play_146 : decode cX8_play 146 = .ok (.pop, 1) := by decide +kernel
theorem dX8_play_147 : decode cX8_play 147 = .ok (.iconst 1, 1) := by decide +kernel
theorem dX8_play_148 : decode cX8_play 148 = .ok (.ireturn, 1) := by decide +kernel
theorem dX8_play_149 : decode cX8_play 149 = .ok (.aload_n 2, 1) := by decide +kernel
theorem dX8_play_150 : decode cX8_play 150 = .ok (.aload_n 1, 1) := by decide +kernel
theorem dX8_play_151 : decode cX8_play 151 = .ok (.iload 4, 2) := by decide +kernel
theorem dX8_play_153 : decode cX8_play 153 = .ok (.iconst (-1), 1) := by decide +kernel
theorem dX8_play_154 : decode cX8_play 154 = .ok (.invokevirtual 57, 3) := by decide +kernel
theorem dX8_play_157 : decode cX8_play 157 = .ok (.pop, 1) := by decide +kernel
theorem dX8_play_158 : decode cX8_play 158 = .ok (.iconst 1, 1) := by decide +kernel
theorem dX8_play_159 : decode cX8_play 159 = .ok (.ireturn, 1) := by decide +kernel
theorem dX9_init_0 : decode cX9_init 0 = .ok (.aload_n 0, 1) := by decide +kernel
theorem dX9_init_1 : decode cX9_init 1 = .ok (.invokespecial 3, 3) := by decide +kernel
theorem dX9_init_4 : decode cX9_init 4 = .ok (.aload_n 0, 1) := by decide +kernel
theorem dX9_init_5 : decode cX9_init 5 = .ok (.iconst (-1), 1) := by decide +kernel
theorem dX9_init_6 : decode cX9_init 6 = .ok (.putfield 9, 3) := by decide +kernel
theorem dX9_init_9 : decode cX9_init 9 = .ok (.aload_n 0, 1) := by decide +kernel
theorem dX9_init_10 : decode cX9_init 10 = .ok (.iconst (-1), 1) := by decide +kernel
theorem dX9_init_11 : decode cX9_init 11 = .ok (.putfield 15, 3) := by decide +kernel
theorem dX9_init_14 : decode cX9_init 14 = .ok (.aload_n 0, 1) := by decide +kernel
theorem dX9_init_15 : decode cX9_init 15 = .ok (.iconst 5, 1) := by decide +kernel
theorem dX9_init_16 : decode cX9_init 16 = .ok (.newarray .int, 2) := by decide +kernel
theorem dX9_init_18 : decode cX9_init 18 = .ok (.putfield 18, 3) := by decide +kernel
theorem dX9_init_21 : decode cX9_init 21 = .ok (.aload_n 0, 1) := by decide +kernel
theorem dX9_init_22 : decode cX9_init 22 = .ok (.bipush 6, 2) := by decide +kernel
theorem dX9_init_24 : decode cX9_init 24 = .ok (.newarray .int, 2) := by decide +kernel
theorem dX9_init_26 : decode cX9_init 26 = .ok (.putfield 22, 3) := by decide +kernel
theorem dX9_init_29 : decode cX9_init 29 = .ok (.aload_n 0, 1) := by decide +kernel
theorem dX9_init_30 : decode cX9_init 30 = .ok (.bipush 6, 2) := by decide +kernel
theorem dX9_init_32 : decode cX9_init 32 = .ok (.newarray .int, 2) := by decide +kernel
theorem dX9_init_34 : decode cX9_init 34 = .ok (.putfield 25, 3) := by decide +kernel
theorem dX9_init_37 : decode cX9_init 37 = .ok (.return_, 1) := by decide +kernel
theorem dX9_begin_0 : decode cX9_begin 0 = .ok (.aload_n 0, 1) := by decide +kernel
theorem dX9_begin_1 : decode cX9_begin 1 = .ok (.iconst 0, 1) := by decide +kernel
theorem dX9_begin_2 : decode cX9_begin 2 = .ok (.putfield 28, 3) := by decide +kernel
theorem dX9_begin_5 : decode cX9_begin 5 = .ok (.aload_n 0, 1) := by decide +kernel
theorem dX9_begin_6 : decode cX9_begin 6 = .ok (.invokevirtual 31, 3) := by decide +kernel
theorem dX9_begin_9 : decode cX9_begin 9 = .ok (.iconst 0, 1) := by decide +kernel
theorem dX9_begin_10 : decode cX9_begin 10 = .ok (.istore_n 2, 1) := by decide +kernel
theorem dX9_begin_11 : decode cX9_begin 11 = .ok (.iload_n 2, 1) := by decide +kernel
theorem dX9_begin_12 : decode cX9_begin 12 = .ok (.iconst 5, 1) := by decide +kernel
theorem dX9_begin_13 : decode cX9_begin 13 = .ok (.if_icmp .ge 37, 3) := by decide +kernel
theorem dX9_begin_16 : decode cX9_begin 16 = .ok (.aload_n 0, 1) := by decide +kernel
theorem dX9_begin_17 : decode cX9_begin 17 = .ok (.getfield 18, 3) := by decide +kernel
theorem dX9_begin_20 : decode cX9_begin 20 = .ok (.iload_n 2, 1) := by decide +kernel
theorem dX9_begin_21 : decode cX9_begin 21 = .ok (.iload_n 2, 1) := by decide +kernel
theorem dX9_begin_22 : decode cX9_begin 22 = .ok (.aload_n 1, 1) := by decide +kernel
theorem dX9_begin_23 : decode cX9_begin 23 = .ok (.getfield 34, 3) := by decide +kernel
theorem dX9_begin_26 : decode cX9_begin 26 = .ok (.if_icmp .ge 14, 3) := by decide +kernel
theorem dX9_begin_29 : decode cX9_begin 29 = .ok (.aload_n 1, 1) := by decide +kernel
theorem dX9_begin_30 : decode cX9_begin 30 = .ok (.getfield 39, 3) := by decide +kernel
theorem dX9_begin_33 : decode cX9_begin 33 = .ok (.iload_n 2, 1) := by decide +kernel
theorem dX9_begin_34 : decode cX9_begin 34 = .ok (.invokestatic 40, 3) := by decide +kernel
theorem dX9_begin_37 : decode cX9_begin 37 = .ok (.goto 4, 3) := by decide +kernel
theorem dX9_begin_40 : decode cX9_begin 40 = .ok (.iconst 0, 1) := by decide +kernel
theorem dX9_begin_41 : decode cX9_begin 41 = .ok (.invokestatic 44, 3) := by decide +kernel
theorem dX9_begin_44 : decode cX9_begin 44 = .ok (.iinc 2 1, 3) := by decide +kernel
theorem dX9_begin_47 : decode cX9_begin 47 = .ok (.goto (-36), 3) := by decide +kernel
theorem dX9_begin_50 : decode cX9_begin 50 = .ok (.iconst 0, 1) := by decide +kernel
theorem dX9_begin_51 : decode cX9_begin 51 = .ok (.istore_n 2, 1) := by decide +kernel
theorem dX9_begin_52 : decode cX9_begin 52 = .ok (.iload_n 2, 1) := by decide +kernel
theorem dX9_begin_53 : decode cX9_begin 53 = .ok (.bipush 6, 2) := by decide +kernel
theorem dX9_begin_55 : decode cX9_begin 55 = .ok (.if_icmp .ge 46, 3) := by decide +kernel
theorem dX9_begin_58 : decode cX9_begin 58 = .ok (.aload_n 0, 1) := by decide +kernel
theorem dX9_begin_59 : decode cX9_begin 59 = .ok (.getfield 22, 3) := by decide +kernel
theorem dX9_begin_62 : decode cX9_begin 62 = .ok (.iload_n 2, 1) := by decide +kernel
theorem dX9_begin_63 : decode cX9_begin 63 = .ok (.iload_n 2, 1) := by decide +kernel
theorem dX9_begin_64 : decode cX9_begin 64 = .ok (.aload_n 1, 1) := by decide +kernel
theorem dX9_begin_65 : decode cX9_begin 65 = .ok (.getfield 48, 3) := by decide +kernel
theorem dX9_begin_68 : decode cX9_begin 68 = .ok (.if_icmp .ge 14, 3) := by decide +kernel
theorem dX9_begin_71 : decode cX9_begin 71 = .ok (.aload_n 1, 1) := by decide +kernel
theorem dX9_begin_72 : decode cX9_begin 72 = .ok (.getfield 51, 3) := by decide +kernel
theorem dX9_begin_75 : decode cX9_begin 75 = .ok (.iload_n 2, 1) := by decide +kernel
theorem dX9_begin_76 : decode cX9_begin 76 = .ok (.invokestatic 40, 3) := by decide +kernel
theorem dX9_begin_79 : decode cX9_begin 79 = .ok (.goto 4, 3) := by decide +kernel
theorem dX9_begin_82 : decode cX9_begin 82 = .ok (.iconst 0, 1) := by decide +kernel
theorem dX9_begin_83 : decode cX9_begin 83 = .ok (.invokestatic 44, 3) := by decide +kernel
theorem dX9_begin_86 : decode cX9_begin 86 = .ok (.aload_n 0, 1) := by decide +kernel
theorem dX9_begin_87 : decode cX9_begin 87 = .ok (.getfield 25, 3) := by decide +kernel
theorem dX9_begin_90 : decode cX9_begin 90 = .ok (.iload_n 2, 1) := by decide +kernel
theorem dX9_begin_91 : decode cX9_begin 91 = .ok (.iconst 0, 1) := by decide +kernel
theorem dX9_begin_92 : decode cX9_begin 92 = .ok (.invokestatic 44, 3) := by decide +kernel
theorem dX9_begin_95 : decode cX9_begin 95 = .ok (.iinc 2 1, 3) := by decide +kernel
theorem dX9_begin_98 : decode cX9_begin 98 = .ok (.goto (-46), 3) := by decide +kernel
theorem dX9_begin_101 : decode cX9_begin 101 = .ok (.return_, 1) := by decide +kernel
theorem dX9_copy_0 : decode cX9_copy 0 = .ok (.aload_n 0, 1) := by decide +kernel
theorem dX9_copy_1 : decode cX9_copy 1 = .ok (.aload_n 1, 1) := by decide +kernel
theorem dX9_copy_2 : decode cX9_copy 2 = .ok (.getfield 28, 3) := by decide +kernel
theorem dX9_copy_5 : decode cX9_copy 5 = .ok (.putfield 28, 3) := by decide +kernel
theorem dX9_copy_8 : decode cX9_copy 8 = .ok (.aload_n 0, 1) := by decide +kernel
theorem dX9_copy_9 : decode cX9_copy 9 = .ok (.aload_n 1, 1) := by decide +kernel
theorem dX9_copy_10 : decode cX9_copy 10 = .ok (.getfield 9, 3) := by decide +kernel
theorem dX9_copy_13 : decode cX9_copy 13 = .ok (.putfield 9, 3) := by decide +kernel
theorem dX9_copy_16 : decode cX9_copy 16 = .ok (.aload_n 0, 1) := by decide +kernel
theorem dX9_copy_17 : decode cX9_copy 17 = .ok (.aload_n 1, 1) := by decide +kernel
theorem dX9_copy_18 : decode cX9_copy 18 = .ok (.getfield 15, 3) := by decide +kernel
theorem dX9_copy_21 : decode cX9_copy 21 = .ok (.putfield 15, 3) := by decide +kernel
theorem dX9_copy_24 : decode cX9_copy 24 = .ok (.aload_n 0, 1) := by decide +kernel
theorem dX9_copy_25 : decode cX9_copy 25 = .ok (.aload_n 1, 1) := by decide +kernel
theorem dX9_copy_26 : decode cX9_copy 26 = .ok (.getfield 52, 3) := by decide +kernel
theorem dX9_copy_29 : decode cX9_copy 29 = .ok (.putfield 52, 3) := by decide +kernel
theorem dX9_copy_32 : decode cX9_copy 32 = .ok (.aload_n 0, 1) := by decide +kernel
theorem dX9_copy_33 : decode cX9_copy 33 = .ok (.aload_n 1, 1) := by decide +kernel
theorem dX9_copy_34 : decode cX9_copy 34 = .ok (.getfield 55, 3) := by decide +kernel
theorem dX9_copy_37 : decode cX9_copy 37 = .ok (.putfield 55, 3) := by decide +kernel
theorem dX9_copy_40 : decode cX9_copy 40 = .ok (.aload_n 0, 1) := by decide +kernel
theorem dX9_copy_41 : decode cX9_copy 41 = .ok (.aload_n 1, 1) := by decide +kernel
theorem dX9_copy_42 : decode cX9_copy 42 = .ok (.getfield 59, 3) := by decide +kernel
theorem dX9_copy_45 : decode cX9_copy 45 = .ok (.putfield 59, 3) := by decide +kernel
theorem dX9_copy_48 : decode cX9_copy 48 = .ok (.aload_n 1, 1) := by decide +kernel
theorem dX9_copy_49 : decode cX9_copy 49 = .ok (.getfield 18, 3) := by decide +kernel
theorem dX9_copy_52 : decode cX9_copy 52 = .ok (.aload_n 0, 1) := by decide +kernel
theorem dX9_copy_53 : decode cX9_copy 53 = .ok (.getfield 18, 3) := by decide +kernel
theorem dX9_copy_56 : decode cX9_copy 56 = .ok (.invokestatic 62, 3) := by decide +kernel
theorem dX9_copy_59 : decode cX9_copy 59 = .ok (.aload_n 1, 1) := by decide +kernel
theorem dX9_copy_60 : decode cX9_copy 60 = .ok (.getfield 22, 3) := by decide +kernel
theorem dX9_copy_63 : decode cX9_copy 63 = .ok (.aload_n 0, 1) := by decide +kernel
theorem dX9_copy_64 : decode cX9_copy 64 = .ok (.getfield 22, 3) := by decide +kernel
theorem dX9_copy_67 : decode cX9_copy 67 = .ok (.invokestatic 62, 3) := by decide +kernel
theorem dX9_copy_70 : decode cX9_copy 70 = .ok (.aload_n 1, 1) := by decide +kernel
theorem dX9_copy_71 : decode cX9_copy 71 = .ok (.getfield 25, 3) := by decide +kernel
theorem dX9_copy_74 : decode cX9_copy 74 = .ok (.aload_n 0, 1) := by decide +kernel
theorem dX9_copy_75 : decode cX9_copy 75 = .ok (.getfield 25, 3) := by decide +kernel
theorem dX9_copy_78 : decode cX9_copy 78 = .ok (.invokestatic 62, 3) := by decide +kernel
theorem dX9_copy_81 : decode cX9_copy 81 = .ok (.return_, 1) := by decide +kernel
theorem dX9_release_0 : decode cX9_release 0 = .ok (.aload_n 0, 1) := by decide +kernel
theorem dX9_release_1 : decode cX9_release 1 = .ok (.iconst (-1), 1) := by decide +kernel
theorem dX9_release_2 : decode cX9_release 2 = .ok (.putfield 9, 3) := by decide +kernel
theorem dX9_release_5 : decode cX9_release 5 = .ok (.aload_n 0, 1) := by decide +kernel
theorem dX9_release_6 : decode cX9_release 6 = .ok (.iconst (-1), 1) := by decide +kernel
theorem dX9_release_7 : decode cX9_release 7 = .ok (.putfield 15, 3) := by decide +kernel
theorem dX9_release_10 : decode cX9_release 10 = .ok (.aload_n 0, 1) := by decide +kernel
theorem dX9_release_11 : decode cX9_release 11 = .ok (.iconst 0, 1) := by decide +kernel
theorem dX9_release_12 : decode cX9_release 12 = .ok (.putfield 52, 3) := by decide +kernel
theorem dX9_release_15 : decode cX9_release 15 = .ok (.aload_n 0, 1) := by decide +kernel
theorem dX9_release_16 : decode cX9_release 16 = .ok (.iconst 0, 1) := by decide +kernel
theorem dX9_release_17 : decode cX9_release 17 = .ok (.putfield 55, 3) := by decide +kernel
theorem dX9_release_20 : decode cX9_release 20 = .ok (.aload_n 0, 1) := by decide +kernel
theorem dX9_release_21 : decode cX9_release 21 = .ok (.iconst 0, 1) := by decide +kernel
theorem dX9_release_22 : decode cX9_release 22 = .ok (.putfield 59, 3) := by decide +kernel
theorem dX9_release_25 : decode cX9_release 25 = .ok (.return_, 1) := by decide +kernel
theorem dX9_canName_0 : decode cX9_canName 0 = .ok (.aload_n 0, 1) := by decide +kernel
theorem dX9_canName_1 : decode cX9_canName 1 = .ok (.getfield 9, 3) := by decide +kernel
theorem dX9_canName_4 : decode cX9_canName 4 = .ok (.iconst (-1), 1) := by decide +kernel
theorem dX9_canName_5 : decode cX9_canName 5 = .ok (.if_icmp .ne 16, 3) := by decide +kernel
theorem dX9_canName_8 : decode cX9_canName 8 = .ok (.aload_n 1, 1) := by decide +kernel
theorem dX9_canName_9 : decode cX9_canName 9 = .ok (.iload_n 2, 1) := by decide +kernel
theorem dX9_canName_10 : decode cX9_canName 10 = .ok (.iload_n 3, 1) := by decide +kernel
theorem dX9_canName_11 : decode cX9_canName 11 = .ok (.invokevirtual 66, 3) := by decide +kernel
theorem dX9_canName_14 : decode cX9_canName 14 = .ok (.ifCond .eq 7, 3) := by decide +kernel
theorem dX9_canName_17 : decode cX9_canName 17 = .ok (.iconst 1, 1) := by decide +kernel
theorem dX9_canName_18 : decode cX9_canName 18 = .ok (.goto 4, 3) := by decide +kernel
theorem dX9_canName_21 : decode cX9_canName 21 = .ok (.iconst 0, 1) := by decide +kernel
theorem dX9_canName_22 : decode cX9_canName 22 = .ok (.ireturn, 1) := by decide +kernel
theorem dX9_canMaster_0 : decode cX9_canMaster 0 = .ok (.aload_n 0, 1) := by decide +kernel
theorem dX9_canMaster_1 : decode cX9_canMaster 1 = .ok (.getfield 9, 3) := by decide +kernel
theorem dX9_canMaster_4 : decode cX9_canMaster 4 = .ok (.iconst (-1), 1) := by decide +kernel
theorem dX9_canMaster_5 : decode cX9_canMaster 5 = .ok (.if_icmp .eq 39, 3) := by decide +kernel
theorem dX9_canMaster_8 : decode cX9_canMaster 8 = .ok (.aload_n 1, 1) := by decide +kernel
theorem dX9_canMaster_9 : decode cX9_canMaster 9 = .ok (.iload_n 2, 1) := by decide +kernel
theorem dX9_canMaster_10 : decode cX9_canMaster 10 = .ok (.invokevirtual 70, 3) := by decide +kernel
theorem dX9_canMaster_13 : decode cX9_canMaster 13 = .ok (.ifCond .eq 31, 3) := by decide +kernel
theorem dX9_canMaster_16 : decode cX9_canMaster 16 = .ok (.iload_n 2, 1) := by decide +kernel
theorem dX9_canMaster_17 : decode cX9_canMaster 17 = .ok (.aload_n 0, 1) := by decide +kernel
theorem dX9_canMaster_18 : decode cX9_canMaster 18 = .ok (.getfield 9, 3) := by decide +kernel
theorem dX9_canMaster_21 : decode cX9_canMaster 21 = .ok (.if_icmp .eq 23, 3) := by decide +kernel
theorem dX9_canMaster_24 : decode cX9_canMaster 24 = .ok (.iload_n 2, 1) := by decide +kernel
theorem dX9_canMaster_25 : decode cX9_canMaster 25 = .ok (.aload_n 0, 1) := by decide +kernel
theorem dX9_canMaster_26 : decode cX9_canMaster 26 = .ok (.getfield 15, 3) := by decide +kernel
theorem dX9_canMaster_29 : decode cX9_canMaster 29 = .ok (.if_icmp .eq 15, 3) := by decide +kernel
theorem dX9_canMaster_32 : decode cX9_canMaster 32 = .ok (.aload_n 1, 1) := by decide +kernel
theorem dX9_canMaster_33 : decode cX9_canMaster 33 = .ok (.iload_n 2, 1) := by decide +kernel
theorem dX9_canMaster_34 : decode cX9_canMaster 34 = .ok (.invokevirtual 74, 3) := by decide +kernel
theorem dX9_canMaster_37 : decode cX9_canMaster 37 = .ok (.ifCond .ne 7, 3) := by decide +kernel
theorem dX9_canMaster_40 : decode cX9_canMaster 40 = .ok (.iconst 1, 1) := by decide +kernel
theorem dX9_canMaster_41 : decode cX9_canMaster 41 = .ok (.goto 4, 3) := by decide +kernel
theorem dX9_canMaster_44 : decode cX9_canMaster 44 = .ok (.iconst 0, 1) := by decide +kernel
theorem dX9_canMaster_45 : decode cX9_canMaster 45 = .ok (.ireturn, 1) := by decide +kernel
theorem dX9_canDisobey_0 : decode cX9_canDisobey 0 = .ok (.aload_n 0, 1) := by decide +kernel
theorem dX9_canDisobey_1 : decode cX9_canDisobey 1 = .ok (.getfield 9, 3) := by decide +kernel
theorem dX9_canDisobey_4 : decode cX9_canDisobey 4 = .ok (.iconst (-1), 1) := by decide +kernel
theorem dX9_canDisobey_5 : decode cX9_canDisobey 5 = .ok (.if_icmp .eq 36, 3) := by decide +kernel
theorem dX9_canDisobey_8 : decode cX9_canDisobey 8 = .ok (.aload_n 0, 1) := by decide +kernel
theorem dX9_canDisobey_9 : decode cX9_canDisobey 9 = .ok (.getfield 15, 3) := by decide +kernel
theorem dX9_canDisobey_12 : decode cX9_canDisobey 12 = .ok (.iconst (-1), 1) := by decide +kernel
theorem dX9_canDisobey_13 : decode cX9_canDisobey 13 = .ok (.if_icmp .eq 28, 3) := by decide +kernel
theorem dX9_canDisobey_16 : decode cX9_canDisobey 16 = .ok (.iload_n 2, 1) := by decide +kernel
theorem dX9_canDisobey_17 : decode cX9_canDisobey 17 = .ok (.iload_n 3, 1) := by decide +kernel
theorem dX9_canDisobey_18 : decode cX9_canDisobey 18 = .ok (.if_icmp .eq 23, 3) := by decide +kernel
theorem dX9_canDisobey_21 : decode cX9_canDisobey 21 = .ok (.aload_n 1, 1) := by decide +kernel
theorem dX9_canDisobey_22 : decode cX9_canDisobey 22 = .ok (.iload_n 2, 1) := by decide +kernel
theorem dX9_canDisobey_23 : decode cX9_canDisobey 23 = .ok (.invokevirtual 77, 3) := by decide +kernel
theorem dX9_canDisobey_26 : decode cX9_canDisobey 26 = .ok (.ifCond .eq 15, 3) := by decide +kernel
theorem dX9_canDisobey_29 : decode cX9_canDisobey 29 = .ok (.aload_n 1, 1) := by decide +kernel
theorem dX9_canDisobey_30 : decode cX9_canDisobey 30 = .ok (.iload_n 3, 1) := by decide +kernel
theorem dX9_canDisobey_31 : decode cX9_canDisobey 31 = .ok (.invokevirtual 77, 3) := by decide +kernel
theorem dX9_canDisobey_34 : decode cX9_canDisobey 34 = .ok (.ifCond .eq 7, 3) := by decide +kernel
theorem dX9_canDisobey_37 : decode cX9_canDisobey 37 = .ok (.iconst 1, 1) := by decide +kernel
theorem dX9_canDisobey_38 : decode cX9_canDisobey 38 = .ok (.goto 4, 3) := by decide +kernel
theorem dX9_canDisobey_41 : decode cX9_canDisobey 41 = .ok (.iconst 0, 1) := by decide +kernel
theorem dX9_canDisobey_42 : decode cX9_canDisobey 42 = .ok (.ireturn, 1) := by decide +kernel
theorem dX9_canLay_0 : decode cX9_canLay 0 = .ok (.aload_n 0, 1) := by decide +kernel
theorem dX9_canLay_1 : decode cX9_canLay 1 = .ok (.getfield 9, 3) := by decide +kernel
theorem dX9_canLay_4 : decode cX9_canLay 4 = .ok (.iconst (-1), 1) := by decide +kernel
theorem dX9_canLay_5 : decode cX9_canLay 5 = .ok (.if_icmp .eq 14, 3) := by decide +kernel
theorem dX9_canLay_8 : decode cX9_canLay 8 = .ok (.aload_n 0, 1) := by decide +kernel
theorem dX9_canLay_9 : decode cX9_canLay 9 = .ok (.getfield 55, 3) := by decide +kernel
theorem dX9_canLay_12 : decode cX9_canLay 12 = .ok (.ifCond .ne 7, 3) := by decide +kernel
theorem dX9_canLay_15 : decode cX9_canLay 15 = .ok (.iconst 1, 1) := by decide +kernel
theorem dX9_canLay_16 : decode cX9_canLay 16 = .ok (.goto 4, 3) := by decide +kernel
theorem dX9_canLay_19 : decode cX9_canLay 19 = .ok (.iconst 0, 1) := by decide +kernel
theorem dX9_canLay_20 : decode cX9_canLay 20 = .ok (.ireturn, 1) := by decide +kernel
theorem dX9_give_0 : decode cX9_give 0 = .ok (.aload_n 0, 1) := by decide +kernel
theorem dX9_give_1 : decode cX9_give 1 = .ok (.invokevirtual 31, 3) := by decide +kernel
theorem dX9_give_4 : decode cX9_give 4 = .ok (.aload_n 0, 1) := by decide +kernel
theorem dX9_give_5 : decode cX9_give 5 = .ok (.iload_n 2, 1) := by decide +kernel
theorem dX9_give_6 : decode cX9_give 6 = .ok (.putfield 9, 3) := by decide +kernel
theorem dX9_give_9 : decode cX9_give 9 = .ok (.aload_n 0, 1) := by decide +kernel
theorem dX9_give_10 : decode cX9_give 10 = .ok (.aload_n 1, 1) := by decide +kernel
theorem dX9_give_11 : decode cX9_give 11 = .ok (.getfield 80, 3) := by decide +kernel
theorem dX9_give_14 : decode cX9_give 14 = .ok (.putfield 52, 3) := by decide +kernel
theorem dX9_give_17 : decode cX9_give 17 = .ok (.return_, 1) := by decide +kernel
theorem dX9_layDown_0 : decode cX9_layDown 0 = .ok (.aload_n 0, 1) := by decide +kernel
theorem dX9_layDown_1 : decode cX9_layDown 1 = .ok (.getfield 52, 3) := by decide +kernel
theorem dX9_layDown_4 : decode cX9_layDown 4 = .ok (.istore_n 1, 1) := by decide +kernel
theorem dX9_layDown_5 : decode cX9_layDown 5 = .ok (.aload_n 0, 1) := by decide +kernel
theorem dX9_layDown_6 : decode cX9_layDown 6 = .ok (.aload_n 0, 1) := by decide +kernel
theorem dX9_layDown_7 : decode cX9_layDown 7 = .ok (.getfield 9, 3) := by decide +kernel
theorem dX9_layDown_10 : decode cX9_layDown 10 = .ok (.iload_n 1, 1) := by decide +kernel
theorem dX9_layDown_11 : decode cX9_layDown 11 = .ok (.invokevirtual 83, 3) := by decide +kernel
theorem dX9_layDown_14 : decode cX9_layDown 14 = .ok (.aload_n 0, 1) := by decide +kernel
theorem dX9_layDown_15 : decode cX9_layDown 15 = .ok (.invokevirtual 31, 3) := by decide +kernel
theorem dX9_layDown_18 : decode cX9_layDown 18 = .ok (.iload_n 1, 1) := by decide +kernel
theorem dX9_layDown_19 : decode cX9_layDown 19 = .ok (.ireturn, 1) := by decide +kernel
theorem dX9_passMonth_0 : decode cX9_passMonth 0 = .ok (.iconst 0, 1) := by decide +kernel
theorem dX9_passMonth_1 : decode cX9_passMonth 1 = .ok (.istore 4, 2) := by decide +kernel
theorem dX9_passMonth_3 : decode cX9_passMonth 3 = .ok (.aload_n 0, 1) := by decide +kernel
theorem dX9_passMonth_4 : decode cX9_passMonth 4 = .ok (.getfield 9, 3) := by decide +kernel
theorem dX9_passMonth_7 : decode cX9_passMonth 7 = .ok (.iconst (-1), 1) := by decide +kernel
theorem dX9_passMonth_8 : decode cX9_passMonth 8 = .ok (.if_icmp .ne 13, 3) := by decide +kernel
theorem dX9_passMonth_11 : decode cX9_passMonth 11 = .ok (.aload_n 0, 1) := by decide +kernel
theorem dX9_passMonth_12 : decode cX9_passMonth 12 = .ok (.aload_n 1, 1) := by decide +kernel
theorem dX9_passMonth_13 : decode cX9_passMonth 13 = .ok (.iconst (-1), 1) := by decide +kernel
theorem dX9_passMonth_14 : decode cX9_passMonth 14 = .ok (.iconst (-1), 1) := by decide +kernel
theorem dX9_passMonth_15 : decode cX9_passMonth 15 = .ok (.invokevirtual 87, 3) := by decide +kernel
theorem dX9_passMonth_18 : decode cX9_passMonth 18 = .ok (.goto 26, 3) := by decide +kernel
theorem dX9_passMonth_21 : decode cX9_passMonth 21 = .ok (.aload_n 0, 1) := by decide +kernel
theorem dX9_passMonth_22 : decode cX9_passMonth 22 = .ok (.aload_n 1, 1) := by decide +kernel
theorem dX9_passMonth_23 : decode cX9_passMonth 23 = .ok (.iload_n 2, 1) := by decide +kernel
theorem dX9_passMonth_24 : decode cX9_passMonth 24 = .ok (.iload_n 3, 1) := by decide +kernel
theorem dX9_passMonth_25 : decode cX9_passMonth 25 = .ok (.invokevirtual 91, 3) := by decide +kernel
theorem dX9_passMonth_28 : decode cX9_passMonth 28 = .ok (.istore 4, 2) := by decide +kernel
theorem dX9_passMonth_30 : decode cX9_passMonth 30 = .ok (.aload_n 0, 1) := by decide +kernel
theorem dX9_passMonth_31 : decode cX9_passMonth 31 = .ok (.aload_n 1, 1) := by decide +kernel
theorem dX9_passMonth_32 : decode cX9_passMonth 32 = .ok (.iload_n 2, 1) := by decide +kernel
theorem dX9_passMonth_33 : decode cX9_passMonth 33 = .ok (.iload_n 3, 1) := by decide +kernel
theorem dX9_passMonth_34 : decode cX9_passMonth 34 = .ok (.invokevirtual 87, 3) := by decide +kernel
theorem dX9_passMonth_37 : decode cX9_passMonth 37 = .ok (.aload_n 0, 1) := by decide +kernel
theorem dX9_passMonth_38 : decode cX9_passMonth 38 = .ok (.aload_n 1, 1) := by decide +kernel
theorem dX9_passMonth_39 : decode cX9_passMonth 39 = .ok (.iload 4, 2) := by decide +kernel
theorem dX9_passMonth_41 : decode cX9_passMonth 41 = .ok (.invokevirtual 95, 3) := by decide +kernel
theorem dX9_passMonth_44 : decode cX9_passMonth 44 = .ok (.aload_n 0, 1) := by decide +kernel
theorem dX9_passMonth_45 : decode cX9_passMonth 45 = .ok (.dup, 1) := by decide +kernel
theorem dX9_passMonth_46 : decode cX9_passMonth 46 = .ok (.getfield 28, 3) := by decide +kernel
theorem dX9_passMonth_49 : decode cX9_passMonth 49 = .ok (.iconst 1, 1) := by decide +kernel
theorem dX9_passMonth_50 : decode cX9_passMonth 50 = .ok (.iadd, 1) := by decide +kernel
theorem dX9_passMonth_51 : decode cX9_passMonth 51 = .ok (.putfield 28, 3) := by decide +kernel
theorem dX9_passMonth_54 : decode cX9_passMonth 54 = .ok (.iload 4, 2) := by decide +kernel
theorem dX9_passMonth_56 : decode cX9_passMonth 56 = .ok (.ireturn, 1) := by decide +kernel
theorem dX9_turn_0 : decode cX9_turn 0 = .ok (.aload_n 1, 1) := by decide +kernel
theorem dX9_turn_1 : decode cX9_turn 1 = .ok (.aload_n 0, 1) := by decide +kernel
theorem dX9_turn_2 : decode cX9_turn 2 = .ok (.getfield 9, 3) := by decide +kernel
theorem dX9_turn_5 : decode cX9_turn 5 = .ok (.aload_n 0, 1) := by decide +kernel
theorem dX9_turn_6 : decode cX9_turn 6 = .ok (.getfield 18, 3) := by decide +kernel
theorem dX9_turn_9 : decode cX9_turn 9 = .ok (.iload_n 2, 1) := by decide +kernel
theorem dX9_turn_10 : decode cX9_turn 10 = .ok (.invokestatic 40, 3) := by decide +kernel
theorem dX9_turn_13 : decode cX9_turn 13 = .ok (.aload_n 0, 1) := by decide +kernel
theorem dX9_turn_14 : decode cX9_turn 14 = .ok (.getfield 59, 3) := by decide +kernel
theorem dX9_turn_17 : decode cX9_turn 17 = .ok (.invokevirtual 99, 3) := by decide +kernel
theorem dX9_turn_20 : decode cX9_turn 20 = .ok (.istore 4, 2) := by decide +kernel
theorem dX9_turn_22 : decode cX9_turn 22 = .ok (.aload_n 0, 1) := by decide +kernel
theorem dX9_turn_23 : decode cX9_turn 23 = .ok (.getfield 15, 3) := by decide +kernel
theorem dX9_turn_26 : decode cX9_turn 26 = .ok (.iconst (-1), 1) := by decide +kernel
theorem dX9_turn_27 : decode cX9_turn 27 = .ok (.if_icmp .ne 7, 3) := by decide +kernel
theorem dX9_turn_30 : decode cX9_turn 30 = .ok (.iconst 0, 1) := by decide +kernel
theorem dX9_turn_31 : decode cX9_turn 31 = .ok (.goto 14, 3) := by decide +kernel
theorem dX9_turn_34 : decode cX9_turn 34 = .ok (.aload_n 1, 1) := by decide +kernel
theorem dX9_turn_35 : decode cX9_turn 35 = .ok (.getfield 103, 3) := by decide +kernel
theorem dX9_turn_38 : decode cX9_turn 38 = .ok (.aload_n 0, 1) := by decide +kernel
theorem dX9_turn_39 : decode cX9_turn 39 = .ok (.getfield 15, 3) := by decide +kernel
theorem dX9_turn_42 : decode cX9_turn 42 = .ok (.invokestatic 40, 3) := by decide +kernel
theorem dX9_turn_45 : decode cX9_turn 45 = .ok (.istore 5, 2) := by decide +kernel
theorem dX9_turn_47 : decode cX9_turn 47 = .ok (.iload_n 3, 1) := by decide +kernel
theorem dX9_turn_48 : decode cX9_turn 48 = .ok (.iconst (-1), 1) := by decide +kernel
theorem dX9_turn_49 : decode cX9_turn 49 = .ok (.if_icmp .ne 16, 3) := by decide +kernel
theorem dX9_turn_52 : decode cX9_turn 52 = .ok (.aload_n 0, 1) := by decide +kernel
theorem dX9_turn_53 : decode cX9_turn 53 = .ok (.iload_n 2, 1) := by decide +kernel
theorem dX9_turn_54 : decode cX9_turn 54 = .ok (.iload 4, 2) := by decide +kernel
theorem dX9_turn_56 : decode cX9_turn 56 = .ok (.iload 5, 2) := by decide +kernel
theorem dX9_turn_58 : decode cX9_turn 58 = .ok (.iconst 2, 1) := by decide +kernel
theorem dX9_turn_59 : decode cX9_turn 59 = .ok (.idiv, 1) := by decide +kernel
theorem dX9_turn_60 : decode cX9_turn 60 = .ok (.iadd, 1) := by decide +kernel
theorem dX9_turn_61 : decode cX9_turn 61 = .ok (.invokevirtual 106, 3) := by decide +kernel
theorem dX9_turn_64 : decode cX9_turn 64 = .ok (.ireturn, 1) := by decide +kernel
theorem dX9_turn_65 : decode cX9_turn 65 = .ok (.aload_n 0, 1) := by decide +kernel
theorem dX9_turn_66 : decode cX9_turn 66 = .ok (.aload_n 0, 1) := by decide +kernel
theorem dX9_turn_67 : decode cX9_turn 67 = .ok (.getfield 15, 3) := by decide +kernel
theorem dX9_turn_70 : decode cX9_turn 70 = .ok (.iconst 1, 1) := by decide +kernel
theorem dX9_turn_71 : decode cX9_turn 71 = .ok (.invokevirtual 83, 3) := by decide +kernel
theorem dX9_turn_74 : decode cX9_turn 74 = .ok (.aload_n 0, 1) := by decide +kernel
theorem dX9_turn_75 : decode cX9_turn 75 = .ok (.iload_n 2, 1) := by decide +kernel
theorem dX9_turn_76 : decode cX9_turn 76 = .ok (.iload 4, 2) := by decide +kernel
theorem dX9_turn_78 : decode cX9_turn 78 = .ok (.invokevirtual 106, 3) := by decide +kernel
theorem dX9_turn_81 : decode cX9_turn 81 = .ok (.aload_n 0, 1) := by decide +kernel
theorem dX9_turn_82 : decode cX9_turn 82 = .ok (.iload_n 3, 1) := by decide +kernel
theorem dX9_turn_83 : decode cX9_turn 83 = .ok (.iload 5, 2) := by decide +kernel
theorem dX9_turn_85 : decode cX9_turn 85 = .ok (.invokevirtual 106, 3) := by decide +kernel
theorem dX9_turn_88 : decode cX9_turn 88 = .ok (.iadd, 1) := by decide +kernel
theorem dX9_turn_89 : decode cX9_turn 89 = .ok (.ireturn, 1) := by decide +kernel
theorem dX9_lessen_0 : decode cX9_lessen 0 = .ok (.aload_n 0, 1) := by decide +kernel
theorem dX9_lessen_1 : decode cX9_lessen 1 = .ok (.getfield 18, 3) := by decide +kernel
theorem dX9_lessen_4 : decode cX9_lessen 4 = .ok (.iload_n 1, 1) := by decide +kernel
theorem dX9_lessen_5 : decode cX9_lessen 5 = .ok (.invokestatic 40, 3) := by decide +kernel
theorem dX9_lessen_8 : decode cX9_lessen 8 = .ok (.istore_n 3, 1) := by decide +kernel
theorem dX9_lessen_9 : decode cX9_lessen 9 = .ok (.iconst 0, 1) := by decide +kernel
theorem dX9_lessen_10 : decode cX9_lessen 10 = .ok (.iload_n 3, 1) := by decide +kernel
theorem dX9_lessen_11 : decode cX9_lessen 11 = .ok (.iload_n 2, 1) := by decide +kernel
theorem dX9_lessen_12 : decode cX9_lessen 12 = .ok (.isub, 1) := by decide +kernel
theorem dX9_lessen_13 : decode cX9_lessen 13 = .ok (.invokestatic 110, 3) := by decide +kernel
theorem dX9_lessen_16 : decode cX9_lessen 16 = .ok (.istore 4, 2) := by decide +kernel
theorem dX9_lessen_18 : decode cX9_lessen 18 = .ok (.aload_n 0, 1) := by decide +kernel
theorem dX9_lessen_19 : decode cX9_lessen 19 = .ok (.getfield 18, 3) := by decide +kernel
theorem dX9_lessen_22 : decode cX9_lessen 22 = .ok (.iload_n 1, 1) := by decide +kernel
theorem dX9_lessen_23 : decode cX9_lessen 23 = .ok (.iload 4, 2) := by decide +kernel
theorem dX9_lessen_25 : decode cX9_lessen 25 = .ok (.invokestatic 44, 3) := by decide +kernel
theorem dX9_lessen_28 : decode cX9_lessen 28 = .ok (.iload_n 3, 1) := by decide +kernel
theorem dX9_lessen_29 : decode cX9_lessen 29 = .ok (.ifCond .le 12, 3) := by decide +kernel
theorem dX9_lessen_32 : decode cX9_lessen 32 = .ok (.iload 4, 2) := by decide +kernel
theorem dX9_lessen_34 : decode cX9_lessen 34 = .ok (.ifCond .ne 7, 3) := by decide +kernel
theorem dX9_lessen_37 : decode cX9_lessen 37 = .ok (.iconst 1, 1) := by decide +kernel
theorem dX9_lessen_38 : decode cX9_lessen 38 = .ok (.goto 4, 3) := by decide +kernel
theorem dX9_lessen_41 : decode cX9_lessen 41 = .ok (.iconst 0, 1) := by decide +kernel
theorem dX9_lessen_42 : decode cX9_lessen 42 = .ok (.ireturn, 1) := by decide +kernel
theorem dX9_grow_0 : decode cX9_grow 0 = .ok (.iconst 0, 1) := by decide +kernel
theorem dX9_grow_1 : decode cX9_grow 1 = .ok (.istore 4, 2) := by decide +kernel
theorem dX9_grow_3 : decode cX9_grow 3 = .ok (.iload 4, 2) := by decide +kernel
theorem dX9_grow_5 : decode cX9_grow 5 = .ok (.aload_n 1, 1) := by decide +kernel
theorem dX9_grow_6 : decode cX9_grow 6 = .ok (.getfield 34, 3) := by decide +kernel
theorem dX9_grow_9 : decode cX9_grow 9 = .ok (.if_icmp .ge 38, 3) := by decide +kernel
theorem dX9_grow_12 : decode cX9_grow 12 = .ok (.iload 4, 2) := by decide +kernel
theorem dX9_grow_14 : decode cX9_grow 14 = .ok (.iload_n 2, 1) := by decide +kernel
theorem dX9_grow_15 : decode cX9_grow 15 = .ok (.if_icmp .eq 26, 3) := by decide +kernel
theorem dX9_grow_18 : decode cX9_grow 18 = .ok (.iload 4, 2) := by decide +kernel
theorem dX9_grow_20 : decode cX9_grow 20 = .ok (.iload_n 3, 1) := by decide +kernel
theorem dX9_grow_21 : decode cX9_grow 21 = .ok (.if_icmp .eq 20, 3) := by decide +kernel
theorem dX9_grow_24 : decode cX9_grow 24 = .ok (.aload_n 0, 1) := by decide +kernel
theorem dX9_grow_25 : decode cX9_grow 25 = .ok (.getfield 18, 3) := by decide +kernel
theorem dX9_grow_28 : decode cX9_grow 28 = .ok (.iload 4, 2) := by decide +kernel
theorem dX9_grow_30 : decode cX9_grow 30 = .ok (.aload_n 0, 1) := by decide +kernel
theorem dX9_grow_31 : decode cX9_grow 31 = .ok (.aload_n 1, 1) := by decide +kernel
theorem dX9_grow_32 : decode cX9_grow 32 = .ok (.iload 4, 2) := by decide +kernel
theorem dX9_grow_34 : decode cX9_grow 34 = .ok (.iconst 1, 1) := by decide +kernel
theorem dX9_grow_35 : decode cX9_grow 35 = .ok (.invokevirtual 115, 3) := by decide +kernel
theorem dX9_grow_38 : decode cX9_grow 38 = .ok (.invokestatic 44, 3) := by decide +kernel
theorem dX9_grow_41 : decode cX9_grow 41 = .ok (.iinc 4 1, 3) := by decide +kernel
theorem dX9_grow_44 : decode cX9_grow 44 = .ok (.goto (-41), 3) := by decide +kernel
theorem dX9_grow_47 : decode cX9_grow 47 = .ok (.return_, 1) := by decide +kernel
theorem dX9_grown_0 : decode cX9_grown 0 = .ok (.aload_n 0, 1) := by decide +kernel
theorem dX9_grown_1 : decode cX9_grown 1 = .ok (.getfield 18, 3) := by decide +kernel
theorem dX9_grown_4 : decode cX9_grown 4 = .ok (.iload_n 2, 1) := by decide +kernel
theorem dX9_grown_5 : decode cX9_grown 5 = .ok (.invokestatic 40, 3) := by decide +kernel
theorem dX9_grown_8 : decode cX9_grown 8 = .ok (.istore 4, 2) := by decide +kernel
theorem dX9_grown_10 : decode cX9_grown 10 = .ok (.iload 4, 2) := by decide +kernel
theorem dX9_grown_12 : decode cX9_grown 12 = .ok (.ifCond .ne 7, 3) := by decide +kernel
theorem dX9_grown_15 : decode cX9_grown 15 = .ok (.iconst 0, 1) := by decide +kernel
theorem dX9_grown_16 : decode cX9_grown 16 = .ok (.goto 21, 3) := by decide +kernel
theorem dX9_grown_19 : decode cX9_grown 19 = .ok (.bipush 99, 2) := by decide +kernel
theorem dX9_grown_21 : decode cX9_grown 21 = .ok (.iload 4, 2) := by decide +kernel
theorem dX9_grown_23 : decode cX9_grown 23 = .ok (.iload_n 3, 1) := by decide +kernel
theorem dX9_grown_24 : decode cX9_grown 24 = .ok (.aload_n 1, 1) := by decide +kernel
theorem dX9_grown_25 : decode cX9_grown 25 = .ok (.getfield 118, 3) := by decide +kernel
theorem dX9_grown_28 : decode cX9_grown 28 = .ok (.iload_n 2, 1) := by decide +kernel
theorem dX9_grown_29 : decode cX9_grown 29 = .ok (.invokestatic 40, 3) := by decide +kernel
theorem dX9_grown_32 : decode cX9_grown 32 = .ok (.imul, 1) := by decide +kernel
theorem dX9_grown_33 : decode cX9_grown 33 = .ok (.iadd, 1) := by decide +kernel
theorem dX9_grown_34 : decode cX9_grown 34 = .ok (.invokestatic 121, 3) := by decide +kernel
theorem dX9_grown_37 : decode cX9_grown 37 = .ok (.ireturn, 1) := by decide +kernel
theorem dX9_closeMonth_0 : decode cX9_closeMonth 0 = .ok (.aload_n 0, 1) := by decide +kernel
theorem dX9_closeMonth_1 : decode cX9_closeMonth 1 = .ok (.aload_n 0, 1) := by decide +kernel
theorem dX9_closeMonth_2 : decode cX9_closeMonth 2 = .ok (.getfield 9, 3) := by decide +kernel
theorem dX9_closeMonth_5 : decode cX9_closeMonth 5 = .ok (.iload_n 2, 1) := by decide +kernel
theorem dX9_closeMonth_6 : decode cX9_closeMonth 6 = .ok (.aload_n 1, 1) := by decide +kernel
theorem dX9_closeMonth_7 : decode cX9_closeMonth 7 = .ok (.aload_n 0, 1) := by decide +kernel
theorem dX9_closeMonth_8 : decode cX9_closeMonth 8 = .ok (.getfield 9, 3) := by decide +kernel
theorem dX9_closeMonth_11 : decode cX9_closeMonth 11 = .ok (.invokevirtual 124, 3) := by decide +kernel
theorem dX9_closeMonth_14 : decode cX9_closeMonth 14 = .ok (.imul, 1) := by decide +kernel
theorem dX9_closeMonth_15 : decode cX9_closeMonth 15 = .ok (.invokevirtual 83, 3) := by decide +kernel
theorem dX9_closeMonth_18 : decode cX9_closeMonth 18 = .ok (.aload_n 1, 1) := by decide +kernel
theorem dX9_closeMonth_19 : decode cX9_closeMonth 19 = .ok (.getfield 128, 3) := by decide +kernel
theorem dX9_closeMonth_22 : decode cX9_closeMonth 22 = .ok (.aload_n 0, 1) := by decide +kernel
theorem dX9_closeMonth_23 : decode cX9_closeMonth 23 = .ok (.getfield 9, 3) := by decide +kernel
theorem dX9_closeMonth_26 : decode cX9_closeMonth 26 = .ok (.invokestatic 40, 3) := by decide +kernel
theorem dX9_closeMonth_29 : decode cX9_closeMonth 29 = .ok (.iconst 1, 1) := by decide +kernel
theorem dX9_closeMonth_30 : decode cX9_closeMonth 30 = .ok (.if_icmp .ne 8, 3) := by decide +kernel
theorem dX9_closeMonth_33 : decode cX9_closeMonth 33 = .ok (.bipush 10, 2) := by decide +kernel
theorem dX9_closeMonth_35 : decode cX9_closeMonth 35 = .ok (.goto 4, 3) := by decide +kernel
theorem dX9_closeMonth_38 : decode cX9_closeMonth 38 = .ok (.iconst 5, 1) := by decide +kernel
theorem dX9_closeMonth_39 : decode cX9_closeMonth 39 = .ok (.istore_n 3, 1) := by decide +kernel
theorem dX9_closeMonth_40 : decode cX9_closeMonth 40 = .ok (.aload_n 0, 1) := by decide +kernel
theorem dX9_closeMonth_41 : decode cX9_closeMonth 41 = .ok (.getfield 22, 3) := by decide +kernel
theorem dX9_closeMonth_44 : decode cX9_closeMonth 44 = .ok (.aload_n 0, 1) := by decide +kernel
theorem dX9_closeMonth_45 : decode cX9_closeMonth 45 = .ok (.getfield 9, 3) := by decide +kernel
theorem dX9_closeMonth_48 : decode cX9_closeMonth 48 = .ok (.iconst 0, 1) := by decide +kernel
theorem dX9_closeMonth_49 : decode cX9_closeMonth 49 = .ok (.aload_n 0, 1) := by decide +kernel
theorem dX9_closeMonth_50 : decode cX9_closeMonth 50 = .ok (.getfield 22, 3) := by decide +kernel
theorem dX9_closeMonth_53 : decode cX9_closeMonth 53 = .ok (.aload_n 0, 1) := by decide +kernel
theorem dX9_closeMonth_54 : decode cX9_closeMonth 54 = .ok (.getfield 9, 3) := by decide +kernel
theorem dX9_closeMonth_57 : decode cX9_closeMonth 57 = .ok (.invokestatic 40, 3) := by decide +kernel
theorem dX9_closeMonth_60 : decode cX9_closeMonth 60 = .ok (.iload_n 3, 1) := by decide +kernel
theorem dX9_closeMonth_61 : decode cX9_closeMonth 61 = .ok (.isub, 1) := by decide +kernel
theorem dX9_closeMonth_62 : decode cX9_closeMonth 62 = .ok (.invokestatic 110, 3) := by decide +kernel
theorem dX9_closeMonth_65 : decode cX9_closeMonth 65 = .ok (.invokestatic 44, 3) := by decide +kernel
theorem dX9_closeMonth_68 : decode cX9_closeMonth 68 = .ok (.aload_n 0, 1) := by decide +kernel
theorem dX9_closeMonth_69 : decode cX9_closeMonth 69 = .ok (.dup, 1) := by decide +kernel
theorem dX9_closeMonth_70 : decode cX9_closeMonth 70 = .ok (.getfield 59, 3) := by decide +kernel
theorem dX9_closeMonth_73 : decode cX9_closeMonth 73 = .ok (.iconst 1, 1) := by decide +kernel
theorem dX9_closeMonth_74 : decode cX9_closeMonth 74 = .ok (.iadd, 1) := by decide +kernel
theorem dX9_closeMonth_75 : decode cX9_closeMonth 75 = .ok (.putfield 59, 3) := by decide +kernel
theorem dX9_closeMonth_78 : decode cX9_closeMonth 78 = .ok (.aload_n 0, 1) := by decide +kernel
theorem dX9_closeMonth_79 : decode cX9_closeMonth 79 = .ok (.getfield 55, 3) := by decide +kernel
theorem dX9_closeMonth_82 : decode cX9_closeMonth 82 = .ok (.ifCond .eq 4, 3) := by decide +kernel
theorem dX9_closeMonth_85 : decode cX9_closeMonth 85 = .ok (.return_, 1) := by decide +kernel
theorem dX9_closeMonth_86 : decode cX9_closeMonth 86 = .ok (.aload_n 0, 1) := by decide +kernel
theorem dX9_closeMonth_87 : decode cX9_closeMonth 87 = .ok (.dup, 1) := by decide +kernel
theorem dX9_closeMonth_88 : decode cX9_closeMonth 88 = .ok (.getfield 52, 3) := by decide +kernel
theorem dX9_closeMonth_91 : decode cX9_closeMonth 91 = .ok (.iconst 1, 1) := by decide +kernel
theorem dX9_closeMonth_92 : decode cX9_closeMonth 92 = .ok (.isub, 1) := by decide +kernel
theorem dX9_closeMonth_93 : decode cX9_closeMonth 93 = .ok (.putfield 52, 3) := by decide +kernel
theorem dX9_closeMonth_96 : decode cX9_closeMonth 96 = .ok (.aload_n 0, 1) := by decide +kernel
theorem dX9_closeMonth_97 : decode cX9_closeMonth 97 = .ok (.getfield 52, 3) := by decide +kernel
theorem dX9_closeMonth_100 : decode cX9_closeMonth 100 = .ok (.ifCond .le 4, 3) := by decide +kernel
theorem dX9_closeMonth_103 : decode cX9_closeMonth 103 = .ok (.return_, 1) := by decide +kernel
theorem dX9_closeMonth_104 : decode cX9_closeMonth 104 = .ok (.aload_n 1, 1) := by decide +kernel
theorem dX9_closeMonth_105 : decode cX9_closeMonth 105 = .ok (.aload_n 0, 1) := by decide +kernel
theorem dX9_closeMonth_106 : decode cX9_closeMonth 106 = .ok (.getfield 9, 3) := by decide +kernel
theorem dX9_closeMonth_109 : decode cX9_closeMonth 109 = .ok (.aload_n 0, 1) := by decide +kernel
theorem dX9_closeMonth_110 : decode cX9_closeMonth 110 = .ok (.getfield 25, 3) := by decide +kernel
theorem dX9_closeMonth_113 : decode cX9_closeMonth 113 = .ok (.aload_n 0, 1) := by decide +kernel
theorem dX9_closeMonth_114 : decode cX9_closeMonth 114 = .ok (.getfield 9, 3) := by decide +kernel
theorem dX9_closeMonth_117 : decode cX9_closeMonth 117 = .ok (.invokestatic 40, 3) := by decide +kernel
theorem dX9_closeMonth_120 : decode cX9_closeMonth 120 = .ok (.aload_n 0, 1) := by decide +kernel
theorem dX9_closeMonth_121 : decode cX9_closeMonth 121 = .ok (.invokevirtual 131, 3) := by decide +kernel
theorem dX9_closeMonth_124 : decode cX9_closeMonth 124 = .ok (.invokevirtual 135, 3) := by decide +kernel
theorem dX9_closeMonth_127 : decode cX9_closeMonth 127 = .ok (.ifCond .eq 16, 3) := by decide +kernel
theorem dX9_closeMonth_130 : decode cX9_closeMonth 130 = .ok (.aload_n 0, 1) := by decide +kernel
theorem dX9_closeMonth_131 : decode cX9_closeMonth 131 = .ok (.iconst 1, 1) := by decide +kernel
theorem dX9_closeMonth_132 : decode cX9_closeMonth 132 = .ok (.putfield 55, 3) := by decide +kernel
theorem dX9_closeMonth_135 : decode cX9_closeMonth 135 = .ok (.aload_n 0, 1) := by decide +kernel
theorem dX9_closeMonth_136 : decode cX9_closeMonth 136 = .ok (.iconst 0, 1) := by decide +kernel
theorem dX9_closeMonth_137 : decode cX9_closeMonth 137 = .ok (.putfield 52, 3) := by decide +kernel
theorem dX9_closeMonth_140 : decode cX9_closeMonth 140 = .ok (.goto 7, 3) := by decide +kernel
theorem dX9_closeMonth_143 : decode cX9_closeMonth 143 = .ok (.aload_n 0, 1) := by decide +kernel
theorem dX9_closeMonth_144 : decode cX9_closeMonth 144 = .ok (.invokevirtual 31, 3) := by decide +kernel
theorem dX9_closeMonth_147 : decode cX9_closeMonth 147 = .ok (.return_, 1) := by decide +kernel
theorem dX9_like_0 : decode cX9_like 0 = .ok (.aload_n 0, 1) := by decide +kernel
theorem dX9_like_1 : decode cX9_like 1 = .ok (.getfield 25, 3) := by decide +kernel
theorem dX9_like_4 : decode cX9_like 4 = .ok (.iload_n 1, 1) := by decide +kernel
theorem dX9_like_5 : decode cX9_like 5 = .ok (.aload_n 0, 1) := by decide +kernel
theorem dX9_like_6 : decode cX9_like 6 = .ok (.iload_n 1, 1) := by decide +kernel
theorem dX9_like_7 : decode cX9_like 7 = .ok (.iload_n 2, 1) := by decide +kernel
theorem dX9_like_8 : decode cX9_like 8 = .ok (.invokevirtual 139, 3) := by decide +kernel
theorem dX9_like_11 : decode cX9_like 11 = .ok (.invokestatic 44, 3) := by decide +kernel
theorem dX9_like_14 : decode cX9_like 14 = .ok (.return_, 1) := by decide +kernel
theorem dX9_likedWith_0 : decode cX9_likedWith 0 = .ok (.bipush 99, 2) := by decide +kernel
theorem dX9_likedWith_2 : decode cX9_likedWith 2 = .ok (.aload_n 0, 1) := by decide +kernel
theorem dX9_likedWith_3 : decode cX9_likedWith 3 = .ok (.getfield 25, 3) := by decide +kernel
theorem dX9_likedWith_6 : decode cX9_likedWith 6 = .ok (.iload_n 1, 1) := by decide +kernel
theorem dX9_likedWith_7 : decode cX9_likedWith 7 = .ok (.invokestatic 40, 3) := by decide +kernel
theorem dX9_likedWith_10 : decode cX9_likedWith 10 = .ok (.iload_n 2, 1) := by decide +kernel
theorem dX9_likedWith_11 : decode cX9_likedWith 11 = .ok (.iadd, 1) := by decide +kernel
theorem dX9_likedWith_12 : decode cX9_likedWith 12 = .ok (.invokestatic 121, 3) := by decide +kernel
theorem dX9_likedWith_15 : decode cX9_likedWith 15 = .ok (.ireturn, 1) := by decide +kernel
theorem dX9_together_0 : decode cX9_together 0 = .ok (.aload_n 0, 1) := by decide +kernel
theorem dX9_together_1 : decode cX9_together 1 = .ok (.getfield 18, 3) := by decide +kernel
theorem dX9_together_4 : decode cX9_together 4 = .ok (.iconst 5, 1) := by decide +kernel
theorem dX9_together_5 : decode cX9_together 5 = .ok (.invokestatic 142, 3) := by decide +kernel
theorem dX9_together_8 : decode cX9_together 8 = .ok (.ireturn, 1) := by decide +kernel
theorem dX9_togetherGrown_0 : decode cX9_togetherGrown 0 = .ok (.iconst 0, 1) := by decide +kernel
theorem dX9_togetherGrown_1 : decode cX9_togetherGrown 1 = .ok (.istore 4, 2) := by decide +kernel
theorem dX9_togetherGrown_3 : decode cX9_togetherGrown 3 = .ok (.iconst 0, 1) := by decide +kernel
theorem dX9_togetherGrown_4 : decode cX9_togetherGrown 4 = .ok (.istore 5, 2) := by decide +kernel
theorem dX9_togetherGrown_6 : decode cX9_togetherGrown 6 = .ok (.iload 5, 2) := by decide +kernel
theorem dX9_togetherGrown_8 : decode cX9_togetherGrown 8 = .ok (.aload_n 1, 1) := by decide +kernel
theorem dX9_togetherGrown_9 : decode cX9_togetherGrown 9 = .ok (.getfield 34, 3) := by decide +kernel
theorem dX9_togetherGrown_12 : decode cX9_togetherGrown 12 = .ok (.if_icmp .ge 28, 3) := by decide +kernel
theorem dX9_togetherGrown_15 : decode cX9_togetherGrown 15 = .ok (.iload 5, 2) := by decide +kernel
theorem dX9_togetherGrown_17 : decode cX9_togetherGrown 17 = .ok (.iload_n 2, 1) := by decide +kernel
theorem dX9_togetherGrown_18 : decode cX9_togetherGrown 18 = .ok (.if_icmp .eq 16, 3) := by decide +kernel
theorem dX9_togetherGrown_21 : decode cX9_togetherGrown 21 = .ok (.iload 4, 2) := by decide +kernel
theorem dX9_togetherGrown_23 : decode cX9_togetherGrown 23 = .ok (.aload_n 0, 1) := by decide +kernel
theorem dX9_togetherGrown_24 : decode cX9_togetherGrown 24 = .ok (.aload_n 1, 1) := by decide +kernel
theorem dX9_togetherGrown_25 : decode cX9_togetherGrown 25 = .ok (.iload 5, 2) := by decide +kernel
theorem dX9_togetherGrown_27 : decode cX9_togetherGrown 27 = .ok (.iload_n 3, 1) := by decide +kernel
theorem dX9_togetherGrown_28 : decode cX9_togetherGrown 28 = .ok (.invokevirtual 115, 3) := by decide +kernel
theorem dX9_togetherGrown_31 : decode cX9_togetherGrown 31 = .ok (.iadd, 1) := by decide +kernel
theorem dX9_togetherGrown_32 : decode cX9_togetherGrown 32 = .ok (.istore 4, 2) := by decide +kernel
theorem dX9_togetherGrown_34 : decode cX9_togetherGrown 34 = .ok (.iinc 5 1, 3) := by decide +kernel
theorem dX9_togetherGrown_37 : decode cX9_togetherGrown 37 = .ok (.goto (-31), 3) := by decide +kernel
theorem dX9_togetherGrown_40 : decode cX9_togetherGrown 40 = .ok (.iload 4, 2) := by decide +kernel
theorem dX9_togetherGrown_42 : decode cX9_togetherGrown 42 = .ok (.ireturn, 1) := by decide +kernel
theorem dX9_dangersLeft_0 : decode cX9_dangersLeft 0 = .ok (.iconst 0, 1) := by decide +kernel
theorem dX9_dangersLeft_1 : decode cX9_dangersLeft 1 = .ok (.istore_n 1, 1) := by decide +kernel
theorem dX9_dangersLeft_2 : decode cX9_dangersLeft 2 = .ok (.iconst 0, 1) := by decide +kernel
theorem dX9_dangersLeft_3 : decode cX9_dangersLeft 3 = .ok (.istore_n 2, 1) := by decide +kernel
theorem dX9_dangersLeft_4 : decode cX9_dangersLeft 4 = .ok (.iload_n 2, 1) := by decide +kernel
theorem dX9_dangersLeft_5 : decode cX9_dangersLeft 5 = .ok (.iconst 5, 1) := by decide +kernel
theorem dX9_dangersLeft_6 : decode cX9_dangersLeft 6 = .ok (.if_icmp .ge 23, 3) := by decide +kernel
theorem dX9_dangersLeft_9 : decode cX9_dangersLeft 9 = .ok (.aload_n 0, 1) := by decide +kernel
theorem dX9_dangersLeft_10 : decode cX9_dangersLeft 10 = .ok (.getfield 18, 3) := by decide +kernel
theorem dX9_dangersLeft_13 : decode cX9_dangersLeft 13 = .ok (.iload_n 2, 1) := by decide +kernel
theorem dX9_dangersLeft_14 : decode cX9_dangersLeft 14 = .ok (.invokestatic 40, 3) := by decide +kernel
theorem dX9_dangersLeft_17 : decode cX9_dangersLeft 17 = .ok (.ifCond .le 6, 3) := by decide +kernel
theorem dX9_dangersLeft_20 : decode cX9_dangersLeft 20 = .ok (.iinc 1 1, 3) := by decide +kernel
theorem dX9_dangersLeft_23 : decode cX9_dangersLeft 23 = .ok (.iinc 2 1, 3) := by decide +kernel
theorem dX9_dangersLeft_26 : decode cX9_dangersLeft 26 = .ok (.goto (-22), 3) := by decide +kernel
theorem dX9_dangersLeft_29 : decode cX9_dangersLeft 29 = .ok (.iload_n 1, 1) := by decide +kernel
theorem dX9_dangersLeft_30 : decode cX9_dangersLeft 30 = .ok (.ireturn, 1) := by decide +kernel
theorem dX10_init_0 : decode cX10_init 0 = .ok (.aload_n 0, 1) := by decide +kernel
theorem dX10_init_1 : decode cX10_init 1 = .ok (.invokespecial 3, 3) := by decide +kernel
theorem dX10_init_4 : decode cX10_init 4 = .ok (.aload_n 0, 1) := by decide +kernel
theorem dX10_init_5 : decode cX10_init 5 = .ok (.sipush 1000, 3) := by decide +kernel
theorem dX10_init_8 : decode cX10_init 8 = .ok (.newarray .int, 2) := by decide +kernel
theorem dX10_init_10 : decode cX10_init 10 = .ok (.putfield 9, 3) := by decide +kernel
theorem dX10_init_13 : decode cX10_init 13 = .ok (.return_, 1) := by decide +kernel
theorem dX10_addBytes_0 : decode cX10_addBytes 0 = .ok (.bipush 56, 2) := by decide +kernel
theorem dX10_addBytes_2 : decode cX10_addBytes 2 = .ok (.istore_n 3, 1) := by decide +kernel
theorem dX10_addBytes_3 : decode cX10_addBytes 3 = .ok (.iload_n 3, 1) := by decide +kernel
theorem dX10_addBytes_4 : decode cX10_addBytes 4 = .ok (.ifCond .lt 71, 3) := by decide +kernel
theorem dX10_addBytes_7 : decode cX10_addBytes 7 = .ok (.lload_n 1, 1) := by decide +kernel
theorem dX10_addBytes_8 : decode cX10_addBytes 8 = .ok (.iload_n 3, 1) := by decide +kernel
theorem dX10_addBytes_9 : decode cX10_addBytes 9 = .ok (.lshr, 1) := by decide +kernel
theorem dX10_addBytes_10 : decode cX10_addBytes 10 = .ok (.l2i, 1) := by decide +kernel
theorem dX10_addBytes_11 : decode cX10_addBytes 11 = .ok (.sipush 255, 3) := by decide +kernel
theorem dX10_addBytes_14 : decode cX10_addBytes 14 = .ok (.iand, 1) := by decide +kernel
theorem dX10_addBytes_15 : decode cX10_addBytes 15 = .ok (.istore 4, 2) := by decide +kernel
theorem dX10_addBytes_17 : decode cX10_addBytes 17 = .ok (.iload 4, 2) := by decide +kernel
theorem dX10_addBytes_19 : decode cX10_addBytes 19 = .ok (.bipush 10, 2) := by decide +kernel
theorem dX10_addBytes_21 : decode cX10_addBytes 21 = .ok (.if_icmp .eq 15, 3) := by decide +kernel
theorem dX10_addBytes_24 : decode cX10_addBytes 24 = .ok (.iload 4, 2) := by decide +kernel
theorem dX10_addBytes_26 : decode cX10_addBytes 26 = .ok (.bipush 32, 2) := by decide +kernel
theorem dX10_addBytes_28 : decode cX10_addBytes 28 = .ok (.bipush 126, 2) := by decide +kernel
theorem dX10_addBytes_30 : decode cX10_addBytes 30 = .ok (.invokestatic 15, 3) := by decide +kernel
theorem dX10_addBytes_33 : decode cX10_addBytes 33 = .ok (.ifCond .eq 36, 3) := by decide +kernel
theorem dX10_addBytes_36 : decode cX10_addBytes 36 = .ok (.aload_n 0, 1) := by decide +kernel
theorem dX10_addBytes_37 : decode cX10_addBytes 37 = .ok (.getfield 19, 3) := by decide +kernel
theorem dX10_addBytes_40 : decode cX10_addBytes 40 = .ok (.sipush 1000, 3) := by decide +kernel
theorem dX10_addBytes_43 : decode cX10_addBytes 43 = .ok (.if_icmp .ge 26, 3) := by decide +kernel
theorem dX10_addBytes_46 : decode cX10_addBytes 46 = .ok (.aload_n 0, 1) := by decide +kernel
theorem dX10_addBytes_47 : decode cX10_addBytes 47 = .ok (.getfield 9, 3) := by decide +kernel
theorem dX10_addBytes_50 : decode cX10_addBytes 50 = .ok (.aload_n 0, 1) := by decide +kernel
theorem dX10_addBytes_51 : decode cX10_addBytes 51 = .ok (.getfield 19, 3) := by decide +kernel
theorem dX10_addBytes_54 : decode cX10_addBytes 54 = .ok (.iload 4, 2) := by decide +kernel
theorem dX10_addBytes_56 : decode cX10_addBytes 56 = .ok (.invokestatic 23, 3) := by decide +kernel
theorem dX10_addBytes_59 : decode cX10_addBytes 59 = .ok (.aload_n 0, 1) := by decide +kernel
theorem dX10_addBytes_60 : decode cX10_addBytes 60 = .ok (.dup, 1) := by decide +kernel
theorem dX10_addBytes_61 : decode cX10_addBytes 61 = .ok (.getfield 19, 3) := by decide +kernel
theorem dX10_addBytes_64 : decode cX10_addBytes 64 = .ok (.iconst 1, 1) := by decide +kernel
theorem dX10_addBytes_65 : decode cX10_addBytes 65 = .ok (.iadd, 1) := by decide +kernel
theorem dX10_addBytes_66 : decode cX10_addBytes 66 = .ok (.putfield 19, 3) := by decide +kernel
theorem dX10_addBytes_69 : decode cX10_addBytes 69 = .ok (.iinc 3 (-8), 3) := by decide +kernel
theorem dX10_addBytes_72 : decode cX10_addBytes 72 = .ok (.goto (-69), 3) := by decide +kernel
theorem dX10_addBytes_75 : decode cX10_addBytes 75 = .ok (.return_, 1) := by decide +kernel
theorem dX10_open_0 : decode cX10_open 0 = .ok (.aload_n 0, 1) := by decide +kernel
theorem dX10_open_1 : decode cX10_open 1 = .ok (.iconst 0, 1) := by decide +kernel
theorem dX10_open_2 : decode cX10_open 2 = .ok (.putfield 27, 3) := by decide +kernel
theorem dX10_open_5 : decode cX10_open 5 = .ok (.aload_n 0, 1) := by decide +kernel
theorem dX10_open_6 : decode cX10_open 6 = .ok (.invokevirtual 30, 3) := by decide +kernel
theorem dX10_open_9 : decode cX10_open 9 = .ok (.return_, 1) := by decide +kernel
theorem dX10_empty_0 : decode cX10_empty 0 = .ok (.aload_n 0, 1) := by decide +kernel
theorem dX10_empty_1 : decode cX10_empty 1 = .ok (.iconst 0, 1) := by decide +kernel
theorem dX10_empty_2 : decode cX10_empty 2 = .ok (.putfield 19, 3) := by decide +kernel
theorem dX10_empty_5 : decode cX10_empty 5 = .ok (.return_, 1) := by decide +kernel
theorem dX10_advance_0 : decode cX10_advance 0 = .ok (.aload_n 0, 1) := by decide +kernel
theorem dX10_advance_1 : decode cX10_advance 1 = .ok (.aload_n 0, 1) := by decide +kernel
theorem dX10_advance_2 : decode cX10_advance 2 = .ok (.getfield 27, 3) := by decide +kernel
theorem dX10_advance_5 : decode cX10_advance 5 = .ok (.putfield 33, 3) := by decide +kernel
theorem dX10_advance_8 : decode cX10_advance 8 = .ok (.aload_n 0, 1) := by decide +kernel
theorem dX10_advance_9 : decode cX10_advance 9 = .ok (.getfield 33, 3) := by decide +kernel
theorem dX10_advance_12 : decode cX10_advance 12 = .ok (.aload_n 0, 1) := by decide +kernel
theorem dX10_advance_13 : decode cX10_advance 13 = .ok (.getfield 19, 3) := by decide +kernel
theorem dX10_advance_16 : decode cX10_advance 16 = .ok (.if_icmp .ge 48, 3) := by decide +kernel
theorem dX10_advance_19 : decode cX10_advance 19 = .ok (.aload_n 0, 1) := by decide +kernel
theorem dX10_advance_20 : decode cX10_advance 20 = .ok (.getfield 9, 3) := by decide +kernel
theorem dX10_advance_23 : decode cX10_advance 23 = .ok (.aload_n 0, 1) := by decide +kernel
theorem dX10_advance_24 : decode cX10_advance 24 = .ok (.getfield 33, 3) := by decide +kernel
theorem dX10_advance_27 : decode cX10_advance 27 = .ok (.invokestatic 36, 3) := by decide +kernel
theorem dX10_advance_30 : decode cX10_advance 30 = .ok (.bipush 10, 2) := by decide +kernel
theorem dX10_advance_32 : decode cX10_advance 32 = .ok (.if_icmp .eq 19, 3) := by decide +kernel
theorem dX10_advance_35 : decode cX10_advance 35 = .ok (.aload_n 0, 1) := by decide +kernel
theorem dX10_advance_36 : decode cX10_advance 36 = .ok (.getfield 9, 3) := by decide +kernel
theorem dX10_advance_39 : decode cX10_advance 39 = .ok (.aload_n 0, 1) := by decide +kernel
theorem dX10_advance_40 : decode cX10_advance 40 = .ok (.getfield 33, 3) := by decide +kernel
theorem dX10_advance_43 : decode cX10_advance 43 = .ok (.invokestatic 36, 3) := by decide +kernel
theorem dX10_advance_46 : decode cX10_advance 46 = .ok (.bipush 32, 2) := by decide +kernel
theorem dX10_advance_48 : decode cX10_advance 48 = .ok (.if_icmp .ne 16, 3) := by decide +kernel
theorem dX10_advance_51 : decode cX10_advance 51 = .ok (.aload_n 0, 1) := by decide +kernel
theorem dX10_advance_52 : decode cX10_advance 52 = .ok (.dup, 1) := by decide +kernel
theorem dX10_advance_53 : decode cX10_advance 53 = .ok (.getfield 33, 3) := by decide +kernel
theorem dX10_advance_56 : decode cX10_advance 56 = .ok (.iconst 1, 1) := by decide +kernel
theorem dX10_advance_57 : decode cX10_advance 57 = .ok (.iadd, 1) := by decide +kernel
theorem dX10_advance_58 : decode cX10_advance 58 = .ok (.putfield 33, 3) := by decide +kernel
theorem dX10_advance_61 : decode cX10_advance 61 = .ok (.goto (-53), 3) := by decide +kernel
theorem dX10_advance_64 : decode cX10_advance 64 = .ok (.aload_n 0, 1) := by decide +kernel
theorem dX10_advance_65 : decode cX10_advance 65 = .ok (.aconst_null, 1) := by decide +kernel
theorem dX10_advance_66 : decode cX10_advance 66 = .ok (.putfield 40, 3) := by decide +kernel
theorem dX10_advance_69 : decode cX10_advance 69 = .ok (.aload_n 0, 1) := by decide +kernel
theorem dX10_advance_70 : decode cX10_advance 70 = .ok (.lconst 0, 1) := by decide +kernel
theorem dX10_advance_71 : decode cX10_advance 71 = .ok (.putfield 44, 3) := by decide +kernel
theorem dX10_advance_74 : decode cX10_advance 74 = .ok (.aload_n 0, 1) := by decide +kernel
theorem dX10_advance_75 : decode cX10_advance 75 = .ok (.iconst 0, 1) := by decide +kernel
theorem dX10_advance_76 : decode cX10_advance 76 = .ok (.putfield 48, 3) := by decide +kernel
theorem dX10_advance_79 : decode cX10_advance 79 = .ok (.aload_n 0, 1) := by decide +kernel
theorem dX10_advance_80 : decode cX10_advance 80 = .ok (.getfield 33, 3) := by decide +kernel
theorem dX10_advance_83 : decode cX10_advance 83 = .ok (.aload_n 0, 1) := by decide +kernel
theorem dX10_advance_84 : decode cX10_advance 84 = .ok (.getfield 19, 3) := by decide +kernel
theorem dX10_advance_87 : decode cX10_advance 87 = .ok (.if_icmp .ge 17, 3) := by decide +kernel
theorem dX10_advance_90 : decode cX10_advance 90 = .ok (.aload_n 0, 1) := by decide +kernel
theorem dX10_advance_91 : decode cX10_advance 91 = .ok (.getfield 9, 3) := by decide +kernel
theorem dX10_advance_94 : decode cX10_advance 94 = .ok (.aload_n 0, 1) := by decide +kernel
theorem dX10_advance_95 : decode cX10_advance 95 = .ok (.getfield 33, 3) := by decide +kernel
theorem dX10_advance_98 : decode cX10_advance 98 = .ok (.invokestatic 36, 3) := by decide +kernel
theorem dX10_advance_101 : decode cX10_advance 101 = .ok (.goto 4, 3) := by decide +kernel
theorem dX10_advance_104 : decode cX10_advance 104 = .ok (.iconst 0, 1) := by decide +kernel
theorem dX10_advance_105 : decode cX10_advance 105 = .ok (.istore_n 1, 1) := by decide +kernel
theorem dX10_advance_106 : decode cX10_advance 106 = .ok (.aload_n 0, 1) := by decide +kernel
theorem dX10_advance_107 : decode cX10_advance 107 = .ok (.getfield 33, 3) := by decide +kernel
theorem dX10_advance_110 : decode cX10_advance 110 = .ok (.aload_n 0, 1) := by decide +kernel
theorem dX10_advance_111 : decode cX10_advance 111 = .ok (.getfield 19, 3) := by decide +kernel
theorem dX10_advance_114 : decode cX10_advance 114 = .ok (.if_icmp .lt 19, 3) := by decide +kernel
theorem dX10_advance_117 : decode cX10_advance 117 = .ok (.aload_n 0, 1) := by decide +kernel
theorem dX10_advance_118 : decode cX10_advance 118 = .ok (.iconst 0, 1) := by decide +kernel
theorem dX10_advance_119 : decode cX10_advance 119 = .ok (.putfield 51, 3) := by decide +kernel
theorem dX10_advance_122 : decode cX10_advance 122 = .ok (.aload_n 0, 1) := by decide +kernel
theorem dX10_advance_123 : decode cX10_advance 123 = .ok (.aload_n 0, 1) := by decide +kernel
theorem dX10_advance_124 : decode cX10_advance 124 = .ok (.getfield 19, 3) := by decide +kernel
theorem dX10_advance_127 : decode cX10_advance 127 = .ok (.putfield 27, 3) := by decide +kernel
theorem dX10_advance_130 : decode cX10_advance 130 = .ok (.goto 70, 3) := by decide +kernel
theorem dX10_advance_133 : decode cX10_advance 133 = .ok (.iload_n 1, 1) := by decide +kernel
theorem dX10_advance_134 : decode cX10_advance 134 = .ok (.bipush 97, 2) := by decide +kernel
theorem dX10_advance_136 : decode cX10_advance 136 = .ok (.bipush 122, 2) := by decide +kernel
theorem dX10_advance_138 : decode cX10_advance 138 = .ok (.invokestatic 15, 3) := by decide +kernel
theorem dX10_advance_141 : decode cX10_advance 141 = .ok (.ifCond .eq 10, 3) := by decide +kernel
theorem dX10_advance_144 : decode cX10_advance 144 = .ok (.aload_n 0, 1) := by decide +kernel
theorem dX10_advance_145 : decode cX10_advance 145 = .ok (.invokevirtual 54, 3) := by decide +kernel
theorem dX10_advance_148 : decode cX10_advance 148 = .ok (.goto 52, 3) := by decide +kernel
theorem dX10_advance_151 : decode cX10_advance 151 = .ok (.iload_n 1, 1) := by decide +kernel
theorem dX10_advance_152 : decode cX10_advance 152 = .ok (.bipush 48, 2) := by decide +kernel
theorem dX10_advance_154 : decode cX10_advance 154 = .ok (.bipush 57, 2) := by decide +kernel
theorem dX10_advance_156 : decode cX10_advance 156 = .ok (.invokestatic 15, 3) := by decide +kernel
theorem dX10_advance_159 : decode cX10_advance 159 = .ok (.ifCond .eq 10, 3) := by decide +kernel
theorem dX10_advance_162 : decode cX10_advance 162 = .ok (.aload_n 0, 1) := by decide +kernel
theorem dX10_advance_163 : decode cX10_advance 163 = .ok (.invokevirtual 57, 3) := by decide +kernel
theorem dX10_advance_166 : decode cX10_advance 166 = .ok (.goto 34, 3) := by decide +kernel
theorem dX10_advance_169 : decode cX10_advance 169 = .ok (.aload_n 0, 1) := by decide +kernel
theorem dX10_advance_170 : decode cX10_advance 170 = .ok (.iload_n 1, 1) := by decide +kernel
theorem dX10_advance_171 : decode cX10_advance 171 = .ok (.invokestatic 60, 3) := by decide +kernel
theorem dX10_advance_174 : decode cX10_advance 174 = .ok (.ifCond .eq 7, 3) := by decide +kernel
theorem dX10_advance_177 : decode cX10_advance 177 = .ok (.iconst 4, 1) := by decide +kernel
theorem dX10_advance_178 : decode cX10_advance 178 = .ok (.goto 4, 3) := by decide +kernel
theorem dX10_advance_181 : decode cX10_advance 181 = .ok (.iconst 1, 1) := by decide +kernel
theorem dX10_advance_182 : decode cX10_advance 182 = .ok (.putfield 51, 3) := by decide +kernel
theorem dX10_advance_185 : decode cX10_advance 185 = .ok (.aload_n 0, 1) := by decide +kernel
theorem dX10_advance_186 : decode cX10_advance 186 = .ok (.iload_n 1, 1) := by decide +kernel
theorem dX10_advance_187 : decode cX10_advance 187 = .ok (.putfield 48, 3) := by decide +kernel
theorem dX10_advance_190 : decode cX10_advance 190 = .ok (.aload_n 0, 1) := by decide +kernel
theorem dX10_advance_191 : decode cX10_advance 191 = .ok (.aload_n 0, 1) := by decide +kernel
theorem dX10_advance_192 : decode cX10_advance 192 = .ok (.getfield 33, 3) := by decide +kernel
theorem dX10_advance_195 : decode cX10_advance 195 = .ok (.iconst 1, 1) := by decide +kernel
theorem dX10_advance_196 : decode cX10_advance 196 = .ok (.iadd, 1) := by decide +kernel
theorem dX10_advance_197 : decode cX10_advance 197 = .ok (.putfield 27, 3) := by decide +kernel
theorem dX10_advance_200 : decode cX10_advance 200 = .ok (.return_, 1) := by decide +kernel
theorem dX10_readWord_0 : decode cX10_readWord 0 = .ok (.aload_n 0, 1) := by decide +kernel
theorem dX10_readWord_1 : decode cX10_readWord 1 = .ok (.getfield 33, 3) := by decide +kernel
theorem dX10_readWord_4 : decode cX10_readWord 4 = .ok (.istore_n 1, 1) := by decide +kernel
theorem dX10_readWord_5 : decode cX10_readWord 5 = .ok (.iload_n 1, 1) := by decide +kernel
theorem dX10_readWord_6 : decode cX10_readWord 6 = .ok (.aload_n 0, 1) := by decide +kernel
theorem dX10_readWord_7 : decode cX10_readWord 7 = .ok (.getfield 19, 3) := by decide +kernel
theorem dX10_readWord_10 : decode cX10_readWord 10 = .ok (.if_icmp .ge 46, 3) := by decide +kernel
theorem dX10_readWord_13 : decode cX10_readWord 13 = .ok (.aload_n 0, 1) := by decide +kernel
theorem dX10_readWord_14 : decode cX10_readWord 14 = .ok (.getfield 9, 3) := by decide +kernel
theorem dX10_readWord_17 : decode cX10_readWord 17 = .ok (.iload_n 1, 1) := by decide +kernel
theorem dX10_readWord_18 : decode cX10_readWord 18 = .ok (.invokestatic 36, 3) := by decide +kernel
theorem dX10_readWord_21 : decode cX10_readWord 21 = .ok (.bipush 97, 2) := by decide +kernel
theorem dX10_readWord_23 : decode cX10_readWord 23 = .ok (.bipush 122, 2) := by decide +kernel
theorem dX10_readWord_25 : decode cX10_readWord 25 = .ok (.invokestatic 15, 3) := by decide +kernel
theorem dX10_readWord_28 : decode cX10_readWord 28 = .ok (.ifCond .eq 28, 3) := by decide +kernel
theorem dX10_readWord_31 : decode cX10_readWord 31 = .ok (.aload_n 0, 1) := by decide +kernel
theorem dX10_readWord_32 : decode cX10_readWord 32 = .ok (.aload_n 0, 1) := by decide +kernel
theorem dX10_readWord_33 : decode cX10_readWord 33 = .ok (.getfield 44, 3) := by decide +kernel
theorem dX10_readWord_36 : decode cX10_readWord 36 = .ok (.aload_n 0, 1) := by decide +kernel
theorem dX10_readWord_37 : decode cX10_readWord 37 = .ok (.getfield 9, 3) := by decide +kernel
theorem dX10_readWord_40 : decode cX10_readWord 40 = .ok (.iload_n 1, 1) := by decide +kernel
theorem dX10_readWord_41 : decode cX10_readWord 41 = .ok (.invokestatic 36, 3) := by decide +kernel
theorem dX10_readWord_44 : decode cX10_readWord 44 = .ok (.invokestatic 64, 3) := by decide +kernel
theorem dX10_readWord_47 : decode cX10_readWord 47 = .ok (.putfield 44, 3) := by decide +kernel
theorem dX10_readWord_50 : decode cX10_readWord 50 = .ok (.iinc 1 1, 3) := by decide +kernel
theorem dX10_readWord_53 : decode cX10_readWord 53 = .ok (.goto (-48), 3) := by decide +kernel
theorem dX10_readWord_56 : decode cX10_readWord 56 = .ok (.aload_n 0, 1) := by decide +kernel
theorem dX10_readWord_57 : decode cX10_readWord 57 = .ok (.iload_n 1, 1) := by decide +kernel
theorem dX10_readWord_58 : decode cX10_readWord 58 = .ok (.putfield 27, 3) := by decide +kernel
theorem dX10_readWord_61 : decode cX10_readWord 61 = .ok (.aload_n 0, 1) := by decide +kernel
theorem dX10_readWord_62 : decode cX10_readWord 62 = .ok (.iload_n 1, 1) := by decide +kernel
theorem dX10_readWord_63 : decode cX10_readWord 63 = .ok (.aload_n 0, 1) := by decide +kernel
theorem dX10_readWord_64 : decode cX10_readWord 64 = .ok (.getfield 33, 3) := by decide +kernel
theorem dX10_readWord_67 : decode cX10_readWord 67 = .ok (.isub, 1) := by decide +kernel
theorem dX10_readWord_68 : decode cX10_readWord 68 = .ok (.bipush 8, 2) := by decide +kernel
theorem dX10_readWord_70 : decode cX10_readWord 70 = .ok (.if_icmp .le 7, 3) := by decide +kernel
theorem dX10_readWord_73 : decode cX10_readWord 73 = .ok (.iconst 1, 1) := by decide +kernel
theorem dX10_readWord_74 : decode cX10_readWord 74 = .ok (.goto 4, 3) := by decide +kernel
theorem dX10_readWord_77 : decode cX10_readWord 77 = .ok (.iconst 2, 1) := by decide +kernel
theorem dX10_readWord_78 : decode cX10_readWord 78 = .ok (.putfield 51, 3) := by decide +kernel
theorem dX10_readWord_81 : decode cX10_readWord 81 = .ok (.aload_n 0, 1) := by decide +kernel
theorem dX10_readWord_82 : decode cX10_readWord 82 = .ok (.aload_n 0, 1) := by decide +kernel
theorem dX10_readWord_83 : decode cX10_readWord 83 = .ok (.getfield 51, 3) := by decide +kernel
theorem dX10_readWord_86 : decode cX10_readWord 86 = .ok (.iconst 2, 1) := by decide +kernel
theorem dX10_readWord_87 : decode cX10_readWord 87 = .ok (.if_icmp .ne 13, 3) := by decide +kernel
theorem dX10_readWord_90 : decode cX10_readWord 90 = .ok (.aload_n 0, 1) := by decide +kernel
theorem dX10_readWord_91 : decode cX10_readWord 91 = .ok (.getfield 44, 3) := by decide +kernel
theorem dX10_readWord_94 : decode cX10_readWord 94 = .ok (.invokestatic 70, 3) := by decide +kernel
theorem dX10_readWord_97 : decode cX10_readWord 97 = .ok (.goto 4, 3) := by decide +kernel
theorem dX10_readWord_100 : decode cX10_readWord 100 = .ok (.aconst_null, 1) := by decide +kernel
theorem dX10_readWord_101 : decode cX10_readWord 101 = .ok (.putfield 40, 3) := by decide +kernel
theorem dX10_readWord_104 : decode cX10_readWord 104 = .ok (.return_, 1) := by decide +kernel
theorem dX10_readNumber_0 : decode cX10_readNumber 0 = .ok (.aload_n 0, 1) := by decide +kernel
theorem dX10_readNumber_1 : decode cX10_readNumber 1 = .ok (.getfield 33, 3) := by decide +kernel
theorem dX10_readNumber_4 : decode cX10_readNumber 4 = .ok (.istore_n 1, 1) := by decide +kernel
theorem dX10_readNumber_5 : decode cX10_readNumber 5 = .ok (.iload_n 1, 1) := by decide +kernel
theorem dX10_readNumber_6 : decode cX10_readNumber 6 = .ok (.aload_n 0, 1) := by decide +kernel
theorem dX10_readNumber_7 : decode cX10_readNumber 7 = .ok (.getfield 19, 3) := by decide +kernel
theorem dX10_readNumber_10 : decode cX10_readNumber 10 = .ok (.if_icmp .ge 50, 3) := by decide +kernel
theorem dX10_readNumber_13 : decode cX10_readNumber 13 = .ok (.aload_n 0, 1) := by decide +kernel
theorem dX10_readNumber_14 : decode cX10_readNumber 14 = .ok (.getfield 9, 3) := by decide +kernel
theorem dX10_readNumber_17 : decode cX10_readNumber 17 = .ok (.iload_n 1, 1) := by decide +kernel
theorem dX10_readNumber_18 : decode cX10_readNumber 18 = .ok (.invokestatic 36, 3) := by decide +kernel
theorem dX10_readNumber_21 : decode cX10_readNumber 21 = .ok (.bipush 48, 2) := by decide +kernel
theorem dX10_readNumber_23 : decode cX10_readNumber 23 = .ok (.bipush 57, 2) := by decide +kernel
theorem dX10_readNumber_25 : decode cX10_readNumber 25 = .ok (.invokestatic 15, 3) := by decide +kernel
theorem dX10_readNumber_28 : decode cX10_readNumber 28 = .ok (.ifCond .eq 32, 3) := by decide +kernel
theorem dX10_readNumber_31 : decode cX10_readNumber 31 = .ok (.aload_n 0, 1) := by decide +kernel
theorem dX10_readNumber_32 : decode cX10_readNumber 32 = .ok (.aload_n 0, 1) := by decide +kernel
theorem dX10_readNumber_33 : decode cX10_readNumber 33 = .ok (.getfield 48, 3) := by decide +kernel
theorem dX10_readNumber_36 : decode cX10_readNumber 36 = .ok (.bipush 10, 2) := by decide +kernel
theorem dX10_readNumber_38 : decode cX10_readNumber 38 = .ok (.imul, 1) := by decide +kernel
theorem dX10_readNumber_39 : decode cX10_readNumber 39 = .ok (.aload_n 0, 1) := by decide +kernel
theorem dX10_readNumber_40 : decode cX10_readNumber 40 = .ok (.getfield 9, 3) := by decide +kernel
theorem dX10_readNumber_43 : decode cX10_readNumber 43 = .ok (.iload_n 1, 1) := by decide +kernel
theorem dX10_readNumber_44 : decode cX10_readNumber 44 = .ok (.invokestatic 36, 3) := by decide +kernel
theorem dX10_readNumber_47 : decode cX10_readNumber 47 = .ok (.iadd, 1) := by decide +kernel
theorem dX10_readNumber_48 : decode cX10_readNumber 48 = .ok (.bipush 48, 2) := by decide +kernel
theorem dX10_readNumber_50 : decode cX10_readNumber 50 = .ok (.isub, 1) := by decide +kernel
theorem dX10_readNumber_51 : decode cX10_readNumber 51 = .ok (.putfield 48, 3) := by decide +kernel
theorem dX10_readNumber_54 : decode cX10_readNumber 54 = .ok (.iinc 1 1, 3) := by decide +kernel
theorem dX10_readNumber_57 : decode cX10_readNumber 57 = .ok (.goto (-52), 3) := by decide +kernel
theorem dX10_readNumber_60 : decode cX10_readNumber 60 = .ok (.aload_n 0, 1) := by decide +kernel
theorem dX10_readNumber_61 : decode cX10_readNumber 61 = .ok (.iload_n 1, 1) := by decide +kernel
theorem dX10_readNumber_62 : decode cX10_readNumber 62 = .ok (.putfield 27, 3) := by decide +kernel
theorem dX10_readNumber_65 : decode cX10_readNumber 65 = .ok (.aload_n 0, 1) := by decide +kernel
theorem dX10_readNumber_66 : decode cX10_readNumber 66 = .ok (.iload_n 1, 1) := by decide +kernel
theorem dX10_readNumber_67 : decode cX10_readNumber 67 = .ok (.aload_n 0, 1) := by decide +kernel
theorem dX10_readNumber_68 : decode cX10_readNumber 68 = .ok (.getfield 33, 3) := by decide +kernel
theorem dX10_readNumber_71 : decode cX10_readNumber 71 = .ok (.isub, 1) := by decide +kernel
theorem dX10_readNumber_72 : decode cX10_readNumber 72 = .ok (.iconst 4, 1) := by decide +kernel
theorem dX10_readNumber_73 : decode cX10_readNumber 73 = .ok (.if_icmp .le 7, 3) := by decide +kernel
theorem dX10_readNumber_76 : decode cX10_readNumber 76 = .ok (.iconst 1, 1) := by decide +kernel
theorem dX10_readNumber_77 : decode cX10_readNumber 77 = .ok (.goto 4, 3) := by decide +kernel
theorem dX10_readNumber_80 : decode cX10_readNumber 80 = .ok (.iconst 3, 1) := by decide +kernel
theorem dX10_readNumber_81 : decode cX10_readNumber 81 = .ok (.putfield 51, 3) := by decide +kernel
theorem dX10_readNumber_84 : decode cX10_readNumber 84 = .ok (.return_, 1) := by decide +kernel
theorem dX10_isOwnToken_0 : decode cX10_isOwnToken 0 = .ok (.iload_n 0, 1) := by decide +kernel
theorem dX10_isOwnToken_1 : decode cX10_isOwnToken 1 = .ok (.tableswitch 105 40 61 #[103, 103, 103, 103, 105, 103, 105, 105, 105, 105, 105, 105, 105, 105, 105, 105, 105, 105, 105, 103, 103, 103], 103) := by decide +kernel
theorem dX10_isOwnToken_104 : decode cX10_isOwnToken 104 = .ok (.iconst 1, 1) := by decide +kernel
theorem dX10_isOwnToken_105 : decode cX10_isOwnToken 105 = .ok (.ireturn, 1) := by decide +kernel
theorem dX10_isOwnToken_106 : decode cX10_isOwnToken 106 = .ok (.iconst 0, 1) := by decide +kernel
theorem dX10_isOwnToken_107 : decode cX10_isOwnToken 107 = .ok (.ireturn, 1) := by decide +kernel
theorem dX10_isSign_0 : decode cX10_isSign 0 = .ok (.aload_n 0, 1) := by decide +kernel
theorem dX10_isSign_1 : decode cX10_isSign 1 = .ok (.getfield 51, 3) := by decide +kernel
theorem dX10_isSign_4 : decode cX10_isSign 4 = .ok (.iconst 4, 1) := by decide +kernel
theorem dX10_isSign_5 : decode cX10_isSign 5 = .ok (.if_icmp .ne 15, 3) := by decide +kernel
theorem dX10_isSign_8 : decode cX10_isSign 8 = .ok (.aload_n 0, 1) := by decide +kernel
theorem dX10_isSign_9 : decode cX10_isSign 9 = .ok (.getfield 48, 3) := by decide +kernel
theorem dX10_isSign_12 : decode cX10_isSign 12 = .ok (.iload_n 1, 1) := by decide +kernel
theorem dX10_isSign_13 : decode cX10_isSign 13 = .ok (.if_icmp .ne 7, 3) := by decide +kernel
theorem dX10_isSign_16 : decode cX10_isSign 16 = .ok (.iconst 1, 1) := by decide +kernel
theorem dX10_isSign_17 : decode cX10_isSign 17 = .ok (.goto 4, 3) := by decide +kernel
theorem dX10_isSign_20 : decode cX10_isSign 20 = .ok (.iconst 0, 1) := by decide +kernel
theorem dX10_isSign_21 : decode cX10_isSign 21 = .ok (.ireturn, 1) := by decide +kernel
theorem dX10_isName_0 : decode cX10_isName 0 = .ok (.aload_n 0, 1) := by decide +kernel
theorem dX10_isName_1 : decode cX10_isName 1 = .ok (.getfield 51, 3) := by decide +kernel
theorem dX10_isName_4 : decode cX10_isName 4 = .ok (.iconst 2, 1) := by decide +kernel
theorem dX10_isName_5 : decode cX10_isName 5 = .ok (.if_icmp .ne 24, 3) := by decide +kernel
theorem dX10_isName_8 : decode cX10_isName 8 = .ok (.aload_n 0, 1) := by decide +kernel
theorem dX10_isName_9 : decode cX10_isName 9 = .ok (.getfield 40, 3) := by decide +kernel
theorem dX10_isName_12 : decode cX10_isName 12 = .ok (.ifnull 13, 3) := by decide +kernel
theorem dX10_isName_15 : decode cX10_isName 15 = .ok (.aload_n 0, 1) := by decide +kernel
theorem dX10_isName_16 : decode cX10_isName 16 = .ok (.getfield 40, 3) := by decide +kernel
theorem dX10_isName_19 : decode cX10_isName 19 = .ok (.getfield 74, 3) := by decide +kernel
theorem dX10_isName_22 : decode cX10_isName 22 = .ok (.ifCond .ne 7, 3) := by decide +kernel
theorem dX10_isName_25 : decode cX10_isName 25 = .ok (.iconst 1, 1) := by decide +kernel
theorem dX10_isName_26 : decode cX10_isName 26 = .ok (.goto 4, 3) := by decide +kernel
theorem dX10_isName_29 : decode cX10_isName 29 = .ok (.iconst 0, 1) := by decide +kernel
theorem dX10_isName_30 : decode cX10_isName 30 = .ok (.ireturn, 1) := by decide +kernel
theorem dX11_withLetter_0 : decode cX11_withLetter 0 = .ok (.lload_n 0, 1) := by decide +kernel
theorem dX11_withLetter_1 : decode cX11_withLetter 1 = .ok (.ldc2_w 145, 3) := by decide +kernel
theorem dX11_withLetter_4 : decode cX11_withLetter 4 = .ok (.lmul, 1) := by decide +kernel
theorem dX11_withLetter_5 : decode cX11_withLetter 5 = .ok (.iload_n 2, 1) := by decide +kernel
theorem dX11_withLetter_6 : decode cX11_withLetter 6 = .ok (.bipush 97, 2) := by decide +kernel
theorem dX11_withLetter_8 : decode cX11_withLetter 8 = .ok (.isub, 1) := by decide +kernel
theorem dX11_withLetter_9 : decode cX11_withLetter 9 = .ok (.iconst 1, 1) := by decide +kernel
theorem dX11_withLetter_10 : decode cX11_withLetter 10 = .ok (.iadd, 1) := by decide +kernel
theorem dX11_withLetter_11 : decode cX11_withLetter 11 = .ok (.i2l, 1) := by decide +kernel
theorem dX11_withLetter_12 : decode cX11_withLetter 12 = .ok (.ladd, 1) := by decide +kernel
theorem dX11_withLetter_13 : decode cX11_withLetter 13 = .ok (.lreturn, 1) := by decide +kernel
theorem dX11_spelt_0 : decode cX11_spelt 0 = .ok (.iconst 0, 1) := by decide +kernel
theorem dX11_spelt_1 : decode cX11_spelt 1 = .ok (.istore_n 2, 1) := by decide +kernel
theorem dX11_spelt_2 : decode cX11_spelt 2 = .ok (.iload_n 2, 1) := by decide +kernel
theorem dX11_spelt_3 : decode cX11_spelt 3 = .ok (.getstatic 147, 3) := by decide +kernel
theorem dX11_spelt_6 : decode cX11_spelt 6 = .ok (.arraylength, 1) := by decide +kernel
theorem dX11_spelt_7 : decode cX11_spelt 7 = .ok (.if_icmp .ge 28, 3) := by decide +kernel
theorem dX11_spelt_10 : decode cX11_spelt 10 = .ok (.getstatic 147, 3) := by decide +kernel
theorem dX11_spelt_13 : decode cX11_spelt 13 = .ok (.iload_n 2, 1) := by decide +kernel
theorem dX11_spelt_14 : decode cX11_spelt 14 = .ok (.aaload, 1) := by decide +kernel
theorem dX11_spelt_15 : decode cX11_spelt 15 = .ok (.getfield 123, 3) := by decide +kernel
theorem dX11_spelt_18 : decode cX11_spelt 18 = .ok (.lload_n 0, 1) := by decide +kernel
theorem dX11_spelt_19 : decode cX11_spelt 19 = .ok (.lcmp, 1) := by decide +kernel
theorem dX11_spelt_20 : decode cX11_spelt 20 = .ok (.ifCond .ne 9, 3) := by decide +kernel
theorem dX11_spelt_23 : decode cX11_spelt 23 = .ok (.getstatic 147, 3) := by decide +kernel
theorem dX11_spelt_26 : decode cX11_spelt 26 = .ok (.iload_n 2, 1) := by decide +kernel
theorem dX11_spelt_27 : decode cX11_spelt 27 = .ok (.aaload, 1) := by decide +kernel
theorem dX11_spelt_28 : decode cX11_spelt 28 = .ok (.areturn, 1) := by decide +kernel
theorem dX11_spelt_29 : decode cX11_spelt 29 = .ok (.iinc 2 1, 3) := by decide +kernel
theorem dX11_spelt_32 : decode cX11_spelt 32 = .ok (.goto (-30), 3) := by decide +kernel
theorem dX11_spelt_35 : decode cX11_spelt 35 = .ok (.aconst_null, 1) := by decide +kernel
theorem dX11_spelt_36 : decode cX11_spelt 36 = .ok (.areturn, 1) := by decide +kernel
theorem dX12_init_0 : decode cX12_init 0 = .ok (.aload_n 0, 1) := by decide +kernel
theorem dX12_init_1 : decode cX12_init 1 = .ok (.invokespecial 1, 3) := by decide +kernel
theorem dX12_init_4 : decode cX12_init 4 = .ok (.aload_n 0, 1) := by decide +kernel
theorem dX12_init_5 : decode cX12_init 5 = .ok (.new 7, 3) := by decide +kernel
theorem dX12_init_8 : decode cX12_init 8 = .ok (.dup, 1) := by decide +kernel
theorem dX12_init_9 : decode cX12_init 9 = .ok (.invokespecial 9, 3) := by decide +kernel
theorem dX12_init_12 : decode cX12_init 12 = .ok (.putfield 10, 3) := by decide +kernel
theorem dX12_init_15 : decode cX12_init 15 = .ok (.aload_n 0, 1) := by decide +kernel
theorem dX12_init_16 : decode cX12_init 16 = .ok (.new 16, 3) := by decide +kernel
theorem dX12_init_19 : decode cX12_init 19 = .ok (.dup, 1) := by decide +kernel
theorem dX12_init_20 : decode cX12_init 20 = .ok (.aload_n 0, 1) := by decide +kernel
theorem dX12_init_21 : decode cX12_init 21 = .ok (.getfield 10, 3) := by decide +kernel
theorem dX12_init_24 : decode cX12_init 24 = .ok (.invokespecial 18, 3) := by decide +kernel
theorem dX12_init_27 : decode cX12_init 27 = .ok (.putfield 21, 3) := by decide +kernel
theorem dX12_init_30 : decode cX12_init 30 = .ok (.aload_n 0, 1) := by decide +kernel
theorem dX12_init_31 : decode cX12_init 31 = .ok (.new 25, 3) := by decide +kernel
theorem dX12_init_34 : decode cX12_init 34 = .ok (.dup, 1) := by decide +kernel
theorem dX12_init_35 : decode cX12_init 35 = .ok (.invokespecial 27, 3) := by decide +kernel
theorem dX12_init_38 : decode cX12_init 38 = .ok (.putfield 28, 3) := by decide +kernel
theorem dX12_init_41 : decode cX12_init 41 = .ok (.aload_n 0, 1) := by decide +kernel
theorem dX12_init_42 : decode cX12_init 42 = .ok (.new 32, 3) := by decide +kernel
theorem dX12_init_45 : decode cX12_init 45 = .ok (.dup, 1) := by decide +kernel
theorem dX12_init_46 : decode cX12_init 46 = .ok (.invokespecial 34, 3) := by decide +kernel
theorem dX12_init_49 : decode cX12_init 49 = .ok (.putfield 35, 3) := by decide +kernel
theorem dX12_init_52 : decode cX12_init 52 = .ok (.aload_n 0, 1) := by decide +kernel
theorem dX12_init_53 : decode cX12_init 53 = .ok (.new 32, 3) := by decide +kernel
theorem dX12_init_56 : decode cX12_init 56 = .ok (.dup, 1) := by decide +kernel
theorem dX12_init_57 : decode cX12_init 57 = .ok (.invokespecial 34, 3) := by decide +kernel
theorem dX12_init_60 : decode cX12_init 60 = .ok (.putfield 39, 3) := by decide +kernel
theorem dX12_init_63 : decode cX12_init 63 = .ok (.aload_n 0, 1) := by decide +kernel
theorem dX12_init_64 : decode cX12_init 64 = .ok (.new 42, 3) := by decide +kernel
theorem dX12_init_67 : decode cX12_init 67 = .ok (.dup, 1) := by decide +kernel
theorem dX12_init_68 : decode cX12_init 68 = .ok (.invokespecial 44, 3) := by decide +kernel
theorem dX12_init_71 : decode cX12_init 71 = .ok (.putfield 45, 3) := by decide +kernel
theorem dX12_init_74 : decode cX12_init 74 = .ok (.aload_n 0, 1) := by decide +kernel
theorem dX12_init_75 : decode cX12_init 75 = .ok (.new 49, 3) := by decide +kernel
theorem dX12_init_78 : decode cX12_init 78 = .ok (.dup, 1) := by decide +kernel
theorem dX12_init_79 : decode cX12_init 79 = .ok (.invokespecial 51, 3) := by decide +kernel
theorem dX12_init_82 : decode cX12_init 82 = .ok (.putfield 52, 3) := by decide +kernel
theorem dX12_init_85 : decode cX12_init 85 = .ok (.aload_n 0, 1) := by decide +kernel
theorem dX12_init_86 : decode cX12_init 86 = .ok (.iconst 4, 1) := by decide +kernel
theorem dX12_init_87 : decode cX12_init 87 = .ok (.anewarray 56, 3) := by decide +kernel
theorem dX12_init_90 : decode cX12_init 90 = .ok (.putfield 58, 3) := by decide +kernel
theorem dX12_init_93 : decode cX12_init 93 = .ok (.aload_n 0, 1) := by decide +kernel
theorem dX12_init_94 : decode cX12_init 94 = .ok (.new 62, 3) := by decide +kernel
theorem dX12_init_97 : decode cX12_init 97 = .ok (.dup, 1) := by decide +kernel
theorem dX12_init_98 : decode cX12_init 98 = .ok (.invokespecial 64, 3) := by decide +kernel
theorem dX12_init_101 : decode cX12_init 101 = .ok (.putfield 65, 3) := by decide +kernel
theorem dX12_init_104 : decode cX12_init 104 = .ok (.aload_n 0, 1) := by decide +kernel
theorem dX12_init_105 : decode cX12_init 105 = .ok (.new 62, 3) := by decide +kernel
theorem dX12_init_108 : decode cX12_init 108 = .ok (.dup, 1) := by decide +kernel
theorem dX12_init_109 : decode cX12_init 109 = .ok (.invokespecial 64, 3) := by decide +kernel
theorem dX12_init_112 : decode cX12_init 112 = .ok (.putfield 69, 3) := by decide +kernel
theorem dX12_init_115 : decode cX12_init 115 = .ok (.aload_n 0, 1) := by decide +kernel
theorem dX12_init_116 : decode cX12_init 116 = .ok (.new 72, 3) := by decide +kernel
theorem dX12_init_119 : decode cX12_init 119 = .ok (.dup, 1) := by decide +kernel
theorem dX12_init_120 : decode cX12_init 120 = .ok (.invokespecial 74, 3) := by decide +kernel
theorem dX12_init_123 : decode cX12_init 123 = .ok (.putfield 75, 3) := by decide +kernel
theorem dX12_init_126 : decode cX12_init 126 = .ok (.aload_n 0, 1) := by decide +kernel
theorem dX12_init_127 : decode cX12_init 127 = .ok (.new 72, 3) := by decide +kernel
theorem dX12_init_130 : decode cX12_init 130 = .ok (.dup, 1) := by decide +kernel
theorem dX12_init_131 : decode cX12_init 131 = .ok (.invokespecial 74, 3) := by decide +kernel
theorem dX12_init_134 : decode cX12_init 134 = .ok (.putfield 79, 3) := by decide +kernel
theorem dX12_init_137 : decode cX12_init 137 = .ok (.iconst 0, 1) := by decide +kernel
theorem dX12_init_138 : decode cX12_init 138 = .ok (.istore_n 1, 1) := by decide +kernel
theorem dX12_init_139 : decode cX12_init 139 = .ok (.iload_n 1, 1) := by decide +kernel
theorem dX12_init_140 : decode cX12_init 140 = .ok (.aload_n 0, 1) := by decide +kernel
theorem dX12_init_141 : decode cX12_init 141 = .ok (.getfield 58, 3) := by decide +kernel
theorem dX12_init_144 : decode cX12_init 144 = .ok (.arraylength, 1) := by decide +kernel
theorem dX12_init_145 : decode cX12_init 145 = .ok (.if_icmp .ge 22, 3) := by decide +kernel
theorem dX12_init_148 : decode cX12_init 148 = .ok (.aload_n 0, 1) := by decide +kernel
theorem dX12_init_149 : decode cX12_init 149 = .ok (.getfield 58, 3) := by decide +kernel
theorem dX12_init_152 : decode cX12_init 152 = .ok (.iload_n 1, 1) := by decide +kernel
theorem dX12_init_153 : decode cX12_init 153 = .ok (.new 56, 3) := by decide +kernel
theorem dX12_init_156 : decode cX12_init 156 = .ok (.dup, 1) := by decide +kernel
theorem dX12_init_157 : decode cX12_init 157 = .ok (.invokespecial 82, 3) := by decide +kernel
theorem dX12_init_160 : decode cX12_init 160 = .ok (.aastore, 1) := by decide +kernel
theorem dX12_init_161 : decode cX12_init 161 = .ok (.iinc 1 1, 3) := by decide +kernel
theorem dX12_init_164 : decode cX12_init 164 = .ok (.goto (-25), 3) := by decide +kernel
theorem dX12_init_167 : decode cX12_init 167 = .ok (.return_, 1) := by decide +kernel
theorem dX12_feed_0 : decode cX12_feed 0 = .ok (.aload_n 0, 1) := by decide +kernel
theorem dX12_feed_1 : decode cX12_feed 1 = .ok (.getfield 10, 3) := by decide +kernel
theorem dX12_feed_4 : decode cX12_feed 4 = .ok (.lload_n 1, 1) := by decide +kernel
theorem dX12_feed_5 : decode cX12_feed 5 = .ok (.invokevirtual 83, 3) := by decide +kernel
theorem dX12_feed_8 : decode cX12_feed 8 = .ok (.aload_n 0, 1) := by decide +kernel
theorem dX12_feed_9 : decode cX12_feed 9 = .ok (.getfield 10, 3) := by decide +kernel
theorem dX12_feed_12 : decode cX12_feed 12 = .ok (.lload_n 3, 1) := by decide +kernel
theorem dX12_feed_13 : decode cX12_feed 13 = .ok (.invokevirtual 83, 3) := by decide +kernel
theorem dX12_feed_16 : decode cX12_feed 16 = .ok (.aload_n 0, 1) := by decide +kernel
theorem dX12_feed_17 : decode cX12_feed 17 = .ok (.getfield 10, 3) := by decide +kernel
theorem dX12_feed_20 : decode cX12_feed 20 = .ok (.lload 5, 2) := by decide +kernel
theorem dX12_feed_22 : decode cX12_feed 22 = .ok (.invokevirtual 83, 3) := by decide +kernel
theorem dX12_feed_25 : decode cX12_feed 25 = .ok (.aload_n 0, 1) := by decide +kernel
theorem dX12_feed_26 : decode cX12_feed 26 = .ok (.getfield 10, 3) := by decide +kernel
theorem dX12_feed_29 : decode cX12_feed 29 = .ok (.getfield 87, 3) := by decide +kernel
theorem dX12_feed_32 : decode cX12_feed 32 = .ok (.ireturn, 1) := by decide +kernel
theorem dX12_city_0 : decode cX12_city 0 = .ok (.aload_n 0, 1) := by decide +kernel
theorem dX12_city_1 : decode cX12_city 1 = .ok (.getfield 21, 3) := by decide +kernel
theorem dX12_city_4 : decode cX12_city 4 = .ok (.aload_n 0, 1) := by decide +kernel
theorem dX12_city_5 : decode cX12_city 5 = .ok (.getfield 69, 3) := by decide +kernel
theorem dX12_city_8 : decode cX12_city 8 = .ok (.invokevirtual 91, 3) := by decide +kernel
theorem dX12_city_11 : decode cX12_city 11 = .ok (.istore_n 1, 1) := by decide +kernel
theorem dX12_city_12 : decode cX12_city 12 = .ok (.iload_n 1, 1) := by decide +kernel
theorem dX12_city_13 : decode cX12_city 13 = .ok (.ifCond .eq 5, 3) := by decide +kernel
theorem dX12_city_16 : decode cX12_city 16 = .ok (.iload_n 1, 1) := by decide +kernel
theorem dX12_city_17 : decode cX12_city 17 = .ok (.ireturn, 1) := by decide +kernel
theorem dX12_city_18 : decode cX12_city 18 = .ok (.aload_n 0, 1) := by decide +kernel
theorem dX12_city_19 : decode cX12_city 19 = .ok (.getfield 65, 3) := by decide +kernel
theorem dX12_city_22 : decode cX12_city 22 = .ok (.astore_n 2, 1) := by decide +kernel
theorem dX12_city_23 : decode cX12_city 23 = .ok (.aload_n 0, 1) := by decide +kernel
theorem dX12_city_24 : decode cX12_city 24 = .ok (.aload_n 0, 1) := by decide +kernel
theorem dX12_city_25 : decode cX12_city 25 = .ok (.getfield 69, 3) := by decide +kernel
theorem dX12_city_28 : decode cX12_city 28 = .ok (.putfield 65, 3) := by decide +kernel
theorem dX12_city_31 : decode cX12_city 31 = .ok (.aload_n 0, 1) := by decide +kernel
theorem dX12_city_32 : decode cX12_city 32 = .ok (.aload_n 2, 1) := by decide +kernel
theorem dX12_city_33 : decode cX12_city 33 = .ok (.putfield 69, 3) := by decide +kernel
theorem dX12_city_36 : decode cX12_city 36 = .ok (.aload_n 0, 1) := by decide +kernel
theorem dX12_city_37 : decode cX12_city 37 = .ok (.getfield 35, 3) := by decide +kernel
theorem dX12_city_40 : decode cX12_city 40 = .ok (.aload_n 0, 1) := by decide +kernel
theorem dX12_city_41 : decode cX12_city 41 = .ok (.getfield 65, 3) := by decide +kernel
theorem dX12_city_44 : decode cX12_city 44 = .ok (.invokevirtual 95, 3) := by decide +kernel
theorem dX12_city_47 : decode cX12_city 47 = .ok (.aload_n 0, 1) := by decide +kernel
theorem dX12_city_48 : decode cX12_city 48 = .ok (.getfield 75, 3) := by decide +kernel
theorem dX12_city_51 : decode cX12_city 51 = .ok (.iconst 0, 1) := by decide +kernel
theorem dX12_city_52 : decode cX12_city 52 = .ok (.putfield 99, 3) := by decide +kernel
theorem dX12_city_55 : decode cX12_city 55 = .ok (.aload_n 0, 1) := by decide +kernel
theorem dX12_city_56 : decode cX12_city 56 = .ok (.getfield 52, 3) := by decide +kernel
theorem dX12_city_59 : decode cX12_city 59 = .ok (.iconst 0, 1) := by decide +kernel
theorem dX12_city_60 : decode cX12_city 60 = .ok (.putfield 102, 3) := by decide +kernel
theorem dX12_city_63 : decode cX12_city 63 = .ok (.aload_n 0, 1) := by decide +kernel
theorem dX12_city_64 : decode cX12_city 64 = .ok (.getfield 45, 3) := by decide +kernel
theorem dX12_city_67 : decode cX12_city 67 = .ok (.iconst 0, 1) := by decide +kernel
theorem dX12_city_68 : decode cX12_city 68 = .ok (.putfield 105, 3) := by decide +kernel
theorem dX12_city_71 : decode cX12_city 71 = .ok (.iconst 0, 1) := by decide +kernel
theorem dX12_city_72 : decode cX12_city 72 = .ok (.istore_n 3, 1) := by decide +kernel
theorem dX12_city_73 : decode cX12_city 73 = .ok (.iload_n 3, 1) := by decide +kernel
theorem dX12_city_74 : decode cX12_city 74 = .ok (.iconst 4, 1) := by decide +kernel
theorem dX12_city_75 : decode cX12_city 75 = .ok (.if_icmp .ge 27, 3) := by decide +kernel
theorem dX12_city_78 : decode cX12_city 78 = .ok (.aload_n 0, 1) := by decide +kernel
theorem dX12_city_79 : decode cX12_city 79 = .ok (.iload_n 3, 1) := by decide +kernel
theorem dX12_city_80 : decode cX12_city 80 = .ok (.invokevirtual 108, 3) := by decide +kernel
theorem dX12_city_83 : decode cX12_city 83 = .ok (.astore 4, 2) := by decide +kernel
theorem dX12_city_85 : decode cX12_city 85 = .ok (.aload 4, 2) := by decide +kernel
theorem dX12_city_87 : decode cX12_city 87 = .ok (.ifnull 9, 3) := by decide +kernel
theorem dX12_city_90 : decode cX12_city 90 = .ok (.aload 4, 2) := by decide +kernel
theorem dX12_city_92 : decode cX12_city 92 = .ok (.iconst 0, 1) := by decide +kernel
theorem dX12_city_93 : decode cX12_city 93 = .ok (.putfield 112, 3) := by decide +kernel
theorem dX12_city_96 : decode cX12_city 96 = .ok (.iinc 3 1, 3) := by decide +kernel
theorem dX12_city_99 : decode cX12_city 99 = .ok (.goto (-26), 3) := by decide +kernel
theorem dX12_city_102 : decode cX12_city 102 = .ok (.iconst 0, 1) := by decide +kernel
theorem dX12_city_103 : decode cX12_city 103 = .ok (.ireturn, 1) := by decide +kernel
theorem dX12_months_0 : decode cX12_months 0 = .ok (.aload_n 0, 1) := by decide +kernel
theorem dX12_months_1 : decode cX12_months 1 = .ok (.getfield 21, 3) := by decide +kernel
theorem dX12_months_4 : decode cX12_months 4 = .ok (.aload_n 0, 1) := by decide +kernel
theorem dX12_months_5 : decode cX12_months 5 = .ok (.getfield 65, 3) := by decide +kernel
theorem dX12_months_8 : decode cX12_months 8 = .ok (.aload_n 0, 1) := by decide +kernel
theorem dX12_months_9 : decode cX12_months 9 = .ok (.getfield 79, 3) := by decide +kernel
theorem dX12_months_12 : decode cX12_months 12 = .ok (.invokevirtual 116, 3) := by decide +kernel
theorem dX12_months_15 : decode cX12_months 15 = .ok (.istore_n 1, 1) := by decide +kernel
theorem dX12_months_16 : decode cX12_months 16 = .ok (.iload_n 1, 1) := by decide +kernel
theorem dX12_months_17 : decode cX12_months 17 = .ok (.ifCond .eq 5, 3) := by decide +kernel
theorem dX12_months_20 : decode cX12_months 20 = .ok (.iload_n 1, 1) := by decide +kernel
theorem dX12_months_21 : decode cX12_months 21 = .ok (.ireturn, 1) := by decide +kernel
theorem dX12_months_22 : decode cX12_months 22 = .ok (.aload_n 0, 1) := by decide +kernel
theorem dX12_months_23 : decode cX12_months 23 = .ok (.getfield 75, 3) := by decide +kernel
theorem dX12_months_26 : decode cX12_months 26 = .ok (.astore_n 2, 1) := by decide +kernel
theorem dX12_months_27 : decode cX12_months 27 = .ok (.aload_n 0, 1) := by decide +kernel
theorem dX12_months_28 : decode cX12_months 28 = .ok (.aload_n 0, 1) := by decide +kernel
theorem dX12_months_29 : decode cX12_months 29 = .ok (.getfield 79, 3) := by decide +kernel
theorem dX12_months_32 : decode cX12_months 32 = .ok (.putfield 75, 3) := by decide +kernel
theorem dX12_months_35 : decode cX12_months 35 = .ok (.aload_n 0, 1) := by decide +kernel
theorem dX12_months_36 : decode cX12_months 36 = .ok (.aload_n 2, 1) := by decide +kernel
theorem dX12_months_37 : decode cX12_months 37 = .ok (.putfield 79, 3) := by decide +kernel
theorem dX12_months_40 : decode cX12_months 40 = .ok (.iconst 0, 1) := by decide +kernel
theorem dX12_months_41 : decode cX12_months 41 = .ok (.ireturn, 1) := by decide +kernel
theorem dX12_man_0 : decode cX12_man 0 = .ok (.aload_n 0, 1) := by decide +kernel
theorem dX12_man_1 : decode cX12_man 1 = .ok (.getfield 65, 3) := by decide +kernel
theorem dX12_man_4 : decode cX12_man 4 = .ok (.iload_n 1, 1) := by decide +kernel
theorem dX12_man_5 : decode cX12_man 5 = .ok (.invokevirtual 120, 3) := by decide +kernel
theorem dX12_man_8 : decode cX12_man 8 = .ok (.ifCond .ne 6, 3) := by decide +kernel
theorem dX12_man_11 : decode cX12_man 11 = .ok (.bipush (-2), 2) := by decide +kernel
theorem dX12_man_13 : decode cX12_man 13 = .ok (.ireturn, 1) := by decide +kernel
theorem dX12_man_14 : decode cX12_man 14 = .ok (.iload_n 2, 1) := by decide +kernel
theorem dX12_man_15 : decode cX12_man 15 = .ok (.tableswitch 114 0 5 #[37, 49, 61, 73, 85, 97], 37) := by decide +kernel
theorem dX12_man_52 : decode cX12_man 52 = .ok (.aload_n 0, 1) := by decide +kernel
theorem dX12_man_53 : decode cX12_man 53 = .ok (.getfield 65, 3) := by decide +kernel
theorem dX12_man_56 : decode cX12_man 56 = .ok (.getfield 124, 3) := by decide +kernel
theorem dX12_man_59 : decode cX12_man 59 = .ok (.iload_n 1, 1) := by decide +kernel
theorem dX12_man_60 : decode cX12_man 60 = .ok (.invokestatic 128, 3) := by decide +kernel
theorem dX12_man_63 : decode cX12_man 63 = .ok (.ireturn, 1) := by decide +kernel
theorem dX12_man_64 : decode cX12_man 64 = .ok (.aload_n 0, 1) := by decide +kernel
theorem dX12_man_65 : decode cX12_man 65 = .ok (.getfield 65, 3) := by decide +kernel
theorem dX12_man_68 : decode cX12_man 68 = .ok (.getfield 132, 3) := by decide +kernel
theorem dX12_man_71 : decode cX12_man 71 = .ok (.iload_n 1, 1) := by decide +kernel
theorem dX12_man_72 : decode cX12_man 72 = .ok (.invokestatic 128, 3) := by decide +kernel
theorem dX12_man_75 : decode cX12_man 75 = .ok (.ireturn, 1) := by decide +kernel
theorem dX12_man_76 : decode cX12_man 76 = .ok (.aload_n 0, 1) := by decide +kernel
theorem dX12_man_77 : decode cX12_man 77 = .ok (.getfield 65, 3) := by decide +kernel
theorem dX12_man_80 : decode cX12_man 80 = .ok (.getfield 135, 3) := by decide +kernel
theorem dX12_man_83 : decode cX12_man 83 = .ok (.iload_n 1, 1) := by decide +kernel
theorem dX12_man_84 : decode cX12_man 84 = .ok (.invokestatic 128, 3) := by decide +kernel
theorem dX12_man_87 : decode cX12_man 87 = .ok (.ireturn, 1) := by decide +kernel
theorem dX12_man_88 : decode cX12_man 88 = .ok (.aload_n 0, 1) := by decide +kernel
theorem dX12_man_89 : decode cX12_man 89 = .ok (.getfield 35, 3) := by decide +kernel
theorem dX12_man_92 : decode cX12_man 92 = .ok (.getfield 138, 3) := by decide +kernel
theorem dX12_man_95 : decode cX12_man 95 = .ok (.iload_n 1, 1) := by decide +kernel
theorem dX12_man_96 : decode cX12_man 96 = .ok (.invokestatic 128, 3) := by decide +kernel
theorem dX12_man_99 : decode cX12_man 99 = .ok (.ireturn, 1) := by decide +kernel
theorem dX12_man_100 : decode cX12_man 100 = .ok (.aload_n 0, 1) := by decide +kernel
theorem dX12_man_101 : decode cX12_man 101 = .ok (.getfield 35, 3) := by decide +kernel
theorem dX12_man_104 : decode cX12_man 104 = .ok (.getfield 141, 3) := by decide +kernel
theorem dX12_man_107 : decode cX12_man 107 = .ok (.iload_n 1, 1) := by decide +kernel
theorem dX12_man_108 : decode cX12_man 108 = .ok (.invokestatic 128, 3) := by decide +kernel
theorem dX12_man_111 : decode cX12_man 111 = .ok (.ireturn, 1) := by decide +kernel
theorem dX12_man_112 : decode cX12_man 112 = .ok (.aload_n 0, 1) := by decide +kernel
theorem dX12_man_113 : decode cX12_man 113 = .ok (.getfield 65, 3) := by decide +kernel
theorem dX12_man_116 : decode cX12_man 116 = .ok (.iload_n 1, 1) := by decide +kernel
theorem dX12_man_117 : decode cX12_man 117 = .ok (.invokevirtual 144, 3) := by decide +kernel
theorem dX12_man_120 : decode cX12_man 120 = .ok (.ifCond .eq 7, 3) := by decide +kernel
theorem dX12_man_123 : decode cX12_man 123 = .ok (.iconst 1, 1) := by decide +kernel
theorem dX12_man_124 : decode cX12_man 124 = .ok (.goto 4, 3) := by decide +kernel
theorem dX12_man_127 : decode cX12_man 127 = .ok (.iconst 0, 1) := by decide +kernel
theorem dX12_man_128 : decode cX12_man 128 = .ok (.ireturn, 1) := by decide +kernel
theorem dX12_man_129 : decode cX12_man 129 = .ok (.bipush (-2), 2) := by decide +kernel
theorem dX12_man_131 : decode cX12_man 131 = .ok (.ireturn, 1) := by decide +kernel
theorem dX12_danger_0 : decode cX12_danger 0 = .ok (.aload_n 0, 1) := by decide +kernel
theorem dX12_danger_1 : decode cX12_danger 1 = .ok (.getfield 65, 3) := by decide +kernel
theorem dX12_danger_4 : decode cX12_danger 4 = .ok (.iload_n 1, 1) := by decide +kernel
theorem dX12_danger_5 : decode cX12_danger 5 = .ok (.invokevirtual 147, 3) := by decide +kernel
theorem dX12_danger_8 : decode cX12_danger 8 = .ok (.ifCond .ne 6, 3) := by decide +kernel
theorem dX12_danger_11 : decode cX12_danger 11 = .ok (.bipush (-2), 2) := by decide +kernel
theorem dX12_danger_13 : decode cX12_danger 13 = .ok (.ireturn, 1) := by decide +kernel
theorem dX12_danger_14 : decode cX12_danger 14 = .ok (.iload_n 2, 1) := by decide +kernel
theorem dX12_danger_15 : decode cX12_danger 15 = .ok (.tableswitch 61 0 2 #[25, 37, 49], 25) := by decide +kernel
theorem dX12_danger_40 : decode cX12_danger 40 = .ok (.aload_n 0, 1) := by decide +kernel
theorem dX12_danger_41 : decode cX12_danger 41 = .ok (.getfield 35, 3) := by decide +kernel
theorem dX12_danger_44 : decode cX12_danger 44 = .ok (.getfield 150, 3) := by decide +kernel
theorem dX12_danger_47 : decode cX12_danger 47 = .ok (.iload_n 1, 1) := by decide +kernel
theorem dX12_danger_48 : decode cX12_danger 48 = .ok (.invokestatic 128, 3) := by decide +kernel
theorem dX12_danger_51 : decode cX12_danger 51 = .ok (.ireturn, 1) := by decide +kernel
theorem dX12_danger_52 : decode cX12_danger 52 = .ok (.aload_n 0, 1) := by decide +kernel
theorem dX12_danger_53 : decode cX12_danger 53 = .ok (.getfield 65, 3) := by decide +kernel
theorem dX12_danger_56 : decode cX12_danger 56 = .ok (.getfield 153, 3) := by decide +kernel
theorem dX12_danger_59 : decode cX12_danger 59 = .ok (.iload_n 1, 1) := by decide +kernel
theorem dX12_danger_60 : decode cX12_danger 60 = .ok (.invokestatic 128, 3) := by decide +kernel
theorem dX12_danger_63 : decode cX12_danger 63 = .ok (.ireturn, 1) := by decide +kernel
theorem dX12_danger_64 : decode cX12_danger 64 = .ok (.aload_n 0, 1) := by decide +kernel
theorem dX12_danger_65 : decode cX12_danger 65 = .ok (.getfield 65, 3) := by decide +kernel
theorem dX12_danger_68 : decode cX12_danger 68 = .ok (.getfield 156, 3) := by decide +kernel
theorem dX12_danger_71 : decode cX12_danger 71 = .ok (.iload_n 1, 1) := by decide +kernel
theorem dX12_danger_72 : decode cX12_danger 72 = .ok (.invokestatic 128, 3) := by decide +kernel
theorem dX12_danger_75 : decode cX12_danger 75 = .ok (.ireturn, 1) := by decide +kernel
theorem dX12_danger_76 : decode cX12_danger 76 = .ok (.bipush (-2), 2) := by decide +kernel
theorem dX12_danger_78 : decode cX12_danger 78 = .ok (.ireturn, 1) := by decide +kernel
theorem dX12_may_0 : decode cX12_may 0 = .ok (.aload_n 0, 1) := by decide +kernel
theorem dX12_may_1 : decode cX12_may 1 = .ok (.getfield 65, 3) := by decide +kernel
theorem dX12_may_4 : decode cX12_may 4 = .ok (.iload_n 1, 1) := by decide +kernel
theorem dX12_may_5 : decode cX12_may 5 = .ok (.iload_n 2, 1) := by decide +kernel
theorem dX12_may_6 : decode cX12_may 6 = .ok (.invokevirtual 157, 3) := by decide +kernel
theorem dX12_may_9 : decode cX12_may 9 = .ok (.ireturn, 1) := by decide +kernel
theorem dX12_name_0 : decode cX12_name 0 = .ok (.aload_n 0, 1) := by decide +kernel
theorem dX12_name_1 : decode cX12_name 1 = .ok (.getfield 35, 3) := by decide +kernel
theorem dX12_name_4 : decode cX12_name 4 = .ok (.aload_n 0, 1) := by decide +kernel
theorem dX12_name_5 : decode cX12_name 5 = .ok (.getfield 65, 3) := by decide +kernel
theorem dX12_name_8 : decode cX12_name 8 = .ok (.iload_n 1, 1) := by decide +kernel
theorem dX12_name_9 : decode cX12_name 9 = .ok (.iload_n 2, 1) := by decide +kernel
theorem dX12_name_10 : decode cX12_name 10 = .ok (.invokevirtual 161, 3) := by decide +kernel
theorem dX12_name_13 : decode cX12_name 13 = .ok (.ifCond .ne 5, 3) := by decide +kernel
theorem dX12_name_16 : decode cX12_name 16 = .ok (.iconst 0, 1) := by decide +kernel
theorem dX12_name_17 : decode cX12_name 17 = .ok (.ireturn, 1) := by decide +kernel
theorem dX12_name_18 : decode cX12_name 18 = .ok (.aload_n 0, 1) := by decide +kernel
theorem dX12_name_19 : decode cX12_name 19 = .ok (.getfield 45, 3) := by decide +kernel
theorem dX12_name_22 : decode cX12_name 22 = .ok (.aload_n 0, 1) := by decide +kernel
theorem dX12_name_23 : decode cX12_name 23 = .ok (.getfield 35, 3) := by decide +kernel
theorem dX12_name_26 : decode cX12_name 26 = .ok (.invokevirtual 165, 3) := by decide +kernel
theorem dX12_name_29 : decode cX12_name 29 = .ok (.aload_n 0, 1) := by decide +kernel
theorem dX12_name_30 : decode cX12_name 30 = .ok (.getfield 35, 3) := by decide +kernel
theorem dX12_name_33 : decode cX12_name 33 = .ok (.aload_n 0, 1) := by decide +kernel
theorem dX12_name_34 : decode cX12_name 34 = .ok (.getfield 65, 3) := by decide +kernel
theorem dX12_name_37 : decode cX12_name 37 = .ok (.iload_n 2, 1) := by decide +kernel
theorem dX12_name_38 : decode cX12_name 38 = .ok (.invokevirtual 169, 3) := by decide +kernel
theorem dX12_name_41 : decode cX12_name 41 = .ok (.iconst 1, 1) := by decide +kernel
theorem dX12_name_42 : decode cX12_name 42 = .ok (.ireturn, 1) := by decide +kernel
theorem dX12_master_0 : decode cX12_master 0 = .ok (.aload_n 0, 1) := by decide +kernel
theorem dX12_master_1 : decode cX12_master 1 = .ok (.getfield 35, 3) := by decide +kernel
theorem dX12_master_4 : decode cX12_master 4 = .ok (.aload_n 0, 1) := by decide +kernel
theorem dX12_master_5 : decode cX12_master 5 = .ok (.getfield 65, 3) := by decide +kernel
theorem dX12_master_8 : decode cX12_master 8 = .ok (.iload_n 1, 1) := by decide +kernel
theorem dX12_master_9 : decode cX12_master 9 = .ok (.invokevirtual 173, 3) := by decide +kernel
theorem dX12_master_12 : decode cX12_master 12 = .ok (.ifCond .ne 5, 3) := by decide +kernel
theorem dX12_master_15 : decode cX12_master 15 = .ok (.iconst 0, 1) := by decide +kernel
theorem dX12_master_16 : decode cX12_master 16 = .ok (.ireturn, 1) := by decide +kernel
theorem dX12_master_17 : decode cX12_master 17 = .ok (.aload_n 0, 1) := by decide +kernel
theorem dX12_master_18 : decode cX12_master 18 = .ok (.getfield 45, 3) := by decide +kernel
theorem dX12_master_21 : decode cX12_master 21 = .ok (.aload_n 0, 1) := by decide +kernel
theorem dX12_master_22 : decode cX12_master 22 = .ok (.getfield 35, 3) := by decide +kernel
theorem dX12_master_25 : decode cX12_master 25 = .ok (.invokevirtual 165, 3) := by decide +kernel
theorem dX12_master_28 : decode cX12_master 28 = .ok (.aload_n 0, 1) := by decide +kernel
theorem dX12_master_29 : decode cX12_master 29 = .ok (.getfield 35, 3) := by decide +kernel
theorem dX12_master_32 : decode cX12_master 32 = .ok (.iload_n 1, 1) := by decide +kernel
theorem dX12_master_33 : decode cX12_master 33 = .ok (.putfield 177, 3) := by decide +kernel
theorem dX12_master_36 : decode cX12_master 36 = .ok (.iconst 1, 1) := by decide +kernel
theorem dX12_master_37 : decode cX12_master 37 = .ok (.ireturn, 1) := by decide +kernel
theorem dX12_month_0 : decode cX12_month 0 = .ok (.aload_n 0, 1) := by decide +kernel
theorem dX12_month_1 : decode cX12_month 1 = .ok (.getfield 65, 3) := by decide +kernel
theorem dX12_month_4 : decode cX12_month 4 = .ok (.iload_n 1, 1) := by decide +kernel
theorem dX12_month_5 : decode cX12_month 5 = .ok (.invokevirtual 147, 3) := by decide +kernel
theorem dX12_month_8 : decode cX12_month 8 = .ok (.ifCond .ne 5, 3) := by decide +kernel
theorem dX12_month_11 : decode cX12_month 11 = .ok (.iconst (-1), 1) := by decide +kernel
theorem dX12_month_12 : decode cX12_month 12 = .ok (.ireturn, 1) := by decide +kernel
theorem dX12_month_13 : decode cX12_month 13 = .ok (.aload_n 0, 1) := by decide +kernel
theorem dX12_month_14 : decode cX12_month 14 = .ok (.getfield 45, 3) := by decide +kernel
theorem dX12_month_17 : decode cX12_month 17 = .ok (.aload_n 0, 1) := by decide +kernel
theorem dX12_month_18 : decode cX12_month 18 = .ok (.getfield 35, 3) := by decide +kernel
theorem dX12_month_21 : decode cX12_month 21 = .ok (.invokevirtual 165, 3) := by decide +kernel
theorem dX12_month_24 : decode cX12_month 24 = .ok (.aload_n 0, 1) := by decide +kernel
theorem dX12_month_25 : decode cX12_month 25 = .ok (.getfield 35, 3) := by decide +kernel
theorem dX12_month_28 : decode cX12_month 28 = .ok (.aload_n 0, 1) := by decide +kernel
theorem dX12_month_29 : decode cX12_month 29 = .ok (.getfield 65, 3) := by decide +kernel
theorem dX12_month_32 : decode cX12_month 32 = .ok (.iload_n 1, 1) := by decide +kernel
theorem dX12_month_33 : decode cX12_month 33 = .ok (.iconst (-1), 1) := by decide +kernel
theorem dX12_month_34 : decode cX12_month 34 = .ok (.invokevirtual 180, 3) := by decide +kernel
theorem dX12_month_37 : decode cX12_month 37 = .ok (.ireturn, 1) := by decide +kernel
theorem dX12_disobey_0 : decode cX12_disobey 0 = .ok (.aload_n 0, 1) := by decide +kernel
theorem dX12_disobey_1 : decode cX12_disobey 1 = .ok (.getfield 35, 3) := by decide +kernel
theorem dX12_disobey_4 : decode cX12_disobey 4 = .ok (.aload_n 0, 1) := by decide +kernel
theorem dX12_disobey_5 : decode cX12_disobey 5 = .ok (.getfield 65, 3) := by decide +kernel
theorem dX12_disobey_8 : decode cX12_disobey 8 = .ok (.iload_n 1, 1) := by decide +kernel
theorem dX12_disobey_9 : decode cX12_disobey 9 = .ok (.iload_n 2, 1) := by decide +kernel
theorem dX12_disobey_10 : decode cX12_disobey 10 = .ok (.invokevirtual 184, 3) := by decide +kernel
theorem dX12_disobey_13 : decode cX12_disobey 13 = .ok (.ifCond .ne 5, 3) := by decide +kernel
theorem dX12_disobey_16 : decode cX12_disobey 16 = .ok (.iconst (-1), 1) := by decide +kernel
theorem dX12_disobey_17 : decode cX12_disobey 17 = .ok (.ireturn, 1) := by decide +kernel
theorem dX12_disobey_18 : decode cX12_disobey 18 = .ok (.aload_n 0, 1) := by decide +kernel
theorem dX12_disobey_19 : decode cX12_disobey 19 = .ok (.getfield 45, 3) := by decide +kernel
theorem dX12_disobey_22 : decode cX12_disobey 22 = .ok (.aload_n 0, 1) := by decide +kernel
theorem dX12_disobey_23 : decode cX12_disobey 23 = .ok (.getfield 35, 3) := by decide +kernel
theorem dX12_disobey_26 : decode cX12_disobey 26 = .ok (.invokevirtual 165, 3) := by decide +kernel
theorem dX12_disobey_29 : decode cX12_disobey 29 = .ok (.aload_n 0, 1) := by decide +kernel
theorem dX12_disobey_30 : decode cX12_disobey 30 = .ok (.getfield 35, 3) := by decide +kernel
theorem dX12_disobey_33 : decode cX12_disobey 33 = .ok (.aload_n 0, 1) := by decide +kernel
theorem dX12_disobey_34 : decode cX12_disobey 34 = .ok (.getfield 65, 3) := by decide +kernel
theorem dX12_disobey_37 : decode cX12_disobey 37 = .ok (.iload_n 1, 1) := by decide +kernel
theorem dX12_disobey_38 : decode cX12_disobey 38 = .ok (.iload_n 2, 1) := by decide +kernel
theorem dX12_disobey_39 : decode cX12_disobey 39 = .ok (.invokevirtual 180, 3) := by decide +kernel
theorem dX12_disobey_42 : decode cX12_disobey 42 = .ok (.ireturn, 1) := by decide +kernel
theorem dX12_lay_0 : decode cX12_lay 0 = .ok (.aload_n 0, 1) := by decide +kernel
theorem dX12_lay_1 : decode cX12_lay 1 = .ok (.getfield 35, 3) := by decide +kernel
theorem dX12_lay_4 : decode cX12_lay 4 = .ok (.invokevirtual 187, 3) := by decide +kernel
theorem dX12_lay_7 : decode cX12_lay 7 = .ok (.ifCond .ne 5, 3) := by decide +kernel
theorem dX12_lay_10 : decode cX12_lay 10 = .ok (.iconst (-1), 1) := by decide +kernel
theorem dX12_lay_11 : decode cX12_lay 11 = .ok (.ireturn, 1) := by decide +kernel
theorem dX12_lay_12 : decode cX12_lay 12 = .ok (.aload_n 0, 1) := by decide +kernel
theorem dX12_lay_13 : decode cX12_lay 13 = .ok (.getfield 45, 3) := by decide +kernel
theorem dX12_lay_16 : decode cX12_lay 16 = .ok (.aload_n 0, 1) := by decide +kernel
theorem dX12_lay_17 : decode cX12_lay 17 = .ok (.getfield 35, 3) := by decide +kernel
theorem dX12_lay_20 : decode cX12_lay 20 = .ok (.invokevirtual 165, 3) := by decide +kernel
theorem dX12_lay_23 : decode cX12_lay 23 = .ok (.aload_n 0, 1) := by decide +kernel
theorem dX12_lay_24 : decode cX12_lay 24 = .ok (.getfield 35, 3) := by decide +kernel
theorem dX12_lay_27 : decode cX12_lay 27 = .ok (.invokevirtual 191, 3) := by decide +kernel
theorem dX12_lay_30 : decode cX12_lay 30 = .ok (.ireturn, 1) := by decide +kernel
theorem dX12_undo_0 : decode cX12_undo 0 = .ok (.aload_n 0, 1) := by decide +kernel
theorem dX12_undo_1 : decode cX12_undo 1 = .ok (.getfield 45, 3) := by decide +kernel
theorem dX12_undo_4 : decode cX12_undo 4 = .ok (.aload_n 0, 1) := by decide +kernel
theorem dX12_undo_5 : decode cX12_undo 5 = .ok (.getfield 35, 3) := by decide +kernel
theorem dX12_undo_8 : decode cX12_undo 8 = .ok (.invokevirtual 195, 3) := by decide +kernel
theorem dX12_undo_11 : decode cX12_undo 11 = .ok (.ireturn, 1) := by decide +kernel
theorem dX12_judged_0 : decode cX12_judged 0 = .ok (.iload_n 1, 1) := by decide +kernel
theorem dX12_judged_1 : decode cX12_judged 1 = .ok (.ifCond .lt 8, 3) := by decide +kernel
theorem dX12_judged_4 : decode cX12_judged 4 = .ok (.iload_n 1, 1) := by decide +kernel
theorem dX12_judged_5 : decode cX12_judged 5 = .ok (.iconst 2, 1) := by decide +kernel
theorem dX12_judged_6 : decode cX12_judged 6 = .ok (.if_icmp .le 6, 3) := by decide +kernel
theorem dX12_judged_9 : decode cX12_judged 9 = .ok (.bipush (-2), 2) := by decide +kernel
theorem dX12_judged_11 : decode cX12_judged 11 = .ok (.ireturn, 1) := by decide +kernel
theorem dX12_judged_12 : decode cX12_judged 12 = .ok (.aload_n 0, 1) := by decide +kernel
theorem dX12_judged_13 : decode cX12_judged 13 = .ok (.invokevirtual 199, 3) := by decide +kernel
theorem dX12_judged_16 : decode cX12_judged 16 = .ok (.iload_n 1, 1) := by decide +kernel
theorem dX12_judged_17 : decode cX12_judged 17 = .ok (.ifCond .ne 8, 3) := by decide +kernel
theorem dX12_judged_20 : decode cX12_judged 20 = .ok (.aload_n 0, 1) := by decide +kernel
theorem dX12_judged_21 : decode cX12_judged 21 = .ok (.getfield 202, 3) := by decide +kernel
theorem dX12_judged_24 : decode cX12_judged 24 = .ok (.ireturn, 1) := by decide +kernel
theorem dX12_judged_25 : decode cX12_judged 25 = .ok (.iload_n 1, 1) := by decide +kernel
theorem dX12_judged_26 : decode cX12_judged 26 = .ok (.iconst 1, 1) := by decide +kernel
theorem dX12_judged_27 : decode cX12_judged 27 = .ok (.if_icmp .ne 10, 3) := by decide +kernel
theorem dX12_judged_30 : decode cX12_judged 30 = .ok (.aload_n 0, 1) := by decide +kernel
theorem dX12_judged_31 : decode cX12_judged 31 = .ok (.getfield 205, 3) := by decide +kernel
theorem dX12_judged_34 : decode cX12_judged 34 = .ok (.goto 10, 3) := by decide +kernel
theorem dX12_judged_37 : decode cX12_judged 37 = .ok (.aload_n 0, 1) := by decide +kernel
theorem dX12_judged_38 : decode cX12_judged 38 = .ok (.getfield 39, 3) := by decide +kernel
theorem dX12_judged_41 : decode cX12_judged 41 = .ok (.invokevirtual 208, 3) := by decide +kernel
theorem dX12_judged_44 : decode cX12_judged 44 = .ok (.ireturn, 1) := by decide +kernel
theorem dX12_soon_0 : decode cX12_soon 0 = .ok (.aload_n 0, 1) := by decide +kernel
theorem dX12_soon_1 : decode cX12_soon 1 = .ok (.getfield 65, 3) := by decide +kernel
theorem dX12_soon_4 : decode cX12_soon 4 = .ok (.iload_n 1, 1) := by decide +kernel
theorem dX12_soon_5 : decode cX12_soon 5 = .ok (.invokevirtual 120, 3) := by decide +kernel
theorem dX12_soon_8 : decode cX12_soon 8 = .ok (.ifCond .eq 14, 3) := by decide +kernel
theorem dX12_soon_11 : decode cX12_soon 11 = .ok (.aload_n 0, 1) := by decide +kernel
theorem dX12_soon_12 : decode cX12_soon 12 = .ok (.getfield 65, 3) := by decide +kernel
theorem dX12_soon_15 : decode cX12_soon 15 = .ok (.iload_n 2, 1) := by decide +kernel
theorem dX12_soon_16 : decode cX12_soon 16 = .ok (.invokevirtual 147, 3) := by decide +kernel
theorem dX12_soon_19 : decode cX12_soon 19 = .ok (.ifCond .ne 5, 3) := by decide +kernel
theorem dX12_soon_22 : decode cX12_soon 22 = .ok (.iconst (-1), 1) := by decide +kernel
theorem dX12_soon_23 : decode cX12_soon 23 = .ok (.ireturn, 1) := by decide +kernel
theorem dX12_soon_24 : decode cX12_soon 24 = .ok (.aload_n 0, 1) := by decide +kernel
theorem dX12_soon_25 : decode cX12_soon 25 = .ok (.getfield 65, 3) := by decide +kernel
theorem dX12_soon_28 : decode cX12_soon 28 = .ok (.iload_n 1, 1) := by decide +kernel
theorem dX12_soon_29 : decode cX12_soon 29 = .ok (.aload_n 0, 1) := by decide +kernel
theorem dX12_soon_30 : decode cX12_soon 30 = .ok (.getfield 35, 3) := by decide +kernel
theorem dX12_soon_33 : decode cX12_soon 33 = .ok (.getfield 150, 3) := by decide +kernel
theorem dX12_soon_36 : decode cX12_soon 36 = .ok (.iload_n 2, 1) := by decide +kernel
theorem dX12_soon_37 : decode cX12_soon 37 = .ok (.invokestatic 128, 3) := by decide +kernel
theorem dX12_soon_40 : decode cX12_soon 40 = .ok (.invokevirtual 211, 3) := by decide +kernel
theorem dX12_soon_43 : decode cX12_soon 43 = .ok (.ireturn, 1) := by decide +kernel
theorem dX12_whom_0 : decode cX12_whom 0 = .ok (.aload_n 0, 1) := by decide +kernel
theorem dX12_whom_1 : decode cX12_whom 1 = .ok (.getfield 65, 3) := by decide +kernel
theorem dX12_whom_4 : decode cX12_whom 4 = .ok (.iload_n 1, 1) := by decide +kernel
theorem dX12_whom_5 : decode cX12_whom 5 = .ok (.invokevirtual 147, 3) := by decide +kernel
theorem dX12_whom_8 : decode cX12_whom 8 = .ok (.ifCond .ne 5, 3) := by decide +kernel
theorem dX12_whom_11 : decode cX12_whom 11 = .ok (.iconst (-1), 1) := by decide +kernel
theorem dX12_whom_12 : decode cX12_whom 12 = .ok (.ireturn, 1) := by decide +kernel
theorem dX12_whom_13 : decode cX12_whom 13 = .ok (.aload_n 0, 1) := by decide +kernel
theorem dX12_whom_14 : decode cX12_whom 14 = .ok (.getfield 28, 3) := by decide +kernel
theorem dX12_whom_17 : decode cX12_whom 17 = .ok (.aload_n 0, 1) := by decide +kernel
theorem dX12_whom_18 : decode cX12_whom 18 = .ok (.getfield 65, 3) := by decide +kernel
theorem dX12_whom_21 : decode cX12_whom 21 = .ok (.aload_n 0, 1) := by decide +kernel
theorem dX12_whom_22 : decode cX12_whom 22 = .ok (.getfield 35, 3) := by decide +kernel
theorem dX12_whom_25 : decode cX12_whom 25 = .ok (.iload_n 1, 1) := by decide +kernel
theorem dX12_whom_26 : decode cX12_whom 26 = .ok (.aload_n 0, 1) := by decide +kernel
theorem dX12_whom_27 : decode cX12_whom 27 = .ok (.getfield 65, 3) := by decide +kernel
theorem dX12_whom_30 : decode cX12_whom 30 = .ok (.getfield 215, 3) := by decide +kernel
theorem dX12_whom_33 : decode cX12_whom 33 = .ok (.invokevirtual 218, 3) := by decide +kernel
theorem dX12_whom_36 : decode cX12_whom 36 = .ok (.ireturn, 1) := by decide +kernel
theorem dX12_terms_0 : decode cX12_terms 0 = .ok (.aload_n 0, 1) := by decide +kernel
theorem dX12_terms_1 : decode cX12_terms 1 = .ok (.getfield 65, 3) := by decide +kernel
theorem dX12_terms_4 : decode cX12_terms 4 = .ok (.iload_n 1, 1) := by decide +kernel
theorem dX12_terms_5 : decode cX12_terms 5 = .ok (.invokevirtual 147, 3) := by decide +kernel
theorem dX12_terms_8 : decode cX12_terms 8 = .ok (.ifCond .ne 5, 3) := by decide +kernel
theorem dX12_terms_11 : decode cX12_terms 11 = .ok (.iconst (-1), 1) := by decide +kernel
theorem dX12_terms_12 : decode cX12_terms 12 = .ok (.ireturn, 1) := by decide +kernel
theorem dX12_terms_13 : decode cX12_terms 13 = .ok (.aload_n 0, 1) := by decide +kernel
theorem dX12_terms_14 : decode cX12_terms 14 = .ok (.getfield 28, 3) := by decide +kernel
theorem dX12_terms_17 : decode cX12_terms 17 = .ok (.aload_n 0, 1) := by decide +kernel
theorem dX12_terms_18 : decode cX12_terms 18 = .ok (.getfield 65, 3) := by decide +kernel
theorem dX12_terms_21 : decode cX12_terms 21 = .ok (.aload_n 0, 1) := by decide +kernel
theorem dX12_terms_22 : decode cX12_terms 22 = .ok (.getfield 35, 3) := by decide +kernel
theorem dX12_terms_25 : decode cX12_terms 25 = .ok (.iload_n 1, 1) := by decide +kernel
theorem dX12_terms_26 : decode cX12_terms 26 = .ok (.bipush 12, 2) := by decide +kernel
theorem dX12_terms_28 : decode cX12_terms 28 = .ok (.invokevirtual 218, 3) := by decide +kernel
theorem dX12_terms_31 : decode cX12_terms 31 = .ok (.istore_n 2, 1) := by decide +kernel
theorem dX12_terms_32 : decode cX12_terms 32 = .ok (.iload_n 2, 1) := by decide +kernel
theorem dX12_terms_33 : decode cX12_terms 33 = .ok (.iconst (-1), 1) := by decide +kernel
theorem dX12_terms_34 : decode cX12_terms 34 = .ok (.if_icmp .ne 5, 3) := by decide +kernel
theorem dX12_terms_37 : decode cX12_terms 37 = .ok (.iconst (-1), 1) := by decide +kernel
theorem dX12_terms_38 : decode cX12_terms 38 = .ok (.ireturn, 1) := by decide +kernel
theorem dX12_terms_39 : decode cX12_terms 39 = .ok (.iconst 1, 1) := by decide +kernel
theorem dX12_terms_40 : decode cX12_terms 40 = .ok (.aload_n 0, 1) := by decide +kernel
theorem dX12_terms_41 : decode cX12_terms 41 = .ok (.getfield 65, 3) := by decide +kernel
theorem dX12_terms_44 : decode cX12_terms 44 = .ok (.iload_n 2, 1) := by decide +kernel
theorem dX12_terms_45 : decode cX12_terms 45 = .ok (.aload_n 0, 1) := by decide +kernel
theorem dX12_terms_46 : decode cX12_terms 46 = .ok (.getfield 35, 3) := by decide +kernel
theorem dX12_terms_49 : decode cX12_terms 49 = .ok (.getfield 150, 3) := by decide +kernel
theorem dX12_terms_52 : decode cX12_terms 52 = .ok (.iload_n 1, 1) := by decide +kernel
theorem dX12_terms_53 : decode cX12_terms 53 = .ok (.invokestatic 128, 3) := by decide +kernel
theorem dX12_terms_56 : decode cX12_terms 56 = .ok (.invokevirtual 211, 3) := by decide +kernel
theorem dX12_terms_59 : decode cX12_terms 59 = .ok (.invokestatic 222, 3) := by decide +kernel
theorem dX12_terms_62 : decode cX12_terms 62 = .ok (.ireturn, 1) := by decide +kernel
theorem dX12_headings_0 : decode cX12_headings 0 = .ok (.iload_n 1, 1) := by decide +kernel
theorem dX12_headings_1 : decode cX12_headings 1 = .ok (.iconst 1, 1) := by decide +kernel
theorem dX12_headings_2 : decode cX12_headings 2 = .ok (.iconst 5, 1) := by decide +kernel
theorem dX12_headings_3 : decode cX12_headings 3 = .ok (.invokestatic 227, 3) := by decide +kernel
theorem dX12_headings_6 : decode cX12_headings 6 = .ok (.ifCond .eq 12, 3) := by decide +kernel
theorem dX12_headings_9 : decode cX12_headings 9 = .ok (.iload_n 2, 1) := by decide +kernel
theorem dX12_headings_10 : decode cX12_headings 10 = .ok (.iconst 0, 1) := by decide +kernel
theorem dX12_headings_11 : decode cX12_headings 11 = .ok (.iload_n 1, 1) := by decide +kernel
theorem dX12_headings_12 : decode cX12_headings 12 = .ok (.invokestatic 227, 3) := by decide +kernel
theorem dX12_headings_15 : decode cX12_headings 15 = .ok (.ifCond .ne 6, 3) := by decide +kernel
theorem dX12_headings_18 : decode cX12_headings 18 = .ok (.bipush (-2), 2) := by decide +kernel
theorem dX12_headings_20 : decode cX12_headings 20 = .ok (.ireturn, 1) := by decide +kernel
theorem dX12_headings_21 : decode cX12_headings 21 = .ok (.aload_n 0, 1) := by decide +kernel
theorem dX12_headings_22 : decode cX12_headings 22 = .ok (.getfield 35, 3) := by decide +kernel
theorem dX12_headings_25 : decode cX12_headings 25 = .ok (.getfield 231, 3) := by decide +kernel
theorem dX12_headings_28 : decode cX12_headings 28 = .ok (.iconst (-1), 1) := by decide +kernel
theorem dX12_headings_29 : decode cX12_headings 29 = .ok (.if_icmp .eq 13, 3) := by decide +kernel
theorem dX12_headings_32 : decode cX12_headings 32 = .ok (.aload_n 0, 1) := by decide +kernel
theorem dX12_headings_33 : decode cX12_headings 33 = .ok (.getfield 65, 3) := by decide +kernel
theorem dX12_headings_36 : decode cX12_headings 36 = .ok (.getfield 234, 3) := by decide +kernel
theorem dX12_headings_39 : decode cX12_headings 39 = .ok (.ifCond .ne 6, 3) := by decide +kernel
theorem dX12_headings_42 : decode cX12_headings 42 = .ok (.bipush (-2), 2) := by decide +kernel
theorem dX12_headings_44 : decode cX12_headings 44 = .ok (.ireturn, 1) := by decide +kernel
theorem dX12_headings_45 : decode cX12_headings 45 = .ok (.aload_n 0, 1) := by decide +kernel
theorem dX12_headings_46 : decode cX12_headings 46 = .ok (.getfield 28, 3) := by decide +kernel
theorem dX12_headings_49 : decode cX12_headings 49 = .ok (.aload_n 0, 1) := by decide +kernel
theorem dX12_headings_50 : decode cX12_headings 50 = .ok (.getfield 65, 3) := by decide +kernel
theorem dX12_headings_53 : decode cX12_headings 53 = .ok (.aload_n 0, 1) := by decide +kernel
theorem dX12_headings_54 : decode cX12_headings 54 = .ok (.getfield 35, 3) := by decide +kernel
theorem dX12_headings_57 : decode cX12_headings 57 = .ok (.iload_n 1, 1) := by decide +kernel
theorem dX12_headings_58 : decode cX12_headings 58 = .ok (.invokevirtual 237, 3) := by decide +kernel
theorem dX12_headings_61 : decode cX12_headings 61 = .ok (.iload_n 2, 1) := by decide +kernel
theorem dX12_headings_62 : decode cX12_headings 62 = .ok (.ifCond .ne 13, 3) := by decide +kernel
theorem dX12_headings_65 : decode cX12_headings 65 = .ok (.aload_n 0, 1) := by decide +kernel
theorem dX12_headings_66 : decode cX12_headings 66 = .ok (.getfield 28, 3) := by decide +kernel
theorem dX12_headings_69 : decode cX12_headings 69 = .ok (.getfield 241, 3) := by decide +kernel
theorem dX12_headings_72 : decode cX12_headings 72 = .ok (.goto 16, 3) := by decide +kernel
theorem dX12_headings_75 : decode cX12_headings 75 = .ok (.aload_n 0, 1) := by decide +kernel
theorem dX12_headings_76 : decode cX12_headings 76 = .ok (.getfield 28, 3) := by decide +kernel
theorem dX12_headings_79 : decode cX12_headings 79 = .ok (.getfield 244, 3) := by decide +kernel
theorem dX12_headings_82 : decode cX12_headings 82 = .ok (.iload_n 2, 1) := by decide +kernel
theorem dX12_headings_83 : decode cX12_headings 83 = .ok (.iconst 1, 1) := by decide +kernel
theorem dX12_headings_84 : decode cX12_headings 84 = .ok (.isub, 1) := by decide +kernel
theorem dX12_headings_85 : decode cX12_headings 85 = .ok (.invokestatic 128, 3) := by decide +kernel
theorem dX12_headings_88 : decode cX12_headings 88 = .ok (.ireturn, 1) := by decide +kernel
theorem dX12_all_0 : decode cX12_all 0 = .ok (.iload_n 1, 1) := by decide +kernel
theorem dX12_all_1 : decode cX12_all 1 = .ok (.iconst (-1), 1) := by decide +kernel
theorem dX12_all_2 : decode cX12_all 2 = .ok (.if_icmp .eq 17, 3) := by decide +kernel
theorem dX12_all_5 : decode cX12_all 5 = .ok (.aload_n 0, 1) := by decide +kernel
theorem dX12_all_6 : decode cX12_all 6 = .ok (.getfield 65, 3) := by decide +kernel
theorem dX12_all_9 : decode cX12_all 9 = .ok (.iload_n 1, 1) := by decide +kernel
theorem dX12_all_10 : decode cX12_all 10 = .ok (.invokevirtual 147, 3) := by decide +kernel
theorem dX12_all_13 : decode cX12_all 13 = .ok (.ifCond .ne 6, 3) := by decide +kernel
theorem dX12_all_16 : decode cX12_all 16 = .ok (.bipush (-2), 2) := by decide +kernel
theorem dX12_all_18 : decode cX12_all 18 = .ok (.ireturn, 1) := by decide +kernel
theorem dX12_all_19 : decode cX12_all 19 = .ok (.aload_n 0, 1) := by decide +kernel
theorem dX12_all_20 : decode cX12_all 20 = .ok (.getfield 35, 3) := by decide +kernel
theorem dX12_all_23 : decode cX12_all 23 = .ok (.invokevirtual 247, 3) := by decide +kernel
theorem dX12_all_26 : decode cX12_all 26 = .ok (.aload_n 0, 1) := by decide +kernel
theorem dX12_all_27 : decode cX12_all 27 = .ok (.getfield 65, 3) := by decide +kernel
theorem dX12_all_30 : decode cX12_all 30 = .ok (.getfield 250, 3) := by decide +kernel
theorem dX12_all_33 : decode cX12_all 33 = .ok (.if_icmp .le 6, 3) := by decide +kernel
theorem dX12_all_36 : decode cX12_all 36 = .ok (.bipush (-2), 2) := by decide +kernel
theorem dX12_all_38 : decode cX12_all 38 = .ok (.ireturn, 1) := by decide +kernel
theorem dX12_all_39 : decode cX12_all 39 = .ok (.aload_n 0, 1) := by decide +kernel
theorem dX12_all_40 : decode cX12_all 40 = .ok (.getfield 28, 3) := by decide +kernel
theorem dX12_all_43 : decode cX12_all 43 = .ok (.aload_n 0, 1) := by decide +kernel
theorem dX12_all_44 : decode cX12_all 44 = .ok (.getfield 65, 3) := by decide +kernel
theorem dX12_all_47 : decode cX12_all 47 = .ok (.aload_n 0, 1) := by decide +kernel
theorem dX12_all_48 : decode cX12_all 48 = .ok (.getfield 35, 3) := by decide +kernel
theorem dX12_all_51 : decode cX12_all 51 = .ok (.invokevirtual 253, 3) := by decide +kernel
theorem dX12_all_54 : decode cX12_all 54 = .ok (.iload_n 1, 1) := by decide +kernel
theorem dX12_all_55 : decode cX12_all 55 = .ok (.iconst (-1), 1) := by decide +kernel
theorem dX12_all_56 : decode cX12_all 56 = .ok (.if_icmp .ne 13, 3) := by decide +kernel
theorem dX12_all_59 : decode cX12_all 59 = .ok (.aload_n 0, 1) := by decide +kernel
theorem dX12_all_60 : decode cX12_all 60 = .ok (.getfield 28, 3) := by decide +kernel
theorem dX12_all_63 : decode cX12_all 63 = .ok (.getfield 241, 3) := by decide +kernel
theorem dX12_all_66 : decode cX12_all 66 = .ok (.goto 14, 3) := by decide +kernel
theorem dX12_all_69 : decode cX12_all 69 = .ok (.aload_n 0, 1) := by decide +kernel
theorem dX12_all_70 : decode cX12_all 70 = .ok (.getfield 28, 3) := by decide +kernel
theorem dX12_all_73 : decode cX12_all 73 = .ok (.getfield 244, 3) := by decide +kernel
theorem dX12_all_76 : decode cX12_all 76 = .ok (.iload_n 1, 1) := by decide +kernel
theorem dX12_all_77 : decode cX12_all 77 = .ok (.invokestatic 128, 3) := by decide +kernel
theorem dX12_all_80 : decode cX12_all 80 = .ok (.ireturn, 1) := by decide +kernel
theorem dX12_waits_0 : decode cX12_waits 0 = .ok (.iload_n 1, 1) := by decide +kernel
theorem dX12_waits_1 : decode cX12_waits 1 = .ok (.iconst 1, 1) := by decide +kernel
theorem dX12_waits_2 : decode cX12_waits 2 = .ok (.sipush 495, 3) := by decide +kernel
theorem dX12_waits_5 : decode cX12_waits 5 = .ok (.invokestatic 227, 3) := by decide +kernel
theorem dX12_waits_8 : decode cX12_waits 8 = .ok (.ifCond .ne 5, 3) := by decide +kernel
theorem dX12_waits_11 : decode cX12_waits 11 = .ok (.iconst (-1), 1) := by decide +kernel
theorem dX12_waits_12 : decode cX12_waits 12 = .ok (.ireturn, 1) := by decide +kernel
theorem dX12_waits_13 : decode cX12_waits 13 = .ok (.iconst 0, 1) := by decide +kernel
theorem dX12_waits_14 : decode cX12_waits 14 = .ok (.istore_n 2, 1) := by decide +kernel
theorem dX12_waits_15 : decode cX12_waits 15 = .ok (.iload_n 2, 1) := by decide +kernel
theorem dX12_waits_16 : decode cX12_waits 16 = .ok (.bipush 99, 2) := by decide +kernel
theorem dX12_waits_18 : decode cX12_waits 18 = .ok (.if_icmp .gt 28, 3) := by decide +kernel
theorem dX12_waits_21 : decode cX12_waits 21 = .ok (.aload_n 0, 1) := by decide +kernel
theorem dX12_waits_22 : decode cX12_waits 22 = .ok (.getfield 35, 3) := by decide +kernel
theorem dX12_waits_25 : decode cX12_waits 25 = .ok (.aload_n 0, 1) := by decide +kernel
theorem dX12_waits_26 : decode cX12_waits 26 = .ok (.getfield 65, 3) := by decide +kernel
theorem dX12_waits_29 : decode cX12_waits 29 = .ok (.iconst (-1), 1) := by decide +kernel
theorem dX12_waits_30 : decode cX12_waits 30 = .ok (.iload_n 2, 1) := by decide +kernel
theorem dX12_waits_31 : decode cX12_waits 31 = .ok (.invokevirtual 257, 3) := by decide +kernel
theorem dX12_waits_34 : decode cX12_waits 34 = .ok (.iload_n 1, 1) := by decide +kernel
theorem dX12_waits_35 : decode cX12_waits 35 = .ok (.if_icmp .lt 5, 3) := by decide +kernel
theorem dX12_waits_38 : decode cX12_waits 38 = .ok (.iload_n 2, 1) := by decide +kernel
theorem dX12_waits_39 : decode cX12_waits 39 = .ok (.ireturn, 1) := by decide +kernel
theorem dX12_waits_40 : decode cX12_waits 40 = .ok (.iinc 2 1, 3) := by decide +kernel
theorem dX12_waits_43 : decode cX12_waits 43 = .ok (.goto (-28), 3) := by decide +kernel
theorem dX12_waits_46 : decode cX12_waits 46 = .ok (.iconst (-1), 1) := by decide +kernel
theorem dX12_waits_47 : decode cX12_waits 47 = .ok (.ireturn, 1) := by decide +kernel
theorem dX12_chance_0 : decode cX12_chance 0 = .ok (.aload_n 0, 1) := by decide +kernel
theorem dX12_chance_1 : decode cX12_chance 1 = .ok (.getfield 65, 3) := by decide +kernel
theorem dX12_chance_4 : decode cX12_chance 4 = .ok (.iload_n 1, 1) := by decide +kernel
theorem dX12_chance_5 : decode cX12_chance 5 = .ok (.invokevirtual 120, 3) := by decide +kernel
theorem dX12_chance_8 : decode cX12_chance 8 = .ok (.ifCond .eq 14, 3) := by decide +kernel
theorem dX12_chance_11 : decode cX12_chance 11 = .ok (.aload_n 0, 1) := by decide +kernel
theorem dX12_chance_12 : decode cX12_chance 12 = .ok (.getfield 65, 3) := by decide +kernel
theorem dX12_chance_15 : decode cX12_chance 15 = .ok (.iload_n 2, 1) := by decide +kernel
theorem dX12_chance_16 : decode cX12_chance 16 = .ok (.invokevirtual 147, 3) := by decide +kernel
theorem dX12_chance_19 : decode cX12_chance 19 = .ok (.ifCond .ne 14, 3) := by decide +kernel
theorem dX12_chance_22 : decode cX12_chance 22 = .ok (.new 260, 3) := by decide +kernel
theorem dX12_chance_25 : decode cX12_chance 25 = .ok (.dup, 1) := by decide +kernel
theorem dX12_chance_26 : decode cX12_chance 26 = .ok (.ldc_w 262, 3) := by decide +kernel
theorem dX12_chance_29 : decode cX12_chance 29 = .ok (.invokespecial 264, 3) := by decide +kernel
theorem dX12_chance_32 : decode cX12_chance 32 = .ok (.athrow, 1) := by decide +kernel
theorem dX12_chance_33 : decode cX12_chance 33 = .ok (.iload_n 3, 1) := by decide +kernel
theorem dX12_chance_34 : decode cX12_chance 34 = .ok (.iconst 0, 1) := by decide +kernel
theorem dX12_chance_35 : decode cX12_chance 35 = .ok (.bipush 10, 2) := by decide +kernel
theorem dX12_chance_37 : decode cX12_chance 37 = .ok (.invokestatic 227, 3) := by decide +kernel
theorem dX12_chance_40 : decode cX12_chance 40 = .ok (.ifCond .eq 14, 3) := by decide +kernel
theorem dX12_chance_43 : decode cX12_chance 43 = .ok (.iload 4, 2) := by decide +kernel
theorem dX12_chance_45 : decode cX12_chance 45 = .ok (.iconst 1, 1) := by decide +kernel
theorem dX12_chance_46 : decode cX12_chance 46 = .ok (.bipush 12, 2) := by decide +kernel
theorem dX12_chance_48 : decode cX12_chance 48 = .ok (.invokestatic 227, 3) := by decide +kernel
theorem dX12_chance_51 : decode cX12_chance 51 = .ok (.ifCond .ne 14, 3) := by decide +kernel
theorem dX12_chance_54 : decode cX12_chance 54 = .ok (.new 260, 3) := by decide +kernel
theorem dX12_chance_57 : decode cX12_chance 57 = .ok (.dup, 1) := by decide +kernel
theorem dX12_chance_58 : decode cX12_chance 58 = .ok (.ldc_w 267, 3) := by decide +kernel
theorem dX12_chance_61 : decode cX12_chance 61 = .ok (.invokespecial 264, 3) := by decide +kernel
theorem dX12_chance_64 : decode cX12_chance 64 = .ok (.athrow, 1) := by decide +kernel
theorem dX12_chance_65 : decode cX12_chance 65 = .ok (.aload_n 0, 1) := by decide +kernel
theorem dX12_chance_66 : decode cX12_chance 66 = .ok (.getfield 28, 3) := by decide +kernel
theorem dX12_chance_69 : decode cX12_chance 69 = .ok (.aload_n 0, 1) := by decide +kernel
theorem dX12_chance_70 : decode cX12_chance 70 = .ok (.getfield 65, 3) := by decide +kernel
theorem dX12_chance_73 : decode cX12_chance 73 = .ok (.iload_n 1, 1) := by decide +kernel
theorem dX12_chance_74 : decode cX12_chance 74 = .ok (.iload_n 2, 1) := by decide +kernel
theorem dX12_chance_75 : decode cX12_chance 75 = .ok (.aload_n 0, 1) := by decide +kernel
theorem dX12_chance_76 : decode cX12_chance 76 = .ok (.getfield 35, 3) := by decide +kernel
theorem dX12_chance_79 : decode cX12_chance 79 = .ok (.getfield 150, 3) := by decide +kernel
theorem dX12_chance_82 : decode cX12_chance 82 = .ok (.iload_n 2, 1) := by decide +kernel
theorem dX12_chance_83 : decode cX12_chance 83 = .ok (.invokestatic 128, 3) := by decide +kernel
theorem dX12_chance_86 : decode cX12_chance 86 = .ok (.iload_n 3, 1) := by decide +kernel
theorem dX12_chance_87 : decode cX12_chance 87 = .ok (.iload 4, 2) := by decide +kernel
theorem dX12_chance_89 : decode cX12_chance 89 = .ok (.invokevirtual 269, 3) := by decide +kernel
theorem dX12_chance_92 : decode cX12_chance 92 = .ok (.ireturn, 1) := by decide +kernel
theorem dX12_falls_0 : decode cX12_falls 0 = .ok (.aload_n 0, 1) := by decide +kernel
theorem dX12_falls_1 : decode cX12_falls 1 = .ok (.getfield 65, 3) := by decide +kernel
theorem dX12_falls_4 : decode cX12_falls 4 = .ok (.iload_n 1, 1) := by decide +kernel
theorem dX12_falls_5 : decode cX12_falls 5 = .ok (.invokevirtual 273, 3) := by decide +kernel
theorem dX12_falls_8 : decode cX12_falls 8 = .ok (.ifCond .eq 14, 3) := by decide +kernel
theorem dX12_falls_11 : decode cX12_falls 11 = .ok (.aload_n 0, 1) := by decide +kernel
theorem dX12_falls_12 : decode cX12_falls 12 = .ok (.getfield 65, 3) := by decide +kernel
theorem dX12_falls_15 : decode cX12_falls 15 = .ok (.iload_n 1, 1) := by decide +kernel
theorem dX12_falls_16 : decode cX12_falls 16 = .ok (.invokevirtual 276, 3) := by decide +kernel
theorem dX12_falls_19 : decode cX12_falls 19 = .ok (.goto 4, 3) := by decide +kernel
theorem dX12_falls_22 : decode cX12_falls 22 = .ok (.iconst (-1), 1) := by decide +kernel
theorem dX12_falls_23 : decode cX12_falls 23 = .ok (.ireturn, 1) := by decide +kernel
theorem dX12_anew_0 : decode cX12_anew 0 = .ok (.aload_n 0, 1) := by decide +kernel
theorem dX12_anew_1 : decode cX12_anew 1 = .ok (.getfield 65, 3) := by decide +kernel
theorem dX12_anew_4 : decode cX12_anew 4 = .ok (.iload_n 1, 1) := by decide +kernel
theorem dX12_anew_5 : decode cX12_anew 5 = .ok (.invokevirtual 273, 3) := by decide +kernel
theorem dX12_anew_8 : decode cX12_anew 8 = .ok (.ifCond .eq 20, 3) := by decide +kernel
theorem dX12_anew_11 : decode cX12_anew 11 = .ok (.iload_n 2, 1) := by decide +kernel
theorem dX12_anew_12 : decode cX12_anew 12 = .ok (.iconst 0, 1) := by decide +kernel
theorem dX12_anew_13 : decode cX12_anew 13 = .ok (.aload_n 0, 1) := by decide +kernel
theorem dX12_anew_14 : decode cX12_anew 14 = .ok (.getfield 65, 3) := by decide +kernel
theorem dX12_anew_17 : decode cX12_anew 17 = .ok (.getfield 280, 3) := by decide +kernel
theorem dX12_anew_20 : decode cX12_anew 20 = .ok (.iconst 1, 1) := by decide +kernel
theorem dX12_anew_21 : decode cX12_anew 21 = .ok (.isub, 1) := by decide +kernel
theorem dX12_anew_22 : decode cX12_anew 22 = .ok (.invokestatic 227, 3) := by decide +kernel
theorem dX12_anew_25 : decode cX12_anew 25 = .ok (.ifCond .ne 5, 3) := by decide +kernel
theorem dX12_anew_28 : decode cX12_anew 28 = .ok (.iconst (-1), 1) := by decide +kernel
theorem dX12_anew_29 : decode cX12_anew 29 = .ok (.ireturn, 1) := by decide +kernel
theorem dX12_anew_30 : decode cX12_anew 30 = .ok (.aload_n 0, 1) := by decide +kernel
theorem dX12_anew_31 : decode cX12_anew 31 = .ok (.getfield 65, 3) := by decide +kernel
theorem dX12_anew_34 : decode cX12_anew 34 = .ok (.iload_n 1, 1) := by decide +kernel
theorem dX12_anew_35 : decode cX12_anew 35 = .ok (.invokevirtual 276, 3) := by decide +kernel
theorem dX12_anew_38 : decode cX12_anew 38 = .ok (.aload_n 0, 1) := by decide +kernel
theorem dX12_anew_39 : decode cX12_anew 39 = .ok (.getfield 65, 3) := by decide +kernel
theorem dX12_anew_42 : decode cX12_anew 42 = .ok (.iload_n 2, 1) := by decide +kernel
theorem dX12_anew_43 : decode cX12_anew 43 = .ok (.invokevirtual 283, 3) := by decide +kernel
theorem dX12_anew_46 : decode cX12_anew 46 = .ok (.iand, 1) := by decide +kernel
theorem dX12_anew_47 : decode cX12_anew 47 = .ok (.ireturn, 1) := by decide +kernel
theorem dX12_tell_0 : decode cX12_tell 0 = .ok (.aload_n 0, 1) := by decide +kernel
theorem dX12_tell_1 : decode cX12_tell 1 = .ok (.getfield 65, 3) := by decide +kernel
theorem dX12_tell_4 : decode cX12_tell 4 = .ok (.iload_n 1, 1) := by decide +kernel
theorem dX12_tell_5 : decode cX12_tell 5 = .ok (.invokevirtual 147, 3) := by decide +kernel
theorem dX12_tell_8 : decode cX12_tell 8 = .ok (.ifCond .eq 23, 3) := by decide +kernel
theorem dX12_tell_11 : decode cX12_tell 11 = .ok (.iload_n 2, 1) := by decide +kernel
theorem dX12_tell_12 : decode cX12_tell 12 = .ok (.iconst 0, 1) := by decide +kernel
theorem dX12_tell_13 : decode cX12_tell 13 = .ok (.bipush 12, 2) := by decide +kernel
theorem dX12_tell_15 : decode cX12_tell 15 = .ok (.invokestatic 227, 3) := by decide +kernel
theorem dX12_tell_18 : decode cX12_tell 18 = .ok (.ifCond .eq 13, 3) := by decide +kernel
theorem dX12_tell_21 : decode cX12_tell 21 = .ok (.iload_n 3, 1) := by decide +kernel
theorem dX12_tell_22 : decode cX12_tell 22 = .ok (.iconst 0, 1) := by decide +kernel
theorem dX12_tell_23 : decode cX12_tell 23 = .ok (.bipush 99, 2) := by decide +kernel
theorem dX12_tell_25 : decode cX12_tell 25 = .ok (.invokestatic 227, 3) := by decide +kernel
theorem dX12_tell_28 : decode cX12_tell 28 = .ok (.ifCond .ne 5, 3) := by decide +kernel
theorem dX12_tell_31 : decode cX12_tell 31 = .ok (.iconst 0, 1) := by decide +kernel
theorem dX12_tell_32 : decode cX12_tell 32 = .ok (.ireturn, 1) := by decide +kernel
theorem dX12_tell_33 : decode cX12_tell 33 = .ok (.aload_n 0, 1) := by decide +kernel
theorem dX12_tell_34 : decode cX12_tell 34 = .ok (.getfield 52, 3) := by decide +kernel
theorem dX12_tell_37 : decode cX12_tell 37 = .ok (.iload_n 1, 1) := by decide +kernel
theorem dX12_tell_38 : decode cX12_tell 38 = .ok (.iload_n 2, 1) := by decide +kernel
theorem dX12_tell_39 : decode cX12_tell 39 = .ok (.iload_n 3, 1) := by decide +kernel
theorem dX12_tell_40 : decode cX12_tell 40 = .ok (.invokevirtual 286, 3) := by decide +kernel
theorem dX12_tell_43 : decode cX12_tell 43 = .ok (.ireturn, 1) := by decide +kernel
theorem dX12_who_0 : decode cX12_who 0 = .ok (.aload_n 0, 1) := by decide +kernel
theorem dX12_who_1 : decode cX12_who 1 = .ok (.getfield 52, 3) := by decide +kernel
theorem dX12_who_4 : decode cX12_who 4 = .ok (.aload_n 0, 1) := by decide +kernel
theorem dX12_who_5 : decode cX12_who 5 = .ok (.getfield 65, 3) := by decide +kernel
theorem dX12_who_8 : decode cX12_who 8 = .ok (.invokevirtual 289, 3) := by decide +kernel
theorem dX12_who_11 : decode cX12_who 11 = .ok (.ireturn, 1) := by decide +kernel
theorem dX12_when_0 : decode cX12_when 0 = .ok (.aload_n 0, 1) := by decide +kernel
theorem dX12_when_1 : decode cX12_when 1 = .ok (.getfield 65, 3) := by decide +kernel
theorem dX12_when_4 : decode cX12_when 4 = .ok (.iload_n 1, 1) := by decide +kernel
theorem dX12_when_5 : decode cX12_when 5 = .ok (.invokevirtual 147, 3) := by decide +kernel
theorem dX12_when_8 : decode cX12_when 8 = .ok (.ifCond .ne 5, 3) := by decide +kernel
theorem dX12_when_11 : decode cX12_when 11 = .ok (.iconst (-1), 1) := by decide +kernel
theorem dX12_when_12 : decode cX12_when 12 = .ok (.ireturn, 1) := by decide +kernel
theorem dX12_when_13 : decode cX12_when 13 = .ok (.aload_n 0, 1) := by decide +kernel
theorem dX12_when_14 : decode cX12_when 14 = .ok (.getfield 28, 3) := by decide +kernel
theorem dX12_when_17 : decode cX12_when 17 = .ok (.aload_n 0, 1) := by decide +kernel
theorem dX12_when_18 : decode cX12_when 18 = .ok (.getfield 65, 3) := by decide +kernel
theorem dX12_when_21 : decode cX12_when 21 = .ok (.iload_n 1, 1) := by decide +kernel
theorem dX12_when_22 : decode cX12_when 22 = .ok (.aload_n 0, 1) := by decide +kernel
theorem dX12_when_23 : decode cX12_when 23 = .ok (.getfield 52, 3) := by decide +kernel
theorem dX12_when_26 : decode cX12_when 26 = .ok (.aload_n 0, 1) := by decide +kernel
theorem dX12_when_27 : decode cX12_when 27 = .ok (.getfield 65, 3) := by decide +kernel
theorem dX12_when_30 : decode cX12_when 30 = .ok (.invokevirtual 289, 3) := by decide +kernel
theorem dX12_when_33 : decode cX12_when 33 = .ok (.invokevirtual 292, 3) := by decide +kernel
theorem dX12_when_36 : decode cX12_when 36 = .ok (.ireturn, 1) := by decide +kernel
theorem dX12_rests_0 : decode cX12_rests 0 = .ok (.iload_n 1, 1) := by decide +kernel
theorem dX12_rests_1 : decode cX12_rests 1 = .ok (.iconst 0, 1) := by decide +kernel
theorem dX12_rests_2 : decode cX12_rests 2 = .ok (.bipush 9, 2) := by decide +kernel
theorem dX12_rests_4 : decode cX12_rests 4 = .ok (.invokestatic 227, 3) := by decide +kernel
theorem dX12_rests_7 : decode cX12_rests 7 = .ok (.ifCond .eq 23, 3) := by decide +kernel
theorem dX12_rests_10 : decode cX12_rests 10 = .ok (.iload_n 2, 1) := by decide +kernel
theorem dX12_rests_11 : decode cX12_rests 11 = .ok (.iconst 0, 1) := by decide +kernel
theorem dX12_rests_12 : decode cX12_rests 12 = .ok (.bipush 9, 2) := by decide +kernel
theorem dX12_rests_14 : decode cX12_rests 14 = .ok (.invokestatic 227, 3) := by decide +kernel
theorem dX12_rests_17 : decode cX12_rests 17 = .ok (.ifCond .eq 13, 3) := by decide +kernel
theorem dX12_rests_20 : decode cX12_rests 20 = .ok (.iload_n 3, 1) := by decide +kernel
theorem dX12_rests_21 : decode cX12_rests 21 = .ok (.iconst 0, 1) := by decide +kernel
theorem dX12_rests_22 : decode cX12_rests 22 = .ok (.bipush 9, 2) := by decide +kernel
theorem dX12_rests_24 : decode cX12_rests 24 = .ok (.invokestatic 227, 3) := by decide +kernel
theorem dX12_rests_27 : decode cX12_rests 27 = .ok (.ifCond .ne 14, 3) := by decide +kernel
theorem dX12_rests_30 : decode cX12_rests 30 = .ok (.new 260, 3) := by decide +kernel
theorem dX12_rests_33 : decode cX12_rests 33 = .ok (.dup, 1) := by decide +kernel
theorem dX12_rests_34 : decode cX12_rests 34 = .ok (.ldc_w 295, 3) := by decide +kernel
theorem dX12_rests_37 : decode cX12_rests 37 = .ok (.invokespecial 264, 3) := by decide +kernel
theorem dX12_rests_40 : decode cX12_rests 40 = .ok (.athrow, 1) := by decide +kernel
theorem dX12_rests_41 : decode cX12_rests 41 = .ok (.iconst 0, 1) := by decide +kernel
theorem dX12_rests_42 : decode cX12_rests 42 = .ok (.istore 5, 2) := by decide +kernel
theorem dX12_rests_44 : decode cX12_rests 44 = .ok (.iconst 0, 1) := by decide +kernel
theorem dX12_rests_45 : decode cX12_rests 45 = .ok (.istore 6, 2) := by decide +kernel
theorem dX12_rests_47 : decode cX12_rests 47 = .ok (.iload 6, 2) := by decide +kernel
theorem dX12_rests_49 : decode cX12_rests 49 = .ok (.iconst 4, 1) := by decide +kernel
theorem dX12_rests_50 : decode cX12_rests 50 = .ok (.if_icmp .ge 33, 3) := by decide +kernel
theorem dX12_rests_53 : decode cX12_rests 53 = .ok (.iload_n 1, 1) := by decide +kernel
theorem dX12_rests_54 : decode cX12_rests 54 = .ok (.iload_n 2, 1) := by decide +kernel
theorem dX12_rests_55 : decode cX12_rests 55 = .ok (.iload_n 3, 1) := by decide +kernel
theorem dX12_rests_56 : decode cX12_rests 56 = .ok (.iload 6, 2) := by decide +kernel
theorem dX12_rests_58 : decode cX12_rests 58 = .ok (.invokestatic 297, 3) := by decide +kernel
theorem dX12_rests_61 : decode cX12_rests 61 = .ok (.ifCond .eq 16, 3) := by decide +kernel
theorem dX12_rests_64 : decode cX12_rests 64 = .ok (.iload 5, 2) := by decide +kernel
theorem dX12_rests_66 : decode cX12_rests 66 = .ok (.iload 4, 2) := by decide +kernel
theorem dX12_rests_68 : decode cX12_rests 68 = .ok (.if_icmp .ne 6, 3) := by decide +kernel
theorem dX12_rests_71 : decode cX12_rests 71 = .ok (.iload 6, 2) := by decide +kernel
theorem dX12_rests_73 : decode cX12_rests 73 = .ok (.ireturn, 1) := by decide +kernel
theorem dX12_rests_74 : decode cX12_rests 74 = .ok (.iinc 5 1, 3) := by decide +kernel
theorem dX12_rests_77 : decode cX12_rests 77 = .ok (.iinc 6 1, 3) := by decide +kernel
theorem dX12_rests_80 : decode cX12_rests 80 = .ok (.goto (-33), 3) := by decide +kernel
theorem dX12_rests_83 : decode cX12_rests 83 = .ok (.iload 4, 2) := by decide +kernel
theorem dX12_rests_85 : decode cX12_rests 85 = .ok (.iconst (-1), 1) := by decide +kernel
theorem dX12_rests_86 : decode cX12_rests 86 = .ok (.if_icmp .eq 14, 3) := by decide +kernel
theorem dX12_rests_89 : decode cX12_rests 89 = .ok (.new 260, 3) := by decide +kernel
theorem dX12_rests_92 : decode cX12_rests 92 = .ok (.dup, 1) := by decide +kernel
theorem dX12_rests_93 : decode cX12_rests 93 = .ok (.ldc_w 301, 3) := by decide +kernel
theorem dX12_rests_96 : decode cX12_rests 96 = .ok (.invokespecial 264, 3) := by decide +kernel
theorem dX12_rests_99 : decode cX12_rests 99 = .ok (.athrow, 1) := by decide +kernel
theorem dX12_rests_100 : decode cX12_rests 100 = .ok (.iload 5, 2) := by decide +kernel
theorem dX12_rests_102 : decode cX12_rests 102 = .ok (.ireturn, 1) := by decide +kernel
theorem dX12_ages_0 : decode cX12_ages 0 = .ok (.iload_n 1, 1) := by decide +kernel
theorem dX12_ages_1 : decode cX12_ages 1 = .ok (.iconst 0, 1) := by decide +kernel
theorem dX12_ages_2 : decode cX12_ages 2 = .ok (.sipush 9999, 3) := by decide +kernel
theorem dX12_ages_5 : decode cX12_ages 5 = .ok (.invokestatic 227, 3) := by decide +kernel
theorem dX12_ages_8 : decode cX12_ages 8 = .ok (.ifCond .eq 22, 3) := by decide +kernel
theorem dX12_ages_11 : decode cX12_ages 11 = .ok (.iload_n 2, 1) := by decide +kernel
theorem dX12_ages_12 : decode cX12_ages 12 = .ok (.iconst 1, 1) := by decide +kernel
theorem dX12_ages_13 : decode cX12_ages 13 = .ok (.bipush 99, 2) := by decide +kernel
theorem dX12_ages_15 : decode cX12_ages 15 = .ok (.invokestatic 227, 3) := by decide +kernel
theorem dX12_ages_18 : decode cX12_ages 18 = .ok (.ifCond .eq 12, 3) := by decide +kernel
theorem dX12_ages_21 : decode cX12_ages 21 = .ok (.iload_n 3, 1) := by decide +kernel
theorem dX12_ages_22 : decode cX12_ages 22 = .ok (.iconst 0, 1) := by decide +kernel
theorem dX12_ages_23 : decode cX12_ages 23 = .ok (.iconst 2, 1) := by decide +kernel
theorem dX12_ages_24 : decode cX12_ages 24 = .ok (.invokestatic 227, 3) := by decide +kernel
theorem dX12_ages_27 : decode cX12_ages 27 = .ok (.ifCond .ne 5, 3) := by decide +kernel
theorem dX12_ages_30 : decode cX12_ages 30 = .ok (.iconst (-1), 1) := by decide +kernel
theorem dX12_ages_31 : decode cX12_ages 31 = .ok (.ireturn, 1) := by decide +kernel
theorem dX12_ages_32 : decode cX12_ages 32 = .ok (.aload_n 0, 1) := by decide +kernel
theorem dX12_ages_33 : decode cX12_ages 33 = .ok (.getfield 39, 3) := by decide +kernel
theorem dX12_ages_36 : decode cX12_ages 36 = .ok (.aload_n 0, 1) := by decide +kernel
theorem dX12_ages_37 : decode cX12_ages 37 = .ok (.getfield 35, 3) := by decide +kernel
theorem dX12_ages_40 : decode cX12_ages 40 = .ok (.invokevirtual 303, 3) := by decide +kernel
theorem dX12_ages_43 : decode cX12_ages 43 = .ok (.aload_n 0, 1) := by decide +kernel
theorem dX12_ages_44 : decode cX12_ages 44 = .ok (.getfield 28, 3) := by decide +kernel
theorem dX12_ages_47 : decode cX12_ages 47 = .ok (.aload_n 0, 1) := by decide +kernel
theorem dX12_ages_48 : decode cX12_ages 48 = .ok (.getfield 65, 3) := by decide +kernel
theorem dX12_ages_51 : decode cX12_ages 51 = .ok (.aload_n 0, 1) := by decide +kernel
theorem dX12_ages_52 : decode cX12_ages 52 = .ok (.getfield 39, 3) := by decide +kernel
theorem dX12_ages_55 : decode cX12_ages 55 = .ok (.iload_n 1, 1) := by decide +kernel
theorem dX12_ages_56 : decode cX12_ages 56 = .ok (.iload_n 2, 1) := by decide +kernel
theorem dX12_ages_57 : decode cX12_ages 57 = .ok (.invokevirtual 306, 3) := by decide +kernel
theorem dX12_ages_60 : decode cX12_ages 60 = .ok (.iload_n 3, 1) := by decide +kernel
theorem dX12_ages_61 : decode cX12_ages 61 = .ok (.ifCond .ne 11, 3) := by decide +kernel
theorem dX12_ages_64 : decode cX12_ages 64 = .ok (.aload_n 0, 1) := by decide +kernel
theorem dX12_ages_65 : decode cX12_ages 65 = .ok (.getfield 28, 3) := by decide +kernel
theorem dX12_ages_68 : decode cX12_ages 68 = .ok (.getfield 310, 3) := by decide +kernel
theorem dX12_ages_71 : decode cX12_ages 71 = .ok (.ireturn, 1) := by decide +kernel
theorem dX12_ages_72 : decode cX12_ages 72 = .ok (.iload_n 3, 1) := by decide +kernel
theorem dX12_ages_73 : decode cX12_ages 73 = .ok (.iconst 1, 1) := by decide +kernel
theorem dX12_ages_74 : decode cX12_ages 74 = .ok (.if_icmp .ne 13, 3) := by decide +kernel
theorem dX12_ages_77 : decode cX12_ages 77 = .ok (.aload_n 0, 1) := by decide +kernel
theorem dX12_ages_78 : decode cX12_ages 78 = .ok (.getfield 28, 3) := by decide +kernel
theorem dX12_ages_81 : decode cX12_ages 81 = .ok (.getfield 313, 3) := by decide +kernel
theorem dX12_ages_84 : decode cX12_ages 84 = .ok (.goto 20, 3) := by decide +kernel
theorem dX12_ages_87 : decode cX12_ages 87 = .ok (.aload_n 0, 1) := by decide +kernel
theorem dX12_ages_88 : decode cX12_ages 88 = .ok (.getfield 39, 3) := by decide +kernel
theorem dX12_ages_91 : decode cX12_ages 91 = .ok (.getfield 138, 3) := by decide +kernel
theorem dX12_ages_94 : decode cX12_ages 94 = .ok (.aload_n 0, 1) := by decide +kernel
theorem dX12_ages_95 : decode cX12_ages 95 = .ok (.getfield 65, 3) := by decide +kernel
theorem dX12_ages_98 : decode cX12_ages 98 = .ok (.getfield 250, 3) := by decide +kernel
theorem dX12_ages_101 : decode cX12_ages 101 = .ok (.invokestatic 316, 3) := by decide +kernel
theorem dX12_ages_104 : decode cX12_ages 104 = .ok (.ireturn, 1) := by decide +kernel
theorem dX12_mark_0 : decode cX12_mark 0 = .ok (.aload_n 0, 1) := by decide +kernel
theorem dX12_mark_1 : decode cX12_mark 1 = .ok (.iload_n 1, 1) := by decide +kernel
theorem dX12_mark_2 : decode cX12_mark 2 = .ok (.invokevirtual 108, 3) := by decide +kernel
theorem dX12_mark_5 : decode cX12_mark 5 = .ok (.astore_n 3, 1) := by decide +kernel
theorem dX12_mark_6 : decode cX12_mark 6 = .ok (.aload_n 3, 1) := by decide +kernel
theorem dX12_mark_7 : decode cX12_mark 7 = .ok (.ifnonnull 5, 3) := by decide +kernel
theorem dX12_mark_10 : decode cX12_mark 10 = .ok (.iconst 0, 1) := by decide +kernel
theorem dX12_mark_11 : decode cX12_mark 11 = .ok (.ireturn, 1) := by decide +kernel
theorem dX12_mark_12 : decode cX12_mark 12 = .ok (.iload_n 2, 1) := by decide +kernel
theorem dX12_mark_13 : decode cX12_mark 13 = .ok (.ifCond .ne 21, 3) := by decide +kernel
theorem dX12_mark_16 : decode cX12_mark 16 = .ok (.aload_n 3, 1) := by decide +kernel
theorem dX12_mark_17 : decode cX12_mark 17 = .ok (.aload_n 0, 1) := by decide +kernel
theorem dX12_mark_18 : decode cX12_mark 18 = .ok (.getfield 35, 3) := by decide +kernel
theorem dX12_mark_21 : decode cX12_mark 21 = .ok (.aload_n 0, 1) := by decide +kernel
theorem dX12_mark_22 : decode cX12_mark 22 = .ok (.getfield 75, 3) := by decide +kernel
theorem dX12_mark_25 : decode cX12_mark 25 = .ok (.aload_n 0, 1) := by decide +kernel
theorem dX12_mark_26 : decode cX12_mark 26 = .ok (.getfield 52, 3) := by decide +kernel
theorem dX12_mark_29 : decode cX12_mark 29 = .ok (.invokevirtual 319, 3) := by decide +kernel
theorem dX12_mark_32 : decode cX12_mark 32 = .ok (.iconst 1, 1) := by decide +kernel
theorem dX12_mark_33 : decode cX12_mark 33 = .ok (.ireturn, 1) := by decide +kernel
theorem dX12_mark_34 : decode cX12_mark 34 = .ok (.aload_n 3, 1) := by decide +kernel
theorem dX12_mark_35 : decode cX12_mark 35 = .ok (.getfield 112, 3) := by decide +kernel
theorem dX12_mark_38 : decode cX12_mark 38 = .ok (.ifCond .ne 5, 3) := by decide +kernel
theorem dX12_mark_41 : decode cX12_mark 41 = .ok (.iconst 0, 1) := by decide +kernel
theorem dX12_mark_42 : decode cX12_mark 42 = .ok (.ireturn, 1) := by decide +kernel
theorem dX12_mark_43 : decode cX12_mark 43 = .ok (.aload_n 0, 1) := by decide +kernel
theorem dX12_mark_44 : decode cX12_mark 44 = .ok (.getfield 35, 3) := by decide +kernel
theorem dX12_mark_47 : decode cX12_mark 47 = .ok (.aload_n 3, 1) := by decide +kernel
theorem dX12_mark_48 : decode cX12_mark 48 = .ok (.getfield 323, 3) := by decide +kernel
theorem dX12_mark_51 : decode cX12_mark 51 = .ok (.invokevirtual 303, 3) := by decide +kernel
theorem dX12_mark_54 : decode cX12_mark 54 = .ok (.aload_n 0, 1) := by decide +kernel
theorem dX12_mark_55 : decode cX12_mark 55 = .ok (.getfield 75, 3) := by decide +kernel
theorem dX12_mark_58 : decode cX12_mark 58 = .ok (.aload_n 3, 1) := by decide +kernel
theorem dX12_mark_59 : decode cX12_mark 59 = .ok (.getfield 326, 3) := by decide +kernel
theorem dX12_mark_62 : decode cX12_mark 62 = .ok (.invokevirtual 327, 3) := by decide +kernel
theorem dX12_mark_65 : decode cX12_mark 65 = .ok (.aload_n 0, 1) := by decide +kernel
theorem dX12_mark_66 : decode cX12_mark 66 = .ok (.getfield 52, 3) := by decide +kernel
theorem dX12_mark_69 : decode cX12_mark 69 = .ok (.aload_n 3, 1) := by decide +kernel
theorem dX12_mark_70 : decode cX12_mark 70 = .ok (.getfield 330, 3) := by decide +kernel
theorem dX12_mark_73 : decode cX12_mark 73 = .ok (.invokevirtual 331, 3) := by decide +kernel
theorem dX12_mark_76 : decode cX12_mark 76 = .ok (.aload_n 0, 1) := by decide +kernel
theorem dX12_mark_77 : decode cX12_mark 77 = .ok (.getfield 45, 3) := by decide +kernel
theorem dX12_mark_80 : decode cX12_mark 80 = .ok (.iconst 0, 1) := by decide +kernel
theorem dX12_mark_81 : decode cX12_mark 81 = .ok (.putfield 105, 3) := by decide +kernel
theorem dX12_mark_84 : decode cX12_mark 84 = .ok (.iconst 1, 1) := by decide +kernel
theorem dX12_mark_85 : decode cX12_mark 85 = .ok (.ireturn, 1) := by decide +kernel
theorem dX12_count_0 : decode cX12_count 0 = .ok (.iload_n 1, 1) := by decide +kernel
theorem dX12_count_1 : decode cX12_count 1 = .ok (.tableswitch 203 0 14 #[75, 83, 91, 99, 107, 115, 123, 131, 139, 155, 163, 171, 179, 187, 195], 75) := by decide +kernel
theorem dX12_count_76 : decode cX12_count 76 = .ok (.aload_n 0, 1) := by decide +kernel
theorem dX12_count_77 : decode cX12_count 77 = .ok (.getfield 65, 3) := by decide +kernel
theorem dX12_count_80 : decode cX12_count 80 = .ok (.getfield 250, 3) := by decide +kernel
theorem dX12_count_83 : decode cX12_count 83 = .ok (.ireturn, 1) := by decide +kernel
theorem dX12_count_84 : decode cX12_count 84 = .ok (.aload_n 0, 1) := by decide +kernel
theorem dX12_count_85 : decode cX12_count 85 = .ok (.getfield 65, 3) := by decide +kernel
theorem dX12_count_88 : decode cX12_count 88 = .ok (.getfield 234, 3) := by decide +kernel
theorem dX12_count_91 : decode cX12_count 91 = .ok (.ireturn, 1) := by decide +kernel
theorem dX12_count_92 : decode cX12_count 92 = .ok (.aload_n 0, 1) := by decide +kernel
theorem dX12_count_93 : decode cX12_count 93 = .ok (.getfield 65, 3) := by decide +kernel
theorem dX12_count_96 : decode cX12_count 96 = .ok (.getfield 280, 3) := by decide +kernel
theorem dX12_count_99 : decode cX12_count 99 = .ok (.ireturn, 1) := by decide +kernel
theorem dX12_count_100 : decode cX12_count 100 = .ok (.aload_n 0, 1) := by decide +kernel
theorem dX12_count_101 : decode cX12_count 101 = .ok (.getfield 65, 3) := by decide +kernel
theorem dX12_count_104 : decode cX12_count 104 = .ok (.getfield 334, 3) := by decide +kernel
theorem dX12_count_107 : decode cX12_count 107 = .ok (.ireturn, 1) := by decide +kernel
theorem dX12_count_108 : decode cX12_count 108 = .ok (.aload_n 0, 1) := by decide +kernel
theorem dX12_count_109 : decode cX12_count 109 = .ok (.getfield 35, 3) := by decide +kernel
theorem dX12_count_112 : decode cX12_count 112 = .ok (.getfield 337, 3) := by decide +kernel
theorem dX12_count_115 : decode cX12_count 115 = .ok (.ireturn, 1) := by decide +kernel
theorem dX12_count_116 : decode cX12_count 116 = .ok (.aload_n 0, 1) := by decide +kernel
theorem dX12_count_117 : decode cX12_count 117 = .ok (.getfield 35, 3) := by decide +kernel
theorem dX12_count_120 : decode cX12_count 120 = .ok (.getfield 231, 3) := by decide +kernel
theorem dX12_count_123 : decode cX12_count 123 = .ok (.ireturn, 1) := by decide +kernel
theorem dX12_count_124 : decode cX12_count 124 = .ok (.aload_n 0, 1) := by decide +kernel
theorem dX12_count_125 : decode cX12_count 125 = .ok (.getfield 35, 3) := by decide +kernel
theorem dX12_count_128 : decode cX12_count 128 = .ok (.getfield 177, 3) := by decide +kernel
theorem dX12_count_131 : decode cX12_count 131 = .ok (.ireturn, 1) := by decide +kernel
theorem dX12_count_132 : decode cX12_count 132 = .ok (.aload_n 0, 1) := by decide +kernel
theorem dX12_count_133 : decode cX12_count 133 = .ok (.getfield 35, 3) := by decide +kernel
theorem dX12_count_136 : decode cX12_count 136 = .ok (.getfield 340, 3) := by decide +kernel
theorem dX12_count_139 : decode cX12_count 139 = .ok (.ireturn, 1) := by decide +kernel
theorem dX12_count_140 : decode cX12_count 140 = .ok (.aload_n 0, 1) := by decide +kernel
theorem dX12_count_141 : decode cX12_count 141 = .ok (.getfield 35, 3) := by decide +kernel
theorem dX12_count_144 : decode cX12_count 144 = .ok (.getfield 343, 3) := by decide +kernel
theorem dX12_count_147 : decode cX12_count 147 = .ok (.ifCond .eq 7, 3) := by decide +kernel
theorem dX12_count_150 : decode cX12_count 150 = .ok (.iconst 1, 1) := by decide +kernel
theorem dX12_count_151 : decode cX12_count 151 = .ok (.goto 4, 3) := by decide +kernel
theorem dX12_count_154 : decode cX12_count 154 = .ok (.iconst 0, 1) := by decide +kernel
theorem dX12_count_155 : decode cX12_count 155 = .ok (.ireturn, 1) := by decide +kernel
theorem dX12_count_156 : decode cX12_count 156 = .ok (.aload_n 0, 1) := by decide +kernel
theorem dX12_count_157 : decode cX12_count 157 = .ok (.getfield 35, 3) := by decide +kernel
theorem dX12_count_160 : decode cX12_count 160 = .ok (.invokevirtual 208, 3) := by decide +kernel
theorem dX12_count_163 : decode cX12_count 163 = .ok (.ireturn, 1) := by decide +kernel
theorem dX12_count_164 : decode cX12_count 164 = .ok (.aload_n 0, 1) := by decide +kernel
theorem dX12_count_165 : decode cX12_count 165 = .ok (.getfield 75, 3) := by decide +kernel
theorem dX12_count_168 : decode cX12_count 168 = .ok (.getfield 99, 3) := by decide +kernel
theorem dX12_count_171 : decode cX12_count 171 = .ok (.ireturn, 1) := by decide +kernel
theorem dX12_count_172 : decode cX12_count 172 = .ok (.aload_n 0, 1) := by decide +kernel
theorem dX12_count_173 : decode cX12_count 173 = .ok (.getfield 52, 3) := by decide +kernel
theorem dX12_count_176 : decode cX12_count 176 = .ok (.getfield 102, 3) := by decide +kernel
theorem dX12_count_179 : decode cX12_count 179 = .ok (.ireturn, 1) := by decide +kernel
theorem dX12_count_180 : decode cX12_count 180 = .ok (.aload_n 0, 1) := by decide +kernel
theorem dX12_count_181 : decode cX12_count 181 = .ok (.getfield 45, 3) := by decide +kernel
theorem dX12_count_184 : decode cX12_count 184 = .ok (.getfield 105, 3) := by decide +kernel
theorem dX12_count_187 : decode cX12_count 187 = .ok (.ireturn, 1) := by decide +kernel
theorem dX12_count_188 : decode cX12_count 188 = .ok (.aload_n 0, 1) := by decide +kernel
theorem dX12_count_189 : decode cX12_count 189 = .ok (.getfield 10, 3) := by decide +kernel
theorem dX12_count_192 : decode cX12_count 192 = .ok (.getfield 87, 3) := by decide +kernel
theorem dX12_count_195 : decode cX12_count 195 = .ok (.ireturn, 1) := by decide +kernel
theorem dX12_count_196 : decode cX12_count 196 = .ok (.aload_n 0, 1) := by decide +kernel
theorem dX12_count_197 : decode cX12_count 197 = .ok (.getfield 65, 3) := by decide +kernel
theorem dX12_count_200 : decode cX12_count 200 = .ok (.getfield 215, 3) := by decide +kernel
theorem dX12_count_203 : decode cX12_count 203 = .ok (.ireturn, 1) := by decide +kernel
theorem dX12_count_204 : decode cX12_count 204 = .ok (.iconst (-1), 1) := by decide +kernel
theorem dX12_count_205 : decode cX12_count 205 = .ok (.ireturn, 1) := by decide +kernel
theorem dX12_markAt_0 : decode cX12_markAt 0 = .ok (.iload_n 1, 1) := by decide +kernel
theorem dX12_markAt_1 : decode cX12_markAt 1 = .ok (.ifCond .lt 21, 3) := by decide +kernel
theorem dX12_markAt_4 : decode cX12_markAt 4 = .ok (.iload_n 1, 1) := by decide +kernel
theorem dX12_markAt_5 : decode cX12_markAt 5 = .ok (.aload_n 0, 1) := by decide +kernel
theorem dX12_markAt_6 : decode cX12_markAt 6 = .ok (.getfield 58, 3) := by decide +kernel
theorem dX12_markAt_9 : decode cX12_markAt 9 = .ok (.arraylength, 1) := by decide +kernel
theorem dX12_markAt_10 : decode cX12_markAt 10 = .ok (.if_icmp .ge 12, 3) := by decide +kernel
theorem dX12_markAt_13 : decode cX12_markAt 13 = .ok (.aload_n 0, 1) := by decide +kernel
theorem dX12_markAt_14 : decode cX12_markAt 14 = .ok (.getfield 58, 3) := by decide +kernel
theorem dX12_markAt_17 : decode cX12_markAt 17 = .ok (.iload_n 1, 1) := by decide +kernel
theorem dX12_markAt_18 : decode cX12_markAt 18 = .ok (.aaload, 1) := by decide +kernel
theorem dX12_markAt_19 : decode cX12_markAt 19 = .ok (.goto 4, 3) := by decide +kernel
theorem dX12_markAt_22 : decode cX12_markAt 22 = .ok (.aconst_null, 1) := by decide +kernel
theorem dX12_markAt_23 : decode cX12_markAt 23 = .ok (.areturn, 1) := by decide +kernel
theorem dX12_judge_0 : decode cX12_judge 0 = .ok (.aload_n 0, 1) := by decide +kernel
theorem dX12_judge_1 : decode cX12_judge 1 = .ok (.getfield 39, 3) := by decide +kernel
theorem dX12_judge_4 : decode cX12_judge 4 = .ok (.aload_n 0, 1) := by decide +kernel
theorem dX12_judge_5 : decode cX12_judge 5 = .ok (.getfield 65, 3) := by decide +kernel
theorem dX12_judge_8 : decode cX12_judge 8 = .ok (.invokevirtual 95, 3) := by decide +kernel
theorem dX12_judge_11 : decode cX12_judge 11 = .ok (.aload_n 0, 1) := by decide +kernel
theorem dX12_judge_12 : decode cX12_judge 12 = .ok (.iconst (-1), 1) := by decide +kernel
theorem dX12_judge_13 : decode cX12_judge 13 = .ok (.putfield 202, 3) := by decide +kernel
theorem dX12_judge_16 : decode cX12_judge 16 = .ok (.aload_n 0, 1) := by decide +kernel
theorem dX12_judge_17 : decode cX12_judge 17 = .ok (.iconst (-1), 1) := by decide +kernel
theorem dX12_judge_18 : decode cX12_judge 18 = .ok (.putfield 205, 3) := by decide +kernel
theorem dX12_judge_21 : decode cX12_judge 21 = .ok (.iconst 0, 1) := by decide +kernel
theorem dX12_judge_22 : decode cX12_judge 22 = .ok (.istore_n 1, 1) := by decide +kernel
theorem dX12_judge_23 : decode cX12_judge 23 = .ok (.iload_n 1, 1) := by decide +kernel
theorem dX12_judge_24 : decode cX12_judge 24 = .ok (.aload_n 0, 1) := by decide +kernel
theorem dX12_judge_25 : decode cX12_judge 25 = .ok (.getfield 75, 3) := by decide +kernel
theorem dX12_judge_28 : decode cX12_judge 28 = .ok (.getfield 99, 3) := by decide +kernel
theorem dX12_judge_31 : decode cX12_judge 31 = .ok (.if_icmp .ge 66, 3) := by decide +kernel
theorem dX12_judge_34 : decode cX12_judge 34 = .ok (.aload_n 0, 1) := by decide +kernel
theorem dX12_judge_35 : decode cX12_judge 35 = .ok (.getfield 75, 3) := by decide +kernel
theorem dX12_judge_38 : decode cX12_judge 38 = .ok (.aload_n 0, 1) := by decide +kernel
theorem dX12_judge_39 : decode cX12_judge 39 = .ok (.getfield 65, 3) := by decide +kernel
theorem dX12_judge_42 : decode cX12_judge 42 = .ok (.aload_n 0, 1) := by decide +kernel
theorem dX12_judge_43 : decode cX12_judge 43 = .ok (.getfield 39, 3) := by decide +kernel
theorem dX12_judge_46 : decode cX12_judge 46 = .ok (.iload_n 1, 1) := by decide +kernel
theorem dX12_judge_47 : decode cX12_judge 47 = .ok (.invokevirtual 346, 3) := by decide +kernel
theorem dX12_judge_50 : decode cX12_judge 50 = .ok (.istore_n 2, 1) := by decide +kernel
theorem dX12_judge_51 : decode cX12_judge 51 = .ok (.iload_n 2, 1) := by decide +kernel
theorem dX12_judge_52 : decode cX12_judge 52 = .ok (.ifCond .ne 16, 3) := by decide +kernel
theorem dX12_judge_55 : decode cX12_judge 55 = .ok (.aload_n 0, 1) := by decide +kernel
theorem dX12_judge_56 : decode cX12_judge 56 = .ok (.getfield 202, 3) := by decide +kernel
theorem dX12_judge_59 : decode cX12_judge 59 = .ok (.iconst (-1), 1) := by decide +kernel
theorem dX12_judge_60 : decode cX12_judge 60 = .ok (.if_icmp .ne 8, 3) := by decide +kernel
theorem dX12_judge_63 : decode cX12_judge 63 = .ok (.aload_n 0, 1) := by decide +kernel
theorem dX12_judge_64 : decode cX12_judge 64 = .ok (.iload_n 1, 1) := by decide +kernel
theorem dX12_judge_65 : decode cX12_judge 65 = .ok (.putfield 202, 3) := by decide +kernel
theorem dX12_judge_68 : decode cX12_judge 68 = .ok (.aload_n 0, 1) := by decide +kernel
theorem dX12_judge_69 : decode cX12_judge 69 = .ok (.getfield 39, 3) := by decide +kernel
theorem dX12_judge_72 : decode cX12_judge 72 = .ok (.getfield 343, 3) := by decide +kernel
theorem dX12_judge_75 : decode cX12_judge 75 = .ok (.ifCond .eq 16, 3) := by decide +kernel
theorem dX12_judge_78 : decode cX12_judge 78 = .ok (.aload_n 0, 1) := by decide +kernel
theorem dX12_judge_79 : decode cX12_judge 79 = .ok (.getfield 205, 3) := by decide +kernel
theorem dX12_judge_82 : decode cX12_judge 82 = .ok (.iconst (-1), 1) := by decide +kernel
theorem dX12_judge_83 : decode cX12_judge 83 = .ok (.if_icmp .ne 8, 3) := by decide +kernel
theorem dX12_judge_86 : decode cX12_judge 86 = .ok (.aload_n 0, 1) := by decide +kernel
theorem dX12_judge_87 : decode cX12_judge 87 = .ok (.iload_n 1, 1) := by decide +kernel
theorem dX12_judge_88 : decode cX12_judge 88 = .ok (.putfield 205, 3) := by decide +kernel
theorem dX12_judge_91 : decode cX12_judge 91 = .ok (.iinc 1 1, 3) := by decide +kernel
theorem dX12_judge_94 : decode cX12_judge 94 = .ok (.goto (-71), 3) := by decide +kernel
theorem dX12_judge_97 : decode cX12_judge 97 = .ok (.return_, 1) := by decide +kernel
theorem dX12_isAtRest_0 : decode cX12_isAtRest 0 = .ok (.iload_n 3, 1) := by decide +kernel
theorem dX12_isAtRest_1 : decode cX12_isAtRest 1 = .ok (.iconst 1, 1) := by decide +kernel
theorem dX12_isAtRest_2 : decode cX12_isAtRest 2 = .ok (.ishr, 1) := by decide +kernel
theorem dX12_isAtRest_3 : decode cX12_isAtRest 3 = .ok (.istore 4, 2) := by decide +kernel
theorem dX12_isAtRest_5 : decode cX12_isAtRest 5 = .ok (.iload_n 3, 1) := by decide +kernel
theorem dX12_isAtRest_6 : decode cX12_isAtRest 6 = .ok (.iconst 1, 1) := by decide +kernel
theorem dX12_isAtRest_7 : decode cX12_isAtRest 7 = .ok (.iand, 1) := by decide +kernel
theorem dX12_isAtRest_8 : decode cX12_isAtRest 8 = .ok (.istore 5, 2) := by decide +kernel
theorem dX12_isAtRest_10 : decode cX12_isAtRest 10 = .ok (.iload_n 0, 1) := by decide +kernel
theorem dX12_isAtRest_11 : decode cX12_isAtRest 11 = .ok (.iload_n 1, 1) := by decide +kernel
theorem dX12_isAtRest_12 : decode cX12_isAtRest 12 = .ok (.iload_n 2, 1) := by decide +kernel
theorem dX12_isAtRest_13 : decode cX12_isAtRest 13 = .ok (.iload 4, 2) := by decide +kernel
theorem dX12_isAtRest_15 : decode cX12_isAtRest 15 = .ok (.iload 5, 2) := by decide +kernel
theorem dX12_isAtRest_17 : decode cX12_isAtRest 17 = .ok (.invokestatic 350, 3) := by decide +kernel
theorem dX12_isAtRest_20 : decode cX12_isAtRest 20 = .ok (.iload_n 0, 1) := by decide +kernel
theorem dX12_isAtRest_21 : decode cX12_isAtRest 21 = .ok (.iload_n 1, 1) := by decide +kernel
theorem dX12_isAtRest_22 : decode cX12_isAtRest 22 = .ok (.iload_n 2, 1) := by decide +kernel
theorem dX12_isAtRest_23 : decode cX12_isAtRest 23 = .ok (.iconst 1, 1) := by decide +kernel
theorem dX12_isAtRest_24 : decode cX12_isAtRest 24 = .ok (.iload 4, 2) := by decide +kernel
theorem dX12_isAtRest_26 : decode cX12_isAtRest 26 = .ok (.isub, 1) := by decide +kernel
theorem dX12_isAtRest_27 : decode cX12_isAtRest 27 = .ok (.iload 5, 2) := by decide +kernel
theorem dX12_isAtRest_29 : decode cX12_isAtRest 29 = .ok (.invokestatic 350, 3) := by decide +kernel
theorem dX12_isAtRest_32 : decode cX12_isAtRest 32 = .ok (.if_icmp .lt 32, 3) := by decide +kernel
theorem dX12_isAtRest_35 : decode cX12_isAtRest 35 = .ok (.iload_n 0, 1) := by decide +kernel
theorem dX12_isAtRest_36 : decode cX12_isAtRest 36 = .ok (.iload_n 1, 1) := by decide +kernel
theorem dX12_isAtRest_37 : decode cX12_isAtRest 37 = .ok (.iload_n 2, 1) := by decide +kernel
theorem dX12_isAtRest_38 : decode cX12_isAtRest 38 = .ok (.iload 5, 2) := by decide +kernel
theorem dX12_isAtRest_40 : decode cX12_isAtRest 40 = .ok (.iload 4, 2) := by decide +kernel
theorem dX12_isAtRest_42 : decode cX12_isAtRest 42 = .ok (.invokestatic 350, 3) := by decide +kernel
theorem dX12_isAtRest_45 : decode cX12_isAtRest 45 = .ok (.iload_n 0, 1) := by decide +kernel
theorem dX12_isAtRest_46 : decode cX12_isAtRest 46 = .ok (.iload_n 1, 1) := by decide +kernel
theorem dX12_isAtRest_47 : decode cX12_isAtRest 47 = .ok (.iload_n 2, 1) := by decide +kernel
theorem dX12_isAtRest_48 : decode cX12_isAtRest 48 = .ok (.iconst 1, 1) := by decide +kernel
theorem dX12_isAtRest_49 : decode cX12_isAtRest 49 = .ok (.iload 5, 2) := by decide +kernel
theorem dX12_isAtRest_51 : decode cX12_isAtRest 51 = .ok (.isub, 1) := by decide +kernel
theorem dX12_isAtRest_52 : decode cX12_isAtRest 52 = .ok (.iload 4, 2) := by decide +kernel
theorem dX12_isAtRest_54 : decode cX12_isAtRest 54 = .ok (.invokestatic 350, 3) := by decide +kernel
theorem dX12_isAtRest_57 : decode cX12_isAtRest 57 = .ok (.if_icmp .lt 7, 3) := by decide +kernel
theorem dX12_isAtRest_60 : decode cX12_isAtRest 60 = .ok (.iconst 1, 1) := by decide +kernel
theorem dX12_isAtRest_61 : decode cX12_isAtRest 61 = .ok (.goto 4, 3) := by decide +kernel
theorem dX12_isAtRest_64 : decode cX12_isAtRest 64 = .ok (.iconst 0, 1) := by decide +kernel
theorem dX12_isAtRest_65 : decode cX12_isAtRest 65 = .ok (.ireturn, 1) := by decide +kernel
theorem dX12_gets_0 : decode cX12_gets 0 = .ok (.iload_n 3, 1) := by decide +kernel
theorem dX12_gets_1 : decode cX12_gets 1 = .ok (.ifCond .ne 14, 3) := by decide +kernel
theorem dX12_gets_4 : decode cX12_gets 4 = .ok (.iload 4, 2) := by decide +kernel
theorem dX12_gets_6 : decode cX12_gets 6 = .ok (.ifCond .ne 7, 3) := by decide +kernel
theorem dX12_gets_9 : decode cX12_gets 9 = .ok (.iload_n 0, 1) := by decide +kernel
theorem dX12_gets_10 : decode cX12_gets 10 = .ok (.goto 4, 3) := by decide +kernel
theorem dX12_gets_13 : decode cX12_gets 13 = .ok (.iload_n 2, 1) := by decide +kernel
theorem dX12_gets_14 : decode cX12_gets 14 = .ok (.ireturn, 1) := by decide +kernel
theorem dX12_gets_15 : decode cX12_gets 15 = .ok (.iload 4, 2) := by decide +kernel
theorem dX12_gets_17 : decode cX12_gets 17 = .ok (.ifCond .ne 7, 3) := by decide +kernel
theorem dX12_gets_20 : decode cX12_gets 20 = .ok (.iload_n 1, 1) := by decide +kernel
theorem dX12_gets_21 : decode cX12_gets 21 = .ok (.goto 4, 3) := by decide +kernel
theorem dX12_gets_24 : decode cX12_gets 24 = .ok (.iconst 0, 1) := by decide +kernel
theorem dX12_gets_25 : decode cX12_gets 25 = .ok (.ireturn, 1) := by decide +kernel
theorem dX12_within_0 : decode cX12_within 0 = .ok (.iload_n 0, 1) := by decide +kernel
theorem dX12_within_1 : decode cX12_within 1 = .ok (.iload_n 1, 1) := by decide +kernel
theorem dX12_within_2 : decode cX12_within 2 = .ok (.if_icmp .lt 12, 3) := by decide +kernel
theorem dX12_within_5 : decode cX12_within 5 = .ok (.iload_n 0, 1) := by decide +kernel
theorem dX12_within_6 : decode cX12_within 6 = .ok (.iload_n 2, 1) := by decide +kernel
theorem dX12_within_7 : decode cX12_within 7 = .ok (.if_icmp .gt 7, 3) := by decide +kernel
theorem dX12_within_10 : decode cX12_within 10 = .ok (.iconst 1, 1) := by decide +kernel
theorem dX12_within_11 : decode cX12_within 11 = .ok (.goto 4, 3) := by decide +kernel
theorem dX12_within_14 : decode cX12_within 14 = .ok (.iconst 0, 1) := by decide +kernel
theorem dX12_within_15 : decode cX12_within 15 = .ok (.ireturn, 1) := by decide +kernel
theorem dX12_at_0 : decode cX12_at 0 = .ok (.iload_n 1, 1) := by decide +kernel
theorem dX12_at_1 : decode cX12_at 1 = .ok (.ifCond .lt 15, 3) := by decide +kernel
theorem dX12_at_4 : decode cX12_at 4 = .ok (.iload_n 1, 1) := by decide +kernel
theorem dX12_at_5 : decode cX12_at 5 = .ok (.aload_n 0, 1) := by decide +kernel
theorem dX12_at_6 : decode cX12_at 6 = .ok (.arraylength, 1) := by decide +kernel
theorem dX12_at_7 : decode cX12_at 7 = .ok (.if_icmp .ge 9, 3) := by decide +kernel
theorem dX12_at_10 : decode cX12_at 10 = .ok (.aload_n 0, 1) := by decide +kernel
theorem dX12_at_11 : decode cX12_at 11 = .ok (.iload_n 1, 1) := by decide +kernel
theorem dX12_at_12 : decode cX12_at 12 = .ok (.iaload, 1) := by decide +kernel
theorem dX12_at_13 : decode cX12_at 13 = .ok (.goto 4, 3) := by decide +kernel
theorem dX12_at_16 : decode cX12_at 16 = .ok (.iconst 0, 1) := by decide +kernel
theorem dX12_at_17 : decode cX12_at 17 = .ok (.ireturn, 1) := by decide +kernel
theorem dX12_put_0 : decode cX12_put 0 = .ok (.iload_n 1, 1) := by decide +kernel
theorem dX12_put_1 : decode cX12_put 1 = .ok (.ifCond .lt 13, 3) := by decide +kernel
theorem dX12_put_4 : decode cX12_put 4 = .ok (.iload_n 1, 1) := by decide +kernel
theorem dX12_put_5 : decode cX12_put 5 = .ok (.aload_n 0, 1) := by decide +kernel
theorem dX12_put_6 : decode cX12_put 6 = .ok (.arraylength, 1) := by decide +kernel
theorem dX12_put_7 : decode cX12_put 7 = .ok (.if_icmp .ge 7, 3) := by decide +kernel
theorem dX12_put_10 : decode cX12_put 10 = .ok (.aload_n 0, 1) := by decide +kernel
theorem dX12_put_11 : decode cX12_put 11 = .ok (.iload_n 1, 1) := by decide +kernel
theorem dX12_put_12 : decode cX12_put 12 = .ok (.iload_n 2, 1) := by decide +kernel
theorem dX12_put_13 : decode cX12_put 13 = .ok (.iastore, 1) := by decide +kernel
theorem dX12_put_14 : decode cX12_put 14 = .ok (.return_, 1) := by decide +kernel
theorem dX12_copyRow_0 : decode cX12_copyRow 0 = .ok (.iconst 0, 1) := by decide +kernel
theorem dX12_copyRow_1 : decode cX12_copyRow 1 = .ok (.istore_n 2, 1) := by decide +kernel
theorem dX12_copyRow_2 : decode cX12_copyRow 2 = .ok (.iload_n 2, 1) := by decide +kernel
theorem dX12_copyRow_3 : decode cX12_copyRow 3 = .ok (.aload_n 0, 1) := by decide +kernel
theorem dX12_copyRow_4 : decode cX12_copyRow 4 = .ok (.arraylength, 1) := by decide +kernel
theorem dX12_copyRow_5 : decode cX12_copyRow 5 = .ok (.if_icmp .ge 21, 3) := by decide +kernel
theorem dX12_copyRow_8 : decode cX12_copyRow 8 = .ok (.iload_n 2, 1) := by decide +kernel
theorem dX12_copyRow_9 : decode cX12_copyRow 9 = .ok (.aload_n 1, 1) := by decide +kernel
theorem dX12_copyRow_10 : decode cX12_copyRow 10 = .ok (.arraylength, 1) := by decide +kernel
theorem dX12_copyRow_11 : decode cX12_copyRow 11 = .ok (.if_icmp .ge 15, 3) := by decide +kernel
theorem dX12_copyRow_14 : decode cX12_copyRow 14 = .ok (.aload_n 1, 1) := by decide +kernel
theorem dX12_copyRow_15 : decode cX12_copyRow 15 = .ok (.iload_n 2, 1) := by decide +kernel
theorem dX12_copyRow_16 : decode cX12_copyRow 16 = .ok (.aload_n 0, 1) := by decide +kernel
theorem dX12_copyRow_17 : decode cX12_copyRow 17 = .ok (.iload_n 2, 1) := by decide +kernel
theorem dX12_copyRow_18 : decode cX12_copyRow 18 = .ok (.iaload, 1) := by decide +kernel
theorem dX12_copyRow_19 : decode cX12_copyRow 19 = .ok (.iastore, 1) := by decide +kernel
theorem dX12_copyRow_20 : decode cX12_copyRow 20 = .ok (.iinc 2 1, 3) := by decide +kernel
theorem dX12_copyRow_23 : decode cX12_copyRow 23 = .ok (.goto (-21), 3) := by decide +kernel
theorem dX12_copyRow_26 : decode cX12_copyRow 26 = .ok (.return_, 1) := by decide +kernel
theorem dX12_sum_0 : decode cX12_sum 0 = .ok (.iconst 0, 1) := by decide +kernel
theorem dX12_sum_1 : decode cX12_sum 1 = .ok (.istore_n 2, 1) := by decide +kernel
theorem dX12_sum_2 : decode cX12_sum 2 = .ok (.iconst 0, 1) := by decide +kernel
theorem dX12_sum_3 : decode cX12_sum 3 = .ok (.istore_n 3, 1) := by decide +kernel
theorem dX12_sum_4 : decode cX12_sum 4 = .ok (.iload_n 3, 1) := by decide +kernel
theorem dX12_sum_5 : decode cX12_sum 5 = .ok (.iload_n 1, 1) := by decide +kernel
theorem dX12_sum_6 : decode cX12_sum 6 = .ok (.if_icmp .ge 21, 3) := by decide +kernel
theorem dX12_sum_9 : decode cX12_sum 9 = .ok (.iload_n 3, 1) := by decide +kernel
theorem dX12_sum_10 : decode cX12_sum 10 = .ok (.aload_n 0, 1) := by decide +kernel
theorem dX12_sum_11 : decode cX12_sum 11 = .ok (.arraylength, 1) := by decide +kernel
theorem dX12_sum_12 : decode cX12_sum 12 = .ok (.if_icmp .ge 15, 3) := by decide +kernel
theorem dX12_sum_15 : decode cX12_sum 15 = .ok (.iload_n 2, 1) := by decide +kernel
theorem dX12_sum_16 : decode cX12_sum 16 = .ok (.aload_n 0, 1) := by decide +kernel
theorem dX12_sum_17 : decode cX12_sum 17 = .ok (.iload_n 3, 1) := by decide +kernel
theorem dX12_sum_18 : decode cX12_sum 18 = .ok (.iaload, 1) := by decide +kernel
theorem dX12_sum_19 : decode cX12_sum 19 = .ok (.iadd, 1) := by decide +kernel
theorem dX12_sum_20 : decode cX12_sum 20 = .ok (.istore_n 2, 1) := by decide +kernel
theorem dX12_sum_21 : decode cX12_sum 21 = .ok (.iinc 3 1, 3) := by decide +kernel
theorem dX12_sum_24 : decode cX12_sum 24 = .ok (.goto (-20), 3) := by decide +kernel
theorem dX12_sum_27 : decode cX12_sum 27 = .ok (.iload_n 2, 1) := by decide +kernel
theorem dX12_sum_28 : decode cX12_sum 28 = .ok (.ireturn, 1) := by decide +kernel
theorem dX13_init_0 : decode cX13_init 0 = .ok (.aload_n 0, 1) := by decide +kernel
theorem dX13_init_1 : decode cX13_init 1 = .ok (.invokespecial 1, 3) := by decide +kernel
theorem dX13_init_4 : decode cX13_init 4 = .ok (.aload_n 0, 1) := by decide +kernel
theorem dX13_init_5 : decode cX13_init 5 = .ok (.sipush 1000, 3) := by decide +kernel
theorem dX13_init_8 : decode cX13_init 8 = .ok (.newarray .int, 2) := by decide +kernel
theorem dX13_init_10 : decode cX13_init 10 = .ok (.putfield 7, 3) := by decide +kernel
theorem dX13_init_13 : decode cX13_init 13 = .ok (.aload_n 0, 1) := by decide +kernel
theorem dX13_init_14 : decode cX13_init 14 = .ok (.bipush 10, 2) := by decide +kernel
theorem dX13_init_16 : decode cX13_init 16 = .ok (.newarray .int, 2) := by decide +kernel
theorem dX13_init_18 : decode cX13_init 18 = .ok (.putfield 13, 3) := by decide +kernel
theorem dX13_init_21 : decode cX13_init 21 = .ok (.aload_n 0, 1) := by decide +kernel
theorem dX13_init_22 : decode cX13_init 22 = .ok (.bipush 12, 2) := by decide +kernel
theorem dX13_init_24 : decode cX13_init 24 = .ok (.newarray .long, 2) := by decide +kernel
theorem dX13_init_26 : decode cX13_init 26 = .ok (.putfield 16, 3) := by decide +kernel
theorem dX13_init_29 : decode cX13_init 29 = .ok (.aload_n 0, 1) := by decide +kernel
theorem dX13_init_30 : decode cX13_init 30 = .ok (.bipush 10, 2) := by decide +kernel
theorem dX13_init_32 : decode cX13_init 32 = .ok (.newarray .long, 2) := by decide +kernel
theorem dX13_init_34 : decode cX13_init 34 = .ok (.putfield 20, 3) := by decide +kernel
theorem dX13_init_37 : decode cX13_init 37 = .ok (.aload_n 0, 1) := by decide +kernel
theorem dX13_init_38 : decode cX13_init 38 = .ok (.bipush 12, 2) := by decide +kernel
theorem dX13_init_40 : decode cX13_init 40 = .ok (.newarray .long, 2) := by decide +kernel
theorem dX13_init_42 : decode cX13_init 42 = .ok (.putfield 23, 3) := by decide +kernel
theorem dX13_init_45 : decode cX13_init 45 = .ok (.aload_n 0, 1) := by decide +kernel
theorem dX13_init_46 : decode cX13_init 46 = .ok (.bipush 12, 2) := by decide +kernel
theorem dX13_init_48 : decode cX13_init 48 = .ok (.newarray .int, 2) := by decide +kernel
theorem dX13_init_50 : decode cX13_init 50 = .ok (.putfield 26, 3) := by decide +kernel
theorem dX13_init_53 : decode cX13_init 53 = .ok (.aload_n 0, 1) := by decide +kernel
theorem dX13_init_54 : decode cX13_init 54 = .ok (.bipush 12, 2) := by decide +kernel
theorem dX13_init_56 : decode cX13_init 56 = .ok (.newarray .int, 2) := by decide +kernel
theorem dX13_init_58 : decode cX13_init 58 = .ok (.putfield 29, 3) := by decide +kernel
theorem dX13_init_61 : decode cX13_init 61 = .ok (.aload_n 0, 1) := by decide +kernel
theorem dX13_init_62 : decode cX13_init 62 = .ok (.bipush 12, 2) := by decide +kernel
theorem dX13_init_64 : decode cX13_init 64 = .ok (.newarray .int, 2) := by decide +kernel
theorem dX13_init_66 : decode cX13_init 66 = .ok (.putfield 32, 3) := by decide +kernel
theorem dX13_init_69 : decode cX13_init 69 = .ok (.aload_n 0, 1) := by decide +kernel
theorem dX13_init_70 : decode cX13_init 70 = .ok (.bipush 12, 2) := by decide +kernel
theorem dX13_init_72 : decode cX13_init 72 = .ok (.newarray .int, 2) := by decide +kernel
theorem dX13_init_74 : decode cX13_init 74 = .ok (.putfield 35, 3) := by decide +kernel
theorem dX13_init_77 : decode cX13_init 77 = .ok (.aload_n 0, 1) := by decide +kernel
theorem dX13_init_78 : decode cX13_init 78 = .ok (.bipush 12, 2) := by decide +kernel
theorem dX13_init_80 : decode cX13_init 80 = .ok (.newarray .int, 2) := by decide +kernel
theorem dX13_init_82 : decode cX13_init 82 = .ok (.putfield 38, 3) := by decide +kernel
theorem dX13_init_85 : decode cX13_init 85 = .ok (.aload_n 0, 1) := by decide +kernel
theorem dX13_init_86 : decode cX13_init 86 = .ok (.bipush 12, 2) := by decide +kernel
theorem dX13_init_88 : decode cX13_init 88 = .ok (.newarray .int, 2) := by decide +kernel
theorem dX13_init_90 : decode cX13_init 90 = .ok (.putfield 41, 3) := by decide +kernel
theorem dX13_init_93 : decode cX13_init 93 = .ok (.aload_n 0, 1) := by decide +kernel
theorem dX13_init_94 : decode cX13_init 94 = .ok (.bipush 10, 2) := by decide +kernel
theorem dX13_init_96 : decode cX13_init 96 = .ok (.newarray .int, 2) := by decide +kernel
theorem dX13_init_98 : decode cX13_init 98 = .ok (.putfield 44, 3) := by decide +kernel
theorem dX13_init_101 : decode cX13_init 101 = .ok (.aload_n 0, 1) := by decide +kernel
theorem dX13_init_102 : decode cX13_init 102 = .ok (.bipush 10, 2) := by decide +kernel
theorem dX13_init_104 : decode cX13_init 104 = .ok (.newarray .int, 2) := by decide +kernel
theorem dX13_init_106 : decode cX13_init 106 = .ok (.putfield 47, 3) := by decide +kernel
theorem dX13_init_109 : decode cX13_init 109 = .ok (.aload_n 0, 1) := by decide +kernel
theorem dX13_init_110 : decode cX13_init 110 = .ok (.iconst 4, 1) := by decide +kernel
theorem dX13_init_111 : decode cX13_init 111 = .ok (.newarray .int, 2) := by decide +kernel
theorem dX13_init_113 : decode cX13_init 113 = .ok (.putfield 50, 3) := by decide +kernel
theorem dX13_init_116 : decode cX13_init 116 = .ok (.aload_n 0, 1) := by decide +kernel
theorem dX13_init_117 : decode cX13_init 117 = .ok (.iconst 4, 1) := by decide +kernel
theorem dX13_init_118 : decode cX13_init 118 = .ok (.newarray .int, 2) := by decide +kernel
theorem dX13_init_120 : decode cX13_init 120 = .ok (.putfield 53, 3) := by decide +kernel
theorem dX13_init_123 : decode cX13_init 123 = .ok (.aload_n 0, 1) := by decide +kernel
theorem dX13_init_124 : decode cX13_init 124 = .ok (.sipush 2000, 3) := by decide +kernel
theorem dX13_init_127 : decode cX13_init 127 = .ok (.newarray .int, 2) := by decide +kernel
theorem dX13_init_129 : decode cX13_init 129 = .ok (.putfield 56, 3) := by decide +kernel
theorem dX13_init_132 : decode cX13_init 132 = .ok (.aload_n 0, 1) := by decide +kernel
theorem dX13_init_133 : decode cX13_init 133 = .ok (.bipush 7, 2) := by decide +kernel
theorem dX13_init_135 : decode cX13_init 135 = .ok (.newarray .int, 2) := by decide +kernel
theorem dX13_init_137 : decode cX13_init 137 = .ok (.putfield 59, 3) := by decide +kernel
theorem dX13_init_140 : decode cX13_init 140 = .ok (.aload_n 0, 1) := by decide +kernel
theorem dX13_init_141 : decode cX13_init 141 = .ok (.bipush 7, 2) := by decide +kernel
theorem dX13_init_143 : decode cX13_init 143 = .ok (.newarray .boolean, 2) := by decide +kernel
theorem dX13_init_145 : decode cX13_init 145 = .ok (.putfield 62, 3) := by decide +kernel
theorem dX13_init_148 : decode cX13_init 148 = .ok (.aload_n 0, 1) := by decide +kernel
theorem dX13_init_149 : decode cX13_init 149 = .ok (.bipush 7, 2) := by decide +kernel
theorem dX13_init_151 : decode cX13_init 151 = .ok (.newarray .int, 2) := by decide +kernel
theorem dX13_init_153 : decode cX13_init 153 = .ok (.putfield 66, 3) := by decide +kernel
theorem dX13_init_156 : decode cX13_init 156 = .ok (.aload_n 0, 1) := by decide +kernel
theorem dX13_init_157 : decode cX13_init 157 = .ok (.bipush 7, 2) := by decide +kernel
theorem dX13_init_159 : decode cX13_init 159 = .ok (.newarray .int, 2) := by decide +kernel
theorem dX13_init_161 : decode cX13_init 161 = .ok (.putfield 69, 3) := by decide +kernel
theorem dX13_init_164 : decode cX13_init 164 = .ok (.aload_n 0, 1) := by decide +kernel
theorem dX13_init_165 : decode cX13_init 165 = .ok (.bipush 7, 2) := by decide +kernel
theorem dX13_init_167 : decode cX13_init 167 = .ok (.newarray .int, 2) := by decide +kernel
theorem dX13_init_169 : decode cX13_init 169 = .ok (.putfield 72, 3) := by decide +kernel
theorem dX13_init_172 : decode cX13_init 172 = .ok (.aload_n 0, 1) := by decide +kernel
theorem dX13_init_173 : decode cX13_init 173 = .ok (.bipush 7, 2) := by decide +kernel
theorem dX13_init_175 : decode cX13_init 175 = .ok (.newarray .int, 2) := by decide +kernel
theorem dX13_init_177 : decode cX13_init 177 = .ok (.putfield 75, 3) := by decide +kernel
theorem dX13_init_180 : decode cX13_init 180 = .ok (.aload_n 0, 1) := by decide +kernel
theorem dX13_init_181 : decode cX13_init 181 = .ok (.bipush 7, 2) := by decide +kernel
theorem dX13_init_183 : decode cX13_init 183 = .ok (.newarray .int, 2) := by decide +kernel
theorem dX13_init_185 : decode cX13_init 185 = .ok (.putfield 78, 3) := by decide +kernel
theorem dX13_init_188 : decode cX13_init 188 = .ok (.aload_n 0, 1) := by decide +kernel
theorem dX13_init_189 : decode cX13_init 189 = .ok (.bipush 7, 2) := by decide +kernel
theorem dX13_init_191 : decode cX13_init 191 = .ok (.newarray .int, 2) := by decide +kernel
theorem dX13_init_193 : decode cX13_init 193 = .ok (.putfield 81, 3) := by decide +kernel
theorem dX13_init_196 : decode cX13_init 196 = .ok (.aload_n 0, 1) := by decide +kernel
theorem dX13_init_197 : decode cX13_init 197 = .ok (.bipush 7, 2) := by decide +kernel
theorem dX13_init_199 : decode cX13_init 199 = .ok (.newarray .int, 2) := by decide +kernel
theorem dX13_init_201 : decode cX13_init 201 = .ok (.putfield 84, 3) := by decide +kernel
theorem dX13_init_204 : decode cX13_init 204 = .ok (.aload_n 0, 1) := by decide +kernel
theorem dX13_init_205 : decode cX13_init 205 = .ok (.bipush 7, 2) := by decide +kernel
theorem dX13_init_207 : decode cX13_init 207 = .ok (.newarray .int, 2) := by decide +kernel
theorem dX13_init_209 : decode cX13_init 209 = .ok (.putfield 87, 3) := by decide +kernel
theorem dX13_init_212 : decode cX13_init 212 = .ok (.aload_n 0, 1) := by decide +kernel
theorem dX13_init_213 : decode cX13_init 213 = .ok (.bipush 7, 2) := by decide +kernel
theorem dX13_init_215 : decode cX13_init 215 = .ok (.newarray .int, 2) := by decide +kernel
theorem dX13_init_217 : decode cX13_init 217 = .ok (.putfield 90, 3) := by decide +kernel
theorem dX13_init_220 : decode cX13_init 220 = .ok (.aload_n 0, 1) := by decide +kernel
theorem dX13_init_221 : decode cX13_init 221 = .ok (.bipush 20, 2) := by decide +kernel
theorem dX13_init_223 : decode cX13_init 223 = .ok (.newarray .int, 2) := by decide +kernel
theorem dX13_init_225 : decode cX13_init 225 = .ok (.putfield 93, 3) := by decide +kernel
theorem dX13_init_228 : decode cX13_init 228 = .ok (.aload_n 0, 1) := by decide +kernel
theorem dX13_init_229 : decode cX13_init 229 = .ok (.bipush 6, 2) := by decide +kernel
theorem dX13_init_231 : decode cX13_init 231 = .ok (.newarray .int, 2) := by decide +kernel
theorem dX13_init_233 : decode cX13_init 233 = .ok (.putfield 96, 3) := by decide +kernel
theorem dX13_init_236 : decode cX13_init 236 = .ok (.aload_n 0, 1) := by decide +kernel
theorem dX13_init_237 : decode cX13_init 237 = .ok (.sipush 240, 3) := by decide +kernel
theorem dX13_init_240 : decode cX13_init 240 = .ok (.newarray .int, 2) := by decide +kernel
theorem dX13_init_242 : decode cX13_init 242 = .ok (.putfield 99, 3) := by decide +kernel
theorem dX13_init_245 : decode cX13_init 245 = .ok (.aload_n 0, 1) := by decide +kernel
theorem dX13_init_246 : decode cX13_init 246 = .ok (.sipush 240, 3) := by decide +kernel
theorem dX13_init_249 : decode cX13_init 249 = .ok (.newarray .int, 2) := by decide +kernel
theorem dX13_init_251 : decode cX13_init 251 = .ok (.putfield 102, 3) := by decide +kernel
theorem dX13_init_254 : decode cX13_init 254 = .ok (.aload_n 0, 1) := by decide +kernel
theorem dX13_init_255 : decode cX13_init 255 = .ok (.sipush 240, 3) := by decide +kernel
theorem dX13_init_258 : decode cX13_init 258 = .ok (.newarray .int, 2) := by decide +kernel
theorem dX13_init_260 : decode cX13_init 260 = .ok (.putfield 105, 3) := by decide +kernel
theorem dX13_init_263 : decode cX13_init 263 = .ok (.aload_n 0, 1) := by decide +kernel
theorem dX13_init_264 : decode cX13_init 264 = .ok (.iconst 5, 1) := by decide +kernel
theorem dX13_init_265 : decode cX13_init 265 = .ok (.newarray .int, 2) := by decide +kernel
theorem dX13_init_267 : decode cX13_init 267 = .ok (.putfield 108, 3) := by decide +kernel
theorem dX13_init_270 : decode cX13_init 270 = .ok (.aload_n 0, 1) := by decide +kernel
theorem dX13_init_271 : decode cX13_init 271 = .ok (.bipush 40, 2) := by decide +kernel
theorem dX13_init_273 : decode cX13_init 273 = .ok (.newarray .int, 2) := by decide +kernel
theorem dX13_init_275 : decode cX13_init 275 = .ok (.putfield 111, 3) := by decide +kernel
theorem dX13_init_278 : decode cX13_init 278 = .ok (.aload_n 0, 1) := by decide +kernel
theorem dX13_init_279 : decode cX13_init 279 = .ok (.bipush 40, 2) := by decide +kernel
theorem dX13_init_281 : decode cX13_init 281 = .ok (.newarray .int, 2) := by decide +kernel
theorem dX13_init_283 : decode cX13_init 283 = .ok (.putfield 114, 3) := by decide +kernel
theorem dX13_init_286 : decode cX13_init 286 = .ok (.aload_n 0, 1) := by decide +kernel
theorem dX13_init_287 : decode cX13_init 287 = .ok (.bipush 40, 2) := by decide +kernel
theorem dX13_init_289 : decode cX13_init 289 = .ok (.newarray .int, 2) := by decide +kernel
theorem dX13_init_291 : decode cX13_init 291 = .ok (.putfield 117, 3) := by decide +kernel
theorem dX13_init_294 : decode cX13_init 294 = .ok (.aload_n 0, 1) := by decide +kernel
theorem dX13_init_295 : decode cX13_init 295 = .ok (.bipush 23, 2) := by decide +kernel
theorem dX13_init_297 : decode cX13_init 297 = .ok (.newarray .int, 2) := by decide +kernel
theorem dX13_init_299 : decode cX13_init 299 = .ok (.putfield 120, 3) := by decide +kernel
theorem dX13_init_302 : decode cX13_init 302 = .ok (.aload_n 0, 1) := by decide +kernel
theorem dX13_init_303 : decode cX13_init 303 = .ok (.bipush 23, 2) := by decide +kernel
theorem dX13_init_305 : decode cX13_init 305 = .ok (.newarray .int, 2) := by decide +kernel
theorem dX13_init_307 : decode cX13_init 307 = .ok (.putfield 123, 3) := by decide +kernel
theorem dX13_init_310 : decode cX13_init 310 = .ok (.aload_n 0, 1) := by decide +kernel
theorem dX13_init_311 : decode cX13_init 311 = .ok (.bipush 115, 2) := by decide +kernel
theorem dX13_init_313 : decode cX13_init 313 = .ok (.newarray .int, 2) := by decide +kernel
theorem dX13_init_315 : decode cX13_init 315 = .ok (.putfield 126, 3) := by decide +kernel
theorem dX13_init_318 : decode cX13_init 318 = .ok (.aload_n 0, 1) := by decide +kernel
theorem dX13_init_319 : decode cX13_init 319 = .ok (.bipush 92, 2) := by decide +kernel
theorem dX13_init_321 : decode cX13_init 321 = .ok (.newarray .int, 2) := by decide +kernel
theorem dX13_init_323 : decode cX13_init 323 = .ok (.putfield 129, 3) := by decide +kernel
theorem dX13_init_326 : decode cX13_init 326 = .ok (.aload_n 0, 1) := by decide +kernel
theorem dX13_init_327 : decode cX13_init 327 = .ok (.sipush 368, 3) := by decide +kernel
theorem dX13_init_330 : decode cX13_init 330 = .ok (.newarray .int, 2) := by decide +kernel
theorem dX13_init_332 : decode cX13_init 332 = .ok (.putfield 132, 3) := by decide +kernel
theorem dX13_init_335 : decode cX13_init 335 = .ok (.aload_n 0, 1) := by decide +kernel
theorem dX13_init_336 : decode cX13_init 336 = .ok (.iconst 4, 1) := by decide +kernel
theorem dX13_init_337 : decode cX13_init 337 = .ok (.newarray .boolean, 2) := by decide +kernel
theorem dX13_init_339 : decode cX13_init 339 = .ok (.putfield 135, 3) := by decide +kernel
theorem dX13_init_342 : decode cX13_init 342 = .ok (.aload_n 0, 1) := by decide +kernel
theorem dX13_init_343 : decode cX13_init 343 = .ok (.iconst 5, 1) := by decide +kernel
theorem dX13_init_344 : decode cX13_init 344 = .ok (.newarray .int, 2) := by decide +kernel
theorem dX13_init_346 : decode cX13_init 346 = .ok (.putfield 138, 3) := by decide +kernel
theorem dX13_init_349 : decode cX13_init 349 = .ok (.aload_n 0, 1) := by decide +kernel
theorem dX13_init_350 : decode cX13_init 350 = .ok (.iconst 5, 1) := by decide +kernel
theorem dX13_init_351 : decode cX13_init 351 = .ok (.newarray .int, 2) := by decide +kernel
theorem dX13_init_353 : decode cX13_init 353 = .ok (.putfield 141, 3) := by decide +kernel
theorem dX13_init_356 : decode cX13_init 356 = .ok (.aload_n 0, 1) := by decide +kernel
theorem dX13_init_357 : decode cX13_init 357 = .ok (.iconst 5, 1) := by decide +kernel
theorem dX13_init_358 : decode cX13_init 358 = .ok (.newarray .int, 2) := by decide +kernel
theorem dX13_init_360 : decode cX13_init 360 = .ok (.putfield 144, 3) := by decide +kernel
theorem dX13_init_363 : decode cX13_init 363 = .ok (.aload_n 0, 1) := by decide +kernel
theorem dX13_init_364 : decode cX13_init 364 = .ok (.iconst 5, 1) := by decide +kernel
theorem dX13_init_365 : decode cX13_init 365 = .ok (.newarray .int, 2) := by decide +kernel
theorem dX13_init_367 : decode cX13_init 367 = .ok (.putfield 147, 3) := by decide +kernel
theorem dX13_init_370 : decode cX13_init 370 = .ok (.aload_n 0, 1) := by decide +kernel
theorem dX13_init_371 : decode cX13_init 371 = .ok (.getfield 13, 3) := by decide +kernel
theorem dX13_init_374 : decode cX13_init 374 = .ok (.iconst 4, 1) := by decide +kernel
theorem dX13_init_375 : decode cX13_init 375 = .ok (.bipush 6, 2) := by decide +kernel
theorem dX13_init_377 : decode cX13_init 377 = .ok (.iastore, 1) := by decide +kernel
theorem dX13_init_378 : decode cX13_init 378 = .ok (.aload_n 0, 1) := by decide +kernel
theorem dX13_init_379 : decode cX13_init 379 = .ok (.invokevirtual 150, 3) := by decide +kernel
theorem dX13_init_382 : decode cX13_init 382 = .ok (.return_, 1) := by decide +kernel
theorem dX13_thrown_0 : decode cX13_thrown 0 = .ok (.aload_n 0, 1) := by decide +kernel
theorem dX13_thrown_1 : decode cX13_thrown 1 = .ok (.getfield 153, 3) := by decide +kernel
theorem dX13_thrown_4 : decode cX13_thrown 4 = .ok (.ireturn, 1) := by decide +kernel
theorem dX13_within_0 : decode cX13_within 0 = .ok (.iload_n 0, 1) := by decide +kernel
theorem dX13_within_1 : decode cX13_within 1 = .ok (.iload_n 1, 1) := by decide +kernel
theorem dX13_within_2 : decode cX13_within 2 = .ok (.if_icmp .lt 12, 3) := by decide +kernel
theorem dX13_within_5 : decode cX13_within 5 = .ok (.iload_n 0, 1) := by decide +kernel
theorem dX13_within_6 : decode cX13_within 6 = .ok (.iload_n 2, 1) := by decide +kernel
theorem dX13_within_7 : decode cX13_within 7 = .ok (.if_icmp .gt 7, 3) := by decide +kernel
theorem dX13_within_10 : decode cX13_within 10 = .ok (.iconst 1, 1) := by decide +kernel
theorem dX13_within_11 : decode cX13_within 11 = .ok (.goto 4, 3) := by decide +kernel
theorem dX13_within_14 : decode cX13_within 14 = .ok (.iconst 0, 1) := by decide +kernel
theorem dX13_within_15 : decode cX13_within 15 = .ok (.ireturn, 1) := by decide +kernel
theorem dX13_between_0 : decode cX13_between 0 = .ok (.iload_n 0, 1) := by decide +kernel
theorem dX13_between_1 : decode cX13_between 1 = .ok (.iload_n 1, 1) := by decide +kernel
theorem dX13_between_2 : decode cX13_between 2 = .ok (.if_icmp .ge 7, 3) := by decide +kernel
theorem dX13_between_5 : decode cX13_between 5 = .ok (.iload_n 1, 1) := by decide +kernel
theorem dX13_between_6 : decode cX13_between 6 = .ok (.goto 13, 3) := by decide +kernel
theorem dX13_between_9 : decode cX13_between 9 = .ok (.iload_n 0, 1) := by decide +kernel
theorem dX13_between_10 : decode cX13_between 10 = .ok (.iload_n 2, 1) := by decide +kernel
theorem dX13_between_11 : decode cX13_between 11 = .ok (.if_icmp .le 7, 3) := by decide +kernel
theorem dX13_between_14 : decode cX13_between 14 = .ok (.iload_n 2, 1) := by decide +kernel
theorem dX13_between_15 : decode cX13_between 15 = .ok (.goto 4, 3) := by decide +kernel
theorem dX13_between_18 : decode cX13_between 18 = .ok (.iload_n 0, 1) := by decide +kernel
theorem dX13_between_19 : decode cX13_between 19 = .ok (.ireturn, 1) := by decide +kernel
theorem dX13_feed_0 : decode cX13_feed 0 = .ok (.aload_n 0, 1) := by decide +kernel
theorem dX13_feed_1 : decode cX13_feed 1 = .ok (.iconst 0, 1) := by decide +kernel
theorem dX13_feed_2 : decode cX13_feed 2 = .ok (.putfield 153, 3) := by decide +kernel
theorem dX13_feed_5 : decode cX13_feed 5 = .ok (.iconst 0, 1) := by decide +kernel
theorem dX13_feed_6 : decode cX13_feed 6 = .ok (.istore 7, 2) := by decide +kernel
theorem dX13_feed_8 : decode cX13_feed 8 = .ok (.iload 7, 2) := by decide +kernel
theorem dX13_feed_10 : decode cX13_feed 10 = .ok (.bipush 24, 2) := by decide +kernel
theorem dX13_feed_12 : decode cX13_feed 12 = .ok (.if_icmp .ge 108, 3) := by decide +kernel
theorem dX13_feed_15 : decode cX13_feed 15 = .ok (.iload 7, 2) := by decide +kernel
theorem dX13_feed_17 : decode cX13_feed 17 = .ok (.bipush 8, 2) := by decide +kernel
theorem dX13_feed_19 : decode cX13_feed 19 = .ok (.if_icmp .ge 7, 3) := by decide +kernel
theorem dX13_feed_22 : decode cX13_feed 22 = .ok (.lload_n 1, 1) := by decide +kernel
theorem dX13_feed_23 : decode cX13_feed 23 = .ok (.goto 16, 3) := by decide +kernel
theorem dX13_feed_26 : decode cX13_feed 26 = .ok (.iload 7, 2) := by decide +kernel
theorem dX13_feed_28 : decode cX13_feed 28 = .ok (.bipush 16, 2) := by decide +kernel
theorem dX13_feed_30 : decode cX13_feed 30 = .ok (.if_icmp .ge 7, 3) := by decide +kernel
theorem dX13_feed_33 : decode cX13_feed 33 = .ok (.lload_n 3, 1) := by decide +kernel
theorem dX13_feed_34 : decode cX13_feed 34 = .ok (.goto 5, 3) := by decide +kernel
theorem dX13_feed_37 : decode cX13_feed 37 = .ok (.lload 5, 2) := by decide +kernel
theorem dX13_feed_39 : decode cX13_feed 39 = .ok (.lstore 8, 2) := by decide +kernel
theorem dX13_feed_41 : decode cX13_feed 41 = .ok (.lload 8, 2) := by decide +kernel
theorem dX13_feed_43 : decode cX13_feed 43 = .ok (.bipush 56, 2) := by decide +kernel
theorem dX13_feed_45 : decode cX13_feed 45 = .ok (.bipush 8, 2) := by decide +kernel
theorem dX13_feed_47 : decode cX13_feed 47 = .ok (.iload 7, 2) := by decide +kernel
theorem dX13_feed_49 : decode cX13_feed 49 = .ok (.bipush 7, 2) := by decide +kernel
theorem dX13_feed_51 : decode cX13_feed 51 = .ok (.iand, 1) := by decide +kernel
theorem dX13_feed_52 : decode cX13_feed 52 = .ok (.imul, 1) := by decide +kernel
theorem dX13_feed_53 : decode cX13_feed 53 = .ok (.isub, 1) := by decide +kernel
theorem dX13_feed_54 : decode cX13_feed 54 = .ok (.lushr, 1) := by decide +kernel
theorem dX13_feed_55 : decode cX13_feed 55 = .ok (.ldc2_w 157, 3) := by decide +kernel
theorem dX13_feed_58 : decode cX13_feed 58 = .ok (.land, 1) := by decide +kernel
theorem dX13_feed_59 : decode cX13_feed 59 = .ok (.l2i, 1) := by decide +kernel
theorem dX13_feed_60 : decode cX13_feed 60 = .ok (.istore 10, 2) := by decide +kernel
theorem dX13_feed_62 : decode cX13_feed 62 = .ok (.aload_n 0, 1) := by decide +kernel
theorem dX13_feed_63 : decode cX13_feed 63 = .ok (.getfield 159, 3) := by decide +kernel
theorem dX13_feed_66 : decode cX13_feed 66 = .ok (.sipush 1000, 3) := by decide +kernel
theorem dX13_feed_69 : decode cX13_feed 69 = .ok (.if_icmp .ge 45, 3) := by decide +kernel
theorem dX13_feed_72 : decode cX13_feed 72 = .ok (.iload 10, 2) := by decide +kernel
theorem dX13_feed_74 : decode cX13_feed 74 = .ok (.bipush 10, 2) := by decide +kernel
theorem dX13_feed_76 : decode cX13_feed 76 = .ok (.if_icmp .eq 17, 3) := by decide +kernel
theorem dX13_feed_79 : decode cX13_feed 79 = .ok (.iload 10, 2) := by decide +kernel
theorem dX13_feed_81 : decode cX13_feed 81 = .ok (.bipush 32, 2) := by decide +kernel
theorem dX13_feed_83 : decode cX13_feed 83 = .ok (.if_icmp .lt 31, 3) := by decide +kernel
theorem dX13_feed_86 : decode cX13_feed 86 = .ok (.iload 10, 2) := by decide +kernel
theorem dX13_feed_88 : decode cX13_feed 88 = .ok (.bipush 126, 2) := by decide +kernel
theorem dX13_feed_90 : decode cX13_feed 90 = .ok (.if_icmp .gt 24, 3) := by decide +kernel
theorem dX13_feed_93 : decode cX13_feed 93 = .ok (.aload_n 0, 1) := by decide +kernel
theorem dX13_feed_94 : decode cX13_feed 94 = .ok (.getfield 7, 3) := by decide +kernel
theorem dX13_feed_97 : decode cX13_feed 97 = .ok (.aload_n 0, 1) := by decide +kernel
theorem dX13_feed_98 : decode cX13_feed 98 = .ok (.getfield 159, 3) := by decide +kernel
theorem dX13_feed_101 : decode cX13_feed 101 = .ok (.iload 10, 2) := by decide +kernel
theorem dX13_feed_103 : decode cX13_feed 103 = .ok (.iastore, 1) := by decide +kernel
theorem dX13_feed_104 : decode cX13_feed 104 = .ok (.aload_n 0, 1) := by decide +kernel
theorem dX13_feed_105 : decode cX13_feed 105 = .ok (.dup, 1) := by decide +kernel
theorem dX13_feed_106 : decode cX13_feed 106 = .ok (.getfield 159, 3) := by decide +kernel
theorem dX13_feed_109 : decode cX13_feed 109 = .ok (.iconst 1, 1) := by decide +kernel
theorem dX13_feed_110 : decode cX13_feed 110 = .ok (.iadd, 1) := by decide +kernel
theorem dX13_feed_111 : decode cX13_feed 111 = .ok (.putfield 159, 3) := by decide +kernel
theorem dX13_feed_114 : decode cX13_feed 114 = .ok (.iinc 7 1, 3) := by decide +kernel
theorem dX13_feed_117 : decode cX13_feed 117 = .ok (.goto (-109), 3) := by decide +kernel
theorem dX13_feed_120 : decode cX13_feed 120 = .ok (.aload_n 0, 1) := by decide +kernel
theorem dX13_feed_121 : decode cX13_feed 121 = .ok (.getfield 159, 3) := by decide +kernel
theorem dX13_feed_124 : decode cX13_feed 124 = .ok (.ireturn, 1) := by decide +kernel
theorem dX13_signAt_0 : decode cX13_signAt 0 = .ok (.iload_n 1, 1) := by decide +kernel
theorem dX13_signAt_1 : decode cX13_signAt 1 = .ok (.aload_n 0, 1) := by decide +kernel
theorem dX13_signAt_2 : decode cX13_signAt 2 = .ok (.getfield 162, 3) := by decide +kernel
theorem dX13_signAt_5 : decode cX13_signAt 5 = .ok (.if_icmp .ge 12, 3) := by decide +kernel
theorem dX13_signAt_8 : decode cX13_signAt 8 = .ok (.aload_n 0, 1) := by decide +kernel
theorem dX13_signAt_9 : decode cX13_signAt 9 = .ok (.getfield 7, 3) := by decide +kernel
theorem dX13_signAt_12 : decode cX13_signAt 12 = .ok (.iload_n 1, 1) := by decide +kernel
theorem dX13_signAt_13 : decode cX13_signAt 13 = .ok (.iaload, 1) := by decide +kernel
theorem dX13_signAt_14 : decode cX13_signAt 14 = .ok (.goto 4, 3) := by decide +kernel
theorem dX13_signAt_17 : decode cX13_signAt 17 = .ok (.iconst 0, 1) := by decide +kernel
theorem dX13_signAt_18 : decode cX13_signAt 18 = .ok (.ireturn, 1) := by decide +kernel
theorem dX13_nextToken_0 : decode cX13_nextToken 0 = .ok (.aload_n 0, 1) := by decide +kernel
theorem dX13_nextToken_1 : decode cX13_nextToken 1 = .ok (.getfield 165, 3) := by decide +kernel
theorem dX13_nextToken_4 : decode cX13_nextToken 4 = .ok (.aload_n 0, 1) := by decide +kernel
theorem dX13_nextToken_5 : decode cX13_nextToken 5 = .ok (.getfield 162, 3) := by decide +kernel
theorem dX13_nextToken_8 : decode cX13_nextToken 8 = .ok (.if_icmp .ge 44, 3) := by decide +kernel
theorem dX13_nextToken_11 : decode cX13_nextToken 11 = .ok (.aload_n 0, 1) := by decide +kernel
theorem dX13_nextToken_12 : decode cX13_nextToken 12 = .ok (.getfield 7, 3) := by decide +kernel
theorem dX13_nextToken_15 : decode cX13_nextToken 15 = .ok (.aload_n 0, 1) := by decide +kernel
theorem dX13_nextToken_16 : decode cX13_nextToken 16 = .ok (.getfield 165, 3) := by decide +kernel
theorem dX13_nextToken_19 : decode cX13_nextToken 19 = .ok (.iaload, 1) := by decide +kernel
theorem dX13_nextToken_20 : decode cX13_nextToken 20 = .ok (.bipush 32, 2) := by decide +kernel
theorem dX13_nextToken_22 : decode cX13_nextToken 22 = .ok (.if_icmp .eq 17, 3) := by decide +kernel
theorem dX13_nextToken_25 : decode cX13_nextToken 25 = .ok (.aload_n 0, 1) := by decide +kernel
theorem dX13_nextToken_26 : decode cX13_nextToken 26 = .ok (.getfield 7, 3) := by decide +kernel
theorem dX13_nextToken_29 : decode cX13_nextToken 29 = .ok (.aload_n 0, 1) := by decide +kernel
theorem dX13_nextToken_30 : decode cX13_nextToken 30 = .ok (.getfield 165, 3) := by decide +kernel
theorem dX13_nextToken_33 : decode cX13_nextToken 33 = .ok (.iaload, 1) := by decide +kernel
theorem dX13_nextToken_34 : decode cX13_nextToken 34 = .ok (.bipush 10, 2) := by decide +kernel
theorem dX13_nextToken_36 : decode cX13_nextToken 36 = .ok (.if_icmp .ne 16, 3) := by decide +kernel
theorem dX13_nextToken_39 : decode cX13_nextToken 39 = .ok (.aload_n 0, 1) := by decide +kernel
theorem dX13_nextToken_40 : decode cX13_nextToken 40 = .ok (.dup, 1) := by decide +kernel
theorem dX13_nextToken_41 : decode cX13_nextToken 41 = .ok (.getfield 165, 3) := by decide +kernel
theorem dX13_nextToken_44 : decode cX13_nextToken 44 = .ok (.iconst 1, 1) := by decide +kernel
theorem dX13_nextToken_45 : decode cX13_nextToken 45 = .ok (.iadd, 1) := by decide +kernel
theorem dX13_nextToken_46 : decode cX13_nextToken 46 = .ok (.putfield 165, 3) := by decide +kernel
theorem dX13_nextToken_49 : decode cX13_nextToken 49 = .ok (.goto (-49), 3) := by decide +kernel
theorem dX13_nextToken_52 : decode cX13_nextToken 52 = .ok (.aload_n 0, 1) := by decide +kernel
theorem dX13_nextToken_53 : decode cX13_nextToken 53 = .ok (.aload_n 0, 1) := by decide +kernel
theorem dX13_nextToken_54 : decode cX13_nextToken 54 = .ok (.getfield 165, 3) := by decide +kernel
theorem dX13_nextToken_57 : decode cX13_nextToken 57 = .ok (.putfield 168, 3) := by decide +kernel
theorem dX13_nextToken_60 : decode cX13_nextToken 60 = .ok (.aload_n 0, 1) := by decide +kernel
theorem dX13_nextToken_61 : decode cX13_nextToken 61 = .ok (.lconst 0, 1) := by decide +kernel
theorem dX13_nextToken_62 : decode cX13_nextToken 62 = .ok (.putfield 171, 3) := by decide +kernel
theorem dX13_nextToken_65 : decode cX13_nextToken 65 = .ok (.aload_n 0, 1) := by decide +kernel
theorem dX13_nextToken_66 : decode cX13_nextToken 66 = .ok (.iconst 0, 1) := by decide +kernel
theorem dX13_nextToken_67 : decode cX13_nextToken 67 = .ok (.putfield 175, 3) := by decide +kernel
theorem dX13_nextToken_70 : decode cX13_nextToken 70 = .ok (.aload_n 0, 1) := by decide +kernel
theorem dX13_nextToken_71 : decode cX13_nextToken 71 = .ok (.getfield 165, 3) := by decide +kernel
theorem dX13_nextToken_74 : decode cX13_nextToken 74 = .ok (.aload_n 0, 1) := by decide +kernel
theorem dX13_nextToken_75 : decode cX13_nextToken 75 = .ok (.getfield 162, 3) := by decide +kernel
theorem dX13_nextToken_78 : decode cX13_nextToken 78 = .ok (.if_icmp .ne 9, 3) := by decide +kernel
theorem dX13_nextToken_81 : decode cX13_nextToken 81 = .ok (.aload_n 0, 1) := by decide +kernel
theorem dX13_nextToken_82 : decode cX13_nextToken 82 = .ok (.iconst 0, 1) := by decide +kernel
theorem dX13_nextToken_83 : decode cX13_nextToken 83 = .ok (.putfield 178, 3) := by decide +kernel
theorem dX13_nextToken_86 : decode cX13_nextToken 86 = .ok (.return_, 1) := by decide +kernel
theorem dX13_nextToken_87 : decode cX13_nextToken 87 = .ok (.aload_n 0, 1) := by decide +kernel
theorem dX13_nextToken_88 : decode cX13_nextToken 88 = .ok (.getfield 7, 3) := by decide +kernel
theorem dX13_nextToken_91 : decode cX13_nextToken 91 = .ok (.aload_n 0, 1) := by decide +kernel
theorem dX13_nextToken_92 : decode cX13_nextToken 92 = .ok (.getfield 165, 3) := by decide +kernel
theorem dX13_nextToken_95 : decode cX13_nextToken 95 = .ok (.iaload, 1) := by decide +kernel
theorem dX13_nextToken_96 : decode cX13_nextToken 96 = .ok (.istore_n 1, 1) := by decide +kernel
theorem dX13_nextToken_97 : decode cX13_nextToken 97 = .ok (.iload_n 1, 1) := by decide +kernel
theorem dX13_nextToken_98 : decode cX13_nextToken 98 = .ok (.bipush 97, 2) := by decide +kernel
theorem dX13_nextToken_100 : decode cX13_nextToken 100 = .ok (.if_icmp .lt 112, 3) := by decide +kernel
theorem dX13_nextToken_103 : decode cX13_nextToken 103 = .ok (.iload_n 1, 1) := by decide +kernel
theorem dX13_nextToken_104 : decode cX13_nextToken 104 = .ok (.bipush 122, 2) := by decide +kernel
theorem dX13_nextToken_106 : decode cX13_nextToken 106 = .ok (.if_icmp .gt 106, 3) := by decide +kernel
theorem dX13_nextToken_109 : decode cX13_nextToken 109 = .ok (.aload_n 0, 1) := by decide +kernel
theorem dX13_nextToken_110 : decode cX13_nextToken 110 = .ok (.aload_n 0, 1) := by decide +kernel
theorem dX13_nextToken_111 : decode cX13_nextToken 111 = .ok (.getfield 165, 3) := by decide +kernel
theorem dX13_nextToken_114 : decode cX13_nextToken 114 = .ok (.invokevirtual 181, 3) := by decide +kernel
theorem dX13_nextToken_117 : decode cX13_nextToken 117 = .ok (.bipush 97, 2) := by decide +kernel
theorem dX13_nextToken_119 : decode cX13_nextToken 119 = .ok (.if_icmp .lt 69, 3) := by decide +kernel
theorem dX13_nextToken_122 : decode cX13_nextToken 122 = .ok (.aload_n 0, 1) := by decide +kernel
theorem dX13_nextToken_123 : decode cX13_nextToken 123 = .ok (.aload_n 0, 1) := by decide +kernel
theorem dX13_nextToken_124 : decode cX13_nextToken 124 = .ok (.getfield 165, 3) := by decide +kernel
theorem dX13_nextToken_127 : decode cX13_nextToken 127 = .ok (.invokevirtual 181, 3) := by decide +kernel
theorem dX13_nextToken_130 : decode cX13_nextToken 130 = .ok (.bipush 122, 2) := by decide +kernel
theorem dX13_nextToken_132 : decode cX13_nextToken 132 = .ok (.if_icmp .gt 56, 3) := by decide +kernel
theorem dX13_nextToken_135 : decode cX13_nextToken 135 = .ok (.aload_n 0, 1) := by decide +kernel
theorem dX13_nextToken_136 : decode cX13_nextToken 136 = .ok (.getfield 165, 3) := by decide +kernel
theorem dX13_nextToken_139 : decode cX13_nextToken 139 = .ok (.aload_n 0, 1) := by decide +kernel
theorem dX13_nextToken_140 : decode cX13_nextToken 140 = .ok (.getfield 168, 3) := by decide +kernel
theorem dX13_nextToken_143 : decode cX13_nextToken 143 = .ok (.isub, 1) := by decide +kernel
theorem dX13_nextToken_144 : decode cX13_nextToken 144 = .ok (.bipush 8, 2) := by decide +kernel
theorem dX13_nextToken_146 : decode cX13_nextToken 146 = .ok (.if_icmp .ge 29, 3) := by decide +kernel
theorem dX13_nextToken_149 : decode cX13_nextToken 149 = .ok (.aload_n 0, 1) := by decide +kernel
theorem dX13_nextToken_150 : decode cX13_nextToken 150 = .ok (.aload_n 0, 1) := by decide +kernel
theorem dX13_nextToken_151 : decode cX13_nextToken 151 = .ok (.getfield 171, 3) := by decide +kernel
theorem dX13_nextToken_154 : decode cX13_nextToken 154 = .ok (.ldc2_w 185, 3) := by decide +kernel
theorem dX13_nextToken_157 : decode cX13_nextToken 157 = .ok (.lmul, 1) := by decide +kernel
theorem dX13_nextToken_158 : decode cX13_nextToken 158 = .ok (.aload_n 0, 1) := by decide +kernel
theorem dX13_nextToken_159 : decode cX13_nextToken 159 = .ok (.aload_n 0, 1) := by decide +kernel
theorem dX13_nextToken_160 : decode cX13_nextToken 160 = .ok (.getfield 165, 3) := by decide +kernel
theorem dX13_nextToken_163 : decode cX13_nextToken 163 = .ok (.invokevirtual 181, 3) := by decide +kernel
theorem dX13_nextToken_166 : decode cX13_nextToken 166 = .ok (.i2l, 1) := by decide +kernel
theorem dX13_nextToken_167 : decode cX13_nextToken 167 = .ok (.ladd, 1) := by decide +kernel
theorem dX13_nextToken_168 : decode cX13_nextToken 168 = .ok (.ldc2_w 187, 3) := by decide +kernel
theorem dX13_nextToken_171 : decode cX13_nextToken 171 = .ok (.lsub, 1) := by decide +kernel
theorem dX13_nextToken_172 : decode cX13_nextToken 172 = .ok (.putfield 171, 3) := by decide +kernel
theorem dX13_nextToken_175 : decode cX13_nextToken 175 = .ok (.aload_n 0, 1) := by decide +kernel
theorem dX13_nextToken_176 : decode cX13_nextToken 176 = .ok (.dup, 1) := by decide +kernel
theorem dX13_nextToken_177 : decode cX13_nextToken 177 = .ok (.getfield 165, 3) := by decide +kernel
theorem dX13_nextToken_180 : decode cX13_nextToken 180 = .ok (.iconst 1, 1) := by decide +kernel
theorem dX13_nextToken_181 : decode cX13_nextToken 181 = .ok (.iadd, 1) := by decide +kernel
theorem dX13_nextToken_182 : decode cX13_nextToken 182 = .ok (.putfield 165, 3) := by decide +kernel
theorem dX13_nextToken_185 : decode cX13_nextToken 185 = .ok (.goto (-76), 3) := by decide +kernel
theorem dX13_nextToken_188 : decode cX13_nextToken 188 = .ok (.aload_n 0, 1) := by decide +kernel
theorem dX13_nextToken_189 : decode cX13_nextToken 189 = .ok (.aload_n 0, 1) := by decide +kernel
theorem dX13_nextToken_190 : decode cX13_nextToken 190 = .ok (.getfield 165, 3) := by decide +kernel
theorem dX13_nextToken_193 : decode cX13_nextToken 193 = .ok (.aload_n 0, 1) := by decide +kernel
theorem dX13_nextToken_194 : decode cX13_nextToken 194 = .ok (.getfield 168, 3) := by decide +kernel
theorem dX13_nextToken_197 : decode cX13_nextToken 197 = .ok (.isub, 1) := by decide +kernel
theorem dX13_nextToken_198 : decode cX13_nextToken 198 = .ok (.bipush 8, 2) := by decide +kernel
theorem dX13_nextToken_200 : decode cX13_nextToken 200 = .ok (.if_icmp .le 7, 3) := by decide +kernel
theorem dX13_nextToken_203 : decode cX13_nextToken 203 = .ok (.iconst 4, 1) := by decide +kernel
theorem dX13_nextToken_204 : decode cX13_nextToken 204 = .ok (.goto 4, 3) := by decide +kernel
theorem dX13_nextToken_207 : decode cX13_nextToken 207 = .ok (.iconst 1, 1) := by decide +kernel
theorem dX13_nextToken_208 : decode cX13_nextToken 208 = .ok (.putfield 178, 3) := by decide +kernel
theorem dX13_nextToken_211 : decode cX13_nextToken 211 = .ok (.return_, 1) := by decide +kernel
theorem dX13_nextToken_212 : decode cX13_nextToken 212 = .ok (.iload_n 1, 1) := by decide +kernel
theorem dX13_nextToken_213 : decode cX13_nextToken 213 = .ok (.bipush 48, 2) := by decide +kernel
theorem dX13_nextToken_215 : decode cX13_nextToken 215 = .ok (.if_icmp .lt 107, 3) := by decide +kernel
theorem dX13_nextToken_218 : decode cX13_nextToken 218 = .ok (.iload_n 1, 1) := by decide +kernel
theorem dX13_nextToken_219 : decode cX13_nextToken 219 = .ok (.bipush 57, 2) := by decide +kernel
theorem dX13_nextToken_221 : decode cX13_nextToken 221 = .ok (.if_icmp .gt 101, 3) := by decide +kernel
theorem dX13_nextToken_224 : decode cX13_nextToken 224 = .ok (.aload_n 0, 1) := by decide +kernel
theorem dX13_nextToken_225 : decode cX13_nextToken 225 = .ok (.aload_n 0, 1) := by decide +kernel
theorem dX13_nextToken_226 : decode cX13_nextToken 226 = .ok (.getfield 165, 3) := by decide +kernel
theorem dX13_nextToken_229 : decode cX13_nextToken 229 = .ok (.invokevirtual 181, 3) := by decide +kernel
theorem dX13_nextToken_232 : decode cX13_nextToken 232 = .ok (.bipush 48, 2) := by decide +kernel
theorem dX13_nextToken_234 : decode cX13_nextToken 234 = .ok (.if_icmp .lt 65, 3) := by decide +kernel
theorem dX13_nextToken_237 : decode cX13_nextToken 237 = .ok (.aload_n 0, 1) := by decide +kernel
theorem dX13_nextToken_238 : decode cX13_nextToken 238 = .ok (.aload_n 0, 1) := by decide +kernel
theorem dX13_nextToken_239 : decode cX13_nextToken 239 = .ok (.getfield 165, 3) := by decide +kernel
theorem dX13_nextToken_242 : decode cX13_nextToken 242 = .ok (.invokevirtual 181, 3) := by decide +kernel
theorem dX13_nextToken_245 : decode cX13_nextToken 245 = .ok (.bipush 57, 2) := by decide +kernel
theorem dX13_nextToken_247 : decode cX13_nextToken 247 = .ok (.if_icmp .gt 52, 3) := by decide +kernel
theorem dX13_nextToken_250 : decode cX13_nextToken 250 = .ok (.aload_n 0, 1) := by decide +kernel
theorem dX13_nextToken_251 : decode cX13_nextToken 251 = .ok (.getfield 165, 3) := by decide +kernel
theorem dX13_nextToken_254 : decode cX13_nextToken 254 = .ok (.aload_n 0, 1) := by decide +kernel
theorem dX13_nextToken_255 : decode cX13_nextToken 255 = .ok (.getfield 168, 3) := by decide +kernel
theorem dX13_nextToken_258 : decode cX13_nextToken 258 = .ok (.isub, 1) := by decide +kernel
theorem dX13_nextToken_259 : decode cX13_nextToken 259 = .ok (.iconst 4, 1) := by decide +kernel
theorem dX13_nextToken_260 : decode cX13_nextToken 260 = .ok (.if_icmp .ge 26, 3) := by decide +kernel
theorem dX13_nextToken_263 : decode cX13_nextToken 263 = .ok (.aload_n 0, 1) := by decide +kernel
theorem dX13_nextToken_264 : decode cX13_nextToken 264 = .ok (.aload_n 0, 1) := by decide +kernel
theorem dX13_nextToken_265 : decode cX13_nextToken 265 = .ok (.getfield 175, 3) := by decide +kernel
theorem dX13_nextToken_268 : decode cX13_nextToken 268 = .ok (.bipush 10, 2) := by decide +kernel
theorem dX13_nextToken_270 : decode cX13_nextToken 270 = .ok (.imul, 1) := by decide +kernel
theorem dX13_nextToken_271 : decode cX13_nextToken 271 = .ok (.aload_n 0, 1) := by decide +kernel
theorem dX13_nextToken_272 : decode cX13_nextToken 272 = .ok (.aload_n 0, 1) := by decide +kernel
theorem dX13_nextToken_273 : decode cX13_nextToken 273 = .ok (.getfield 165, 3) := by decide +kernel
theorem dX13_nextToken_276 : decode cX13_nextToken 276 = .ok (.invokevirtual 181, 3) := by decide +kernel
theorem dX13_nextToken_279 : decode cX13_nextToken 279 = .ok (.iadd, 1) := by decide +kernel
theorem dX13_nextToken_280 : decode cX13_nextToken 280 = .ok (.bipush 48, 2) := by decide +kernel
theorem dX13_nextToken_282 : decode cX13_nextToken 282 = .ok (.isub, 1) := by decide +kernel
theorem dX13_nextToken_283 : decode cX13_nextToken 283 = .ok (.putfield 175, 3) := by decide +kernel
theorem dX13_nextToken_286 : decode cX13_nextToken 286 = .ok (.aload_n 0, 1) := by decide +kernel
theorem dX13_nextToken_287 : decode cX13_nextToken 287 = .ok (.dup, 1) := by decide +kernel
theorem dX13_nextToken_288 : decode cX13_nextToken 288 = .ok (.getfield 165, 3) := by decide +kernel
theorem dX13_nextToken_291 : decode cX13_nextToken 291 = .ok (.iconst 1, 1) := by decide +kernel
theorem dX13_nextToken_292 : decode cX13_nextToken 292 = .ok (.iadd, 1) := by decide +kernel
theorem dX13_nextToken_293 : decode cX13_nextToken 293 = .ok (.putfield 165, 3) := by decide +kernel
theorem dX13_nextToken_296 : decode cX13_nextToken 296 = .ok (.goto (-72), 3) := by decide +kernel
theorem dX13_nextToken_299 : decode cX13_nextToken 299 = .ok (.aload_n 0, 1) := by decide +kernel
theorem dX13_nextToken_300 : decode cX13_nextToken 300 = .ok (.aload_n 0, 1) := by decide +kernel
theorem dX13_nextToken_301 : decode cX13_nextToken 301 = .ok (.getfield 165, 3) := by decide +kernel
theorem dX13_nextToken_304 : decode cX13_nextToken 304 = .ok (.aload_n 0, 1) := by decide +kernel
theorem dX13_nextToken_305 : decode cX13_nextToken 305 = .ok (.getfield 168, 3) := by decide +kernel
theorem dX13_nextToken_308 : decode cX13_nextToken 308 = .ok (.isub, 1) := by decide +kernel
theorem dX13_nextToken_309 : decode cX13_nextToken 309 = .ok (.iconst 4, 1) := by decide +kernel
theorem dX13_nextToken_310 : decode cX13_nextToken 310 = .ok (.if_icmp .le 7, 3) := by decide +kernel
theorem dX13_nextToken_313 : decode cX13_nextToken 313 = .ok (.iconst 4, 1) := by decide +kernel
theorem dX13_nextToken_314 : decode cX13_nextToken 314 = .ok (.goto 4, 3) := by decide +kernel
theorem dX13_nextToken_317 : decode cX13_nextToken 317 = .ok (.iconst 2, 1) := by decide +kernel
theorem dX13_nextToken_318 : decode cX13_nextToken 318 = .ok (.putfield 178, 3) := by decide +kernel
theorem dX13_nextToken_321 : decode cX13_nextToken 321 = .ok (.return_, 1) := by decide +kernel
theorem dX13_nextToken_322 : decode cX13_nextToken 322 = .ok (.aload_n 0, 1) := by decide +kernel
theorem dX13_nextToken_323 : decode cX13_nextToken 323 = .ok (.dup, 1) := by decide +kernel
theorem dX13_nextToken_324 : decode cX13_nextToken 324 = .ok (.getfield 165, 3) := by decide +kernel
theorem dX13_nextToken_327 : decode cX13_nextToken 327 = .ok (.iconst 1, 1) := by decide +kernel
theorem dX13_nextToken_328 : decode cX13_nextToken 328 = .ok (.iadd, 1) := by decide +kernel
theorem dX13_nextToken_329 : decode cX13_nextToken 329 = .ok (.putfield 165, 3) := by decide +kernel
theorem dX13_nextToken_332 : decode cX13_nextToken 332 = .ok (.aload_n 0, 1) := by decide +kernel
theorem dX13_nextToken_333 : decode cX13_nextToken 333 = .ok (.iload_n 1, 1) := by decide +kernel
theorem dX13_nextToken_334 : decode cX13_nextToken 334 = .ok (.bipush 40, 2) := by decide +kernel
theorem dX13_nextToken_336 : decode cX13_nextToken 336 = .ok (.if_icmp .lt 9, 3) := by decide +kernel
theorem dX13_nextToken_339 : decode cX13_nextToken 339 = .ok (.iload_n 1, 1) := by decide +kernel
theorem dX13_nextToken_340 : decode cX13_nextToken 340 = .ok (.bipush 43, 2) := by decide +kernel
theorem dX13_nextToken_342 : decode cX13_nextToken 342 = .ok (.if_icmp .le 21, 3) := by decide +kernel
theorem dX13_nextToken_345 : decode cX13_nextToken 345 = .ok (.iload_n 1, 1) := by decide +kernel
theorem dX13_nextToken_346 : decode cX13_nextToken 346 = .ok (.bipush 45, 2) := by decide +kernel
theorem dX13_nextToken_348 : decode cX13_nextToken 348 = .ok (.if_icmp .eq 15, 3) := by decide +kernel
theorem dX13_nextToken_351 : decode cX13_nextToken 351 = .ok (.iload_n 1, 1) := by decide +kernel
theorem dX13_nextToken_352 : decode cX13_nextToken 352 = .ok (.bipush 59, 2) := by decide +kernel
theorem dX13_nextToken_354 : decode cX13_nextToken 354 = .ok (.if_icmp .lt 13, 3) := by decide +kernel
theorem dX13_nextToken_357 : decode cX13_nextToken 357 = .ok (.iload_n 1, 1) := by decide +kernel
theorem dX13_nextToken_358 : decode cX13_nextToken 358 = .ok (.bipush 61, 2) := by decide +kernel
theorem dX13_nextToken_360 : decode cX13_nextToken 360 = .ok (.if_icmp .gt 7, 3) := by decide +kernel
theorem dX13_nextToken_363 : decode cX13_nextToken 363 = .ok (.iconst 3, 1) := by decide +kernel
theorem dX13_nextToken_364 : decode cX13_nextToken 364 = .ok (.goto 4, 3) := by decide +kernel
theorem dX13_nextToken_367 : decode cX13_nextToken 367 = .ok (.iconst 4, 1) := by decide +kernel
theorem dX13_nextToken_368 : decode cX13_nextToken 368 = .ok (.putfield 178, 3) := by decide +kernel
theorem dX13_nextToken_371 : decode cX13_nextToken 371 = .ok (.return_, 1) := by decide +kernel
theorem dX13_isWord_0 : decode cX13_isWord 0 = .ok (.aload_n 0, 1) := by decide +kernel
theorem dX13_isWord_1 : decode cX13_isWord 1 = .ok (.getfield 178, 3) := by decide +kernel
theorem dX13_isWord_4 : decode cX13_isWord 4 = .ok (.iconst 1, 1) := by decide +kernel
theorem dX13_isWord_5 : decode cX13_isWord 5 = .ok (.if_icmp .ne 16, 3) := by decide +kernel
theorem dX13_isWord_8 : decode cX13_isWord 8 = .ok (.aload_n 0, 1) := by decide +kernel
theorem dX13_isWord_9 : decode cX13_isWord 9 = .ok (.getfield 171, 3) := by decide +kernel
theorem dX13_isWord_12 : decode cX13_isWord 12 = .ok (.lload_n 1, 1) := by decide +kernel
theorem dX13_isWord_13 : decode cX13_isWord 13 = .ok (.lcmp, 1) := by decide +kernel
theorem dX13_isWord_14 : decode cX13_isWord 14 = .ok (.ifCond .ne 7, 3) := by decide +kernel
theorem dX13_isWord_17 : decode cX13_isWord 17 = .ok (.iconst 1, 1) := by decide +kernel
theorem dX13_isWord_18 : decode cX13_isWord 18 = .ok (.goto 4, 3) := by decide +kernel
theorem dX13_isWord_21 : decode cX13_isWord 21 = .ok (.iconst 0, 1) := by decide +kernel
theorem dX13_isWord_22 : decode cX13_isWord 22 = .ok (.ireturn, 1) := by decide +kernel
theorem dX13_isSign_0 : decode cX13_isSign 0 = .ok (.aload_n 0, 1) := by decide +kernel
theorem dX13_isSign_1 : decode cX13_isSign 1 = .ok (.getfield 178, 3) := by decide +kernel
theorem dX13_isSign_4 : decode cX13_isSign 4 = .ok (.iconst 3, 1) := by decide +kernel
theorem dX13_isSign_5 : decode cX13_isSign 5 = .ok (.if_icmp .ne 20, 3) := by decide +kernel
theorem dX13_isSign_8 : decode cX13_isSign 8 = .ok (.aload_n 0, 1) := by decide +kernel
theorem dX13_isSign_9 : decode cX13_isSign 9 = .ok (.getfield 7, 3) := by decide +kernel
theorem dX13_isSign_12 : decode cX13_isSign 12 = .ok (.aload_n 0, 1) := by decide +kernel
theorem dX13_isSign_13 : decode cX13_isSign 13 = .ok (.getfield 168, 3) := by decide +kernel
theorem dX13_isSign_16 : decode cX13_isSign 16 = .ok (.iaload, 1) := by decide +kernel
theorem dX13_isSign_17 : decode cX13_isSign 17 = .ok (.iload_n 1, 1) := by decide +kernel
theorem dX13_isSign_18 : decode cX13_isSign 18 = .ok (.if_icmp .ne 7, 3) := by decide +kernel
theorem dX13_isSign_21 : decode cX13_isSign 21 = .ok (.iconst 1, 1) := by decide +kernel
theorem dX13_isSign_22 : decode cX13_isSign 22 = .ok (.goto 4, 3) := by decide +kernel
theorem dX13_isSign_25 : decode cX13_isSign 25 = .ok (.iconst 0, 1) := by decide +kernel
theorem dX13_isSign_26 : decode cX13_isSign 26 = .ok (.ireturn, 1) := by decide +kernel
theorem dX13_fails_0 : decode cX13_fails 0 = .ok (.aload_n 0, 1) := by decide +kernel
theorem dX13_fails_1 : decode cX13_fails 1 = .ok (.iload_n 1, 1) := by decide +kernel
theorem dX13_fails_2 : decode cX13_fails 2 = .ok (.bipush 16, 2) := by decide +kernel
theorem dX13_fails_4 : decode cX13_fails 4 = .ok (.aload_n 0, 1) := by decide +kernel
theorem dX13_fails_5 : decode cX13_fails 5 = .ok (.getfield 168, 3) := by decide +kernel
theorem dX13_fails_8 : decode cX13_fails 8 = .ok (.imul, 1) := by decide +kernel
theorem dX13_fails_9 : decode cX13_fails 9 = .ok (.iadd, 1) := by decide +kernel
theorem dX13_fails_10 : decode cX13_fails 10 = .ok (.putfield 189, 3) := by decide +kernel
theorem dX13_fails_13 : decode cX13_fails 13 = .ok (.iconst 0, 1) := by decide +kernel
theorem dX13_fails_14 : decode cX13_fails 14 = .ok (.ireturn, 1) := by decide +kernel
theorem dX13_puts_0 : decode cX13_puts 0 = .ok (.aload_n 0, 1) := by decide +kernel
theorem dX13_puts_1 : decode cX13_puts 1 = .ok (.getfield 56, 3) := by decide +kernel
theorem dX13_puts_4 : decode cX13_puts 4 = .ok (.aload_n 0, 1) := by decide +kernel
theorem dX13_puts_5 : decode cX13_puts 5 = .ok (.getfield 192, 3) := by decide +kernel
theorem dX13_puts_8 : decode cX13_puts 8 = .ok (.iload_n 1, 1) := by decide +kernel
theorem dX13_puts_9 : decode cX13_puts 9 = .ok (.iastore, 1) := by decide +kernel
theorem dX13_puts_10 : decode cX13_puts 10 = .ok (.aload_n 0, 1) := by decide +kernel
theorem dX13_puts_11 : decode cX13_puts 11 = .ok (.dup, 1) := by decide +kernel
theorem dX13_puts_12 : decode cX13_puts 12 = .ok (.getfield 192, 3) := by decide +kernel
theorem dX13_puts_15 : decode cX13_puts 15 = .ok (.iconst 1, 1) := by decide +kernel
theorem dX13_puts_16 : decode cX13_puts 16 = .ok (.iadd, 1) := by decide +kernel
theorem dX13_puts_17 : decode cX13_puts 17 = .ok (.putfield 192, 3) := by decide +kernel
theorem dX13_puts_20 : decode cX13_puts 20 = .ok (.return_, 1) := by decide +kernel
theorem dX13_fact_0 : decode cX13_fact 0 = .ok (.aload_n 0, 1) := by decide +kernel
theorem dX13_fact_1 : decode cX13_fact 1 = .ok (.getfield 178, 3) := by decide +kernel
theorem dX13_fact_4 : decode cX13_fact 4 = .ok (.iconst 1, 1) := by decide +kernel
theorem dX13_fact_5 : decode cX13_fact 5 = .ok (.if_icmp .eq 5, 3) := by decide +kernel
theorem dX13_fact_8 : decode cX13_fact 8 = .ok (.iconst 0, 1) := by decide +kernel
theorem dX13_fact_9 : decode cX13_fact 9 = .ok (.ireturn, 1) := by decide +kernel
theorem dX13_fact_10 : decode cX13_fact 10 = .ok (.aload_n 0, 1) := by decide +kernel
theorem dX13_fact_11 : decode cX13_fact 11 = .ok (.getfield 171, 3) := by decide +kernel
theorem dX13_fact_14 : decode cX13_fact 14 = .ok (.ldc2_w 195, 3) := by decide +kernel
theorem dX13_fact_17 : decode cX13_fact 17 = .ok (.lcmp, 1) := by decide +kernel
theorem dX13_fact_18 : decode cX13_fact 18 = .ok (.ifCond .ne 5, 3) := by decide +kernel
theorem dX13_fact_21 : decode cX13_fact 21 = .ok (.iconst 1, 1) := by decide +kernel
theorem dX13_fact_22 : decode cX13_fact 22 = .ok (.ireturn, 1) := by decide +kernel
theorem dX13_fact_23 : decode cX13_fact 23 = .ok (.aload_n 0, 1) := by decide +kernel
theorem dX13_fact_24 : decode cX13_fact 24 = .ok (.getfield 171, 3) := by decide +kernel
theorem dX13_fact_27 : decode cX13_fact 27 = .ok (.ldc2_w 197, 3) := by decide +kernel
theorem dX13_fact_30 : decode cX13_fact 30 = .ok (.lcmp, 1) := by decide +kernel
theorem dX13_fact_31 : decode cX13_fact 31 = .ok (.ifCond .ne 5, 3) := by decide +kernel
theorem dX13_fact_34 : decode cX13_fact 34 = .ok (.iconst 2, 1) := by decide +kernel
theorem dX13_fact_35 : decode cX13_fact 35 = .ok (.ireturn, 1) := by decide +kernel
theorem dX13_fact_36 : decode cX13_fact 36 = .ok (.aload_n 0, 1) := by decide +kernel
theorem dX13_fact_37 : decode cX13_fact 37 = .ok (.getfield 199, 3) := by decide +kernel
theorem dX13_fact_40 : decode cX13_fact 40 = .ok (.ifCond .ne 35, 3) := by decide +kernel
theorem dX13_fact_43 : decode cX13_fact 43 = .ok (.aload_n 0, 1) := by decide +kernel
theorem dX13_fact_44 : decode cX13_fact 44 = .ok (.getfield 171, 3) := by decide +kernel
theorem dX13_fact_47 : decode cX13_fact 47 = .ok (.ldc2_w 202, 3) := by decide +kernel
theorem dX13_fact_50 : decode cX13_fact 50 = .ok (.lcmp, 1) := by decide +kernel
theorem dX13_fact_51 : decode cX13_fact 51 = .ok (.ifCond .ne 7, 3) := by decide +kernel
theorem dX13_fact_54 : decode cX13_fact 54 = .ok (.iconst 3, 1) := by decide +kernel
theorem dX13_fact_55 : decode cX13_fact 55 = .ok (.goto 19, 3) := by decide +kernel
theorem dX13_fact_58 : decode cX13_fact 58 = .ok (.aload_n 0, 1) := by decide +kernel
theorem dX13_fact_59 : decode cX13_fact 59 = .ok (.getfield 171, 3) := by decide +kernel
theorem dX13_fact_62 : decode cX13_fact 62 = .ok (.ldc2_w 204, 3) := by decide +kernel
theorem dX13_fact_65 : decode cX13_fact 65 = .ok (.lcmp, 1) := by decide +kernel
theorem dX13_fact_66 : decode cX13_fact 66 = .ok (.ifCond .ne 7, 3) := by decide +kernel
theorem dX13_fact_69 : decode cX13_fact 69 = .ok (.iconst 4, 1) := by decide +kernel
theorem dX13_fact_70 : decode cX13_fact 70 = .ok (.goto 4, 3) := by decide +kernel
theorem dX13_fact_73 : decode cX13_fact 73 = .ok (.iconst 0, 1) := by decide +kernel
theorem dX13_fact_74 : decode cX13_fact 74 = .ok (.ireturn, 1) := by decide +kernel
theorem dX13_fact_75 : decode cX13_fact 75 = .ok (.aload_n 0, 1) := by decide +kernel
theorem dX13_fact_76 : decode cX13_fact 76 = .ok (.getfield 171, 3) := by decide +kernel
theorem dX13_fact_79 : decode cX13_fact 79 = .ok (.ldc2_w 206, 3) := by decide +kernel
theorem dX13_fact_82 : decode cX13_fact 82 = .ok (.lcmp, 1) := by decide +kernel
theorem dX13_fact_83 : decode cX13_fact 83 = .ok (.ifCond .ne 7, 3) := by decide +kernel
theorem dX13_fact_86 : decode cX13_fact 86 = .ok (.iconst 5, 1) := by decide +kernel
theorem dX13_fact_87 : decode cX13_fact 87 = .ok (.goto 20, 3) := by decide +kernel
theorem dX13_fact_90 : decode cX13_fact 90 = .ok (.aload_n 0, 1) := by decide +kernel
theorem dX13_fact_91 : decode cX13_fact 91 = .ok (.getfield 171, 3) := by decide +kernel
theorem dX13_fact_94 : decode cX13_fact 94 = .ok (.ldc2_w 208, 3) := by decide +kernel
theorem dX13_fact_97 : decode cX13_fact 97 = .ok (.lcmp, 1) := by decide +kernel
theorem dX13_fact_98 : decode cX13_fact 98 = .ok (.ifCond .ne 8, 3) := by decide +kernel
theorem dX13_fact_101 : decode cX13_fact 101 = .ok (.bipush 6, 2) := by decide +kernel
theorem dX13_fact_103 : decode cX13_fact 103 = .ok (.goto 4, 3) := by decide +kernel
theorem dX13_fact_106 : decode cX13_fact 106 = .ok (.iconst 0, 1) := by decide +kernel
theorem dX13_fact_107 : decode cX13_fact 107 = .ok (.ireturn, 1) := by decide +kernel
theorem dX13_reads_0 : decode cX13_reads 0 = .ok (.iconst 0, 1) := by decide +kernel
theorem dX13_reads_1 : decode cX13_reads 1 = .ok (.istore_n 1, 1) := by decide +kernel
theorem dX13_reads_2 : decode cX13_reads 2 = .ok (.iconst 1, 1) := by decide +kernel
theorem dX13_reads_3 : decode cX13_reads 3 = .ok (.istore_n 2, 1) := by decide +kernel
theorem dX13_reads_4 : decode cX13_reads 4 = .ok (.aload_n 0, 1) := by decide +kernel
theorem dX13_reads_5 : decode cX13_reads 5 = .ok (.getfield 62, 3) := by decide +kernel
theorem dX13_reads_8 : decode cX13_reads 8 = .ok (.iconst 0, 1) := by decide +kernel
theorem dX13_reads_9 : decode cX13_reads 9 = .ok (.iconst 0, 1) := by decide +kernel
theorem dX13_reads_10 : decode cX13_reads 10 = .ok (.bastore, 1) := by decide +kernel
theorem dX13_reads_11 : decode cX13_reads 11 = .ok (.iload_n 2, 1) := by decide +kernel
theorem dX13_reads_12 : decode cX13_reads 12 = .ok (.ifCond .eq 167, 3) := by decide +kernel
theorem dX13_reads_15 : decode cX13_reads 15 = .ok (.aload_n 0, 1) := by decide +kernel
theorem dX13_reads_16 : decode cX13_reads 16 = .ok (.invokevirtual 210, 3) := by decide +kernel
theorem dX13_reads_19 : decode cX13_reads 19 = .ok (.istore_n 3, 1) := by decide +kernel
theorem dX13_reads_20 : decode cX13_reads 20 = .ok (.aload_n 0, 1) := by decide +kernel
theorem dX13_reads_21 : decode cX13_reads 21 = .ok (.ldc2_w 214, 3) := by decide +kernel
theorem dX13_reads_24 : decode cX13_reads 24 = .ok (.invokevirtual 216, 3) := by decide +kernel
theorem dX13_reads_27 : decode cX13_reads 27 = .ok (.istore 4, 2) := by decide +kernel
theorem dX13_reads_29 : decode cX13_reads 29 = .ok (.aload_n 0, 1) := by decide +kernel
theorem dX13_reads_30 : decode cX13_reads 30 = .ok (.bipush 40, 2) := by decide +kernel
theorem dX13_reads_32 : decode cX13_reads 32 = .ok (.invokevirtual 220, 3) := by decide +kernel
theorem dX13_reads_35 : decode cX13_reads 35 = .ok (.istore 5, 2) := by decide +kernel
theorem dX13_reads_37 : decode cX13_reads 37 = .ok (.iload_n 3, 1) := by decide +kernel
theorem dX13_reads_38 : decode cX13_reads 38 = .ok (.ifCond .ne 27, 3) := by decide +kernel
theorem dX13_reads_41 : decode cX13_reads 41 = .ok (.iload 4, 2) := by decide +kernel
theorem dX13_reads_43 : decode cX13_reads 43 = .ok (.ifCond .ne 22, 3) := by decide +kernel
theorem dX13_reads_46 : decode cX13_reads 46 = .ok (.iload 5, 2) := by decide +kernel
theorem dX13_reads_48 : decode cX13_reads 48 = .ok (.ifCond .ne 17, 3) := by decide +kernel
theorem dX13_reads_51 : decode cX13_reads 51 = .ok (.aload_n 0, 1) := by decide +kernel
theorem dX13_reads_52 : decode cX13_reads 52 = .ok (.getfield 178, 3) := by decide +kernel
theorem dX13_reads_55 : decode cX13_reads 55 = .ok (.iconst 2, 1) := by decide +kernel
theorem dX13_reads_56 : decode cX13_reads 56 = .ok (.if_icmp .eq 9, 3) := by decide +kernel
theorem dX13_reads_59 : decode cX13_reads 59 = .ok (.aload_n 0, 1) := by decide +kernel
theorem dX13_reads_60 : decode cX13_reads 60 = .ok (.iconst 1, 1) := by decide +kernel
