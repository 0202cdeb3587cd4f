theorem dX1_init_0 : decode cX1_init 0 = .ok (.aload_n 0, 1) := by decide +kernel
theorem dX1_init_1 : decode cX1_init 1 = .ok (.invokespecial 3, 3) := by decide +kernel
theorem dX1_init_4 : decode cX1_init 4 = .ok (.aload_n 0, 1) := by decide +kernel
theorem dX1_init_5 : decode cX1_init 5 = .ok (.bipush 6, 2) := by decide +kernel
theorem dX1_init_7 : decode cX1_init 7 = .ok (.putfield 9, 3) := by decide +kernel
theorem dX1_init_10 : decode cX1_init 10 = .ok (.aload_n 0, 1) := by decide +kernel
theorem dX1_init_11 : decode cX1_init 11 = .ok (.bipush 6, 2) := by decide +kernel
theorem dX1_init_13 : decode cX1_init 13 = .ok (.newarray .long, 2) := by decide +kernel
theorem dX1_init_15 : decode cX1_init 15 = .ok (.putfield 15, 3) := by decide +kernel
theorem dX1_init_18 : decode cX1_init 18 = .ok (.aload_n 0, 1) := by decide +kernel
theorem dX1_init_19 : decode cX1_init 19 = .ok (.bipush 6, 2) := by decide +kernel
theorem dX1_init_21 : decode cX1_init 21 = .ok (.newarray .int, 2) := by decide +kernel
theorem dX1_init_23 : decode cX1_init 23 = .ok (.putfield 19, 3) := by decide +kernel
theorem dX1_init_26 : decode cX1_init 26 = .ok (.aload_n 0, 1) := by decide +kernel
theorem dX1_init_27 : decode cX1_init 27 = .ok (.bipush 6, 2) := by decide +kernel
theorem dX1_init_29 : decode cX1_init 29 = .ok (.newarray .int, 2) := by decide +kernel
theorem dX1_init_31 : decode cX1_init 31 = .ok (.putfield 23, 3) := by decide +kernel
theorem dX1_init_34 : decode cX1_init 34 = .ok (.aload_n 0, 1) := by decide +kernel
theorem dX1_init_35 : decode cX1_init 35 = .ok (.bipush 6, 2) := by decide +kernel
theorem dX1_init_37 : decode cX1_init 37 = .ok (.newarray .int, 2) := by decide +kernel
theorem dX1_init_39 : decode cX1_init 39 = .ok (.putfield 26, 3) := by decide +kernel
theorem dX1_init_42 : decode cX1_init 42 = .ok (.aload_n 0, 1) := by decide +kernel
theorem dX1_init_43 : decode cX1_init 43 = .ok (.bipush 6, 2) := by decide +kernel
theorem dX1_init_45 : decode cX1_init 45 = .ok (.newarray .int, 2) := by decide +kernel
theorem dX1_init_47 : decode cX1_init 47 = .ok (.putfield 29, 3) := by decide +kernel
theorem dX1_init_50 : decode cX1_init 50 = .ok (.aload_n 0, 1) := by decide +kernel
theorem dX1_init_51 : decode cX1_init 51 = .ok (.bipush 6, 2) := by decide +kernel
theorem dX1_init_53 : decode cX1_init 53 = .ok (.newarray .int, 2) := by decide +kernel
theorem dX1_init_55 : decode cX1_init 55 = .ok (.putfield 32, 3) := by decide +kernel
theorem dX1_init_58 : decode cX1_init 58 = .ok (.aload_n 0, 1) := by decide +kernel
theorem dX1_init_59 : decode cX1_init 59 = .ok (.iconst 5, 1) := by decide +kernel
theorem dX1_init_60 : decode cX1_init 60 = .ok (.newarray .long, 2) := by decide +kernel
theorem dX1_init_62 : decode cX1_init 62 = .ok (.putfield 35, 3) := by decide +kernel
theorem dX1_init_65 : decode cX1_init 65 = .ok (.aload_n 0, 1) := by decide +kernel
theorem dX1_init_66 : decode cX1_init 66 = .ok (.iconst 5, 1) := by decide +kernel
theorem dX1_init_67 : decode cX1_init 67 = .ok (.newarray .int, 2) := by decide +kernel
theorem dX1_init_69 : decode cX1_init 69 = .ok (.putfield 38, 3) := by decide +kernel
theorem dX1_init_72 : decode cX1_init 72 = .ok (.aload_n 0, 1) := by decide +kernel
theorem dX1_init_73 : decode cX1_init 73 = .ok (.iconst 5, 1) := by decide +kernel
theorem dX1_init_74 : decode cX1_init 74 = .ok (.newarray .int, 2) := by decide +kernel
theorem dX1_init_76 : decode cX1_init 76 = .ok (.putfield 41, 3) := by decide +kernel
theorem dX1_init_79 : decode cX1_init 79 = .ok (.aload_n 0, 1) := by decide +kernel
theorem dX1_init_80 : decode cX1_init 80 = .ok (.bipush 6, 2) := by decide +kernel
theorem dX1_init_82 : decode cX1_init 82 = .ok (.newarray .long, 2) := by decide +kernel
theorem dX1_init_84 : decode cX1_init 84 = .ok (.putfield 44, 3) := by decide +kernel
theorem dX1_init_87 : decode cX1_init 87 = .ok (.aload_n 0, 1) := by decide +kernel
theorem dX1_init_88 : decode cX1_init 88 = .ok (.bipush 6, 2) := by decide +kernel
theorem dX1_init_90 : decode cX1_init 90 = .ok (.newarray .int, 2) := by decide +kernel
theorem dX1_init_92 : decode cX1_init 92 = .ok (.putfield 47, 3) := by decide +kernel
theorem dX1_init_95 : decode cX1_init 95 = .ok (.aload_n 0, 1) := by decide +kernel
theorem dX1_init_96 : decode cX1_init 96 = .ok (.new 50, 3) := by decide +kernel
theorem dX1_init_99 : decode cX1_init 99 = .ok (.dup, 1) := by decide +kernel
theorem dX1_init_100 : decode cX1_init 100 = .ok (.invokespecial 52, 3) := by decide +kernel
theorem dX1_init_103 : decode cX1_init 103 = .ok (.putfield 53, 3) := by decide +kernel
theorem dX1_init_106 : decode cX1_init 106 = .ok (.return_, 1) := by decide +kernel
theorem dX1_clear_0 : decode cX1_clear 0 = .ok (.aload_n 0, 1) := by decide +kernel
theorem dX1_clear_1 : decode cX1_clear 1 = .ok (.iconst 0, 1) := by decide +kernel
theorem dX1_clear_2 : decode cX1_clear 2 = .ok (.putfield 57, 3) := by decide +kernel
theorem dX1_clear_5 : decode cX1_clear 5 = .ok (.aload_n 0, 1) := by decide +kernel
theorem dX1_clear_6 : decode cX1_clear 6 = .ok (.iconst 0, 1) := by decide +kernel
theorem dX1_clear_7 : decode cX1_clear 7 = .ok (.putfield 60, 3) := by decide +kernel
theorem dX1_clear_10 : decode cX1_clear 10 = .ok (.aload_n 0, 1) := by decide +kernel
theorem dX1_clear_11 : decode cX1_clear 11 = .ok (.iconst 0, 1) := by decide +kernel
theorem dX1_clear_12 : decode cX1_clear 12 = .ok (.putfield 63, 3) := by decide +kernel
theorem dX1_clear_15 : decode cX1_clear 15 = .ok (.aload_n 0, 1) := by decide +kernel
theorem dX1_clear_16 : decode cX1_clear 16 = .ok (.iconst 0, 1) := by decide +kernel
theorem dX1_clear_17 : decode cX1_clear 17 = .ok (.putfield 66, 3) := by decide +kernel
theorem dX1_clear_20 : decode cX1_clear 20 = .ok (.aload_n 0, 1) := by decide +kernel
theorem dX1_clear_21 : decode cX1_clear 21 = .ok (.bipush 6, 2) := by decide +kernel
theorem dX1_clear_23 : decode cX1_clear 23 = .ok (.putfield 9, 3) := by decide +kernel
theorem dX1_clear_26 : decode cX1_clear 26 = .ok (.aload_n 0, 1) := by decide +kernel
theorem dX1_clear_27 : decode cX1_clear 27 = .ok (.iconst 0, 1) := by decide +kernel
theorem dX1_clear_28 : decode cX1_clear 28 = .ok (.putfield 69, 3) := by decide +kernel
theorem dX1_clear_31 : decode cX1_clear 31 = .ok (.iconst 0, 1) := by decide +kernel
theorem dX1_clear_32 : decode cX1_clear 32 = .ok (.istore_n 1, 1) := by decide +kernel
theorem dX1_clear_33 : decode cX1_clear 33 = .ok (.iload_n 1, 1) := by decide +kernel
theorem dX1_clear_34 : decode cX1_clear 34 = .ok (.bipush 6, 2) := by decide +kernel
theorem dX1_clear_36 : decode cX1_clear 36 = .ok (.if_icmp .ge 18, 3) := by decide +kernel
theorem dX1_clear_39 : decode cX1_clear 39 = .ok (.aload_n 0, 1) := by decide +kernel
theorem dX1_clear_40 : decode cX1_clear 40 = .ok (.getfield 32, 3) := by decide +kernel
theorem dX1_clear_43 : decode cX1_clear 43 = .ok (.iload_n 1, 1) := by decide +kernel
theorem dX1_clear_44 : decode cX1_clear 44 = .ok (.iconst 0, 1) := by decide +kernel
theorem dX1_clear_45 : decode cX1_clear 45 = .ok (.invokestatic 73, 3) := by decide +kernel
theorem dX1_clear_48 : decode cX1_clear 48 = .ok (.iinc 1 1, 3) := by decide +kernel
theorem dX1_clear_51 : decode cX1_clear 51 = .ok (.goto (-18), 3) := by decide +kernel
theorem dX1_clear_54 : decode cX1_clear 54 = .ok (.aload_n 0, 1) := by decide +kernel
theorem dX1_clear_55 : decode cX1_clear 55 = .ok (.getfield 53, 3) := by decide +kernel
theorem dX1_clear_58 : decode cX1_clear 58 = .ok (.invokevirtual 77, 3) := by decide +kernel
theorem dX1_clear_61 : decode cX1_clear 61 = .ok (.return_, 1) := by decide +kernel
theorem dX1_addMan_0 : decode cX1_addMan 0 = .ok (.aload_n 0, 1) := by decide +kernel
theorem dX1_addMan_1 : decode cX1_addMan 1 = .ok (.getfield 57, 3) := by decide +kernel
theorem dX1_addMan_4 : decode cX1_addMan 4 = .ok (.ifCond .lt 15, 3) := by decide +kernel
theorem dX1_addMan_7 : decode cX1_addMan 7 = .ok (.aload_n 0, 1) := by decide +kernel
theorem dX1_addMan_8 : decode cX1_addMan 8 = .ok (.getfield 57, 3) := by decide +kernel
theorem dX1_addMan_11 : decode cX1_addMan 11 = .ok (.aload_n 0, 1) := by decide +kernel
theorem dX1_addMan_12 : decode cX1_addMan 12 = .ok (.getfield 15, 3) := by decide +kernel
theorem dX1_addMan_15 : decode cX1_addMan 15 = .ok (.arraylength, 1) := by decide +kernel
theorem dX1_addMan_16 : decode cX1_addMan 16 = .ok (.if_icmp .lt 4, 3) := by decide +kernel
theorem dX1_addMan_19 : decode cX1_addMan 19 = .ok (.return_, 1) := by decide +kernel
theorem dX1_addMan_20 : decode cX1_addMan 20 = .ok (.aload_n 0, 1) := by decide +kernel
theorem dX1_addMan_21 : decode cX1_addMan 21 = .ok (.getfield 15, 3) := by decide +kernel
theorem dX1_addMan_24 : decode cX1_addMan 24 = .ok (.aload_n 0, 1) := by decide +kernel
theorem dX1_addMan_25 : decode cX1_addMan 25 = .ok (.getfield 57, 3) := by decide +kernel
theorem dX1_addMan_28 : decode cX1_addMan 28 = .ok (.lload_n 1, 1) := by decide +kernel
theorem dX1_addMan_29 : decode cX1_addMan 29 = .ok (.lastore, 1) := by decide +kernel
theorem dX1_addMan_30 : decode cX1_addMan 30 = .ok (.aload_n 0, 1) := by decide +kernel
theorem dX1_addMan_31 : decode cX1_addMan 31 = .ok (.getfield 19, 3) := by decide +kernel
theorem dX1_addMan_34 : decode cX1_addMan 34 = .ok (.aload_n 0, 1) := by decide +kernel
theorem dX1_addMan_35 : decode cX1_addMan 35 = .ok (.getfield 57, 3) := by decide +kernel
theorem dX1_addMan_38 : decode cX1_addMan 38 = .ok (.iload_n 3, 1) := by decide +kernel
theorem dX1_addMan_39 : decode cX1_addMan 39 = .ok (.invokestatic 73, 3) := by decide +kernel
theorem dX1_addMan_42 : decode cX1_addMan 42 = .ok (.aload_n 0, 1) := by decide +kernel
theorem dX1_addMan_43 : decode cX1_addMan 43 = .ok (.getfield 23, 3) := by decide +kernel
theorem dX1_addMan_46 : decode cX1_addMan 46 = .ok (.aload_n 0, 1) := by decide +kernel
theorem dX1_addMan_47 : decode cX1_addMan 47 = .ok (.getfield 57, 3) := by decide +kernel
theorem dX1_addMan_50 : decode cX1_addMan 50 = .ok (.iload 4, 2) := by decide +kernel
theorem dX1_addMan_52 : decode cX1_addMan 52 = .ok (.invokestatic 73, 3) := by decide +kernel
theorem dX1_addMan_55 : decode cX1_addMan 55 = .ok (.aload_n 0, 1) := by decide +kernel
theorem dX1_addMan_56 : decode cX1_addMan 56 = .ok (.getfield 26, 3) := by decide +kernel
theorem dX1_addMan_59 : decode cX1_addMan 59 = .ok (.aload_n 0, 1) := by decide +kernel
theorem dX1_addMan_60 : decode cX1_addMan 60 = .ok (.getfield 57, 3) := by decide +kernel
theorem dX1_addMan_63 : decode cX1_addMan 63 = .ok (.iload 5, 2) := by decide +kernel
theorem dX1_addMan_65 : decode cX1_addMan 65 = .ok (.invokestatic 73, 3) := by decide +kernel
theorem dX1_addMan_68 : decode cX1_addMan 68 = .ok (.aload_n 0, 1) := by decide +kernel
theorem dX1_addMan_69 : decode cX1_addMan 69 = .ok (.getfield 29, 3) := by decide +kernel
theorem dX1_addMan_72 : decode cX1_addMan 72 = .ok (.aload_n 0, 1) := by decide +kernel
theorem dX1_addMan_73 : decode cX1_addMan 73 = .ok (.getfield 57, 3) := by decide +kernel
theorem dX1_addMan_76 : decode cX1_addMan 76 = .ok (.iload 6, 2) := by decide +kernel
theorem dX1_addMan_78 : decode cX1_addMan 78 = .ok (.invokestatic 73, 3) := by decide +kernel
theorem dX1_addMan_81 : decode cX1_addMan 81 = .ok (.aload_n 0, 1) := by decide +kernel
theorem dX1_addMan_82 : decode cX1_addMan 82 = .ok (.dup, 1) := by decide +kernel
theorem dX1_addMan_83 : decode cX1_addMan 83 = .ok (.getfield 57, 3) := by decide +kernel
theorem dX1_addMan_86 : decode cX1_addMan 86 = .ok (.iconst 1, 1) := by decide +kernel
theorem dX1_addMan_87 : decode cX1_addMan 87 = .ok (.iadd, 1) := by decide +kernel
theorem dX1_addMan_88 : decode cX1_addMan 88 = .ok (.putfield 57, 3) := by decide +kernel
theorem dX1_addMan_91 : decode cX1_addMan 91 = .ok (.return_, 1) := by decide +kernel
theorem dX1_addDanger_0 : decode cX1_addDanger 0 = .ok (.aload_n 0, 1) := by decide +kernel
theorem dX1_addDanger_1 : decode cX1_addDanger 1 = .ok (.getfield 63, 3) := by decide +kernel
theorem dX1_addDanger_4 : decode cX1_addDanger 4 = .ok (.ifCond .lt 15, 3) := by decide +kernel
theorem dX1_addDanger_7 : decode cX1_addDanger 7 = .ok (.aload_n 0, 1) := by decide +kernel
theorem dX1_addDanger_8 : decode cX1_addDanger 8 = .ok (.getfield 63, 3) := by decide +kernel
theorem dX1_addDanger_11 : decode cX1_addDanger 11 = .ok (.aload_n 0, 1) := by decide +kernel
theorem dX1_addDanger_12 : decode cX1_addDanger 12 = .ok (.getfield 35, 3) := by decide +kernel
theorem dX1_addDanger_15 : decode cX1_addDanger 15 = .ok (.arraylength, 1) := by decide +kernel
theorem dX1_addDanger_16 : decode cX1_addDanger 16 = .ok (.if_icmp .lt 4, 3) := by decide +kernel
theorem dX1_addDanger_19 : decode cX1_addDanger 19 = .ok (.return_, 1) := by decide +kernel
theorem dX1_addDanger_20 : decode cX1_addDanger 20 = .ok (.aload_n 0, 1) := by decide +kernel
theorem dX1_addDanger_21 : decode cX1_addDanger 21 = .ok (.getfield 35, 3) := by decide +kernel
theorem dX1_addDanger_24 : decode cX1_addDanger 24 = .ok (.aload_n 0, 1) := by decide +kernel
theorem dX1_addDanger_25 : decode cX1_addDanger 25 = .ok (.getfield 63, 3) := by decide +kernel
theorem dX1_addDanger_28 : decode cX1_addDanger 28 = .ok (.lload_n 1, 1) := by decide +kernel
theorem dX1_addDanger_29 : decode cX1_addDanger 29 = .ok (.lastore, 1) := by decide +kernel
theorem dX1_addDanger_30 : decode cX1_addDanger 30 = .ok (.aload_n 0, 1) := by decide +kernel
theorem dX1_addDanger_31 : decode cX1_addDanger 31 = .ok (.getfield 38, 3) := by decide +kernel
theorem dX1_addDanger_34 : decode cX1_addDanger 34 = .ok (.aload_n 0, 1) := by decide +kernel
theorem dX1_addDanger_35 : decode cX1_addDanger 35 = .ok (.getfield 63, 3) := by decide +kernel
theorem dX1_addDanger_38 : decode cX1_addDanger 38 = .ok (.iload_n 3, 1) := by decide +kernel
theorem dX1_addDanger_39 : decode cX1_addDanger 39 = .ok (.invokestatic 73, 3) := by decide +kernel
theorem dX1_addDanger_42 : decode cX1_addDanger 42 = .ok (.aload_n 0, 1) := by decide +kernel
theorem dX1_addDanger_43 : decode cX1_addDanger 43 = .ok (.getfield 41, 3) := by decide +kernel
theorem dX1_addDanger_46 : decode cX1_addDanger 46 = .ok (.aload_n 0, 1) := by decide +kernel
theorem dX1_addDanger_47 : decode cX1_addDanger 47 = .ok (.getfield 63, 3) := by decide +kernel
theorem dX1_addDanger_50 : decode cX1_addDanger 50 = .ok (.iload 4, 2) := by decide +kernel
theorem dX1_addDanger_52 : decode cX1_addDanger 52 = .ok (.invokestatic 73, 3) := by decide +kernel
theorem dX1_addDanger_55 : decode cX1_addDanger 55 = .ok (.aload_n 0, 1) := by decide +kernel
theorem dX1_addDanger_56 : decode cX1_addDanger 56 = .ok (.dup, 1) := by decide +kernel
theorem dX1_addDanger_57 : decode cX1_addDanger 57 = .ok (.getfield 63, 3) := by decide +kernel
theorem dX1_addDanger_60 : decode cX1_addDanger 60 = .ok (.iconst 1, 1) := by decide +kernel
theorem dX1_addDanger_61 : decode cX1_addDanger 61 = .ok (.iadd, 1) := by decide +kernel
theorem dX1_addDanger_62 : decode cX1_addDanger 62 = .ok (.putfield 63, 3) := by decide +kernel
theorem dX1_addDanger_65 : decode cX1_addDanger 65 = .ok (.return_, 1) := by decide +kernel
theorem dX1_addDecree_0 : decode cX1_addDecree 0 = .ok (.aload_n 0, 1) := by decide +kernel
theorem dX1_addDecree_1 : decode cX1_addDecree 1 = .ok (.getfield 66, 3) := by decide +kernel
theorem dX1_addDecree_4 : decode cX1_addDecree 4 = .ok (.ifCond .lt 15, 3) := by decide +kernel
theorem dX1_addDecree_7 : decode cX1_addDecree 7 = .ok (.aload_n 0, 1) := by decide +kernel
theorem dX1_addDecree_8 : decode cX1_addDecree 8 = .ok (.getfield 66, 3) := by decide +kernel
theorem dX1_addDecree_11 : decode cX1_addDecree 11 = .ok (.aload_n 0, 1) := by decide +kernel
theorem dX1_addDecree_12 : decode cX1_addDecree 12 = .ok (.getfield 44, 3) := by decide +kernel
theorem dX1_addDecree_15 : decode cX1_addDecree 15 = .ok (.arraylength, 1) := by decide +kernel
theorem dX1_addDecree_16 : decode cX1_addDecree 16 = .ok (.if_icmp .lt 4, 3) := by decide +kernel
theorem dX1_addDecree_19 : decode cX1_addDecree 19 = .ok (.return_, 1) := by decide +kernel
theorem dX1_addDecree_20 : decode cX1_addDecree 20 = .ok (.aload_n 0, 1) := by decide +kernel
theorem dX1_addDecree_21 : decode cX1_addDecree 21 = .ok (.getfield 44, 3) := by decide +kernel
theorem dX1_addDecree_24 : decode cX1_addDecree 24 = .ok (.aload_n 0, 1) := by decide +kernel
theorem dX1_addDecree_25 : decode cX1_addDecree 25 = .ok (.getfield 66, 3) := by decide +kernel
theorem dX1_addDecree_28 : decode cX1_addDecree 28 = .ok (.lload_n 1, 1) := by decide +kernel
theorem dX1_addDecree_29 : decode cX1_addDecree 29 = .ok (.lastore, 1) := by decide +kernel
theorem dX1_addDecree_30 : decode cX1_addDecree 30 = .ok (.aload_n 0, 1) := by decide +kernel
theorem dX1_addDecree_31 : decode cX1_addDecree 31 = .ok (.getfield 47, 3) := by decide +kernel
theorem dX1_addDecree_34 : decode cX1_addDecree 34 = .ok (.aload_n 0, 1) := by decide +kernel
theorem dX1_addDecree_35 : decode cX1_addDecree 35 = .ok (.getfield 66, 3) := by decide +kernel
theorem dX1_addDecree_38 : decode cX1_addDecree 38 = .ok (.iload_n 3, 1) := by decide +kernel
theorem dX1_addDecree_39 : decode cX1_addDecree 39 = .ok (.invokestatic 73, 3) := by decide +kernel
theorem dX1_addDecree_42 : decode cX1_addDecree 42 = .ok (.aload_n 0, 1) := by decide +kernel
theorem dX1_addDecree_43 : decode cX1_addDecree 43 = .ok (.dup, 1) := by decide +kernel
theorem dX1_addDecree_44 : decode cX1_addDecree 44 = .ok (.getfield 66, 3) := by decide +kernel
theorem dX1_addDecree_47 : decode cX1_addDecree 47 = .ok (.iconst 1, 1) := by decide +kernel
theorem dX1_addDecree_48 : decode cX1_addDecree 48 = .ok (.iadd, 1) := by decide +kernel
theorem dX1_addDecree_49 : decode cX1_addDecree 49 = .ok (.putfield 66, 3) := by decide +kernel
theorem dX1_addDecree_52 : decode cX1_addDecree 52 = .ok (.return_, 1) := by decide +kernel
theorem dX1_manNamed_0 : decode cX1_manNamed 0 = .ok (.aload_n 0, 1) := by decide +kernel
theorem dX1_manNamed_1 : decode cX1_manNamed 1 = .ok (.getfield 15, 3) := by decide +kernel
theorem dX1_manNamed_4 : decode cX1_manNamed 4 = .ok (.aload_n 0, 1) := by decide +kernel
theorem dX1_manNamed_5 : decode cX1_manNamed 5 = .ok (.getfield 57, 3) := by decide +kernel
theorem dX1_manNamed_8 : decode cX1_manNamed 8 = .ok (.lload_n 1, 1) := by decide +kernel
theorem dX1_manNamed_9 : decode cX1_manNamed 9 = .ok (.invokestatic 80, 3) := by decide +kernel
theorem dX1_manNamed_12 : decode cX1_manNamed 12 = .ok (.ireturn, 1) := by decide +kernel
theorem dX1_dangerNamed_0 : decode cX1_dangerNamed 0 = .ok (.aload_n 0, 1) := by decide +kernel
theorem dX1_dangerNamed_1 : decode cX1_dangerNamed 1 = .ok (.getfield 35, 3) := by decide +kernel
theorem dX1_dangerNamed_4 : decode cX1_dangerNamed 4 = .ok (.aload_n 0, 1) := by decide +kernel
theorem dX1_dangerNamed_5 : decode cX1_dangerNamed 5 = .ok (.getfield 63, 3) := by decide +kernel
theorem dX1_dangerNamed_8 : decode cX1_dangerNamed 8 = .ok (.lload_n 1, 1) := by decide +kernel
theorem dX1_dangerNamed_9 : decode cX1_dangerNamed 9 = .ok (.invokestatic 80, 3) := by decide +kernel
theorem dX1_dangerNamed_12 : decode cX1_dangerNamed 12 = .ok (.ireturn, 1) := by decide +kernel
theorem dX1_decreeNamed_0 : decode cX1_decreeNamed 0 = .ok (.aload_n 0, 1) := by decide +kernel
theorem dX1_decreeNamed_1 : decode cX1_decreeNamed 1 = .ok (.getfield 44, 3) := by decide +kernel
theorem dX1_decreeNamed_4 : decode cX1_decreeNamed 4 = .ok (.aload_n 0, 1) := by decide +kernel
theorem dX1_decreeNamed_5 : decode cX1_decreeNamed 5 = .ok (.getfield 66, 3) := by decide +kernel
theorem dX1_decreeNamed_8 : decode cX1_decreeNamed 8 = .ok (.lload_n 1, 1) := by decide +kernel
theorem dX1_decreeNamed_9 : decode cX1_decreeNamed 9 = .ok (.invokestatic 80, 3) := by decide +kernel
theorem dX1_decreeNamed_12 : decode cX1_decreeNamed 12 = .ok (.ireturn, 1) := by decide +kernel
theorem dX1_isNamed_0 : decode cX1_isNamed 0 = .ok (.aload_n 0, 1) := by decide +kernel
theorem dX1_isNamed_1 : decode cX1_isNamed 1 = .ok (.lload_n 1, 1) := by decide +kernel
theorem dX1_isNamed_2 : decode cX1_isNamed 2 = .ok (.invokevirtual 84, 3) := by decide +kernel
theorem dX1_isNamed_5 : decode cX1_isNamed 5 = .ok (.iconst (-1), 1) := by decide +kernel
theorem dX1_isNamed_6 : decode cX1_isNamed 6 = .ok (.if_icmp .ne 21, 3) := by decide +kernel
theorem dX1_isNamed_9 : decode cX1_isNamed 9 = .ok (.aload_n 0, 1) := by decide +kernel
theorem dX1_isNamed_10 : decode cX1_isNamed 10 = .ok (.lload_n 1, 1) := by decide +kernel
theorem dX1_isNamed_11 : decode cX1_isNamed 11 = .ok (.invokevirtual 88, 3) := by decide +kernel
theorem dX1_isNamed_14 : decode cX1_isNamed 14 = .ok (.iconst (-1), 1) := by decide +kernel
theorem dX1_isNamed_15 : decode cX1_isNamed 15 = .ok (.if_icmp .ne 12, 3) := by decide +kernel
theorem dX1_isNamed_18 : decode cX1_isNamed 18 = .ok (.aload_n 0, 1) := by decide +kernel
theorem dX1_isNamed_19 : decode cX1_isNamed 19 = .ok (.lload_n 1, 1) := by decide +kernel
theorem dX1_isNamed_20 : decode cX1_isNamed 20 = .ok (.invokevirtual 91, 3) := by decide +kernel
theorem dX1_isNamed_23 : decode cX1_isNamed 23 = .ok (.iconst (-1), 1) := by decide +kernel
theorem dX1_isNamed_24 : decode cX1_isNamed 24 = .ok (.if_icmp .eq 7, 3) := by decide +kernel
theorem dX1_isNamed_27 : decode cX1_isNamed 27 = .ok (.iconst 1, 1) := by decide +kernel
theorem dX1_isNamed_28 : decode cX1_isNamed 28 = .ok (.goto 4, 3) := by decide +kernel
theorem dX1_isNamed_31 : decode cX1_isNamed 31 = .ok (.iconst 0, 1) := by decide +kernel
theorem dX1_isNamed_32 : decode cX1_isNamed 32 = .ok (.ireturn, 1) := by decide +kernel
theorem dX1_placeOf_0 : decode cX1_placeOf 0 = .ok (.iconst 0, 1) := by decide +kernel
theorem dX1_placeOf_1 : decode cX1_placeOf 1 = .ok (.istore 4, 2) := by decide +kernel
theorem dX1_placeOf_3 : decode cX1_placeOf 3 = .ok (.iload 4, 2) := by decide +kernel
theorem dX1_placeOf_5 : decode cX1_placeOf 5 = .ok (.iload_n 1, 1) := by decide +kernel
theorem dX1_placeOf_6 : decode cX1_placeOf 6 = .ok (.if_icmp .ge 28, 3) := by decide +kernel
theorem dX1_placeOf_9 : decode cX1_placeOf 9 = .ok (.iload 4, 2) := by decide +kernel
theorem dX1_placeOf_11 : decode cX1_placeOf 11 = .ok (.aload_n 0, 1) := by decide +kernel
theorem dX1_placeOf_12 : decode cX1_placeOf 12 = .ok (.arraylength, 1) := by decide +kernel
theorem dX1_placeOf_13 : decode cX1_placeOf 13 = .ok (.if_icmp .ge 21, 3) := by decide +kernel
theorem dX1_placeOf_16 : decode cX1_placeOf 16 = .ok (.aload_n 0, 1) := by decide +kernel
theorem dX1_placeOf_17 : decode cX1_placeOf 17 = .ok (.iload 4, 2) := by decide +kernel
theorem dX1_placeOf_19 : decode cX1_placeOf 19 = .ok (.laload, 1) := by decide +kernel
theorem dX1_placeOf_20 : decode cX1_placeOf 20 = .ok (.lload_n 2, 1) := by decide +kernel
theorem dX1_placeOf_21 : decode cX1_placeOf 21 = .ok (.lcmp, 1) := by decide +kernel
theorem dX1_placeOf_22 : decode cX1_placeOf 22 = .ok (.ifCond .ne 6, 3) := by decide +kernel
theorem dX1_placeOf_25 : decode cX1_placeOf 25 = .ok (.iload 4, 2) := by decide +kernel
theorem dX1_placeOf_27 : decode cX1_placeOf 27 = .ok (.ireturn, 1) := by decide +kernel
theorem dX1_placeOf_28 : decode cX1_placeOf 28 = .ok (.iinc 4 1, 3) := by decide +kernel
theorem dX1_placeOf_31 : decode cX1_placeOf 31 = .ok (.goto (-28), 3) := by decide +kernel
theorem dX1_placeOf_34 : decode cX1_placeOf 34 = .ok (.iconst (-1), 1) := by decide +kernel
theorem dX1_placeOf_35 : decode cX1_placeOf 35 = .ok (.ireturn, 1) := by decide +kernel
theorem dX1_hasMan_0 : decode cX1_hasMan 0 = .ok (.iload_n 1, 1) := by decide +kernel
theorem dX1_hasMan_1 : decode cX1_hasMan 1 = .ok (.ifCond .lt 15, 3) := by decide +kernel
theorem dX1_hasMan_4 : decode cX1_hasMan 4 = .ok (.iload_n 1, 1) := by decide +kernel
theorem dX1_hasMan_5 : decode cX1_hasMan 5 = .ok (.aload_n 0, 1) := by decide +kernel
theorem dX1_hasMan_6 : decode cX1_hasMan 6 = .ok (.getfield 57, 3) := by decide +kernel
theorem dX1_hasMan_9 : decode cX1_hasMan 9 = .ok (.if_icmp .ge 7, 3) := by decide +kernel
theorem dX1_hasMan_12 : decode cX1_hasMan 12 = .ok (.iconst 1, 1) := by decide +kernel
theorem dX1_hasMan_13 : decode cX1_hasMan 13 = .ok (.goto 4, 3) := by decide +kernel
theorem dX1_hasMan_16 : decode cX1_hasMan 16 = .ok (.iconst 0, 1) := by decide +kernel
theorem dX1_hasMan_17 : decode cX1_hasMan 17 = .ok (.ireturn, 1) := by decide +kernel
theorem dX1_hasDanger_0 : decode cX1_hasDanger 0 = .ok (.iload_n 1, 1) := by decide +kernel
theorem dX1_hasDanger_1 : decode cX1_hasDanger 1 = .ok (.ifCond .lt 15, 3) := by decide +kernel
theorem dX1_hasDanger_4 : decode cX1_hasDanger 4 = .ok (.iload_n 1, 1) := by decide +kernel
theorem dX1_hasDanger_5 : decode cX1_hasDanger 5 = .ok (.aload_n 0, 1) := by decide +kernel
theorem dX1_hasDanger_6 : decode cX1_hasDanger 6 = .ok (.getfield 63, 3) := by decide +kernel
theorem dX1_hasDanger_9 : decode cX1_hasDanger 9 = .ok (.if_icmp .ge 7, 3) := by decide +kernel
theorem dX1_hasDanger_12 : decode cX1_hasDanger 12 = .ok (.iconst 1, 1) := by decide +kernel
theorem dX1_hasDanger_13 : decode cX1_hasDanger 13 = .ok (.goto 4, 3) := by decide +kernel
theorem dX1_hasDanger_16 : decode cX1_hasDanger 16 = .ok (.iconst 0, 1) := by decide +kernel
theorem dX1_hasDanger_17 : decode cX1_hasDanger 17 = .ok (.ireturn, 1) := by decide +kernel
theorem dX1_hasDecrees_0 : decode cX1_hasDecrees 0 = .ok (.iload_n 1, 1) := by decide +kernel
theorem dX1_hasDecrees_1 : decode cX1_hasDecrees 1 = .ok (.ifCond .lt 17, 3) := by decide +kernel
theorem dX1_hasDecrees_4 : decode cX1_hasDecrees 4 = .ok (.iload_n 1, 1) := by decide +kernel
theorem dX1_hasDecrees_5 : decode cX1_hasDecrees 5 = .ok (.iconst 1, 1) := by decide +kernel
theorem dX1_hasDecrees_6 : decode cX1_hasDecrees 6 = .ok (.aload_n 0, 1) := by decide +kernel
theorem dX1_hasDecrees_7 : decode cX1_hasDecrees 7 = .ok (.getfield 66, 3) := by decide +kernel
theorem dX1_hasDecrees_10 : decode cX1_hasDecrees 10 = .ok (.ishl, 1) := by decide +kernel
theorem dX1_hasDecrees_11 : decode cX1_hasDecrees 11 = .ok (.if_icmp .ge 7, 3) := by decide +kernel
theorem dX1_hasDecrees_14 : decode cX1_hasDecrees 14 = .ok (.iconst 1, 1) := by decide +kernel
theorem dX1_hasDecrees_15 : decode cX1_hasDecrees 15 = .ok (.goto 4, 3) := by decide +kernel
theorem dX1_hasDecrees_18 : decode cX1_hasDecrees 18 = .ok (.iconst 0, 1) := by decide +kernel
theorem dX1_hasDecrees_19 : decode cX1_hasDecrees 19 = .ok (.ireturn, 1) := by decide +kernel
theorem dX1_isConsul_0 : decode cX1_isConsul 0 = .ok (.aload_n 0, 1) := by decide +kernel
theorem dX1_isConsul_1 : decode cX1_isConsul 1 = .ok (.iload_n 1, 1) := by decide +kernel
theorem dX1_isConsul_2 : decode cX1_isConsul 2 = .ok (.invokevirtual 94, 3) := by decide +kernel
theorem dX1_isConsul_5 : decode cX1_isConsul 5 = .ok (.ifCond .eq 19, 3) := by decide +kernel
theorem dX1_isConsul_8 : decode cX1_isConsul 8 = .ok (.aload_n 0, 1) := by decide +kernel
theorem dX1_isConsul_9 : decode cX1_isConsul 9 = .ok (.getfield 60, 3) := by decide +kernel
theorem dX1_isConsul_12 : decode cX1_isConsul 12 = .ok (.iload_n 1, 1) := by decide +kernel
theorem dX1_isConsul_13 : decode cX1_isConsul 13 = .ok (.ishr, 1) := by decide +kernel
theorem dX1_isConsul_14 : decode cX1_isConsul 14 = .ok (.iconst 1, 1) := by decide +kernel
theorem dX1_isConsul_15 : decode cX1_isConsul 15 = .ok (.iand, 1) := by decide +kernel
theorem dX1_isConsul_16 : decode cX1_isConsul 16 = .ok (.iconst 1, 1) := by decide +kernel
theorem dX1_isConsul_17 : decode cX1_isConsul 17 = .ok (.if_icmp .ne 7, 3) := by decide +kernel
theorem dX1_isConsul_20 : decode cX1_isConsul 20 = .ok (.iconst 1, 1) := by decide +kernel
theorem dX1_isConsul_21 : decode cX1_isConsul 21 = .ok (.goto 4, 3) := by decide +kernel
theorem dX1_isConsul_24 : decode cX1_isConsul 24 = .ok (.iconst 0, 1) := by decide +kernel
theorem dX1_isConsul_25 : decode cX1_isConsul 25 = .ok (.ireturn, 1) := by decide +kernel
theorem dX1_doesHate_0 : decode cX1_doesHate 0 = .ok (.aload_n 0, 1) := by decide +kernel
theorem dX1_doesHate_1 : decode cX1_doesHate 1 = .ok (.iload_n 2, 1) := by decide +kernel
theorem dX1_doesHate_2 : decode cX1_doesHate 2 = .ok (.invokevirtual 94, 3) := by decide +kernel
theorem dX1_doesHate_5 : decode cX1_doesHate 5 = .ok (.ifCond .eq 23, 3) := by decide +kernel
theorem dX1_doesHate_8 : decode cX1_doesHate 8 = .ok (.aload_n 0, 1) := by decide +kernel
theorem dX1_doesHate_9 : decode cX1_doesHate 9 = .ok (.getfield 32, 3) := by decide +kernel
theorem dX1_doesHate_12 : decode cX1_doesHate 12 = .ok (.iload_n 1, 1) := by decide +kernel
theorem dX1_doesHate_13 : decode cX1_doesHate 13 = .ok (.invokestatic 98, 3) := by decide +kernel
theorem dX1_doesHate_16 : decode cX1_doesHate 16 = .ok (.iload_n 2, 1) := by decide +kernel
theorem dX1_doesHate_17 : decode cX1_doesHate 17 = .ok (.ishr, 1) := by decide +kernel
theorem dX1_doesHate_18 : decode cX1_doesHate 18 = .ok (.iconst 1, 1) := by decide +kernel
theorem dX1_doesHate_19 : decode cX1_doesHate 19 = .ok (.iand, 1) := by decide +kernel
theorem dX1_doesHate_20 : decode cX1_doesHate 20 = .ok (.iconst 1, 1) := by decide +kernel
theorem dX1_doesHate_21 : decode cX1_doesHate 21 = .ok (.if_icmp .ne 7, 3) := by decide +kernel
theorem dX1_doesHate_24 : decode cX1_doesHate 24 = .ok (.iconst 1, 1) := by decide +kernel
theorem dX1_doesHate_25 : decode cX1_doesHate 25 = .ok (.goto 4, 3) := by decide +kernel
theorem dX1_doesHate_28 : decode cX1_doesHate 28 = .ok (.iconst 0, 1) := by decide +kernel
theorem dX1_doesHate_29 : decode cX1_doesHate 29 = .ok (.ireturn, 1) := by decide +kernel
theorem dX1_couldName_0 : decode cX1_couldName 0 = .ok (.aload_n 0, 1) := by decide +kernel
theorem dX1_couldName_1 : decode cX1_couldName 1 = .ok (.iload_n 1, 1) := by decide +kernel
theorem dX1_couldName_2 : decode cX1_couldName 2 = .ok (.invokevirtual 102, 3) := by decide +kernel
theorem dX1_couldName_5 : decode cX1_couldName 5 = .ok (.ifCond .eq 29, 3) := by decide +kernel
theorem dX1_couldName_8 : decode cX1_couldName 8 = .ok (.aload_n 0, 1) := by decide +kernel
theorem dX1_couldName_9 : decode cX1_couldName 9 = .ok (.iload_n 2, 1) := by decide +kernel
theorem dX1_couldName_10 : decode cX1_couldName 10 = .ok (.invokevirtual 94, 3) := by decide +kernel
theorem dX1_couldName_13 : decode cX1_couldName 13 = .ok (.ifCond .eq 21, 3) := by decide +kernel
theorem dX1_couldName_16 : decode cX1_couldName 16 = .ok (.iload_n 1, 1) := by decide +kernel
theorem dX1_couldName_17 : decode cX1_couldName 17 = .ok (.iload_n 2, 1) := by decide +kernel
theorem dX1_couldName_18 : decode cX1_couldName 18 = .ok (.if_icmp .eq 16, 3) := by decide +kernel
theorem dX1_couldName_21 : decode cX1_couldName 21 = .ok (.aload_n 0, 1) := by decide +kernel
theorem dX1_couldName_22 : decode cX1_couldName 22 = .ok (.iload_n 1, 1) := by decide +kernel
theorem dX1_couldName_23 : decode cX1_couldName 23 = .ok (.iload_n 2, 1) := by decide +kernel
theorem dX1_couldName_24 : decode cX1_couldName 24 = .ok (.invokevirtual 105, 3) := by decide +kernel
theorem dX1_couldName_27 : decode cX1_couldName 27 = .ok (.ifCond .ne 7, 3) := by decide +kernel
theorem dX1_couldName_30 : decode cX1_couldName 30 = .ok (.iconst 1, 1) := by decide +kernel
theorem dX1_couldName_31 : decode cX1_couldName 31 = .ok (.goto 4, 3) := by decide +kernel
theorem dX1_couldName_34 : decode cX1_couldName 34 = .ok (.iconst 0, 1) := by decide +kernel
theorem dX1_couldName_35 : decode cX1_couldName 35 = .ok (.ireturn, 1) := by decide +kernel
theorem dX1_someConsulCouldName_0 : decode cX1_someConsulCouldName 0 = .ok (.iconst 0, 1) := by decide +kernel
theorem dX1_someConsulCouldName_1 : decode cX1_someConsulCouldName 1 = .ok (.istore_n 2, 1) := by decide +kernel
theorem dX1_someConsulCouldName_2 : decode cX1_someConsulCouldName 2 = .ok (.iload_n 2, 1) := by decide +kernel
theorem dX1_someConsulCouldName_3 : decode cX1_someConsulCouldName 3 = .ok (.aload_n 0, 1) := by decide +kernel
theorem dX1_someConsulCouldName_4 : decode cX1_someConsulCouldName 4 = .ok (.getfield 57, 3) := by decide +kernel
theorem dX1_someConsulCouldName_7 : decode cX1_someConsulCouldName 7 = .ok (.if_icmp .ge 20, 3) := by decide +kernel
theorem dX1_someConsulCouldName_10 : decode cX1_someConsulCouldName 10 = .ok (.aload_n 0, 1) := by decide +kernel
theorem dX1_someConsulCouldName_11 : decode cX1_someConsulCouldName 11 = .ok (.iload_n 2, 1) := by decide +kernel
theorem dX1_someConsulCouldName_12 : decode cX1_someConsulCouldName 12 = .ok (.iload_n 1, 1) := by decide +kernel
theorem dX1_someConsulCouldName_13 : decode cX1_someConsulCouldName 13 = .ok (.invokevirtual 109, 3) := by decide +kernel
theorem dX1_someConsulCouldName_16 : decode cX1_someConsulCouldName 16 = .ok (.ifCond .eq 5, 3) := by decide +kernel
theorem dX1_someConsulCouldName_19 : decode cX1_someConsulCouldName 19 = .ok (.iconst 1, 1) := by decide +kernel
theorem dX1_someConsulCouldName_20 : decode cX1_someConsulCouldName 20 = .ok (.ireturn, 1) := by decide +kernel
theorem dX1_someConsulCouldName_21 : decode cX1_someConsulCouldName 21 = .ok (.iinc 2 1, 3) := by decide +kernel
theorem dX1_someConsulCouldName_24 : decode cX1_someConsulCouldName 24 = .ok (.goto (-22), 3) := by decide +kernel
theorem dX1_someConsulCouldName_27 : decode cX1_someConsulCouldName 27 = .ok (.iconst 0, 1) := by decide +kernel
theorem dX1_someConsulCouldName_28 : decode cX1_someConsulCouldName 28 = .ok (.ireturn, 1) := by decide +kernel
theorem dX1_strength_0 : decode cX1_strength 0 = .ok (.aload_n 0, 1) := by decide +kernel
theorem dX1_strength_1 : decode cX1_strength 1 = .ok (.getfield 23, 3) := by decide +kernel
theorem dX1_strength_4 : decode cX1_strength 4 = .ok (.iload_n 1, 1) := by decide +kernel
theorem dX1_strength_5 : decode cX1_strength 5 = .ok (.invokestatic 98, 3) := by decide +kernel
theorem dX1_strength_8 : decode cX1_strength 8 = .ok (.istore 4, 2) := by decide +kernel
theorem dX1_strength_10 : decode cX1_strength 10 = .ok (.aload_n 0, 1) := by decide +kernel
theorem dX1_strength_11 : decode cX1_strength 11 = .ok (.getfield 53, 3) := by decide +kernel
theorem dX1_strength_14 : decode cX1_strength 14 = .ok (.iconst 0, 1) := by decide +kernel
theorem dX1_strength_15 : decode cX1_strength 15 = .ok (.invokevirtual 112, 3) := by decide +kernel
theorem dX1_strength_18 : decode cX1_strength 18 = .ok (.ifCond .ne 26, 3) := by decide +kernel
theorem dX1_strength_21 : decode cX1_strength 21 = .ok (.aload_n 0, 1) := by decide +kernel
theorem dX1_strength_22 : decode cX1_strength 22 = .ok (.getfield 19, 3) := by decide +kernel
theorem dX1_strength_25 : decode cX1_strength 25 = .ok (.iload_n 1, 1) := by decide +kernel
theorem dX1_strength_26 : decode cX1_strength 26 = .ok (.invokestatic 98, 3) := by decide +kernel
theorem dX1_strength_29 : decode cX1_strength 29 = .ok (.iconst 3, 1) := by decide +kernel
theorem dX1_strength_30 : decode cX1_strength 30 = .ok (.if_icmp .ne 11, 3) := by decide +kernel
theorem dX1_strength_33 : decode cX1_strength 33 = .ok (.iload_n 3, 1) := by decide +kernel
theorem dX1_strength_34 : decode cX1_strength 34 = .ok (.ifCond .ne 7, 3) := by decide +kernel
theorem dX1_strength_37 : decode cX1_strength 37 = .ok (.iconst 0, 1) := by decide +kernel
theorem dX1_strength_38 : decode cX1_strength 38 = .ok (.goto 5, 3) := by decide +kernel
theorem dX1_strength_41 : decode cX1_strength 41 = .ok (.iload 4, 2) := by decide +kernel
theorem dX1_strength_43 : decode cX1_strength 43 = .ok (.ireturn, 1) := by decide +kernel
theorem dX1_strength_44 : decode cX1_strength 44 = .ok (.aload_n 0, 1) := by decide +kernel
theorem dX1_strength_45 : decode cX1_strength 45 = .ok (.getfield 53, 3) := by decide +kernel
theorem dX1_strength_48 : decode cX1_strength 48 = .ok (.iconst 0, 1) := by decide +kernel
theorem dX1_strength_49 : decode cX1_strength 49 = .ok (.iload 4, 2) := by decide +kernel
theorem dX1_strength_51 : decode cX1_strength 51 = .ok (.aload_n 0, 1) := by decide +kernel
theorem dX1_strength_52 : decode cX1_strength 52 = .ok (.getfield 29, 3) := by decide +kernel
theorem dX1_strength_55 : decode cX1_strength 55 = .ok (.iload_n 1, 1) := by decide +kernel
theorem dX1_strength_56 : decode cX1_strength 56 = .ok (.invokestatic 98, 3) := by decide +kernel
theorem dX1_strength_59 : decode cX1_strength 59 = .ok (.iload_n 2, 1) := by decide +kernel
theorem dX1_strength_60 : decode cX1_strength 60 = .ok (.iload_n 3, 1) := by decide +kernel
theorem dX1_strength_61 : decode cX1_strength 61 = .ok (.invokevirtual 116, 3) := by decide +kernel
theorem dX1_strength_64 : decode cX1_strength 64 = .ok (.istore 5, 2) := by decide +kernel
theorem dX1_strength_66 : decode cX1_strength 66 = .ok (.iconst 0, 1) := by decide +kernel
theorem dX1_strength_67 : decode cX1_strength 67 = .ok (.bipush 99, 2) := by decide +kernel
theorem dX1_strength_69 : decode cX1_strength 69 = .ok (.iload 5, 2) := by decide +kernel
theorem dX1_strength_71 : decode cX1_strength 71 = .ok (.invokestatic 120, 3) := by decide +kernel
theorem dX1_strength_74 : decode cX1_strength 74 = .ok (.invokestatic 126, 3) := by decide +kernel
theorem dX1_strength_77 : decode cX1_strength 77 = .ok (.ireturn, 1) := by decide +kernel
theorem dX1_wouldKeep_0 : decode cX1_wouldKeep 0 = .ok (.aload_n 0, 1) := by decide +kernel
theorem dX1_wouldKeep_1 : decode cX1_wouldKeep 1 = .ok (.getfield 53, 3) := by decide +kernel
theorem dX1_wouldKeep_4 : decode cX1_wouldKeep 4 = .ok (.iconst 1, 1) := by decide +kernel
theorem dX1_wouldKeep_5 : decode cX1_wouldKeep 5 = .ok (.invokevirtual 112, 3) := by decide +kernel
theorem dX1_wouldKeep_8 : decode cX1_wouldKeep 8 = .ok (.ifCond .ne 24, 3) := by decide +kernel
theorem dX1_wouldKeep_11 : decode cX1_wouldKeep 11 = .ok (.bipush 9, 2) := by decide +kernel
theorem dX1_wouldKeep_13 : decode cX1_wouldKeep 13 = .ok (.aload_n 0, 1) := by decide +kernel
theorem dX1_wouldKeep_14 : decode cX1_wouldKeep 14 = .ok (.getfield 29, 3) := by decide +kernel
theorem dX1_wouldKeep_17 : decode cX1_wouldKeep 17 = .ok (.iload_n 1, 1) := by decide +kernel
theorem dX1_wouldKeep_18 : decode cX1_wouldKeep 18 = .ok (.invokestatic 98, 3) := by decide +kernel
theorem dX1_wouldKeep_21 : decode cX1_wouldKeep 21 = .ok (.iload_n 2, 1) := by decide +kernel
theorem dX1_wouldKeep_22 : decode cX1_wouldKeep 22 = .ok (.iadd, 1) := by decide +kernel
theorem dX1_wouldKeep_23 : decode cX1_wouldKeep 23 = .ok (.if_icmp .ge 7, 3) := by decide +kernel
theorem dX1_wouldKeep_26 : decode cX1_wouldKeep 26 = .ok (.iconst 1, 1) := by decide +kernel
theorem dX1_wouldKeep_27 : decode cX1_wouldKeep 27 = .ok (.goto 4, 3) := by decide +kernel
theorem dX1_wouldKeep_30 : decode cX1_wouldKeep 30 = .ok (.iconst 0, 1) := by decide +kernel
theorem dX1_wouldKeep_31 : decode cX1_wouldKeep 31 = .ok (.ireturn, 1) := by decide +kernel
theorem dX1_wouldKeep_32 : decode cX1_wouldKeep 32 = .ok (.aload_n 0, 1) := by decide +kernel
theorem dX1_wouldKeep_33 : decode cX1_wouldKeep 33 = .ok (.getfield 53, 3) := by decide +kernel
theorem dX1_wouldKeep_36 : decode cX1_wouldKeep 36 = .ok (.iconst 1, 1) := by decide +kernel
theorem dX1_wouldKeep_37 : decode cX1_wouldKeep 37 = .ok (.aload_n 0, 1) := by decide +kernel
theorem dX1_wouldKeep_38 : decode cX1_wouldKeep 38 = .ok (.getfield 23, 3) := by decide +kernel
theorem dX1_wouldKeep_41 : decode cX1_wouldKeep 41 = .ok (.iload_n 1, 1) := by decide +kernel
theorem dX1_wouldKeep_42 : decode cX1_wouldKeep 42 = .ok (.invokestatic 98, 3) := by decide +kernel
theorem dX1_wouldKeep_45 : decode cX1_wouldKeep 45 = .ok (.aload_n 0, 1) := by decide +kernel
theorem dX1_wouldKeep_46 : decode cX1_wouldKeep 46 = .ok (.getfield 29, 3) := by decide +kernel
theorem dX1_wouldKeep_49 : decode cX1_wouldKeep 49 = .ok (.iload_n 1, 1) := by decide +kernel
theorem dX1_wouldKeep_50 : decode cX1_wouldKeep 50 = .ok (.invokestatic 98, 3) := by decide +kernel
theorem dX1_wouldKeep_53 : decode cX1_wouldKeep 53 = .ok (.iload_n 2, 1) := by decide +kernel
theorem dX1_wouldKeep_54 : decode cX1_wouldKeep 54 = .ok (.iload_n 3, 1) := by decide +kernel
theorem dX1_wouldKeep_55 : decode cX1_wouldKeep 55 = .ok (.invokevirtual 116, 3) := by decide +kernel
theorem dX1_wouldKeep_58 : decode cX1_wouldKeep 58 = .ok (.ifCond .eq 7, 3) := by decide +kernel
theorem dX1_wouldKeep_61 : decode cX1_wouldKeep 61 = .ok (.iconst 1, 1) := by decide +kernel
theorem dX1_wouldKeep_62 : decode cX1_wouldKeep 62 = .ok (.goto 4, 3) := by decide +kernel
theorem dX1_wouldKeep_65 : decode cX1_wouldKeep 65 = .ok (.iconst 0, 1) := by decide +kernel
theorem dX1_wouldKeep_66 : decode cX1_wouldKeep 66 = .ok (.ireturn, 1) := by decide +kernel
theorem dX1_likedForEnding_0 : decode cX1_likedForEnding 0 = .ok (.aload_n 0, 1) := by decide +kernel
theorem dX1_likedForEnding_1 : decode cX1_likedForEnding 1 = .ok (.getfield 19, 3) := by decide +kernel
theorem dX1_likedForEnding_4 : decode cX1_likedForEnding 4 = .ok (.iload_n 1, 1) := by decide +kernel
theorem dX1_likedForEnding_5 : decode cX1_likedForEnding 5 = .ok (.invokestatic 98, 3) := by decide +kernel
theorem dX1_likedForEnding_8 : decode cX1_likedForEnding 8 = .ok (.iconst 2, 1) := by decide +kernel
theorem dX1_likedForEnding_9 : decode cX1_likedForEnding 9 = .ok (.if_icmp .ne 7, 3) := by decide +kernel
theorem dX1_likedForEnding_12 : decode cX1_likedForEnding 12 = .ok (.iconst 5, 1) := by decide +kernel
theorem dX1_likedForEnding_13 : decode cX1_likedForEnding 13 = .ok (.goto 4, 3) := by decide +kernel
theorem dX1_likedForEnding_16 : decode cX1_likedForEnding 16 = .ok (.iconst 3, 1) := by decide +kernel
theorem dX1_likedForEnding_17 : decode cX1_likedForEnding 17 = .ok (.ireturn, 1) := by decide +kernel
theorem dX1_sizeBehind_0 : decode cX1_sizeBehind 0 = .ok (.iload_n 2, 1) := by decide +kernel
theorem dX1_sizeBehind_1 : decode cX1_sizeBehind 1 = .ok (.istore 4, 2) := by decide +kernel
theorem dX1_sizeBehind_3 : decode cX1_sizeBehind 3 = .ok (.iconst 0, 1) := by decide +kernel
theorem dX1_sizeBehind_4 : decode cX1_sizeBehind 4 = .ok (.istore 5, 2) := by decide +kernel
theorem dX1_sizeBehind_6 : decode cX1_sizeBehind 6 = .ok (.iload 5, 2) := by decide +kernel
theorem dX1_sizeBehind_8 : decode cX1_sizeBehind 8 = .ok (.iload_n 3, 1) := by decide +kernel
theorem dX1_sizeBehind_9 : decode cX1_sizeBehind 9 = .ok (.if_icmp .ge 32, 3) := by decide +kernel
theorem dX1_sizeBehind_12 : decode cX1_sizeBehind 12 = .ok (.iload 4, 2) := by decide +kernel
theorem dX1_sizeBehind_14 : decode cX1_sizeBehind 14 = .ok (.ifCond .le 27, 3) := by decide +kernel
theorem dX1_sizeBehind_17 : decode cX1_sizeBehind 17 = .ok (.iconst 0, 1) := by decide +kernel
theorem dX1_sizeBehind_18 : decode cX1_sizeBehind 18 = .ok (.iload 4, 2) := by decide +kernel
theorem dX1_sizeBehind_20 : decode cX1_sizeBehind 20 = .ok (.aload_n 0, 1) := by decide +kernel
theorem dX1_sizeBehind_21 : decode cX1_sizeBehind 21 = .ok (.iload_n 1, 1) := by decide +kernel
theorem dX1_sizeBehind_22 : decode cX1_sizeBehind 22 = .ok (.iload 4, 2) := by decide +kernel
theorem dX1_sizeBehind_24 : decode cX1_sizeBehind 24 = .ok (.iload 5, 2) := by decide +kernel
theorem dX1_sizeBehind_26 : decode cX1_sizeBehind 26 = .ok (.invokevirtual 129, 3) := by decide +kernel
theorem dX1_sizeBehind_29 : decode cX1_sizeBehind 29 = .ok (.isub, 1) := by decide +kernel
theorem dX1_sizeBehind_30 : decode cX1_sizeBehind 30 = .ok (.invokestatic 126, 3) := by decide +kernel
theorem dX1_sizeBehind_33 : decode cX1_sizeBehind 33 = .ok (.istore 4, 2) := by decide +kernel
theorem dX1_sizeBehind_35 : decode cX1_sizeBehind 35 = .ok (.iinc 5 1, 3) := by decide +kernel
theorem dX1_sizeBehind_38 : decode cX1_sizeBehind 38 = .ok (.goto (-32), 3) := by decide +kernel
theorem dX1_sizeBehind_41 : decode cX1_sizeBehind 41 = .ok (.iload 4, 2) := by decide +kernel
theorem dX1_sizeBehind_43 : decode cX1_sizeBehind 43 = .ok (.ireturn, 1) := by decide +kernel
theorem dX1_monthsToEnd_0 : decode cX1_monthsToEnd 0 = .ok (.iload_n 2, 1) := by decide +kernel
theorem dX1_monthsToEnd_1 : decode cX1_monthsToEnd 1 = .ok (.istore_n 3, 1) := by decide +kernel
theorem dX1_monthsToEnd_2 : decode cX1_monthsToEnd 2 = .ok (.iconst 0, 1) := by decide +kernel
theorem dX1_monthsToEnd_3 : decode cX1_monthsToEnd 3 = .ok (.istore 4, 2) := by decide +kernel
theorem dX1_monthsToEnd_5 : decode cX1_monthsToEnd 5 = .ok (.iload 4, 2) := by decide +kernel
theorem dX1_monthsToEnd_7 : decode cX1_monthsToEnd 7 = .ok (.bipush 24, 2) := by decide +kernel
theorem dX1_monthsToEnd_9 : decode cX1_monthsToEnd 9 = .ok (.if_icmp .gt 27, 3) := by decide +kernel
theorem dX1_monthsToEnd_12 : decode cX1_monthsToEnd 12 = .ok (.iload_n 3, 1) := by decide +kernel
theorem dX1_monthsToEnd_13 : decode cX1_monthsToEnd 13 = .ok (.ifCond .gt 6, 3) := by decide +kernel
theorem dX1_monthsToEnd_16 : decode cX1_monthsToEnd 16 = .ok (.iload 4, 2) := by decide +kernel
theorem dX1_monthsToEnd_18 : decode cX1_monthsToEnd 18 = .ok (.ireturn, 1) := by decide +kernel
theorem dX1_monthsToEnd_19 : decode cX1_monthsToEnd 19 = .ok (.iload_n 3, 1) := by decide +kernel
theorem dX1_monthsToEnd_20 : decode cX1_monthsToEnd 20 = .ok (.aload_n 0, 1) := by decide +kernel
theorem dX1_monthsToEnd_21 : decode cX1_monthsToEnd 21 = .ok (.iload_n 1, 1) := by decide +kernel
theorem dX1_monthsToEnd_22 : decode cX1_monthsToEnd 22 = .ok (.iload_n 3, 1) := by decide +kernel
theorem dX1_monthsToEnd_23 : decode cX1_monthsToEnd 23 = .ok (.iload 4, 2) := by decide +kernel
theorem dX1_monthsToEnd_25 : decode cX1_monthsToEnd 25 = .ok (.invokevirtual 129, 3) := by decide +kernel
theorem dX1_monthsToEnd_28 : decode cX1_monthsToEnd 28 = .ok (.isub, 1) := by decide +kernel
theorem dX1_monthsToEnd_29 : decode cX1_monthsToEnd 29 = .ok (.istore_n 3, 1) := by decide +kernel
theorem dX1_monthsToEnd_30 : decode cX1_monthsToEnd 30 = .ok (.iinc 4 1, 3) := by decide +kernel
theorem dX1_monthsToEnd_33 : decode cX1_monthsToEnd 33 = .ok (.goto (-28), 3) := by decide +kernel
theorem dX1_monthsToEnd_36 : decode cX1_monthsToEnd 36 = .ok (.iconst (-1), 1) := by decide +kernel
theorem dX1_monthsToEnd_37 : decode cX1_monthsToEnd 37 = .ok (.ireturn, 1) := by decide +kernel
theorem dX1_fallen_0 : decode cX1_fallen 0 = .ok (.iload_n 1, 1) := by decide +kernel
theorem dX1_fallen_1 : decode cX1_fallen 1 = .ok (.istore_n 2, 1) := by decide +kernel
theorem dX1_fallen_2 : decode cX1_fallen 2 = .ok (.iconst 0, 1) := by decide +kernel
theorem dX1_fallen_3 : decode cX1_fallen 3 = .ok (.istore_n 3, 1) := by decide +kernel
theorem dX1_fallen_4 : decode cX1_fallen 4 = .ok (.iload_n 3, 1) := by decide +kernel
theorem dX1_fallen_5 : decode cX1_fallen 5 = .ok (.aload_n 0, 1) := by decide +kernel
theorem dX1_fallen_6 : decode cX1_fallen 6 = .ok (.getfield 66, 3) := by decide +kernel
theorem dX1_fallen_9 : decode cX1_fallen 9 = .ok (.if_icmp .ge 28, 3) := by decide +kernel
theorem dX1_fallen_12 : decode cX1_fallen 12 = .ok (.aload_n 0, 1) := by decide +kernel
theorem dX1_fallen_13 : decode cX1_fallen 13 = .ok (.getfield 47, 3) := by decide +kernel
theorem dX1_fallen_16 : decode cX1_fallen 16 = .ok (.iload_n 3, 1) := by decide +kernel
theorem dX1_fallen_17 : decode cX1_fallen 17 = .ok (.invokestatic 98, 3) := by decide +kernel
theorem dX1_fallen_20 : decode cX1_fallen 20 = .ok (.iload_n 2, 1) := by decide +kernel
theorem dX1_fallen_21 : decode cX1_fallen 21 = .ok (.iand, 1) := by decide +kernel
theorem dX1_fallen_22 : decode cX1_fallen 22 = .ok (.ifCond .eq 9, 3) := by decide +kernel
theorem dX1_fallen_25 : decode cX1_fallen 25 = .ok (.iload_n 2, 1) := by decide +kernel
theorem dX1_fallen_26 : decode cX1_fallen 26 = .ok (.iconst 1, 1) := by decide +kernel
theorem dX1_fallen_27 : decode cX1_fallen 27 = .ok (.iload_n 3, 1) := by decide +kernel
theorem dX1_fallen_28 : decode cX1_fallen 28 = .ok (.ishl, 1) := by decide +kernel
theorem dX1_fallen_29 : decode cX1_fallen 29 = .ok (.ior, 1) := by decide +kernel
theorem dX1_fallen_30 : decode cX1_fallen 30 = .ok (.istore_n 2, 1) := by decide +kernel
theorem dX1_fallen_31 : decode cX1_fallen 31 = .ok (.iinc 3 1, 3) := by decide +kernel
theorem dX1_fallen_34 : decode cX1_fallen 34 = .ok (.goto (-30), 3) := by decide +kernel
theorem dX1_fallen_37 : decode cX1_fallen 37 = .ok (.iload_n 2, 1) := by decide +kernel
theorem dX1_fallen_38 : decode cX1_fallen 38 = .ok (.ireturn, 1) := by decide +kernel
theorem dX1_neededBy_0 : decode cX1_neededBy 0 = .ok (.iconst 1, 1) := by decide +kernel
theorem dX1_neededBy_1 : decode cX1_neededBy 1 = .ok (.iload_n 1, 1) := by decide +kernel
theorem dX1_neededBy_2 : decode cX1_neededBy 2 = .ok (.ishl, 1) := by decide +kernel
theorem dX1_neededBy_3 : decode cX1_neededBy 3 = .ok (.istore_n 2, 1) := by decide +kernel
theorem dX1_neededBy_4 : decode cX1_neededBy 4 = .ok (.iload_n 1, 1) := by decide +kernel
theorem dX1_neededBy_5 : decode cX1_neededBy 5 = .ok (.istore_n 3, 1) := by decide +kernel
theorem dX1_neededBy_6 : decode cX1_neededBy 6 = .ok (.iload_n 3, 1) := by decide +kernel
theorem dX1_neededBy_7 : decode cX1_neededBy 7 = .ok (.ifCond .lt 29, 3) := by decide +kernel
theorem dX1_neededBy_10 : decode cX1_neededBy 10 = .ok (.iload_n 2, 1) := by decide +kernel
theorem dX1_neededBy_11 : decode cX1_neededBy 11 = .ok (.iload_n 3, 1) := by decide +kernel
theorem dX1_neededBy_12 : decode cX1_neededBy 12 = .ok (.ishr, 1) := by decide +kernel
theorem dX1_neededBy_13 : decode cX1_neededBy 13 = .ok (.iconst 1, 1) := by decide +kernel
theorem dX1_neededBy_14 : decode cX1_neededBy 14 = .ok (.iand, 1) := by decide +kernel
theorem dX1_neededBy_15 : decode cX1_neededBy 15 = .ok (.iconst 1, 1) := by decide +kernel
theorem dX1_neededBy_16 : decode cX1_neededBy 16 = .ok (.if_icmp .ne 14, 3) := by decide +kernel
theorem dX1_neededBy_19 : decode cX1_neededBy 19 = .ok (.iload_n 2, 1) := by decide +kernel
theorem dX1_neededBy_20 : decode cX1_neededBy 20 = .ok (.aload_n 0, 1) := by decide +kernel
theorem dX1_neededBy_21 : decode cX1_neededBy 21 = .ok (.getfield 47, 3) := by decide +kernel
theorem dX1_neededBy_24 : decode cX1_neededBy 24 = .ok (.iload_n 3, 1) := by decide +kernel
theorem dX1_neededBy_25 : decode cX1_neededBy 25 = .ok (.invokestatic 98, 3) := by decide +kernel
theorem dX1_neededBy_28 : decode cX1_neededBy 28 = .ok (.ior, 1) := by decide +kernel
theorem dX1_neededBy_29 : decode cX1_neededBy 29 = .ok (.istore_n 2, 1) := by decide +kernel
theorem dX1_neededBy_30 : decode cX1_neededBy 30 = .ok (.iinc 3 (-1), 3) := by decide +kernel
theorem dX1_neededBy_33 : decode cX1_neededBy 33 = .ok (.goto (-27), 3) := by decide +kernel
theorem dX1_neededBy_36 : decode cX1_neededBy 36 = .ok (.iload_n 2, 1) := by decide +kernel
theorem dX1_neededBy_37 : decode cX1_neededBy 37 = .ok (.ireturn, 1) := by decide +kernel
theorem dX2_init_0 : decode cX2_init 0 = .ok (.aload_n 0, 1) := by decide +kernel
theorem dX2_init_1 : decode cX2_init 1 = .ok (.invokespecial 3, 3) := by decide +kernel
theorem dX2_init_4 : decode cX2_init 4 = .ok (.aload_n 0, 1) := by decide +kernel
theorem dX2_init_5 : decode cX2_init 5 = .ok (.bipush 6, 2) := by decide +kernel
theorem dX2_init_7 : decode cX2_init 7 = .ok (.anewarray 9, 3) := by decide +kernel
theorem dX2_init_10 : decode cX2_init 10 = .ok (.putfield 11, 3) := by decide +kernel
theorem dX2_init_13 : decode cX2_init 13 = .ok (.aload_n 0, 1) := by decide +kernel
theorem dX2_init_14 : decode cX2_init 14 = .ok (.iconst 5, 1) := by decide +kernel
theorem dX2_init_15 : decode cX2_init 15 = .ok (.newarray .int, 2) := by decide +kernel
theorem dX2_init_17 : decode cX2_init 17 = .ok (.putfield 17, 3) := by decide +kernel
theorem dX2_init_20 : decode cX2_init 20 = .ok (.aload_n 0, 1) := by decide +kernel
theorem dX2_init_21 : decode cX2_init 21 = .ok (.iconst 5, 1) := by decide +kernel
theorem dX2_init_22 : decode cX2_init 22 = .ok (.newarray .int, 2) := by decide +kernel
theorem dX2_init_24 : decode cX2_init 24 = .ok (.putfield 21, 3) := by decide +kernel
theorem dX2_init_27 : decode cX2_init 27 = .ok (.aload_n 0, 1) := by decide +kernel
theorem dX2_init_28 : decode cX2_init 28 = .ok (.bipush 30, 2) := by decide +kernel
theorem dX2_init_30 : decode cX2_init 30 = .ok (.newarray .int, 2) := by decide +kernel
theorem dX2_init_32 : decode cX2_init 32 = .ok (.putfield 24, 3) := by decide +kernel
theorem dX2_init_35 : decode cX2_init 35 = .ok (.aload_n 0, 1) := by decide +kernel
theorem dX2_init_36 : decode cX2_init 36 = .ok (.bipush 100, 2) := by decide +kernel
theorem dX2_init_38 : decode cX2_init 38 = .ok (.newarray .int, 2) := by decide +kernel
theorem dX2_init_40 : decode cX2_init 40 = .ok (.putfield 27, 3) := by decide +kernel
theorem dX2_init_43 : decode cX2_init 43 = .ok (.aload_n 0, 1) := by decide +kernel
theorem dX2_init_44 : decode cX2_init 44 = .ok (.bipush 100, 2) := by decide +kernel
theorem dX2_init_46 : decode cX2_init 46 = .ok (.newarray .long, 2) := by decide +kernel
theorem dX2_init_48 : decode cX2_init 48 = .ok (.putfield 30, 3) := by decide +kernel
theorem dX2_init_51 : decode cX2_init 51 = .ok (.aload_n 0, 1) := by decide +kernel
theorem dX2_init_52 : decode cX2_init 52 = .ok (.bipush 100, 2) := by decide +kernel
theorem dX2_init_54 : decode cX2_init 54 = .ok (.newarray .long, 2) := by decide +kernel
theorem dX2_init_56 : decode cX2_init 56 = .ok (.putfield 34, 3) := by decide +kernel
theorem dX2_init_59 : decode cX2_init 59 = .ok (.iconst 0, 1) := by decide +kernel
theorem dX2_init_60 : decode cX2_init 60 = .ok (.istore_n 1, 1) := by decide +kernel
theorem dX2_init_61 : decode cX2_init 61 = .ok (.iload_n 1, 1) := by decide +kernel
theorem dX2_init_62 : decode cX2_init 62 = .ok (.aload_n 0, 1) := by decide +kernel
theorem dX2_init_63 : decode cX2_init 63 = .ok (.getfield 11, 3) := by decide +kernel
theorem dX2_init_66 : decode cX2_init 66 = .ok (.arraylength, 1) := by decide +kernel
theorem dX2_init_67 : decode cX2_init 67 = .ok (.if_icmp .ge 22, 3) := by decide +kernel
theorem dX2_init_70 : decode cX2_init 70 = .ok (.aload_n 0, 1) := by decide +kernel
theorem dX2_init_71 : decode cX2_init 71 = .ok (.getfield 11, 3) := by decide +kernel
theorem dX2_init_74 : decode cX2_init 74 = .ok (.iload_n 1, 1) := by decide +kernel
theorem dX2_init_75 : decode cX2_init 75 = .ok (.new 9, 3) := by decide +kernel
theorem dX2_init_78 : decode cX2_init 78 = .ok (.dup, 1) := by decide +kernel
theorem dX2_init_79 : decode cX2_init 79 = .ok (.invokespecial 37, 3) := by decide +kernel
theorem dX2_init_82 : decode cX2_init 82 = .ok (.aastore, 1) := by decide +kernel
theorem dX2_init_83 : decode cX2_init 83 = .ok (.iinc 1 1, 3) := by decide +kernel
theorem dX2_init_86 : decode cX2_init 86 = .ok (.goto (-25), 3) := by decide +kernel
theorem dX2_init_89 : decode cX2_init 89 = .ok (.return_, 1) := by decide +kernel
theorem dX2_soonest_0 : decode cX2_soonest 0 = .ok (.iconst (-1), 1) := by decide +kernel
theorem dX2_soonest_1 : decode cX2_soonest 1 = .ok (.istore 5, 2) := by decide +kernel
theorem dX2_soonest_3 : decode cX2_soonest 3 = .ok (.iconst 0, 1) := by decide +kernel
theorem dX2_soonest_4 : decode cX2_soonest 4 = .ok (.istore 6, 2) := by decide +kernel
theorem dX2_soonest_6 : decode cX2_soonest 6 = .ok (.iconst 0, 1) := by decide +kernel
theorem dX2_soonest_7 : decode cX2_soonest 7 = .ok (.istore 7, 2) := by decide +kernel
theorem dX2_soonest_9 : decode cX2_soonest 9 = .ok (.iload 7, 2) := by decide +kernel
theorem dX2_soonest_11 : decode cX2_soonest 11 = .ok (.aload_n 1, 1) := by decide +kernel
theorem dX2_soonest_12 : decode cX2_soonest 12 = .ok (.getfield 38, 3) := by decide +kernel
theorem dX2_soonest_15 : decode cX2_soonest 15 = .ok (.if_icmp .ge 89, 3) := by decide +kernel
theorem dX2_soonest_18 : decode cX2_soonest 18 = .ok (.aload_n 1, 1) := by decide +kernel
theorem dX2_soonest_19 : decode cX2_soonest 19 = .ok (.iload 7, 2) := by decide +kernel
theorem dX2_soonest_21 : decode cX2_soonest 21 = .ok (.invokevirtual 44, 3) := by decide +kernel
theorem dX2_soonest_24 : decode cX2_soonest 24 = .ok (.ifCond .eq 20, 3) := by decide +kernel
theorem dX2_soonest_27 : decode cX2_soonest 27 = .ok (.aload_n 1, 1) := by decide +kernel
theorem dX2_soonest_28 : decode cX2_soonest 28 = .ok (.iload 7, 2) := by decide +kernel
theorem dX2_soonest_30 : decode cX2_soonest 30 = .ok (.aload_n 2, 1) := by decide +kernel
theorem dX2_soonest_31 : decode cX2_soonest 31 = .ok (.getfield 48, 3) := by decide +kernel
theorem dX2_soonest_34 : decode cX2_soonest 34 = .ok (.iload_n 3, 1) := by decide +kernel
theorem dX2_soonest_35 : decode cX2_soonest 35 = .ok (.invokestatic 51, 3) := by decide +kernel
theorem dX2_soonest_38 : decode cX2_soonest 38 = .ok (.invokevirtual 55, 3) := by decide +kernel
theorem dX2_soonest_41 : decode cX2_soonest 41 = .ok (.goto 4, 3) := by decide +kernel
theorem dX2_soonest_44 : decode cX2_soonest 44 = .ok (.iconst (-1), 1) := by decide +kernel
theorem dX2_soonest_45 : decode cX2_soonest 45 = .ok (.istore 8, 2) := by decide +kernel
theorem dX2_soonest_47 : decode cX2_soonest 47 = .ok (.iload 8, 2) := by decide +kernel
theorem dX2_soonest_49 : decode cX2_soonest 49 = .ok (.iconst (-1), 1) := by decide +kernel
theorem dX2_soonest_50 : decode cX2_soonest 50 = .ok (.if_icmp .eq 48, 3) := by decide +kernel
theorem dX2_soonest_53 : decode cX2_soonest 53 = .ok (.iload 8, 2) := by decide +kernel
theorem dX2_soonest_55 : decode cX2_soonest 55 = .ok (.iload 4, 2) := by decide +kernel
theorem dX2_soonest_57 : decode cX2_soonest 57 = .ok (.if_icmp .gt 41, 3) := by decide +kernel
theorem dX2_soonest_60 : decode cX2_soonest 60 = .ok (.iload 5, 2) := by decide +kernel
theorem dX2_soonest_62 : decode cX2_soonest 62 = .ok (.iconst (-1), 1) := by decide +kernel
theorem dX2_soonest_63 : decode cX2_soonest 63 = .ok (.if_icmp .eq 13, 3) := by decide +kernel
theorem dX2_soonest_66 : decode cX2_soonest 66 = .ok (.iload 8, 2) := by decide +kernel
theorem dX2_soonest_68 : decode cX2_soonest 68 = .ok (.iload 6, 2) := by decide +kernel
theorem dX2_soonest_70 : decode cX2_soonest 70 = .ok (.if_icmp .lt 6, 3) := by decide +kernel
theorem dX2_soonest_73 : decode cX2_soonest 73 = .ok (.goto 25, 3) := by decide +kernel
theorem dX2_soonest_76 : decode cX2_soonest 76 = .ok (.aload_n 0, 1) := by decide +kernel
theorem dX2_soonest_77 : decode cX2_soonest 77 = .ok (.aload_n 1, 1) := by decide +kernel
theorem dX2_soonest_78 : decode cX2_soonest 78 = .ok (.aload_n 2, 1) := by decide +kernel
theorem dX2_soonest_79 : decode cX2_soonest 79 = .ok (.iload 7, 2) := by decide +kernel
theorem dX2_soonest_81 : decode cX2_soonest 81 = .ok (.iload_n 3, 1) := by decide +kernel
theorem dX2_soonest_82 : decode cX2_soonest 82 = .ok (.iload 8, 2) := by decide +kernel
theorem dX2_soonest_84 : decode cX2_soonest 84 = .ok (.invokevirtual 59, 3) := by decide +kernel
theorem dX2_soonest_87 : decode cX2_soonest 87 = .ok (.ifCond .ne 11, 3) := by decide +kernel
theorem dX2_soonest_90 : decode cX2_soonest 90 = .ok (.iload 7, 2) := by decide +kernel
theorem dX2_soonest_92 : decode cX2_soonest 92 = .ok (.istore 5, 2) := by decide +kernel
theorem dX2_soonest_94 : decode cX2_soonest 94 = .ok (.iload 8, 2) := by decide +kernel
theorem dX2_soonest_96 : decode cX2_soonest 96 = .ok (.istore 6, 2) := by decide +kernel
theorem dX2_soonest_98 : decode cX2_soonest 98 = .ok (.iinc 7 1, 3) := by decide +kernel
theorem dX2_soonest_101 : decode cX2_soonest 101 = .ok (.goto (-92), 3) := by decide +kernel
theorem dX2_soonest_104 : decode cX2_soonest 104 = .ok (.iload 5, 2) := by decide +kernel
theorem dX2_soonest_106 : decode cX2_soonest 106 = .ok (.ireturn, 1) := by decide +kernel
theorem dX2_wouldKeepThen_0 : decode cX2_wouldKeepThen 0 = .ok (.aload_n 2, 1) := by decide +kernel
theorem dX2_wouldKeepThen_1 : decode cX2_wouldKeepThen 1 = .ok (.getfield 48, 3) := by decide +kernel
theorem dX2_wouldKeepThen_4 : decode cX2_wouldKeepThen 4 = .ok (.iload 4, 2) := by decide +kernel
theorem dX2_wouldKeepThen_6 : decode cX2_wouldKeepThen 6 = .ok (.invokestatic 51, 3) := by decide +kernel
theorem dX2_wouldKeepThen_9 : decode cX2_wouldKeepThen 9 = .ok (.ifCond .ne 7, 3) := by decide +kernel
theorem dX2_wouldKeepThen_12 : decode cX2_wouldKeepThen 12 = .ok (.iconst 0, 1) := by decide +kernel
theorem dX2_wouldKeepThen_13 : decode cX2_wouldKeepThen 13 = .ok (.goto 8, 3) := by decide +kernel
theorem dX2_wouldKeepThen_16 : decode cX2_wouldKeepThen 16 = .ok (.aload_n 1, 1) := by decide +kernel
theorem dX2_wouldKeepThen_17 : decode cX2_wouldKeepThen 17 = .ok (.iload_n 3, 1) := by decide +kernel
theorem dX2_wouldKeepThen_18 : decode cX2_wouldKeepThen 18 = .ok (.invokevirtual 63, 3) := by decide +kernel
theorem dX2_wouldKeepThen_21 : decode cX2_wouldKeepThen 21 = .ok (.istore 6, 2) := by decide +kernel
theorem dX2_wouldKeepThen_23 : decode cX2_wouldKeepThen 23 = .ok (.aload_n 1, 1) := by decide +kernel
theorem dX2_wouldKeepThen_24 : decode cX2_wouldKeepThen 24 = .ok (.iload_n 3, 1) := by decide +kernel
theorem dX2_wouldKeepThen_25 : decode cX2_wouldKeepThen 25 = .ok (.aload_n 2, 1) := by decide +kernel
theorem dX2_wouldKeepThen_26 : decode cX2_wouldKeepThen 26 = .ok (.iload_n 3, 1) := by decide +kernel
theorem dX2_wouldKeepThen_27 : decode cX2_wouldKeepThen 27 = .ok (.iload 6, 2) := by decide +kernel
theorem dX2_wouldKeepThen_29 : decode cX2_wouldKeepThen 29 = .ok (.invokevirtual 67, 3) := by decide +kernel
theorem dX2_wouldKeepThen_32 : decode cX2_wouldKeepThen 32 = .ok (.aload_n 2, 1) := by decide +kernel
theorem dX2_wouldKeepThen_33 : decode cX2_wouldKeepThen 33 = .ok (.aload_n 1, 1) := by decide +kernel
theorem dX2_wouldKeepThen_34 : decode cX2_wouldKeepThen 34 = .ok (.iload 4, 2) := by decide +kernel
theorem dX2_wouldKeepThen_36 : decode cX2_wouldKeepThen 36 = .ok (.iload 5, 2) := by decide +kernel
theorem dX2_wouldKeepThen_38 : decode cX2_wouldKeepThen 38 = .ok (.invokevirtual 70, 3) := by decide +kernel
theorem dX2_wouldKeepThen_41 : decode cX2_wouldKeepThen 41 = .ok (.invokevirtual 74, 3) := by decide +kernel
theorem dX2_wouldKeepThen_44 : decode cX2_wouldKeepThen 44 = .ok (.ireturn, 1) := by decide +kernel
theorem dX2_head_0 : decode cX2_head 0 = .ok (.aload_n 0, 1) := by decide +kernel
theorem dX2_head_1 : decode cX2_head 1 = .ok (.ldc 78, 2) := by decide +kernel
theorem dX2_head_3 : decode cX2_head 3 = .ok (.putfield 79, 3) := by decide +kernel
theorem dX2_head_6 : decode cX2_head 6 = .ok (.aload_n 0, 1) := by decide +kernel
theorem dX2_head_7 : decode cX2_head 7 = .ok (.iconst 0, 1) := by decide +kernel
theorem dX2_head_8 : decode cX2_head 8 = .ok (.invokevirtual 82, 3) := by decide +kernel
theorem dX2_head_11 : decode cX2_head 11 = .ok (.astore 4, 2) := by decide +kernel
theorem dX2_head_13 : decode cX2_head 13 = .ok (.aload 4, 2) := by decide +kernel
theorem dX2_head_15 : decode cX2_head 15 = .ok (.ifnull 16, 3) := by decide +kernel
theorem dX2_head_18 : decode cX2_head 18 = .ok (.aload 4, 2) := by decide +kernel
theorem dX2_head_20 : decode cX2_head 20 = .ok (.aload_n 2, 1) := by decide +kernel
theorem dX2_head_21 : decode cX2_head 21 = .ok (.invokevirtual 86, 3) := by decide +kernel
theorem dX2_head_24 : decode cX2_head 24 = .ok (.aload_n 0, 1) := by decide +kernel
theorem dX2_head_25 : decode cX2_head 25 = .ok (.aload_n 1, 1) := by decide +kernel
theorem dX2_head_26 : decode cX2_head 26 = .ok (.iload_n 3, 1) := by decide +kernel
theorem dX2_head_27 : decode cX2_head 27 = .ok (.iconst 0, 1) := by decide +kernel
theorem dX2_head_28 : decode cX2_head 28 = .ok (.invokevirtual 90, 3) := by decide +kernel
theorem dX2_head_31 : decode cX2_head 31 = .ok (.return_, 1) := by decide +kernel
theorem dX2_headFrom_0 : decode cX2_headFrom 0 = .ok (.aload_n 0, 1) := by decide +kernel
theorem dX2_headFrom_1 : decode cX2_headFrom 1 = .ok (.iload_n 3, 1) := by decide +kernel
theorem dX2_headFrom_2 : decode cX2_headFrom 2 = .ok (.invokevirtual 82, 3) := by decide +kernel
theorem dX2_headFrom_5 : decode cX2_headFrom 5 = .ok (.astore 4, 2) := by decide +kernel
theorem dX2_headFrom_7 : decode cX2_headFrom 7 = .ok (.aload 4, 2) := by decide +kernel
theorem dX2_headFrom_9 : decode cX2_headFrom 9 = .ok (.ifnonnull 4, 3) := by decide +kernel
theorem dX2_headFrom_12 : decode cX2_headFrom 12 = .ok (.return_, 1) := by decide +kernel
theorem dX2_headFrom_13 : decode cX2_headFrom 13 = .ok (.iload_n 3, 1) := by decide +kernel
theorem dX2_headFrom_14 : decode cX2_headFrom 14 = .ok (.iload_n 2, 1) := by decide +kernel
theorem dX2_headFrom_15 : decode cX2_headFrom 15 = .ok (.if_icmp .lt 13, 3) := by decide +kernel
theorem dX2_headFrom_18 : decode cX2_headFrom 18 = .ok (.aload_n 0, 1) := by decide +kernel
theorem dX2_headFrom_19 : decode cX2_headFrom 19 = .ok (.aload 4, 2) := by decide +kernel
theorem dX2_headFrom_21 : decode cX2_headFrom 21 = .ok (.invokevirtual 94, 3) := by decide +kernel
theorem dX2_headFrom_24 : decode cX2_headFrom 24 = .ok (.invokevirtual 98, 3) := by decide +kernel
theorem dX2_headFrom_27 : decode cX2_headFrom 27 = .ok (.return_, 1) := by decide +kernel
theorem dX2_headFrom_28 : decode cX2_headFrom 28 = .ok (.aload_n 0, 1) := by decide +kernel
theorem dX2_headFrom_29 : decode cX2_headFrom 29 = .ok (.iload_n 3, 1) := by decide +kernel
theorem dX2_headFrom_30 : decode cX2_headFrom 30 = .ok (.iconst 1, 1) := by decide +kernel
theorem dX2_headFrom_31 : decode cX2_headFrom 31 = .ok (.iadd, 1) := by decide +kernel
theorem dX2_headFrom_32 : decode cX2_headFrom 32 = .ok (.invokevirtual 82, 3) := by decide +kernel
theorem dX2_headFrom_35 : decode cX2_headFrom 35 = .ok (.astore 5, 2) := by decide +kernel
theorem dX2_headFrom_37 : decode cX2_headFrom 37 = .ok (.aload 5, 2) := by decide +kernel
theorem dX2_headFrom_39 : decode cX2_headFrom 39 = .ok (.ifnonnull 4, 3) := by decide +kernel
theorem dX2_headFrom_42 : decode cX2_headFrom 42 = .ok (.return_, 1) := by decide +kernel
theorem dX2_headFrom_43 : decode cX2_headFrom 43 = .ok (.iconst 0, 1) := by decide +kernel
theorem dX2_headFrom_44 : decode cX2_headFrom 44 = .ok (.istore 6, 2) := by decide +kernel
theorem dX2_headFrom_46 : decode cX2_headFrom 46 = .ok (.iload 6, 2) := by decide +kernel
theorem dX2_headFrom_48 : decode cX2_headFrom 48 = .ok (.aload_n 1, 1) := by decide +kernel
theorem dX2_headFrom_49 : decode cX2_headFrom 49 = .ok (.getfield 102, 3) := by decide +kernel
theorem dX2_headFrom_52 : decode cX2_headFrom 52 = .ok (.if_icmp .ge 52, 3) := by decide +kernel
theorem dX2_headFrom_55 : decode cX2_headFrom 55 = .ok (.aload_n 0, 1) := by decide +kernel
theorem dX2_headFrom_56 : decode cX2_headFrom 56 = .ok (.getfield 79, 3) := by decide +kernel
theorem dX2_headFrom_59 : decode cX2_headFrom 59 = .ok (.ifCond .le 45, 3) := by decide +kernel
theorem dX2_headFrom_62 : decode cX2_headFrom 62 = .ok (.aload 5, 2) := by decide +kernel
theorem dX2_headFrom_64 : decode cX2_headFrom 64 = .ok (.aload 4, 2) := by decide +kernel
theorem dX2_headFrom_66 : decode cX2_headFrom 66 = .ok (.invokevirtual 86, 3) := by decide +kernel
theorem dX2_headFrom_69 : decode cX2_headFrom 69 = .ok (.aload 5, 2) := by decide +kernel
theorem dX2_headFrom_71 : decode cX2_headFrom 71 = .ok (.aload_n 1, 1) := by decide +kernel
theorem dX2_headFrom_72 : decode cX2_headFrom 72 = .ok (.iload 6, 2) := by decide +kernel
theorem dX2_headFrom_74 : decode cX2_headFrom 74 = .ok (.iconst (-1), 1) := by decide +kernel
theorem dX2_headFrom_75 : decode cX2_headFrom 75 = .ok (.invokevirtual 105, 3) := by decide +kernel
theorem dX2_headFrom_78 : decode cX2_headFrom 78 = .ok (.pop, 1) := by decide +kernel
theorem dX2_headFrom_79 : decode cX2_headFrom 79 = .ok (.aload_n 0, 1) := by decide +kernel
theorem dX2_headFrom_80 : decode cX2_headFrom 80 = .ok (.getfield 17, 3) := by decide +kernel
theorem dX2_headFrom_83 : decode cX2_headFrom 83 = .ok (.iload_n 3, 1) := by decide +kernel
theorem dX2_headFrom_84 : decode cX2_headFrom 84 = .ok (.iload 6, 2) := by decide +kernel
theorem dX2_headFrom_86 : decode cX2_headFrom 86 = .ok (.invokestatic 108, 3) := by decide +kernel
theorem dX2_headFrom_89 : decode cX2_headFrom 89 = .ok (.aload_n 0, 1) := by decide +kernel
theorem dX2_headFrom_90 : decode cX2_headFrom 90 = .ok (.aload_n 1, 1) := by decide +kernel
theorem dX2_headFrom_91 : decode cX2_headFrom 91 = .ok (.iload_n 2, 1) := by decide +kernel
theorem dX2_headFrom_92 : decode cX2_headFrom 92 = .ok (.iload_n 3, 1) := by decide +kernel
theorem dX2_headFrom_93 : decode cX2_headFrom 93 = .ok (.iconst 1, 1) := by decide +kernel
theorem dX2_headFrom_94 : decode cX2_headFrom 94 = .ok (.iadd, 1) := by decide +kernel
theorem dX2_headFrom_95 : decode cX2_headFrom 95 = .ok (.invokevirtual 90, 3) := by decide +kernel
theorem dX2_headFrom_98 : decode cX2_headFrom 98 = .ok (.iinc 6 1, 3) := by decide +kernel
theorem dX2_headFrom_101 : decode cX2_headFrom 101 = .ok (.goto (-55), 3) := by decide +kernel
theorem dX2_headFrom_104 : decode cX2_headFrom 104 = .ok (.return_, 1) := by decide +kernel
theorem dX2_pathAt_0 : decode cX2_pathAt 0 = .ok (.iload_n 1, 1) := by decide +kernel
theorem dX2_pathAt_1 : decode cX2_pathAt 1 = .ok (.ifCond .lt 21, 3) := by decide +kernel
theorem dX2_pathAt_4 : decode cX2_pathAt 4 = .ok (.iload_n 1, 1) := by decide +kernel
theorem dX2_pathAt_5 : decode cX2_pathAt 5 = .ok (.aload_n 0, 1) := by decide +kernel
theorem dX2_pathAt_6 : decode cX2_pathAt 6 = .ok (.getfield 11, 3) := by decide +kernel
theorem dX2_pathAt_9 : decode cX2_pathAt 9 = .ok (.arraylength, 1) := by decide +kernel
theorem dX2_pathAt_10 : decode cX2_pathAt 10 = .ok (.if_icmp .ge 12, 3) := by decide +kernel
theorem dX2_pathAt_13 : decode cX2_pathAt 13 = .ok (.aload_n 0, 1) := by decide +kernel
theorem dX2_pathAt_14 : decode cX2_pathAt 14 = .ok (.getfield 11, 3) := by decide +kernel
theorem dX2_pathAt_17 : decode cX2_pathAt 17 = .ok (.iload_n 1, 1) := by decide +kernel
theorem dX2_pathAt_18 : decode cX2_pathAt 18 = .ok (.aaload, 1) := by decide +kernel
theorem dX2_pathAt_19 : decode cX2_pathAt 19 = .ok (.goto 4, 3) := by decide +kernel
theorem dX2_pathAt_22 : decode cX2_pathAt 22 = .ok (.aconst_null, 1) := by decide +kernel
theorem dX2_pathAt_23 : decode cX2_pathAt 23 = .ok (.areturn, 1) := by decide +kernel
theorem dX2_keepIfLess_0 : decode cX2_keepIfLess 0 = .ok (.iload_n 1, 1) := by decide +kernel
theorem dX2_keepIfLess_1 : decode cX2_keepIfLess 1 = .ok (.aload_n 0, 1) := by decide +kernel
theorem dX2_keepIfLess_2 : decode cX2_keepIfLess 2 = .ok (.getfield 79, 3) := by decide +kernel
theorem dX2_keepIfLess_5 : decode cX2_keepIfLess 5 = .ok (.if_icmp .ge 19, 3) := by decide +kernel
theorem dX2_keepIfLess_8 : decode cX2_keepIfLess 8 = .ok (.aload_n 0, 1) := by decide +kernel
theorem dX2_keepIfLess_9 : decode cX2_keepIfLess 9 = .ok (.iload_n 1, 1) := by decide +kernel
theorem dX2_keepIfLess_10 : decode cX2_keepIfLess 10 = .ok (.putfield 79, 3) := by decide +kernel
theorem dX2_keepIfLess_13 : decode cX2_keepIfLess 13 = .ok (.aload_n 0, 1) := by decide +kernel
theorem dX2_keepIfLess_14 : decode cX2_keepIfLess 14 = .ok (.getfield 17, 3) := by decide +kernel
theorem dX2_keepIfLess_17 : decode cX2_keepIfLess 17 = .ok (.aload_n 0, 1) := by decide +kernel
theorem dX2_keepIfLess_18 : decode cX2_keepIfLess 18 = .ok (.getfield 21, 3) := by decide +kernel
theorem dX2_keepIfLess_21 : decode cX2_keepIfLess 21 = .ok (.invokestatic 112, 3) := by decide +kernel
theorem dX2_keepIfLess_24 : decode cX2_keepIfLess 24 = .ok (.return_, 1) := by decide +kernel
theorem dX2_share_0 : decode cX2_share 0 = .ok (.iconst 0, 1) := by decide +kernel
theorem dX2_share_1 : decode cX2_share 1 = .ok (.istore_n 3, 1) := by decide +kernel
theorem dX2_share_2 : decode cX2_share 2 = .ok (.iload_n 3, 1) := by decide +kernel
theorem dX2_share_3 : decode cX2_share 3 = .ok (.aload_n 1, 1) := by decide +kernel
theorem dX2_share_4 : decode cX2_share 4 = .ok (.getfield 102, 3) := by decide +kernel
theorem dX2_share_7 : decode cX2_share 7 = .ok (.if_icmp .ge 70, 3) := by decide +kernel
theorem dX2_share_10 : decode cX2_share 10 = .ok (.iconst 0, 1) := by decide +kernel
theorem dX2_share_11 : decode cX2_share 11 = .ok (.istore 4, 2) := by decide +kernel
theorem dX2_share_13 : decode cX2_share 13 = .ok (.iload 4, 2) := by decide +kernel
theorem dX2_share_15 : decode cX2_share 15 = .ok (.aload_n 1, 1) := by decide +kernel
theorem dX2_share_16 : decode cX2_share 16 = .ok (.getfield 38, 3) := by decide +kernel
theorem dX2_share_19 : decode cX2_share 19 = .ok (.if_icmp .ge 52, 3) := by decide +kernel
theorem dX2_share_22 : decode cX2_share 22 = .ok (.aload_n 1, 1) := by decide +kernel
theorem dX2_share_23 : decode cX2_share 23 = .ok (.iload 4, 2) := by decide +kernel
theorem dX2_share_25 : decode cX2_share 25 = .ok (.aload_n 2, 1) := by decide +kernel
theorem dX2_share_26 : decode cX2_share 26 = .ok (.getfield 48, 3) := by decide +kernel
theorem dX2_share_29 : decode cX2_share 29 = .ok (.iload_n 3, 1) := by decide +kernel
theorem dX2_share_30 : decode cX2_share 30 = .ok (.invokestatic 51, 3) := by decide +kernel
theorem dX2_share_33 : decode cX2_share 33 = .ok (.invokevirtual 55, 3) := by decide +kernel
theorem dX2_share_36 : decode cX2_share 36 = .ok (.istore 5, 2) := by decide +kernel
theorem dX2_share_38 : decode cX2_share 38 = .ok (.aload_n 0, 1) := by decide +kernel
theorem dX2_share_39 : decode cX2_share 39 = .ok (.getfield 24, 3) := by decide +kernel
theorem dX2_share_42 : decode cX2_share 42 = .ok (.iload_n 3, 1) := by decide +kernel
theorem dX2_share_43 : decode cX2_share 43 = .ok (.bipush 6, 2) := by decide +kernel
theorem dX2_share_45 : decode cX2_share 45 = .ok (.imul, 1) := by decide +kernel
theorem dX2_share_46 : decode cX2_share 46 = .ok (.iload 4, 2) := by decide +kernel
theorem dX2_share_48 : decode cX2_share 48 = .ok (.iadd, 1) := by decide +kernel
theorem dX2_share_49 : decode cX2_share 49 = .ok (.iload 5, 2) := by decide +kernel
theorem dX2_share_51 : decode cX2_share 51 = .ok (.iconst (-1), 1) := by decide +kernel
theorem dX2_share_52 : decode cX2_share 52 = .ok (.if_icmp .ne 8, 3) := by decide +kernel
theorem dX2_share_55 : decode cX2_share 55 = .ok (.bipush 99, 2) := by decide +kernel
theorem dX2_share_57 : decode cX2_share 57 = .ok (.goto 5, 3) := by decide +kernel
theorem dX2_share_60 : decode cX2_share 60 = .ok (.iload 5, 2) := by decide +kernel
theorem dX2_share_62 : decode cX2_share 62 = .ok (.invokestatic 108, 3) := by decide +kernel
theorem dX2_share_65 : decode cX2_share 65 = .ok (.iinc 4 1, 3) := by decide +kernel
theorem dX2_share_68 : decode cX2_share 68 = .ok (.goto (-55), 3) := by decide +kernel
theorem dX2_share_71 : decode cX2_share 71 = .ok (.iinc 3 1, 3) := by decide +kernel
theorem dX2_share_74 : decode cX2_share 74 = .ok (.goto (-72), 3) := by decide +kernel
theorem dX2_share_77 : decode cX2_share 77 = .ok (.aload_n 0, 1) := by decide +kernel
theorem dX2_share_78 : decode cX2_share 78 = .ok (.ldc 78, 2) := by decide +kernel
theorem dX2_share_80 : decode cX2_share 80 = .ok (.putfield 79, 3) := by decide +kernel
theorem dX2_share_83 : decode cX2_share 83 = .ok (.aload_n 0, 1) := by decide +kernel
theorem dX2_share_84 : decode cX2_share 84 = .ok (.aload_n 1, 1) := by decide +kernel
theorem dX2_share_85 : decode cX2_share 85 = .ok (.aload_n 2, 1) := by decide +kernel
theorem dX2_share_86 : decode cX2_share 86 = .ok (.iconst 0, 1) := by decide +kernel
theorem dX2_share_87 : decode cX2_share 87 = .ok (.iconst 0, 1) := by decide +kernel
theorem dX2_share_88 : decode cX2_share 88 = .ok (.iconst 0, 1) := by decide +kernel
theorem dX2_share_89 : decode cX2_share 89 = .ok (.invokevirtual 116, 3) := by decide +kernel
theorem dX2_share_92 : decode cX2_share 92 = .ok (.return_, 1) := by decide +kernel
theorem dX2_shareFrom_0 : decode cX2_shareFrom 0 = .ok (.iload_n 3, 1) := by decide +kernel
theorem dX2_shareFrom_1 : decode cX2_shareFrom 1 = .ok (.aload_n 1, 1) := by decide +kernel
theorem dX2_shareFrom_2 : decode cX2_shareFrom 2 = .ok (.getfield 102, 3) := by decide +kernel
theorem dX2_shareFrom_5 : decode cX2_shareFrom 5 = .ok (.if_icmp .lt 10, 3) := by decide +kernel
theorem dX2_shareFrom_8 : decode cX2_shareFrom 8 = .ok (.aload_n 0, 1) := by decide +kernel
theorem dX2_shareFrom_9 : decode cX2_shareFrom 9 = .ok (.iload 5, 2) := by decide +kernel
theorem dX2_shareFrom_11 : decode cX2_shareFrom 11 = .ok (.invokevirtual 98, 3) := by decide +kernel
theorem dX2_shareFrom_14 : decode cX2_shareFrom 14 = .ok (.return_, 1) := by decide +kernel
theorem dX2_shareFrom_15 : decode cX2_shareFrom 15 = .ok (.aload_n 2, 1) := by decide +kernel
theorem dX2_shareFrom_16 : decode cX2_shareFrom 16 = .ok (.getfield 48, 3) := by decide +kernel
theorem dX2_shareFrom_19 : decode cX2_shareFrom 19 = .ok (.iload_n 3, 1) := by decide +kernel
theorem dX2_shareFrom_20 : decode cX2_shareFrom 20 = .ok (.invokestatic 51, 3) := by decide +kernel
theorem dX2_shareFrom_23 : decode cX2_shareFrom 23 = .ok (.ifCond .ne 26, 3) := by decide +kernel
theorem dX2_shareFrom_26 : decode cX2_shareFrom 26 = .ok (.aload_n 0, 1) := by decide +kernel
theorem dX2_shareFrom_27 : decode cX2_shareFrom 27 = .ok (.getfield 17, 3) := by decide +kernel
theorem dX2_shareFrom_30 : decode cX2_shareFrom 30 = .ok (.iload_n 3, 1) := by decide +kernel
theorem dX2_shareFrom_31 : decode cX2_shareFrom 31 = .ok (.iconst (-1), 1) := by decide +kernel
theorem dX2_shareFrom_32 : decode cX2_shareFrom 32 = .ok (.invokestatic 108, 3) := by decide +kernel
theorem dX2_shareFrom_35 : decode cX2_shareFrom 35 = .ok (.aload_n 0, 1) := by decide +kernel
theorem dX2_shareFrom_36 : decode cX2_shareFrom 36 = .ok (.aload_n 1, 1) := by decide +kernel
theorem dX2_shareFrom_37 : decode cX2_shareFrom 37 = .ok (.aload_n 2, 1) := by decide +kernel
theorem dX2_shareFrom_38 : decode cX2_shareFrom 38 = .ok (.iload_n 3, 1) := by decide +kernel
theorem dX2_shareFrom_39 : decode cX2_shareFrom 39 = .ok (.iconst 1, 1) := by decide +kernel
theorem dX2_shareFrom_40 : decode cX2_shareFrom 40 = .ok (.iadd, 1) := by decide +kernel
theorem dX2_shareFrom_41 : decode cX2_shareFrom 41 = .ok (.iload 4, 2) := by decide +kernel
theorem dX2_shareFrom_43 : decode cX2_shareFrom 43 = .ok (.iload 5, 2) := by decide +kernel
theorem dX2_shareFrom_45 : decode cX2_shareFrom 45 = .ok (.invokevirtual 116, 3) := by decide +kernel
theorem dX2_shareFrom_48 : decode cX2_shareFrom 48 = .ok (.return_, 1) := by decide +kernel
theorem dX2_shareFrom_49 : decode cX2_shareFrom 49 = .ok (.iconst 0, 1) := by decide +kernel
theorem dX2_shareFrom_50 : decode cX2_shareFrom 50 = .ok (.istore 6, 2) := by decide +kernel
theorem dX2_shareFrom_52 : decode cX2_shareFrom 52 = .ok (.iload 6, 2) := by decide +kernel
theorem dX2_shareFrom_54 : decode cX2_shareFrom 54 = .ok (.aload_n 1, 1) := by decide +kernel
theorem dX2_shareFrom_55 : decode cX2_shareFrom 55 = .ok (.getfield 38, 3) := by decide +kernel
theorem dX2_shareFrom_58 : decode cX2_shareFrom 58 = .ok (.if_icmp .ge 66, 3) := by decide +kernel
theorem dX2_shareFrom_61 : decode cX2_shareFrom 61 = .ok (.iload 4, 2) := by decide +kernel
theorem dX2_shareFrom_63 : decode cX2_shareFrom 63 = .ok (.iload 6, 2) := by decide +kernel
theorem dX2_shareFrom_65 : decode cX2_shareFrom 65 = .ok (.ishr, 1) := by decide +kernel
theorem dX2_shareFrom_66 : decode cX2_shareFrom 66 = .ok (.iconst 1, 1) := by decide +kernel
theorem dX2_shareFrom_67 : decode cX2_shareFrom 67 = .ok (.iand, 1) := by decide +kernel
theorem dX2_shareFrom_68 : decode cX2_shareFrom 68 = .ok (.ifCond .ne 50, 3) := by decide +kernel
theorem dX2_shareFrom_71 : decode cX2_shareFrom 71 = .ok (.aload_n 0, 1) := by decide +kernel
theorem dX2_shareFrom_72 : decode cX2_shareFrom 72 = .ok (.getfield 17, 3) := by decide +kernel
theorem dX2_shareFrom_75 : decode cX2_shareFrom 75 = .ok (.iload_n 3, 1) := by decide +kernel
theorem dX2_shareFrom_76 : decode cX2_shareFrom 76 = .ok (.iload 6, 2) := by decide +kernel
theorem dX2_shareFrom_78 : decode cX2_shareFrom 78 = .ok (.invokestatic 108, 3) := by decide +kernel
theorem dX2_shareFrom_81 : decode cX2_shareFrom 81 = .ok (.aload_n 0, 1) := by decide +kernel
theorem dX2_shareFrom_82 : decode cX2_shareFrom 82 = .ok (.getfield 24, 3) := by decide +kernel
theorem dX2_shareFrom_85 : decode cX2_shareFrom 85 = .ok (.iload_n 3, 1) := by decide +kernel
theorem dX2_shareFrom_86 : decode cX2_shareFrom 86 = .ok (.bipush 6, 2) := by decide +kernel
theorem dX2_shareFrom_88 : decode cX2_shareFrom 88 = .ok (.imul, 1) := by decide +kernel
theorem dX2_shareFrom_89 : decode cX2_shareFrom 89 = .ok (.iload 6, 2) := by decide +kernel
theorem dX2_shareFrom_91 : decode cX2_shareFrom 91 = .ok (.iadd, 1) := by decide +kernel
theorem dX2_shareFrom_92 : decode cX2_shareFrom 92 = .ok (.invokestatic 51, 3) := by decide +kernel
theorem dX2_shareFrom_95 : decode cX2_shareFrom 95 = .ok (.istore 7, 2) := by decide +kernel
theorem dX2_shareFrom_97 : decode cX2_shareFrom 97 = .ok (.aload_n 0, 1) := by decide +kernel
theorem dX2_shareFrom_98 : decode cX2_shareFrom 98 = .ok (.aload_n 1, 1) := by decide +kernel
theorem dX2_shareFrom_99 : decode cX2_shareFrom 99 = .ok (.aload_n 2, 1) := by decide +kernel
theorem dX2_shareFrom_100 : decode cX2_shareFrom 100 = .ok (.iload_n 3, 1) := by decide +kernel
theorem dX2_shareFrom_101 : decode cX2_shareFrom 101 = .ok (.iconst 1, 1) := by decide +kernel
theorem dX2_shareFrom_102 : decode cX2_shareFrom 102 = .ok (.iadd, 1) := by decide +kernel
theorem dX2_shareFrom_103 : decode cX2_shareFrom 103 = .ok (.iload 4, 2) := by decide +kernel
theorem dX2_shareFrom_105 : decode cX2_shareFrom 105 = .ok (.iconst 1, 1) := by decide +kernel
theorem dX2_shareFrom_106 : decode cX2_shareFrom 106 = .ok (.iload 6, 2) := by decide +kernel
theorem dX2_shareFrom_108 : decode cX2_shareFrom 108 = .ok (.ishl, 1) := by decide +kernel
theorem dX2_shareFrom_109 : decode cX2_shareFrom 109 = .ok (.ior, 1) := by decide +kernel
theorem dX2_shareFrom_110 : decode cX2_shareFrom 110 = .ok (.iload 5, 2) := by decide +kernel
theorem dX2_shareFrom_112 : decode cX2_shareFrom 112 = .ok (.iload 7, 2) := by decide +kernel
theorem dX2_shareFrom_114 : decode cX2_shareFrom 114 = .ok (.iadd, 1) := by decide +kernel
theorem dX2_shareFrom_115 : decode cX2_shareFrom 115 = .ok (.invokevirtual 116, 3) := by decide +kernel
theorem dX2_shareFrom_118 : decode cX2_shareFrom 118 = .ok (.iinc 6 1, 3) := by decide +kernel
theorem dX2_shareFrom_121 : decode cX2_shareFrom 121 = .ok (.goto (-69), 3) := by decide +kernel
theorem dX2_shareFrom_124 : decode cX2_shareFrom 124 = .ok (.return_, 1) := by decide +kernel
theorem dX2_chanceToEnd_0 : decode cX2_chanceToEnd 0 = .ok (.iconst 0, 1) := by decide +kernel
theorem dX2_chanceToEnd_1 : decode cX2_chanceToEnd 1 = .ok (.istore 7, 2) := by decide +kernel
theorem dX2_chanceToEnd_3 : decode cX2_chanceToEnd 3 = .ok (.iload 7, 2) := by decide +kernel
theorem dX2_chanceToEnd_5 : decode cX2_chanceToEnd 5 = .ok (.aload_n 0, 1) := by decide +kernel
theorem dX2_chanceToEnd_6 : decode cX2_chanceToEnd 6 = .ok (.getfield 30, 3) := by decide +kernel
theorem dX2_chanceToEnd_9 : decode cX2_chanceToEnd 9 = .ok (.arraylength, 1) := by decide +kernel
theorem dX2_chanceToEnd_10 : decode cX2_chanceToEnd 10 = .ok (.if_icmp .ge 17, 3) := by decide +kernel
theorem dX2_chanceToEnd_13 : decode cX2_chanceToEnd 13 = .ok (.aload_n 0, 1) := by decide +kernel
theorem dX2_chanceToEnd_14 : decode cX2_chanceToEnd 14 = .ok (.getfield 30, 3) := by decide +kernel
theorem dX2_chanceToEnd_17 : decode cX2_chanceToEnd 17 = .ok (.iload 7, 2) := by decide +kernel
theorem dX2_chanceToEnd_19 : decode cX2_chanceToEnd 19 = .ok (.lconst 0, 1) := by decide +kernel
theorem dX2_chanceToEnd_20 : decode cX2_chanceToEnd 20 = .ok (.lastore, 1) := by decide +kernel
theorem dX2_chanceToEnd_21 : decode cX2_chanceToEnd 21 = .ok (.iinc 7 1, 3) := by decide +kernel
theorem dX2_chanceToEnd_24 : decode cX2_chanceToEnd 24 = .ok (.goto (-21), 3) := by decide +kernel
theorem dX2_chanceToEnd_27 : decode cX2_chanceToEnd 27 = .ok (.iload 4, 2) := by decide +kernel
theorem dX2_chanceToEnd_29 : decode cX2_chanceToEnd 29 = .ok (.ifCond .lt 21, 3) := by decide +kernel
theorem dX2_chanceToEnd_32 : decode cX2_chanceToEnd 32 = .ok (.iload 4, 2) := by decide +kernel
theorem dX2_chanceToEnd_34 : decode cX2_chanceToEnd 34 = .ok (.aload_n 0, 1) := by decide +kernel
theorem dX2_chanceToEnd_35 : decode cX2_chanceToEnd 35 = .ok (.getfield 30, 3) := by decide +kernel
theorem dX2_chanceToEnd_38 : decode cX2_chanceToEnd 38 = .ok (.arraylength, 1) := by decide +kernel
theorem dX2_chanceToEnd_39 : decode cX2_chanceToEnd 39 = .ok (.if_icmp .ge 11, 3) := by decide +kernel
theorem dX2_chanceToEnd_42 : decode cX2_chanceToEnd 42 = .ok (.aload_n 0, 1) := by decide +kernel
theorem dX2_chanceToEnd_43 : decode cX2_chanceToEnd 43 = .ok (.getfield 30, 3) := by decide +kernel
theorem dX2_chanceToEnd_46 : decode cX2_chanceToEnd 46 = .ok (.iload 4, 2) := by decide +kernel
theorem dX2_chanceToEnd_48 : decode cX2_chanceToEnd 48 = .ok (.lconst 1, 1) := by decide +kernel
theorem dX2_chanceToEnd_49 : decode cX2_chanceToEnd 49 = .ok (.lastore, 1) := by decide +kernel
theorem dX2_chanceToEnd_50 : decode cX2_chanceToEnd 50 = .ok (.lconst 1, 1) := by decide +kernel
theorem dX2_chanceToEnd_51 : decode cX2_chanceToEnd 51 = .ok (.lstore 7, 2) := by decide +kernel
theorem dX2_chanceToEnd_53 : decode cX2_chanceToEnd 53 = .ok (.iconst 0, 1) := by decide +kernel
theorem dX2_chanceToEnd_54 : decode cX2_chanceToEnd 54 = .ok (.istore 9, 2) := by decide +kernel
theorem dX2_chanceToEnd_56 : decode cX2_chanceToEnd 56 = .ok (.iload 9, 2) := by decide +kernel
theorem dX2_chanceToEnd_58 : decode cX2_chanceToEnd 58 = .ok (.iload 6, 2) := by decide +kernel
theorem dX2_chanceToEnd_60 : decode cX2_chanceToEnd 60 = .ok (.if_icmp .ge 35, 3) := by decide +kernel
theorem dX2_chanceToEnd_63 : decode cX2_chanceToEnd 63 = .ok (.aload_n 0, 1) := by decide +kernel
theorem dX2_chanceToEnd_64 : decode cX2_chanceToEnd 64 = .ok (.aload_n 1, 1) := by decide +kernel
theorem dX2_chanceToEnd_65 : decode cX2_chanceToEnd 65 = .ok (.iload_n 2, 1) := by decide +kernel
theorem dX2_chanceToEnd_66 : decode cX2_chanceToEnd 66 = .ok (.aload_n 1, 1) := by decide +kernel
theorem dX2_chanceToEnd_67 : decode cX2_chanceToEnd 67 = .ok (.getfield 120, 3) := by decide +kernel
theorem dX2_chanceToEnd_70 : decode cX2_chanceToEnd 70 = .ok (.iload_n 3, 1) := by decide +kernel
theorem dX2_chanceToEnd_71 : decode cX2_chanceToEnd 71 = .ok (.invokestatic 51, 3) := by decide +kernel
theorem dX2_chanceToEnd_74 : decode cX2_chanceToEnd 74 = .ok (.iload 5, 2) := by decide +kernel
theorem dX2_chanceToEnd_76 : decode cX2_chanceToEnd 76 = .ok (.iload 9, 2) := by decide +kernel
theorem dX2_chanceToEnd_78 : decode cX2_chanceToEnd 78 = .ok (.invokevirtual 123, 3) := by decide +kernel
theorem dX2_chanceToEnd_81 : decode cX2_chanceToEnd 81 = .ok (.lload 7, 2) := by decide +kernel
theorem dX2_chanceToEnd_83 : decode cX2_chanceToEnd 83 = .ok (.ldc2_w 127, 3) := by decide +kernel
theorem dX2_chanceToEnd_86 : decode cX2_chanceToEnd 86 = .ok (.lmul, 1) := by decide +kernel
theorem dX2_chanceToEnd_87 : decode cX2_chanceToEnd 87 = .ok (.lstore 7, 2) := by decide +kernel
theorem dX2_chanceToEnd_89 : decode cX2_chanceToEnd 89 = .ok (.iinc 9 1, 3) := by decide +kernel
theorem dX2_chanceToEnd_92 : decode cX2_chanceToEnd 92 = .ok (.goto (-36), 3) := by decide +kernel
theorem dX2_chanceToEnd_95 : decode cX2_chanceToEnd 95 = .ok (.lload 7, 2) := by decide +kernel
theorem dX2_chanceToEnd_97 : decode cX2_chanceToEnd 97 = .ok (.lconst 0, 1) := by decide +kernel
theorem dX2_chanceToEnd_98 : decode cX2_chanceToEnd 98 = .ok (.lcmp, 1) := by decide +kernel
theorem dX2_chanceToEnd_99 : decode cX2_chanceToEnd 99 = .ok (.ifCond .le 28, 3) := by decide +kernel
theorem dX2_chanceToEnd_102 : decode cX2_chanceToEnd 102 = .ok (.aload_n 0, 1) := by decide +kernel
theorem dX2_chanceToEnd_103 : decode cX2_chanceToEnd 103 = .ok (.getfield 30, 3) := by decide +kernel
theorem dX2_chanceToEnd_106 : decode cX2_chanceToEnd 106 = .ok (.arraylength, 1) := by decide +kernel
theorem dX2_chanceToEnd_107 : decode cX2_chanceToEnd 107 = .ok (.ifCond .le 20, 3) := by decide +kernel
theorem dX2_chanceToEnd_110 : decode cX2_chanceToEnd 110 = .ok (.aload_n 0, 1) := by decide +kernel
theorem dX2_chanceToEnd_111 : decode cX2_chanceToEnd 111 = .ok (.getfield 30, 3) := by decide +kernel
theorem dX2_chanceToEnd_114 : decode cX2_chanceToEnd 114 = .ok (.iconst 0, 1) := by decide +kernel
theorem dX2_chanceToEnd_115 : decode cX2_chanceToEnd 115 = .ok (.laload, 1) := by decide +kernel
theorem dX2_chanceToEnd_116 : decode cX2_chanceToEnd 116 = .ok (.ldc2_w 129, 3) := by decide +kernel
theorem dX2_chanceToEnd_119 : decode cX2_chanceToEnd 119 = .ok (.lmul, 1) := by decide +kernel
theorem dX2_chanceToEnd_120 : decode cX2_chanceToEnd 120 = .ok (.lload 7, 2) := by decide +kernel
theorem dX2_chanceToEnd_122 : decode cX2_chanceToEnd 122 = .ok (.ldiv, 1) := by decide +kernel
theorem dX2_chanceToEnd_123 : decode cX2_chanceToEnd 123 = .ok (.l2i, 1) := by decide +kernel
theorem dX2_chanceToEnd_124 : decode cX2_chanceToEnd 124 = .ok (.goto 4, 3) := by decide +kernel
theorem dX2_chanceToEnd_127 : decode cX2_chanceToEnd 127 = .ok (.iconst 0, 1) := by decide +kernel
theorem dX2_chanceToEnd_128 : decode cX2_chanceToEnd 128 = .ok (.ireturn, 1) := by decide +kernel
theorem dX2_spread_0 : decode cX2_spread 0 = .ok (.iconst 0, 1) := by decide +kernel
theorem dX2_spread_1 : decode cX2_spread 1 = .ok (.istore 6, 2) := by decide +kernel
theorem dX2_spread_3 : decode cX2_spread 3 = .ok (.iload 6, 2) := by decide +kernel
theorem dX2_spread_5 : decode cX2_spread 5 = .ok (.aload_n 0, 1) := by decide +kernel
theorem dX2_spread_6 : decode cX2_spread 6 = .ok (.getfield 34, 3) := by decide +kernel
theorem dX2_spread_9 : decode cX2_spread 9 = .ok (.arraylength, 1) := by decide +kernel
theorem dX2_spread_10 : decode cX2_spread 10 = .ok (.if_icmp .ge 17, 3) := by decide +kernel
theorem dX2_spread_13 : decode cX2_spread 13 = .ok (.aload_n 0, 1) := by decide +kernel
theorem dX2_spread_14 : decode cX2_spread 14 = .ok (.getfield 34, 3) := by decide +kernel
theorem dX2_spread_17 : decode cX2_spread 17 = .ok (.iload 6, 2) := by decide +kernel
theorem dX2_spread_19 : decode cX2_spread 19 = .ok (.lconst 0, 1) := by decide +kernel
theorem dX2_spread_20 : decode cX2_spread 20 = .ok (.lastore, 1) := by decide +kernel
theorem dX2_spread_21 : decode cX2_spread 21 = .ok (.iinc 6 1, 3) := by decide +kernel
theorem dX2_spread_24 : decode cX2_spread 24 = .ok (.goto (-21), 3) := by decide +kernel
theorem dX2_spread_27 : decode cX2_spread 27 = .ok (.iconst 0, 1) := by decide +kernel
theorem dX2_spread_28 : decode cX2_spread 28 = .ok (.istore 6, 2) := by decide +kernel
theorem dX2_spread_30 : decode cX2_spread 30 = .ok (.iload 6, 2) := by decide +kernel
theorem dX2_spread_32 : decode cX2_spread 32 = .ok (.aload_n 0, 1) := by decide +kernel
theorem dX2_spread_33 : decode cX2_spread 33 = .ok (.getfield 30, 3) := by decide +kernel
theorem dX2_spread_36 : decode cX2_spread 36 = .ok (.arraylength, 1) := by decide +kernel
theorem dX2_spread_37 : decode cX2_spread 37 = .ok (.if_icmp .ge 99, 3) := by decide +kernel
theorem dX2_spread_40 : decode cX2_spread 40 = .ok (.aload_n 0, 1) := by decide +kernel
theorem dX2_spread_41 : decode cX2_spread 41 = .ok (.getfield 30, 3) := by decide +kernel
theorem dX2_spread_44 : decode cX2_spread 44 = .ok (.iload 6, 2) := by decide +kernel
theorem dX2_spread_46 : decode cX2_spread 46 = .ok (.laload, 1) := by decide +kernel
theorem dX2_spread_47 : decode cX2_spread 47 = .ok (.lstore 7, 2) := by decide +kernel
theorem dX2_spread_49 : decode cX2_spread 49 = .ok (.lload 7, 2) := by decide +kernel
theorem dX2_spread_51 : decode cX2_spread 51 = .ok (.lconst 0, 1) := by decide +kernel
theorem dX2_spread_52 : decode cX2_spread 52 = .ok (.lcmp, 1) := by decide +kernel
theorem dX2_spread_53 : decode cX2_spread 53 = .ok (.ifCond .le 22, 3) := by decide +kernel
theorem dX2_spread_56 : decode cX2_spread 56 = .ok (.iload 6, 2) := by decide +kernel
theorem dX2_spread_58 : decode cX2_spread 58 = .ok (.ifCond .ne 17, 3) := by decide +kernel
theorem dX2_spread_61 : decode cX2_spread 61 = .ok (.aload_n 0, 1) := by decide +kernel
theorem dX2_spread_62 : decode cX2_spread 62 = .ok (.iconst 0, 1) := by decide +kernel
theorem dX2_spread_63 : decode cX2_spread 63 = .ok (.lload 7, 2) := by decide +kernel
theorem dX2_spread_65 : decode cX2_spread 65 = .ok (.ldc2_w 127, 3) := by decide +kernel
theorem dX2_spread_68 : decode cX2_spread 68 = .ok (.lmul, 1) := by decide +kernel
theorem dX2_spread_69 : decode cX2_spread 69 = .ok (.invokevirtual 131, 3) := by decide +kernel
theorem dX2_spread_72 : decode cX2_spread 72 = .ok (.goto 58, 3) := by decide +kernel
theorem dX2_spread_75 : decode cX2_spread 75 = .ok (.lload 7, 2) := by decide +kernel
theorem dX2_spread_77 : decode cX2_spread 77 = .ok (.lconst 0, 1) := by decide +kernel
theorem dX2_spread_78 : decode cX2_spread 78 = .ok (.lcmp, 1) := by decide +kernel
theorem dX2_spread_79 : decode cX2_spread 79 = .ok (.ifCond .le 51, 3) := by decide +kernel
theorem dX2_spread_82 : decode cX2_spread 82 = .ok (.aload_n 0, 1) := by decide +kernel
theorem dX2_spread_83 : decode cX2_spread 83 = .ok (.iconst 0, 1) := by decide +kernel
theorem dX2_spread_84 : decode cX2_spread 84 = .ok (.iload 6, 2) := by decide +kernel
theorem dX2_spread_86 : decode cX2_spread 86 = .ok (.aload_n 1, 1) := by decide +kernel
theorem dX2_spread_87 : decode cX2_spread 87 = .ok (.iload_n 2, 1) := by decide +kernel
theorem dX2_spread_88 : decode cX2_spread 88 = .ok (.iload 6, 2) := by decide +kernel
theorem dX2_spread_90 : decode cX2_spread 90 = .ok (.iload 5, 2) := by decide +kernel
theorem dX2_spread_92 : decode cX2_spread 92 = .ok (.invokevirtual 135, 3) := by decide +kernel
theorem dX2_spread_95 : decode cX2_spread 95 = .ok (.isub, 1) := by decide +kernel
theorem dX2_spread_96 : decode cX2_spread 96 = .ok (.invokestatic 139, 3) := by decide +kernel
theorem dX2_spread_99 : decode cX2_spread 99 = .ok (.lload 7, 2) := by decide +kernel
theorem dX2_spread_101 : decode cX2_spread 101 = .ok (.bipush 10, 2) := by decide +kernel
theorem dX2_spread_103 : decode cX2_spread 103 = .ok (.iload 4, 2) := by decide +kernel
theorem dX2_spread_105 : decode cX2_spread 105 = .ok (.isub, 1) := by decide +kernel
theorem dX2_spread_106 : decode cX2_spread 106 = .ok (.i2l, 1) := by decide +kernel
theorem dX2_spread_107 : decode cX2_spread 107 = .ok (.lmul, 1) := by decide +kernel
theorem dX2_spread_108 : decode cX2_spread 108 = .ok (.invokevirtual 131, 3) := by decide +kernel
theorem dX2_spread_111 : decode cX2_spread 111 = .ok (.aload_n 0, 1) := by decide +kernel
theorem dX2_spread_112 : decode cX2_spread 112 = .ok (.bipush 99, 2) := by decide +kernel
theorem dX2_spread_114 : decode cX2_spread 114 = .ok (.iload 6, 2) := by decide +kernel
theorem dX2_spread_116 : decode cX2_spread 116 = .ok (.iload_n 3, 1) := by decide +kernel
theorem dX2_spread_117 : decode cX2_spread 117 = .ok (.iadd, 1) := by decide +kernel
theorem dX2_spread_118 : decode cX2_spread 118 = .ok (.invokestatic 144, 3) := by decide +kernel
theorem dX2_spread_121 : decode cX2_spread 121 = .ok (.lload 7, 2) := by decide +kernel
theorem dX2_spread_123 : decode cX2_spread 123 = .ok (.iload 4, 2) := by decide +kernel
theorem dX2_spread_125 : decode cX2_spread 125 = .ok (.i2l, 1) := by decide +kernel
theorem dX2_spread_126 : decode cX2_spread 126 = .ok (.lmul, 1) := by decide +kernel
theorem dX2_spread_127 : decode cX2_spread 127 = .ok (.invokevirtual 131, 3) := by decide +kernel
theorem dX2_spread_130 : decode cX2_spread 130 = .ok (.iinc 6 1, 3) := by decide +kernel
theorem dX2_spread_133 : decode cX2_spread 133 = .ok (.goto (-103), 3) := by decide +kernel
theorem dX2_spread_136 : decode cX2_spread 136 = .ok (.aload_n 0, 1) := by decide +kernel
theorem dX2_spread_137 : decode cX2_spread 137 = .ok (.getfield 30, 3) := by decide +kernel
theorem dX2_spread_140 : decode cX2_spread 140 = .ok (.astore 6, 2) := by decide +kernel
theorem dX2_spread_142 : decode cX2_spread 142 = .ok (.aload_n 0, 1) := by decide +kernel
theorem dX2_spread_143 : decode cX2_spread 143 = .ok (.aload_n 0, 1) := by decide +kernel
theorem dX2_spread_144 : decode cX2_spread 144 = .ok (.getfield 34, 3) := by decide +kernel
theorem dX2_spread_147 : decode cX2_spread 147 = .ok (.putfield 30, 3) := by decide +kernel
theorem dX2_spread_150 : decode cX2_spread 150 = .ok (.aload_n 0, 1) := by decide +kernel
theorem dX2_spread_151 : decode cX2_spread 151 = .ok (.aload 6, 2) := by decide +kernel
theorem dX2_spread_153 : decode cX2_spread 153 = .ok (.putfield 34, 3) := by decide +kernel
theorem dX2_spread_156 : decode cX2_spread 156 = .ok (.return_, 1) := by decide +kernel
theorem dX2_addWays_0 : decode cX2_addWays 0 = .ok (.iload_n 1, 1) := by decide +kernel
theorem dX2_addWays_1 : decode cX2_addWays 1 = .ok (.ifCond .lt 22, 3) := by decide +kernel
theorem dX2_addWays_4 : decode cX2_addWays 4 = .ok (.iload_n 1, 1) := by decide +kernel
theorem dX2_addWays_5 : decode cX2_addWays 5 = .ok (.aload_n 0, 1) := by decide +kernel
theorem dX2_addWays_6 : decode cX2_addWays 6 = .ok (.getfield 34, 3) := by decide +kernel
theorem dX2_addWays_9 : decode cX2_addWays 9 = .ok (.arraylength, 1) := by decide +kernel
theorem dX2_addWays_10 : decode cX2_addWays 10 = .ok (.if_icmp .ge 13, 3) := by decide +kernel
theorem dX2_addWays_13 : decode cX2_addWays 13 = .ok (.aload_n 0, 1) := by decide +kernel
theorem dX2_addWays_14 : decode cX2_addWays 14 = .ok (.getfield 34, 3) := by decide +kernel
theorem dX2_addWays_17 : decode cX2_addWays 17 = .ok (.iload_n 1, 1) := by decide +kernel
theorem dX2_addWays_18 : decode cX2_addWays 18 = .ok (.dup2, 1) := by decide +kernel
theorem dX2_addWays_19 : decode cX2_addWays 19 = .ok (.laload, 1) := by decide +kernel
theorem dX2_addWays_20 : decode cX2_addWays 20 = .ok (.lload_n 2, 1) := by decide +kernel
theorem dX2_addWays_21 : decode cX2_addWays 21 = .ok (.ladd, 1) := by decide +kernel
theorem dX2_addWays_22 : decode cX2_addWays 22 = .ok (.lastore, 1) := by decide +kernel
theorem dX2_addWays_23 : decode cX2_addWays 23 = .ok (.return_, 1) := by decide +kernel
theorem dX2_parting_0 : decode cX2_parting 0 = .ok (.iload_n 3, 1) := by decide +kernel
theorem dX2_parting_1 : decode cX2_parting 1 = .ok (.invokestatic 147, 3) := by decide +kernel
theorem dX2_parting_4 : decode cX2_parting 4 = .ok (.istore 4, 2) := by decide +kernel
theorem dX2_parting_6 : decode cX2_parting 6 = .ok (.iconst (-1), 1) := by decide +kernel
theorem dX2_parting_7 : decode cX2_parting 7 = .ok (.istore 5, 2) := by decide +kernel
theorem dX2_parting_9 : decode cX2_parting 9 = .ok (.iload 4, 2) := by decide +kernel
theorem dX2_parting_11 : decode cX2_parting 11 = .ok (.istore 6, 2) := by decide +kernel
theorem dX2_parting_13 : decode cX2_parting 13 = .ok (.iconst 0, 1) := by decide +kernel
theorem dX2_parting_14 : decode cX2_parting 14 = .ok (.istore 7, 2) := by decide +kernel
theorem dX2_parting_16 : decode cX2_parting 16 = .ok (.iload 7, 2) := by decide +kernel
theorem dX2_parting_18 : decode cX2_parting 18 = .ok (.bipush 12, 2) := by decide +kernel
theorem dX2_parting_20 : decode cX2_parting 20 = .ok (.if_icmp .gt 42, 3) := by decide +kernel
theorem dX2_parting_23 : decode cX2_parting 23 = .ok (.aload_n 0, 1) := by decide +kernel
theorem dX2_parting_24 : decode cX2_parting 24 = .ok (.aload_n 1, 1) := by decide +kernel
theorem dX2_parting_25 : decode cX2_parting 25 = .ok (.aload_n 1, 1) := by decide +kernel
theorem dX2_parting_26 : decode cX2_parting 26 = .ok (.getfield 152, 3) := by decide +kernel
theorem dX2_parting_29 : decode cX2_parting 29 = .ok (.iload_n 2, 1) := by decide +kernel
theorem dX2_parting_30 : decode cX2_parting 30 = .ok (.invokestatic 51, 3) := by decide +kernel
theorem dX2_parting_33 : decode cX2_parting 33 = .ok (.iload_n 3, 1) := by decide +kernel
theorem dX2_parting_34 : decode cX2_parting 34 = .ok (.iload 7, 2) := by decide +kernel
theorem dX2_parting_36 : decode cX2_parting 36 = .ok (.invokevirtual 153, 3) := by decide +kernel
theorem dX2_parting_39 : decode cX2_parting 39 = .ok (.istore 8, 2) := by decide +kernel
theorem dX2_parting_41 : decode cX2_parting 41 = .ok (.iload 8, 2) := by decide +kernel
theorem dX2_parting_43 : decode cX2_parting 43 = .ok (.iload 6, 2) := by decide +kernel
theorem dX2_parting_45 : decode cX2_parting 45 = .ok (.if_icmp .ge 11, 3) := by decide +kernel
theorem dX2_parting_48 : decode cX2_parting 48 = .ok (.iload 8, 2) := by decide +kernel
theorem dX2_parting_50 : decode cX2_parting 50 = .ok (.istore 6, 2) := by decide +kernel
theorem dX2_parting_52 : decode cX2_parting 52 = .ok (.iload 7, 2) := by decide +kernel
theorem dX2_parting_54 : decode cX2_parting 54 = .ok (.istore 5, 2) := by decide +kernel
theorem dX2_parting_56 : decode cX2_parting 56 = .ok (.iinc 7 1, 3) := by decide +kernel
theorem dX2_parting_59 : decode cX2_parting 59 = .ok (.goto (-43), 3) := by decide +kernel
theorem dX2_parting_62 : decode cX2_parting 62 = .ok (.iload 5, 2) := by decide +kernel
theorem dX2_parting_64 : decode cX2_parting 64 = .ok (.ireturn, 1) := by decide +kernel
theorem dX2_mostAlike_0 : decode cX2_mostAlike 0 = .ok (.iconst 0, 1) := by decide +kernel
theorem dX2_mostAlike_1 : decode cX2_mostAlike 1 = .ok (.istore 5, 2) := by decide +kernel
theorem dX2_mostAlike_3 : decode cX2_mostAlike 3 = .ok (.iload 5, 2) := by decide +kernel
theorem dX2_mostAlike_5 : decode cX2_mostAlike 5 = .ok (.aload_n 0, 1) := by decide +kernel
theorem dX2_mostAlike_6 : decode cX2_mostAlike 6 = .ok (.getfield 27, 3) := by decide +kernel
theorem dX2_mostAlike_9 : decode cX2_mostAlike 9 = .ok (.arraylength, 1) := by decide +kernel
theorem dX2_mostAlike_10 : decode cX2_mostAlike 10 = .ok (.if_icmp .ge 17, 3) := by decide +kernel
theorem dX2_mostAlike_13 : decode cX2_mostAlike 13 = .ok (.aload_n 0, 1) := by decide +kernel
theorem dX2_mostAlike_14 : decode cX2_mostAlike 14 = .ok (.getfield 27, 3) := by decide +kernel
theorem dX2_mostAlike_17 : decode cX2_mostAlike 17 = .ok (.iload 5, 2) := by decide +kernel
theorem dX2_mostAlike_19 : decode cX2_mostAlike 19 = .ok (.iconst 0, 1) := by decide +kernel
theorem dX2_mostAlike_20 : decode cX2_mostAlike 20 = .ok (.iastore, 1) := by decide +kernel
theorem dX2_mostAlike_21 : decode cX2_mostAlike 21 = .ok (.iinc 5 1, 3) := by decide +kernel
theorem dX2_mostAlike_24 : decode cX2_mostAlike 24 = .ok (.goto (-21), 3) := by decide +kernel
theorem dX2_mostAlike_27 : decode cX2_mostAlike 27 = .ok (.iconst 0, 1) := by decide +kernel
theorem dX2_mostAlike_28 : decode cX2_mostAlike 28 = .ok (.istore 5, 2) := by decide +kernel
theorem dX2_mostAlike_30 : decode cX2_mostAlike 30 = .ok (.iconst 0, 1) := by decide +kernel
theorem dX2_mostAlike_31 : decode cX2_mostAlike 31 = .ok (.istore 6, 2) := by decide +kernel
theorem dX2_mostAlike_33 : decode cX2_mostAlike 33 = .ok (.iload 6, 2) := by decide +kernel
theorem dX2_mostAlike_35 : decode cX2_mostAlike 35 = .ok (.aload_n 1, 1) := by decide +kernel
theorem dX2_mostAlike_36 : decode cX2_mostAlike 36 = .ok (.getfield 38, 3) := by decide +kernel
theorem dX2_mostAlike_39 : decode cX2_mostAlike 39 = .ok (.if_icmp .ge 66, 3) := by decide +kernel
theorem dX2_mostAlike_42 : decode cX2_mostAlike 42 = .ok (.iload_n 3, 1) := by decide +kernel
theorem dX2_mostAlike_43 : decode cX2_mostAlike 43 = .ok (.iload 6, 2) := by decide +kernel
theorem dX2_mostAlike_45 : decode cX2_mostAlike 45 = .ok (.ishr, 1) := by decide +kernel
theorem dX2_mostAlike_46 : decode cX2_mostAlike 46 = .ok (.iconst 1, 1) := by decide +kernel
theorem dX2_mostAlike_47 : decode cX2_mostAlike 47 = .ok (.iand, 1) := by decide +kernel
theorem dX2_mostAlike_48 : decode cX2_mostAlike 48 = .ok (.iconst 1, 1) := by decide +kernel
theorem dX2_mostAlike_49 : decode cX2_mostAlike 49 = .ok (.if_icmp .ne 50, 3) := by decide +kernel
theorem dX2_mostAlike_52 : decode cX2_mostAlike 52 = .ok (.aload_n 1, 1) := by decide +kernel
theorem dX2_mostAlike_53 : decode cX2_mostAlike 53 = .ok (.iload 6, 2) := by decide +kernel
theorem dX2_mostAlike_55 : decode cX2_mostAlike 55 = .ok (.iload_n 2, 1) := by decide +kernel
theorem dX2_mostAlike_56 : decode cX2_mostAlike 56 = .ok (.iload 4, 2) := by decide +kernel
theorem dX2_mostAlike_58 : decode cX2_mostAlike 58 = .ok (.invokevirtual 157, 3) := by decide +kernel
theorem dX2_mostAlike_61 : decode cX2_mostAlike 61 = .ok (.istore 7, 2) := by decide +kernel
theorem dX2_mostAlike_63 : decode cX2_mostAlike 63 = .ok (.aload_n 0, 1) := by decide +kernel
theorem dX2_mostAlike_64 : decode cX2_mostAlike 64 = .ok (.getfield 27, 3) := by decide +kernel
theorem dX2_mostAlike_67 : decode cX2_mostAlike 67 = .ok (.iload 7, 2) := by decide +kernel
theorem dX2_mostAlike_69 : decode cX2_mostAlike 69 = .ok (.aload_n 0, 1) := by decide +kernel
theorem dX2_mostAlike_70 : decode cX2_mostAlike 70 = .ok (.getfield 27, 3) := by decide +kernel
theorem dX2_mostAlike_73 : decode cX2_mostAlike 73 = .ok (.iload 7, 2) := by decide +kernel
theorem dX2_mostAlike_75 : decode cX2_mostAlike 75 = .ok (.invokestatic 51, 3) := by decide +kernel
theorem dX2_mostAlike_78 : decode cX2_mostAlike 78 = .ok (.iconst 1, 1) := by decide +kernel
theorem dX2_mostAlike_79 : decode cX2_mostAlike 79 = .ok (.iadd, 1) := by decide +kernel
theorem dX2_mostAlike_80 : decode cX2_mostAlike 80 = .ok (.invokestatic 108, 3) := by decide +kernel
theorem dX2_mostAlike_83 : decode cX2_mostAlike 83 = .ok (.iload 5, 2) := by decide +kernel
theorem dX2_mostAlike_85 : decode cX2_mostAlike 85 = .ok (.aload_n 0, 1) := by decide +kernel
theorem dX2_mostAlike_86 : decode cX2_mostAlike 86 = .ok (.getfield 27, 3) := by decide +kernel
theorem dX2_mostAlike_89 : decode cX2_mostAlike 89 = .ok (.iload 7, 2) := by decide +kernel
theorem dX2_mostAlike_91 : decode cX2_mostAlike 91 = .ok (.invokestatic 51, 3) := by decide +kernel
theorem dX2_mostAlike_94 : decode cX2_mostAlike 94 = .ok (.invokestatic 139, 3) := by decide +kernel
theorem dX2_mostAlike_97 : decode cX2_mostAlike 97 = .ok (.istore 5, 2) := by decide +kernel
theorem dX2_mostAlike_99 : decode cX2_mostAlike 99 = .ok (.iinc 6 1, 3) := by decide +kernel
theorem dX2_mostAlike_102 : decode cX2_mostAlike 102 = .ok (.goto (-69), 3) := by decide +kernel
theorem dX2_mostAlike_105 : decode cX2_mostAlike 105 = .ok (.iload 5, 2) := by decide +kernel
theorem dX2_mostAlike_107 : decode cX2_mostAlike 107 = .ok (.ireturn, 1) := by decide +kernel
theorem dX2_live_0 : decode cX2_live 0 = .ok (.iload_n 3, 1) := by decide +kernel
theorem dX2_live_1 : decode cX2_live 1 = .ok (.i2l, 1) := by decide +kernel
theorem dX2_live_2 : decode cX2_live 2 = .ok (.lstore 5, 2) := by decide +kernel
theorem dX2_live_4 : decode cX2_live 4 = .ok (.aload_n 0, 1) := by decide +kernel
theorem dX2_live_5 : decode cX2_live 5 = .ok (.iconst 0, 1) := by decide +kernel
theorem dX2_live_6 : decode cX2_live 6 = .ok (.putfield 160, 3) := by decide +kernel
theorem dX2_live_9 : decode cX2_live 9 = .ok (.aload_n 0, 1) := by decide +kernel
theorem dX2_live_10 : decode cX2_live 10 = .ok (.iconst 0, 1) := by decide +kernel
theorem dX2_live_11 : decode cX2_live 11 = .ok (.putfield 163, 3) := by decide +kernel
theorem dX2_live_14 : decode cX2_live 14 = .ok (.iconst 0, 1) := by decide +kernel
theorem dX2_live_15 : decode cX2_live 15 = .ok (.istore 7, 2) := by decide +kernel
theorem dX2_live_17 : decode cX2_live 17 = .ok (.iload 7, 2) := by decide +kernel
theorem dX2_live_19 : decode cX2_live 19 = .ok (.iload 4, 2) := by decide +kernel
theorem dX2_live_21 : decode cX2_live 21 = .ok (.if_icmp .ge 134, 3) := by decide +kernel
theorem dX2_live_24 : decode cX2_live 24 = .ok (.aload_n 2, 1) := by decide +kernel
theorem dX2_live_25 : decode cX2_live 25 = .ok (.getfield 166, 3) := by decide +kernel
theorem dX2_live_28 : decode cX2_live 28 = .ok (.iconst (-1), 1) := by decide +kernel
theorem dX2_live_29 : decode cX2_live 29 = .ok (.if_icmp .ne 65, 3) := by decide +kernel
theorem dX2_live_32 : decode cX2_live 32 = .ok (.aload_n 1, 1) := by decide +kernel
theorem dX2_live_33 : decode cX2_live 33 = .ok (.getfield 38, 3) := by decide +kernel
theorem dX2_live_36 : decode cX2_live 36 = .ok (.ifCond .le 58, 3) := by decide +kernel
theorem dX2_live_39 : decode cX2_live 39 = .ok (.lload 5, 2) := by decide +kernel
theorem dX2_live_41 : decode cX2_live 41 = .ok (.invokestatic 169, 3) := by decide +kernel
theorem dX2_live_44 : decode cX2_live 44 = .ok (.lstore 5, 2) := by decide +kernel
theorem dX2_live_46 : decode cX2_live 46 = .ok (.lload 5, 2) := by decide +kernel
theorem dX2_live_48 : decode cX2_live 48 = .ok (.aload_n 1, 1) := by decide +kernel
theorem dX2_live_49 : decode cX2_live 49 = .ok (.getfield 38, 3) := by decide +kernel
theorem dX2_live_52 : decode cX2_live 52 = .ok (.invokestatic 173, 3) := by decide +kernel
theorem dX2_live_55 : decode cX2_live 55 = .ok (.istore 8, 2) := by decide +kernel
theorem dX2_live_57 : decode cX2_live 57 = .ok (.lload 5, 2) := by decide +kernel
theorem dX2_live_59 : decode cX2_live 59 = .ok (.invokestatic 169, 3) := by decide +kernel
theorem dX2_live_62 : decode cX2_live 62 = .ok (.lstore 5, 2) := by decide +kernel
theorem dX2_live_64 : decode cX2_live 64 = .ok (.lload 5, 2) := by decide +kernel
theorem dX2_live_66 : decode cX2_live 66 = .ok (.aload_n 1, 1) := by decide +kernel
theorem dX2_live_67 : decode cX2_live 67 = .ok (.getfield 38, 3) := by decide +kernel
theorem dX2_live_70 : decode cX2_live 70 = .ok (.invokestatic 173, 3) := by decide +kernel
theorem dX2_live_73 : decode cX2_live 73 = .ok (.istore 9, 2) := by decide +kernel
theorem dX2_live_75 : decode cX2_live 75 = .ok (.aload_n 2, 1) := by decide +kernel
theorem dX2_live_76 : decode cX2_live 76 = .ok (.aload_n 1, 1) := by decide +kernel
theorem dX2_live_77 : decode cX2_live 77 = .ok (.iload 8, 2) := by decide +kernel
theorem dX2_live_79 : decode cX2_live 79 = .ok (.iload 9, 2) := by decide +kernel
theorem dX2_live_81 : decode cX2_live 81 = .ok (.invokevirtual 177, 3) := by decide +kernel
theorem dX2_live_84 : decode cX2_live 84 = .ok (.ifCond .eq 10, 3) := by decide +kernel
theorem dX2_live_87 : decode cX2_live 87 = .ok (.aload_n 2, 1) := by decide +kernel
theorem dX2_live_88 : decode cX2_live 88 = .ok (.aload_n 1, 1) := by decide +kernel
theorem dX2_live_89 : decode cX2_live 89 = .ok (.iload 9, 2) := by decide +kernel
theorem dX2_live_91 : decode cX2_live 91 = .ok (.invokevirtual 181, 3) := by decide +kernel
theorem dX2_live_94 : decode cX2_live 94 = .ok (.aload_n 1, 1) := by decide +kernel
theorem dX2_live_95 : decode cX2_live 95 = .ok (.getfield 102, 3) := by decide +kernel
theorem dX2_live_98 : decode cX2_live 98 = .ok (.ifCond .le 34, 3) := by decide +kernel
theorem dX2_live_101 : decode cX2_live 101 = .ok (.lload 5, 2) := by decide +kernel
theorem dX2_live_103 : decode cX2_live 103 = .ok (.invokestatic 169, 3) := by decide +kernel
theorem dX2_live_106 : decode cX2_live 106 = .ok (.lstore 5, 2) := by decide +kernel
theorem dX2_live_108 : decode cX2_live 108 = .ok (.aload_n 0, 1) := by decide +kernel
theorem dX2_live_109 : decode cX2_live 109 = .ok (.dup, 1) := by decide +kernel
theorem dX2_live_110 : decode cX2_live 110 = .ok (.getfield 160, 3) := by decide +kernel
theorem dX2_live_113 : decode cX2_live 113 = .ok (.aload_n 2, 1) := by decide +kernel
theorem dX2_live_114 : decode cX2_live 114 = .ok (.aload_n 1, 1) := by decide +kernel
theorem dX2_live_115 : decode cX2_live 115 = .ok (.lload 5, 2) := by decide +kernel
theorem dX2_live_117 : decode cX2_live 117 = .ok (.aload_n 1, 1) := by decide +kernel
theorem dX2_live_118 : decode cX2_live 118 = .ok (.getfield 102, 3) := by decide +kernel
theorem dX2_live_121 : decode cX2_live 121 = .ok (.invokestatic 173, 3) := by decide +kernel
theorem dX2_live_124 : decode cX2_live 124 = .ok (.iconst (-1), 1) := by decide +kernel
theorem dX2_live_125 : decode cX2_live 125 = .ok (.invokevirtual 105, 3) := by decide +kernel
theorem dX2_live_128 : decode cX2_live 128 = .ok (.iadd, 1) := by decide +kernel
theorem dX2_live_129 : decode cX2_live 129 = .ok (.putfield 160, 3) := by decide +kernel
theorem dX2_live_132 : decode cX2_live 132 = .ok (.aload_n 2, 1) := by decide +kernel
theorem dX2_live_133 : decode cX2_live 133 = .ok (.getfield 185, 3) := by decide +kernel
theorem dX2_live_136 : decode cX2_live 136 = .ok (.ifCond .eq 13, 3) := by decide +kernel
theorem dX2_live_139 : decode cX2_live 139 = .ok (.aload_n 0, 1) := by decide +kernel
theorem dX2_live_140 : decode cX2_live 140 = .ok (.dup, 1) := by decide +kernel
theorem dX2_live_141 : decode cX2_live 141 = .ok (.getfield 163, 3) := by decide +kernel
theorem dX2_live_144 : decode cX2_live 144 = .ok (.iconst 1, 1) := by decide +kernel
theorem dX2_live_145 : decode cX2_live 145 = .ok (.iadd, 1) := by decide +kernel
theorem dX2_live_146 : decode cX2_live 146 = .ok (.putfield 163, 3) := by decide +kernel
theorem dX2_live_149 : decode cX2_live 149 = .ok (.iinc 7 1, 3) := by decide +kernel
theorem dX2_live_152 : decode cX2_live 152 = .ok (.goto (-135), 3) := by decide +kernel
theorem dX2_live_155 : decode cX2_live 155 = .ok (.return_, 1) := by decide +kernel
theorem dX2_drawnNext_0 : decode cX2_drawnNext 0 = .ok (.lload_n 0, 1) := by decide +kernel
theorem dX2_drawnNext_1 : decode cX2_drawnNext 1 = .ok (.ldc2_w 189, 3) := by decide +kernel
theorem dX2_drawnNext_4 : decode cX2_drawnNext 4 = .ok (.lmul, 1) := by decide +kernel
theorem dX2_drawnNext_5 : decode cX2_drawnNext 5 = .ok (.ldc2_w 191, 3) := by decide +kernel
theorem dX2_drawnNext_8 : decode cX2_drawnNext 8 = .ok (.ladd, 1) := by decide +kernel
theorem dX2_drawnNext_9 : decode cX2_drawnNext 9 = .ok (.ldc2_w 193, 3) := by decide +kernel
theorem dX2_drawnNext_12 : decode cX2_drawnNext 12 = .ok (.lrem, 1) := by decide +kernel
theorem dX2_drawnNext_13 : decode cX2_drawnNext 13 = .ok (.lreturn, 1) := by decide +kernel
theorem dX2_drawnBelow_0 : decode cX2_drawnBelow 0 = .ok (.iload_n 2, 1) := by decide +kernel
theorem dX2_drawnBelow_1 : decode cX2_drawnBelow 1 = .ok (.ifCond .gt 7, 3) := by decide +kernel
theorem dX2_drawnBelow_4 : decode cX2_drawnBelow 4 = .ok (.iconst 0, 1) := by decide +kernel
theorem dX2_drawnBelow_5 : decode cX2_drawnBelow 5 = .ok (.goto 12, 3) := by decide +kernel
theorem dX2_drawnBelow_8 : decode cX2_drawnBelow 8 = .ok (.lload_n 0, 1) := by decide +kernel
theorem dX2_drawnBelow_9 : decode cX2_drawnBelow 9 = .ok (.ldc2_w 195, 3) := by decide +kernel
theorem dX2_drawnBelow_12 : decode cX2_drawnBelow 12 = .ok (.ldiv, 1) := by decide +kernel
theorem dX2_drawnBelow_13 : decode cX2_drawnBelow 13 = .ok (.iload_n 2, 1) := by decide +kernel
theorem dX2_drawnBelow_14 : decode cX2_drawnBelow 14 = .ok (.i2l, 1) := by decide +kernel
theorem dX2_drawnBelow_15 : decode cX2_drawnBelow 15 = .ok (.lrem, 1) := by decide +kernel
theorem dX2_drawnBelow_16 : decode cX2_drawnBelow 16 = .ok (.l2i, 1) := by decide +kernel
theorem dX2_drawnBelow_17 : decode cX2_drawnBelow 17 = .ok (.ireturn, 1) := by decide +kernel
theorem dX3_init_0 : decode cX3_init 0 = .ok (.aload_n 0, 1) := by decide +kernel
theorem dX3_init_1 : decode cX3_init 1 = .ok (.invokespecial 3, 3) := by decide +kernel
theorem dX3_init_4 : decode cX3_init 4 = .ok (.aload_n 0, 1) := by decide +kernel
theorem dX3_init_5 : decode cX3_init 5 = .ok (.sipush 1000, 3) := by decide +kernel
theorem dX3_init_8 : decode cX3_init 8 = .ok (.newarray .int, 2) := by decide +kernel
theorem dX3_init_10 : decode cX3_init 10 = .ok (.putfield 9, 3) := by decide +kernel
theorem dX3_init_13 : decode cX3_init 13 = .ok (.aload_n 0, 1) := by decide +kernel
theorem dX3_init_14 : decode cX3_init 14 = .ok (.bipush 32, 2) := by decide +kernel
theorem dX3_init_16 : decode cX3_init 16 = .ok (.newarray .int, 2) := by decide +kernel
theorem dX3_init_18 : decode cX3_init 18 = .ok (.putfield 15, 3) := by decide +kernel
theorem dX3_init_21 : decode cX3_init 21 = .ok (.return_, 1) := by decide +kernel
theorem dX3_clear_0 : decode cX3_clear 0 = .ok (.aload_n 0, 1) := by decide +kernel
theorem dX3_clear_1 : decode cX3_clear 1 = .ok (.iconst 0, 1) := by decide +kernel
theorem dX3_clear_2 : decode cX3_clear 2 = .ok (.putfield 18, 3) := by decide +kernel
theorem dX3_clear_5 : decode cX3_clear 5 = .ok (.aload_n 0, 1) := by decide +kernel
theorem dX3_clear_6 : decode cX3_clear 6 = .ok (.iconst 0, 1) := by decide +kernel
theorem dX3_clear_7 : decode cX3_clear 7 = .ok (.putfield 22, 3) := by decide +kernel
theorem dX3_clear_10 : decode cX3_clear 10 = .ok (.aload_n 0, 1) := by decide +kernel
theorem dX3_clear_11 : decode cX3_clear 11 = .ok (.iconst 0, 1) := by decide +kernel
theorem dX3_clear_12 : decode cX3_clear 12 = .ok (.putfield 25, 3) := by decide +kernel
theorem dX3_clear_15 : decode cX3_clear 15 = .ok (.aload_n 0, 1) := by decide +kernel
theorem dX3_clear_16 : decode cX3_clear 16 = .ok (.iconst 0, 1) := by decide +kernel
theorem dX3_clear_17 : decode cX3_clear 17 = .ok (.putfield 28, 3) := by decide +kernel
theorem dX3_clear_20 : decode cX3_clear 20 = .ok (.aload_n 0, 1) := by decide +kernel
theorem dX3_clear_21 : decode cX3_clear 21 = .ok (.iconst 0, 1) := by decide +kernel
theorem dX3_clear_22 : decode cX3_clear 22 = .ok (.putfield 31, 3) := by decide +kernel
theorem dX3_clear_25 : decode cX3_clear 25 = .ok (.return_, 1) := by decide +kernel
theorem dX3_add_0 : decode cX3_add 0 = .ok (.aload_n 0, 1) := by decide +kernel
theorem dX3_add_1 : decode cX3_add 1 = .ok (.getfield 18, 3) := by decide +kernel
theorem dX3_add_4 : decode cX3_add 4 = .ok (.sipush 1000, 3) := by decide +kernel
theorem dX3_add_7 : decode cX3_add 7 = .ok (.if_icmp .ge 25, 3) := by decide +kernel
theorem dX3_add_10 : decode cX3_add 10 = .ok (.aload_n 0, 1) := by decide +kernel
theorem dX3_add_11 : decode cX3_add 11 = .ok (.getfield 9, 3) := by decide +kernel
theorem dX3_add_14 : decode cX3_add 14 = .ok (.aload_n 0, 1) := by decide +kernel
theorem dX3_add_15 : decode cX3_add 15 = .ok (.getfield 18, 3) := by decide +kernel
theorem dX3_add_18 : decode cX3_add 18 = .ok (.iload_n 1, 1) := by decide +kernel
theorem dX3_add_19 : decode cX3_add 19 = .ok (.invokestatic 34, 3) := by decide +kernel
theorem dX3_add_22 : decode cX3_add 22 = .ok (.aload_n 0, 1) := by decide +kernel
theorem dX3_add_23 : decode cX3_add 23 = .ok (.dup, 1) := by decide +kernel
theorem dX3_add_24 : decode cX3_add 24 = .ok (.getfield 18, 3) := by decide +kernel
theorem dX3_add_27 : decode cX3_add 27 = .ok (.iconst 1, 1) := by decide +kernel
theorem dX3_add_28 : decode cX3_add 28 = .ok (.iadd, 1) := by decide +kernel
theorem dX3_add_29 : decode cX3_add 29 = .ok (.putfield 18, 3) := by decide +kernel
theorem dX3_add_32 : decode cX3_add 32 = .ok (.return_, 1) := by decide +kernel
theorem dX3_isTold_0 : decode cX3_isTold 0 = .ok (.iload_n 1, 1) := by decide +kernel
theorem dX3_isTold_1 : decode cX3_isTold 1 = .ok (.ifCond .eq 22, 3) := by decide +kernel
theorem dX3_isTold_4 : decode cX3_isTold 4 = .ok (.aload_n 0, 1) := by decide +kernel
theorem dX3_isTold_5 : decode cX3_isTold 5 = .ok (.getfield 31, 3) := by decide +kernel
theorem dX3_isTold_8 : decode cX3_isTold 8 = .ok (.aload_n 0, 1) := by decide +kernel
theorem dX3_isTold_9 : decode cX3_isTold 9 = .ok (.getfield 28, 3) := by decide +kernel
theorem dX3_isTold_12 : decode cX3_isTold 12 = .ok (.if_icmp .le 7, 3) := by decide +kernel
theorem dX3_isTold_15 : decode cX3_isTold 15 = .ok (.iconst 1, 1) := by decide +kernel
theorem dX3_isTold_16 : decode cX3_isTold 16 = .ok (.goto 23, 3) := by decide +kernel
theorem dX3_isTold_19 : decode cX3_isTold 19 = .ok (.iconst 0, 1) := by decide +kernel
theorem dX3_isTold_20 : decode cX3_isTold 20 = .ok (.goto 19, 3) := by decide +kernel
theorem dX3_isTold_23 : decode cX3_isTold 23 = .ok (.aload_n 0, 1) := by decide +kernel
theorem dX3_isTold_24 : decode cX3_isTold 24 = .ok (.getfield 25, 3) := by decide +kernel
theorem dX3_isTold_27 : decode cX3_isTold 27 = .ok (.aload_n 0, 1) := by decide +kernel
theorem dX3_isTold_28 : decode cX3_isTold 28 = .ok (.getfield 22, 3) := by decide +kernel
theorem dX3_isTold_31 : decode cX3_isTold 31 = .ok (.if_icmp .le 7, 3) := by decide +kernel
theorem dX3_isTold_34 : decode cX3_isTold 34 = .ok (.iconst 1, 1) := by decide +kernel
theorem dX3_isTold_35 : decode cX3_isTold 35 = .ok (.goto 4, 3) := by decide +kernel
theorem dX3_isTold_38 : decode cX3_isTold 38 = .ok (.iconst 0, 1) := by decide +kernel
theorem dX3_isTold_39 : decode cX3_isTold 39 = .ok (.ireturn, 1) := by decide +kernel
theorem dX3_close_0 : decode cX3_close 0 = .ok (.iload_n 1, 1) := by decide +kernel
theorem dX3_close_1 : decode cX3_close 1 = .ok (.ifCond .eq 19, 3) := by decide +kernel
theorem dX3_close_4 : decode cX3_close 4 = .ok (.aload_n 0, 1) := by decide +kernel
theorem dX3_close_5 : decode cX3_close 5 = .ok (.iload_n 2, 1) := by decide +kernel
theorem dX3_close_6 : decode cX3_close 6 = .ok (.putfield 28, 3) := by decide +kernel
theorem dX3_close_9 : decode cX3_close 9 = .ok (.aload_n 0, 1) := by decide +kernel
theorem dX3_close_10 : decode cX3_close 10 = .ok (.aload_n 0, 1) := by decide +kernel
theorem dX3_close_11 : decode cX3_close 11 = .ok (.getfield 18, 3) := by decide +kernel
theorem dX3_close_14 : decode cX3_close 14 = .ok (.putfield 31, 3) := by decide +kernel
theorem dX3_close_17 : decode cX3_close 17 = .ok (.goto 16, 3) := by decide +kernel
theorem dX3_close_20 : decode cX3_close 20 = .ok (.aload_n 0, 1) := by decide +kernel
theorem dX3_close_21 : decode cX3_close 21 = .ok (.iload_n 2, 1) := by decide +kernel
theorem dX3_close_22 : decode cX3_close 22 = .ok (.putfield 22, 3) := by decide +kernel
theorem dX3_close_25 : decode cX3_close 25 = .ok (.aload_n 0, 1) := by decide +kernel
theorem dX3_close_26 : decode cX3_close 26 = .ok (.aload_n 0, 1) := by decide +kernel
theorem dX3_close_27 : decode cX3_close 27 = .ok (.getfield 18, 3) := by decide +kernel
theorem dX3_close_30 : decode cX3_close 30 = .ok (.putfield 25, 3) := by decide +kernel
theorem dX3_close_33 : decode cX3_close 33 = .ok (.return_, 1) := by decide +kernel
theorem dX3_worth_0 : decode cX3_worth 0 = .ok (.iload_n 1, 1) := by decide +kernel
theorem dX3_worth_1 : decode cX3_worth 1 = .ok (.ifCond .eq 10, 3) := by decide +kernel
theorem dX3_worth_4 : decode cX3_worth 4 = .ok (.aload_n 0, 1) := by decide +kernel
theorem dX3_worth_5 : decode cX3_worth 5 = .ok (.getfield 28, 3) := by decide +kernel
theorem dX3_worth_8 : decode cX3_worth 8 = .ok (.goto 7, 3) := by decide +kernel
theorem dX3_worth_11 : decode cX3_worth 11 = .ok (.aload_n 0, 1) := by decide +kernel
theorem dX3_worth_12 : decode cX3_worth 12 = .ok (.getfield 22, 3) := by decide +kernel
theorem dX3_worth_15 : decode cX3_worth 15 = .ok (.istore 6, 2) := by decide +kernel
theorem dX3_worth_17 : decode cX3_worth 17 = .ok (.iload_n 1, 1) := by decide +kernel
theorem dX3_worth_18 : decode cX3_worth 18 = .ok (.ifCond .eq 10, 3) := by decide +kernel
theorem dX3_worth_21 : decode cX3_worth 21 = .ok (.aload_n 0, 1) := by decide +kernel
theorem dX3_worth_22 : decode cX3_worth 22 = .ok (.getfield 31, 3) := by decide +kernel
theorem dX3_worth_25 : decode cX3_worth 25 = .ok (.goto 7, 3) := by decide +kernel
theorem dX3_worth_28 : decode cX3_worth 28 = .ok (.aload_n 0, 1) := by decide +kernel
theorem dX3_worth_29 : decode cX3_worth 29 = .ok (.getfield 25, 3) := by decide +kernel
theorem dX3_worth_32 : decode cX3_worth 32 = .ok (.istore 7, 2) := by decide +kernel
theorem dX3_worth_34 : decode cX3_worth 34 = .ok (.iconst 0, 1) := by decide +kernel
theorem dX3_worth_35 : decode cX3_worth 35 = .ok (.istore 8, 2) := by decide +kernel
theorem dX3_worth_37 : decode cX3_worth 37 = .ok (.iload 6, 2) := by decide +kernel
theorem dX3_worth_39 : decode cX3_worth 39 = .ok (.istore 9, 2) := by decide +kernel
theorem dX3_worth_41 : decode cX3_worth 41 = .ok (.iload 9, 2) := by decide +kernel
theorem dX3_worth_43 : decode cX3_worth 43 = .ok (.iload 7, 2) := by decide +kernel
theorem dX3_worth_45 : decode cX3_worth 45 = .ok (.if_icmp .ge 132, 3) := by decide +kernel
theorem dX3_worth_48 : decode cX3_worth 48 = .ok (.aload_n 0, 1) := by decide +kernel
theorem dX3_worth_49 : decode cX3_worth 49 = .ok (.getfield 9, 3) := by decide +kernel
theorem dX3_worth_52 : decode cX3_worth 52 = .ok (.iload 9, 2) := by decide +kernel
theorem dX3_worth_54 : decode cX3_worth 54 = .ok (.invokestatic 38, 3) := by decide +kernel
theorem dX3_worth_57 : decode cX3_worth 57 = .ok (.istore 10, 2) := by decide +kernel
theorem dX3_worth_59 : decode cX3_worth 59 = .ok (.iload 10, 2) := by decide +kernel
theorem dX3_worth_61 : decode cX3_worth 61 = .ok (.bipush (-4), 2) := by decide +kernel
theorem dX3_worth_63 : decode cX3_worth 63 = .ok (.if_icmp .lt 29, 3) := by decide +kernel
theorem dX3_worth_66 : decode cX3_worth 66 = .ok (.aload_n 0, 1) := by decide +kernel
theorem dX3_worth_67 : decode cX3_worth 67 = .ok (.getfield 15, 3) := by decide +kernel
theorem dX3_worth_70 : decode cX3_worth 70 = .ok (.iload 8, 2) := by decide +kernel
theorem dX3_worth_72 : decode cX3_worth 72 = .ok (.iload 10, 2) := by decide +kernel
theorem dX3_worth_74 : decode cX3_worth 74 = .ok (.iload_n 2, 1) := by decide +kernel
theorem dX3_worth_75 : decode cX3_worth 75 = .ok (.iload_n 3, 1) := by decide +kernel
theorem dX3_worth_76 : decode cX3_worth 76 = .ok (.iload 4, 2) := by decide +kernel
theorem dX3_worth_78 : decode cX3_worth 78 = .ok (.iload 5, 2) := by decide +kernel
theorem dX3_worth_80 : decode cX3_worth 80 = .ok (.invokestatic 42, 3) := by decide +kernel
theorem dX3_worth_83 : decode cX3_worth 83 = .ok (.invokestatic 34, 3) := by decide +kernel
theorem dX3_worth_86 : decode cX3_worth 86 = .ok (.iinc 8 1, 3) := by decide +kernel
theorem dX3_worth_89 : decode cX3_worth 89 = .ok (.goto 82, 3) := by decide +kernel
theorem dX3_worth_92 : decode cX3_worth 92 = .ok (.iload 10, 2) := by decide +kernel
theorem dX3_worth_94 : decode cX3_worth 94 = .ok (.bipush (-5), 2) := by decide +kernel
theorem dX3_worth_96 : decode cX3_worth 96 = .ok (.if_icmp .ne 36, 3) := by decide +kernel
theorem dX3_worth_99 : decode cX3_worth 99 = .ok (.aload_n 0, 1) := by decide +kernel
theorem dX3_worth_100 : decode cX3_worth 100 = .ok (.getfield 15, 3) := by decide +kernel
theorem dX3_worth_103 : decode cX3_worth 103 = .ok (.iload 8, 2) := by decide +kernel
theorem dX3_worth_105 : decode cX3_worth 105 = .ok (.iconst 1, 1) := by decide +kernel
theorem dX3_worth_106 : decode cX3_worth 106 = .ok (.isub, 1) := by decide +kernel
theorem dX3_worth_107 : decode cX3_worth 107 = .ok (.aload_n 0, 1) := by decide +kernel
theorem dX3_worth_108 : decode cX3_worth 108 = .ok (.getfield 15, 3) := by decide +kernel
theorem dX3_worth_111 : decode cX3_worth 111 = .ok (.iload 8, 2) := by decide +kernel
theorem dX3_worth_113 : decode cX3_worth 113 = .ok (.iconst 1, 1) := by decide +kernel
theorem dX3_worth_114 : decode cX3_worth 114 = .ok (.isub, 1) := by decide +kernel
theorem dX3_worth_115 : decode cX3_worth 115 = .ok (.invokestatic 38, 3) := by decide +kernel
theorem dX3_worth_118 : decode cX3_worth 118 = .ok (.ifCond .ne 7, 3) := by decide +kernel
theorem dX3_worth_121 : decode cX3_worth 121 = .ok (.iconst 1, 1) := by decide +kernel
theorem dX3_worth_122 : decode cX3_worth 122 = .ok (.goto 4, 3) := by decide +kernel
theorem dX3_worth_125 : decode cX3_worth 125 = .ok (.iconst 0, 1) := by decide +kernel
theorem dX3_worth_126 : decode cX3_worth 126 = .ok (.invokestatic 34, 3) := by decide +kernel
theorem dX3_worth_129 : decode cX3_worth 129 = .ok (.goto 42, 3) := by decide +kernel
theorem dX3_worth_132 : decode cX3_worth 132 = .ok (.iinc 8 (-1), 3) := by decide +kernel
theorem dX3_worth_135 : decode cX3_worth 135 = .ok (.aload_n 0, 1) := by decide +kernel
theorem dX3_worth_136 : decode cX3_worth 136 = .ok (.getfield 15, 3) := by decide +kernel
theorem dX3_worth_139 : decode cX3_worth 139 = .ok (.iload 8, 2) := by decide +kernel
theorem dX3_worth_141 : decode cX3_worth 141 = .ok (.iconst 1, 1) := by decide +kernel
theorem dX3_worth_142 : decode cX3_worth 142 = .ok (.isub, 1) := by decide +kernel
theorem dX3_worth_143 : decode cX3_worth 143 = .ok (.iload 10, 2) := by decide +kernel
theorem dX3_worth_145 : decode cX3_worth 145 = .ok (.aload_n 0, 1) := by decide +kernel
theorem dX3_worth_146 : decode cX3_worth 146 = .ok (.getfield 15, 3) := by decide +kernel
theorem dX3_worth_149 : decode cX3_worth 149 = .ok (.iload 8, 2) := by decide +kernel
theorem dX3_worth_151 : decode cX3_worth 151 = .ok (.iconst 1, 1) := by decide +kernel
theorem dX3_worth_152 : decode cX3_worth 152 = .ok (.isub, 1) := by decide +kernel
theorem dX3_worth_153 : decode cX3_worth 153 = .ok (.invokestatic 38, 3) := by decide +kernel
theorem dX3_worth_156 : decode cX3_worth 156 = .ok (.aload_n 0, 1) := by decide +kernel
theorem dX3_worth_157 : decode cX3_worth 157 = .ok (.getfield 15, 3) := by decide +kernel
theorem dX3_worth_160 : decode cX3_worth 160 = .ok (.iload 8, 2) := by decide +kernel
theorem dX3_worth_162 : decode cX3_worth 162 = .ok (.invokestatic 38, 3) := by decide +kernel
theorem dX3_worth_165 : decode cX3_worth 165 = .ok (.invokestatic 46, 3) := by decide +kernel
theorem dX3_worth_168 : decode cX3_worth 168 = .ok (.invokestatic 34, 3) := by decide +kernel
theorem dX3_worth_171 : decode cX3_worth 171 = .ok (.iinc 9 1, 3) := by decide +kernel
theorem dX3_worth_174 : decode cX3_worth 174 = .ok (.goto (-133), 3) := by decide +kernel
theorem dX3_worth_177 : decode cX3_worth 177 = .ok (.aload_n 0, 1) := by decide +kernel
theorem dX3_worth_178 : decode cX3_worth 178 = .ok (.getfield 15, 3) := by decide +kernel
theorem dX3_worth_181 : decode cX3_worth 181 = .ok (.iconst 0, 1) := by decide +kernel
theorem dX3_worth_182 : decode cX3_worth 182 = .ok (.invokestatic 38, 3) := by decide +kernel
theorem dX3_worth_185 : decode cX3_worth 185 = .ok (.ireturn, 1) := by decide +kernel
theorem dX3_alone_0 : decode cX3_alone 0 = .ok (.iload_n 0, 1) := by decide +kernel
theorem dX3_alone_1 : decode cX3_alone 1 = .ok (.tableswitch 40 (-4) (-1) #[37, 35, 33, 31], 31) := by decide +kernel
theorem dX3_alone_32 : decode cX3_alone 32 = .ok (.iload_n 1, 1) := by decide +kernel
theorem dX3_alone_33 : decode cX3_alone 33 = .ok (.ireturn, 1) := by decide +kernel
theorem dX3_alone_34 : decode cX3_alone 34 = .ok (.iload_n 2, 1) := by decide +kernel
theorem dX3_alone_35 : decode cX3_alone 35 = .ok (.ireturn, 1) := by decide +kernel
theorem dX3_alone_36 : decode cX3_alone 36 = .ok (.iload_n 3, 1) := by decide +kernel
theorem dX3_alone_37 : decode cX3_alone 37 = .ok (.ireturn, 1) := by decide +kernel
theorem dX3_alone_38 : decode cX3_alone 38 = .ok (.iload 4, 2) := by decide +kernel
theorem dX3_alone_40 : decode cX3_alone 40 = .ok (.ireturn, 1) := by decide +kernel
theorem dX3_alone_41 : decode cX3_alone 41 = .ok (.iload_n 0, 1) := by decide +kernel
theorem dX3_alone_42 : decode cX3_alone 42 = .ok (.ireturn, 1) := by decide +kernel
theorem dX3_joined_0 : decode cX3_joined 0 = .ok (.iload_n 0, 1) := by decide +kernel
theorem dX3_joined_1 : decode cX3_joined 1 = .ok (.tableswitch 105 (-12) (-6) #[101, 97, 93, 82, 71, 57, 43], 43) := by decide +kernel
theorem dX3_joined_44 : decode cX3_joined 44 = .ok (.iload_n 1, 1) := by decide +kernel
theorem dX3_joined_45 : decode cX3_joined 45 = .ok (.ifCond .eq 11, 3) := by decide +kernel
theorem dX3_joined_48 : decode cX3_joined 48 = .ok (.iload_n 2, 1) := by decide +kernel
theorem dX3_joined_49 : decode cX3_joined 49 = .ok (.ifCond .eq 7, 3) := by decide +kernel
theorem dX3_joined_52 : decode cX3_joined 52 = .ok (.iconst 1, 1) := by decide +kernel
theorem dX3_joined_53 : decode cX3_joined 53 = .ok (.goto 4, 3) := by decide +kernel
theorem dX3_joined_56 : decode cX3_joined 56 = .ok (.iconst 0, 1) := by decide +kernel
theorem dX3_joined_57 : decode cX3_joined 57 = .ok (.ireturn, 1) := by decide +kernel
theorem dX3_joined_58 : decode cX3_joined 58 = .ok (.iload_n 1, 1) := by decide +kernel
theorem dX3_joined_59 : decode cX3_joined 59 = .ok (.ifCond .ne 7, 3) := by decide +kernel
theorem dX3_joined_62 : decode cX3_joined 62 = .ok (.iload_n 2, 1) := by decide +kernel
theorem dX3_joined_63 : decode cX3_joined 63 = .ok (.ifCond .eq 7, 3) := by decide +kernel
theorem dX3_joined_66 : decode cX3_joined 66 = .ok (.iconst 1, 1) := by decide +kernel
theorem dX3_joined_67 : decode cX3_joined 67 = .ok (.goto 4, 3) := by decide +kernel
theorem dX3_joined_70 : decode cX3_joined 70 = .ok (.iconst 0, 1) := by decide +kernel
theorem dX3_joined_71 : decode cX3_joined 71 = .ok (.ireturn, 1) := by decide +kernel
theorem dX3_joined_72 : decode cX3_joined 72 = .ok (.iload_n 1, 1) := by decide +kernel
theorem dX3_joined_73 : decode cX3_joined 73 = .ok (.iload_n 2, 1) := by decide +kernel
theorem dX3_joined_74 : decode cX3_joined 74 = .ok (.if_icmp .ge 7, 3) := by decide +kernel
theorem dX3_joined_77 : decode cX3_joined 77 = .ok (.iconst 1, 1) := by decide +kernel
theorem dX3_joined_78 : decode cX3_joined 78 = .ok (.goto 4, 3) := by decide +kernel
theorem dX3_joined_81 : decode cX3_joined 81 = .ok (.iconst 0, 1) := by decide +kernel
theorem dX3_joined_82 : decode cX3_joined 82 = .ok (.ireturn, 1) := by decide +kernel
theorem dX3_joined_83 : decode cX3_joined 83 = .ok (.iload_n 1, 1) := by decide +kernel
theorem dX3_joined_84 : decode cX3_joined 84 = .ok (.iload_n 2, 1) := by decide +kernel
theorem dX3_joined_85 : decode cX3_joined 85 = .ok (.if_icmp .ne 7, 3) := by decide +kernel
theorem dX3_joined_88 : decode cX3_joined 88 = .ok (.iconst 1, 1) := by decide +kernel
theorem dX3_joined_89 : decode cX3_joined 89 = .ok (.goto 4, 3) := by decide +kernel
theorem dX3_joined_92 : decode cX3_joined 92 = .ok (.iconst 0, 1) := by decide +kernel
theorem dX3_joined_93 : decode cX3_joined 93 = .ok (.ireturn, 1) := by decide +kernel
theorem dX3_joined_94 : decode cX3_joined 94 = .ok (.iload_n 1, 1) := by decide +kernel
theorem dX3_joined_95 : decode cX3_joined 95 = .ok (.iload_n 2, 1) := by decide +kernel
theorem dX3_joined_96 : decode cX3_joined 96 = .ok (.iadd, 1) := by decide +kernel
theorem dX3_joined_97 : decode cX3_joined 97 = .ok (.ireturn, 1) := by decide +kernel
theorem dX3_joined_98 : decode cX3_joined 98 = .ok (.iload_n 1, 1) := by decide +kernel
theorem dX3_joined_99 : decode cX3_joined 99 = .ok (.iload_n 2, 1) := by decide +kernel
theorem dX3_joined_100 : decode cX3_joined 100 = .ok (.isub, 1) := by decide +kernel
theorem dX3_joined_101 : decode cX3_joined 101 = .ok (.ireturn, 1) := by decide +kernel
theorem dX3_joined_102 : decode cX3_joined 102 = .ok (.iload_n 1, 1) := by decide +kernel
theorem dX3_joined_103 : decode cX3_joined 103 = .ok (.iload_n 2, 1) := by decide +kernel
theorem dX3_joined_104 : decode cX3_joined 104 = .ok (.imul, 1) := by decide +kernel
theorem dX3_joined_105 : decode cX3_joined 105 = .ok (.ireturn, 1) := by decide +kernel
theorem dX3_joined_106 : decode cX3_joined 106 = .ok (.iconst 0, 1) := by decide +kernel
theorem dX3_joined_107 : decode cX3_joined 107 = .ok (.ireturn, 1) := by decide +kernel
theorem dX4_init_0 : decode cX4_init 0 = .ok (.aload_n 0, 1) := by decide +kernel
theorem dX4_init_1 : decode cX4_init 1 = .ok (.invokespecial 1, 3) := by decide +kernel
theorem dX4_init_4 : decode cX4_init 4 = .ok (.aload_n 0, 1) := by decide +kernel
theorem dX4_init_5 : decode cX4_init 5 = .ok (.new 7, 3) := by decide +kernel
theorem dX4_init_8 : decode cX4_init 8 = .ok (.dup, 1) := by decide +kernel
theorem dX4_init_9 : decode cX4_init 9 = .ok (.invokespecial 9, 3) := by decide +kernel
theorem dX4_init_12 : decode cX4_init 12 = .ok (.putfield 10, 3) := by decide +kernel
theorem dX4_init_15 : decode cX4_init 15 = .ok (.aload_n 0, 1) := by decide +kernel
theorem dX4_init_16 : decode cX4_init 16 = .ok (.new 16, 3) := by decide +kernel
theorem dX4_init_19 : decode cX4_init 19 = .ok (.dup, 1) := by decide +kernel
theorem dX4_init_20 : decode cX4_init 20 = .ok (.invokespecial 18, 3) := by decide +kernel
theorem dX4_init_23 : decode cX4_init 23 = .ok (.putfield 19, 3) := by decide +kernel
theorem dX4_init_26 : decode cX4_init 26 = .ok (.aload_n 0, 1) := by decide +kernel
theorem dX4_init_27 : decode cX4_init 27 = .ok (.new 23, 3) := by decide +kernel
theorem dX4_init_30 : decode cX4_init 30 = .ok (.dup, 1) := by decide +kernel
theorem dX4_init_31 : decode cX4_init 31 = .ok (.invokespecial 25, 3) := by decide +kernel
theorem dX4_init_34 : decode cX4_init 34 = .ok (.putfield 26, 3) := by decide +kernel
theorem dX4_init_37 : decode cX4_init 37 = .ok (.return_, 1) := by decide +kernel
theorem dX4_hold_0 : decode cX4_hold 0 = .ok (.aload_n 0, 1) := by decide +kernel
theorem dX4_hold_1 : decode cX4_hold 1 = .ok (.getfield 10, 3) := by decide +kernel
theorem dX4_hold_4 : decode cX4_hold 4 = .ok (.aload_n 1, 1) := by decide +kernel
theorem dX4_hold_5 : decode cX4_hold 5 = .ok (.invokevirtual 30, 3) := by decide +kernel
theorem dX4_hold_8 : decode cX4_hold 8 = .ok (.aload_n 0, 1) := by decide +kernel
theorem dX4_hold_9 : decode cX4_hold 9 = .ok (.getfield 19, 3) := by decide +kernel
theorem dX4_hold_12 : decode cX4_hold 12 = .ok (.aload_n 2, 1) := by decide +kernel
theorem dX4_hold_13 : decode cX4_hold 13 = .ok (.invokevirtual 34, 3) := by decide +kernel
theorem dX4_hold_16 : decode cX4_hold 16 = .ok (.aload_n 0, 1) := by decide +kernel
theorem dX4_hold_17 : decode cX4_hold 17 = .ok (.getfield 26, 3) := by decide +kernel
theorem dX4_hold_20 : decode cX4_hold 20 = .ok (.aload_n 3, 1) := by decide +kernel
theorem dX4_hold_21 : decode cX4_hold 21 = .ok (.invokevirtual 37, 3) := by decide +kernel
theorem dX4_hold_24 : decode cX4_hold 24 = .ok (.aload_n 0, 1) := by decide +kernel
theorem dX4_hold_25 : decode cX4_hold 25 = .ok (.iconst 1, 1) := by decide +kernel
theorem dX4_hold_26 : decode cX4_hold 26 = .ok (.putfield 40, 3) := by decide +kernel
theorem dX4_hold_29 : decode cX4_hold 29 = .ok (.return_, 1) := by decide +kernel
theorem dX5_init_0 : decode cX5_init 0 = .ok (.aload_n 0, 1) := by decide +kernel
theorem dX5_init_1 : decode cX5_init 1 = .ok (.invokespecial 3, 3) := by decide +kernel
theorem dX5_init_4 : decode cX5_init 4 = .ok (.aload_n 0, 1) := by decide +kernel
theorem dX5_init_5 : decode cX5_init 5 = .ok (.bipush 16, 2) := by decide +kernel
theorem dX5_init_7 : decode cX5_init 7 = .ok (.anewarray 9, 3) := by decide +kernel
theorem dX5_init_10 : decode cX5_init 10 = .ok (.putfield 11, 3) := by decide +kernel
theorem dX5_init_13 : decode cX5_init 13 = .ok (.iconst 0, 1) := by decide +kernel
theorem dX5_init_14 : decode cX5_init 14 = .ok (.istore_n 1, 1) := by decide +kernel
theorem dX5_init_15 : decode cX5_init 15 = .ok (.iload_n 1, 1) := by decide +kernel
theorem dX5_init_16 : decode cX5_init 16 = .ok (.aload_n 0, 1) := by decide +kernel
theorem dX5_init_17 : decode cX5_init 17 = .ok (.getfield 11, 3) := by decide +kernel
theorem dX5_init_20 : decode cX5_init 20 = .ok (.arraylength, 1) := by decide +kernel
theorem dX5_init_21 : decode cX5_init 21 = .ok (.if_icmp .ge 22, 3) := by decide +kernel
theorem dX5_init_24 : decode cX5_init 24 = .ok (.aload_n 0, 1) := by decide +kernel
theorem dX5_init_25 : decode cX5_init 25 = .ok (.getfield 11, 3) := by decide +kernel
theorem dX5_init_28 : decode cX5_init 28 = .ok (.iload_n 1, 1) := by decide +kernel
theorem dX5_init_29 : decode cX5_init 29 = .ok (.new 9, 3) := by decide +kernel
theorem dX5_init_32 : decode cX5_init 32 = .ok (.dup, 1) := by decide +kernel
theorem dX5_init_33 : decode cX5_init 33 = .ok (.invokespecial 17, 3) := by decide +kernel
theorem dX5_init_36 : decode cX5_init 36 = .ok (.aastore, 1) := by decide +kernel
theorem dX5_init_37 : decode cX5_init 37 = .ok (.iinc 1 1, 3) := by decide +kernel
theorem dX5_init_40 : decode cX5_init 40 = .ok (.goto (-25), 3) := by decide +kernel
theorem dX5_init_43 : decode cX5_init 43 = .ok (.return_, 1) := by decide +kernel
theorem dX5_push_0 : decode cX5_push 0 = .ok (.aload_n 0, 1) := by decide +kernel
theorem dX5_push_1 : decode cX5_push 1 = .ok (.aload_n 0, 1) := by decide +kernel
theorem dX5_push_2 : decode cX5_push 2 = .ok (.getfield 18, 3) := by decide +kernel
theorem dX5_push_5 : decode cX5_push 5 = .ok (.invokevirtual 22, 3) := by decide +kernel
theorem dX5_push_8 : decode cX5_push 8 = .ok (.astore_n 2, 1) := by decide +kernel
theorem dX5_push_9 : decode cX5_push 9 = .ok (.aload_n 2, 1) := by decide +kernel
theorem dX5_push_10 : decode cX5_push 10 = .ok (.ifnull 36, 3) := by decide +kernel
theorem dX5_push_13 : decode cX5_push 13 = .ok (.aload_n 2, 1) := by decide +kernel
theorem dX5_push_14 : decode cX5_push 14 = .ok (.aload_n 1, 1) := by decide +kernel
theorem dX5_push_15 : decode cX5_push 15 = .ok (.invokevirtual 26, 3) := by decide +kernel
theorem dX5_push_18 : decode cX5_push 18 = .ok (.aload_n 0, 1) := by decide +kernel
theorem dX5_push_19 : decode cX5_push 19 = .ok (.aload_n 0, 1) := by decide +kernel
theorem dX5_push_20 : decode cX5_push 20 = .ok (.getfield 18, 3) := by decide +kernel
theorem dX5_push_23 : decode cX5_push 23 = .ok (.iconst 1, 1) := by decide +kernel
theorem dX5_push_24 : decode cX5_push 24 = .ok (.iadd, 1) := by decide +kernel
theorem dX5_push_25 : decode cX5_push 25 = .ok (.bipush 16, 2) := by decide +kernel
theorem dX5_push_27 : decode cX5_push 27 = .ok (.irem, 1) := by decide +kernel
theorem dX5_push_28 : decode cX5_push 28 = .ok (.putfield 18, 3) := by decide +kernel
theorem dX5_push_31 : decode cX5_push 31 = .ok (.aload_n 0, 1) := by decide +kernel
theorem dX5_push_32 : decode cX5_push 32 = .ok (.bipush 16, 2) := by decide +kernel
theorem dX5_push_34 : decode cX5_push 34 = .ok (.aload_n 0, 1) := by decide +kernel
theorem dX5_push_35 : decode cX5_push 35 = .ok (.getfield 30, 3) := by decide +kernel
theorem dX5_push_38 : decode cX5_push 38 = .ok (.iconst 1, 1) := by decide +kernel
theorem dX5_push_39 : decode cX5_push 39 = .ok (.iadd, 1) := by decide +kernel
theorem dX5_push_40 : decode cX5_push 40 = .ok (.invokestatic 33, 3) := by decide +kernel
theorem dX5_push_43 : decode cX5_push 43 = .ok (.putfield 30, 3) := by decide +kernel
theorem dX5_push_46 : decode cX5_push 46 = .ok (.return_, 1) := by decide +kernel
theorem dX5_pop_0 : decode cX5_pop 0 = .ok (.aload_n 0, 1) := by decide +kernel
theorem dX5_pop_1 : decode cX5_pop 1 = .ok (.getfield 18, 3) := by decide +kernel
theorem dX5_pop_4 : decode cX5_pop 4 = .ok (.bipush 16, 2) := by decide +kernel
theorem dX5_pop_6 : decode cX5_pop 6 = .ok (.iadd, 1) := by decide +kernel
theorem dX5_pop_7 : decode cX5_pop 7 = .ok (.iconst 1, 1) := by decide +kernel
theorem dX5_pop_8 : decode cX5_pop 8 = .ok (.isub, 1) := by decide +kernel
theorem dX5_pop_9 : decode cX5_pop 9 = .ok (.bipush 16, 2) := by decide +kernel
theorem dX5_pop_11 : decode cX5_pop 11 = .ok (.irem, 1) := by decide +kernel
theorem dX5_pop_12 : decode cX5_pop 12 = .ok (.istore_n 2, 1) := by decide +kernel
theorem dX5_pop_13 : decode cX5_pop 13 = .ok (.aload_n 0, 1) := by decide +kernel
theorem dX5_pop_14 : decode cX5_pop 14 = .ok (.iload_n 2, 1) := by decide +kernel
theorem dX5_pop_15 : decode cX5_pop 15 = .ok (.invokevirtual 22, 3) := by decide +kernel
theorem dX5_pop_18 : decode cX5_pop 18 = .ok (.astore_n 3, 1) := by decide +kernel
theorem dX5_pop_19 : decode cX5_pop 19 = .ok (.aload_n 0, 1) := by decide +kernel
theorem dX5_pop_20 : decode cX5_pop 20 = .ok (.getfield 30, 3) := by decide +kernel
theorem dX5_pop_23 : decode cX5_pop 23 = .ok (.ifCond .eq 7, 3) := by decide +kernel
theorem dX5_pop_26 : decode cX5_pop 26 = .ok (.aload_n 3, 1) := by decide +kernel
theorem dX5_pop_27 : decode cX5_pop 27 = .ok (.ifnonnull 5, 3) := by decide +kernel
theorem dX5_pop_30 : decode cX5_pop 30 = .ok (.iconst 0, 1) := by decide +kernel
theorem dX5_pop_31 : decode cX5_pop 31 = .ok (.ireturn, 1) := by decide +kernel
theorem dX5_pop_32 : decode cX5_pop 32 = .ok (.aload_n 1, 1) := by decide +kernel
theorem dX5_pop_33 : decode cX5_pop 33 = .ok (.aload_n 3, 1) := by decide +kernel
theorem dX5_pop_34 : decode cX5_pop 34 = .ok (.invokevirtual 26, 3) := by decide +kernel
theorem dX5_pop_37 : decode cX5_pop 37 = .ok (.aload_n 0, 1) := by decide +kernel
theorem dX5_pop_38 : decode cX5_pop 38 = .ok (.iload_n 2, 1) := by decide +kernel
theorem dX5_pop_39 : decode cX5_pop 39 = .ok (.putfield 18, 3) := by decide +kernel
theorem dX5_pop_42 : decode cX5_pop 42 = .ok (.aload_n 0, 1) := by decide +kernel
theorem dX5_pop_43 : decode cX5_pop 43 = .ok (.dup, 1) := by decide +kernel
theorem dX5_pop_44 : decode cX5_pop 44 = .ok (.getfield 30, 3) := by decide +kernel
theorem dX5_pop_47 : decode cX5_pop 47 = .ok (.iconst 1, 1) := by decide +kernel
theorem dX5_pop_48 : decode cX5_pop 48 = .ok (.isub, 1) := by decide +kernel
theorem dX5_pop_49 : decode cX5_pop 49 = .ok (.putfield 30, 3) := by decide +kernel
theorem dX5_pop_52 : decode cX5_pop 52 = .ok (.iconst 1, 1) := by decide +kernel
theorem dX5_pop_53 : decode cX5_pop 53 = .ok (.ireturn, 1) := by decide +kernel
theorem dX5_beforeAt_0 : decode cX5_beforeAt 0 = .ok (.iload_n 1, 1) := by decide +kernel
theorem dX5_beforeAt_1 : decode cX5_beforeAt 1 = .ok (.ifCond .lt 21, 3) := by decide +kernel
theorem dX5_beforeAt_4 : decode cX5_beforeAt 4 = .ok (.iload_n 1, 1) := by decide +kernel
theorem dX5_beforeAt_5 : decode cX5_beforeAt 5 = .ok (.aload_n 0, 1) := by decide +kernel
theorem dX5_beforeAt_6 : decode cX5_beforeAt 6 = .ok (.getfield 11, 3) := by decide +kernel
theorem dX5_beforeAt_9 : decode cX5_beforeAt 9 = .ok (.arraylength, 1) := by decide +kernel
theorem dX5_beforeAt_10 : decode cX5_beforeAt 10 = .ok (.if_icmp .ge 12, 3) := by decide +kernel
theorem dX5_beforeAt_13 : decode cX5_beforeAt 13 = .ok (.aload_n 0, 1) := by decide +kernel
theorem dX5_beforeAt_14 : decode cX5_beforeAt 14 = .ok (.getfield 11, 3) := by decide +kernel
theorem dX5_beforeAt_17 : decode cX5_beforeAt 17 = .ok (.iload_n 1, 1) := by decide +kernel
theorem dX5_beforeAt_18 : decode cX5_beforeAt 18 = .ok (.aaload, 1) := by decide +kernel
theorem dX5_beforeAt_19 : decode cX5_beforeAt 19 = .ok (.goto 4, 3) := by decide +kernel
theorem dX5_beforeAt_22 : decode cX5_beforeAt 22 = .ok (.aconst_null, 1) := by decide +kernel
theorem dX5_beforeAt_23 : decode cX5_beforeAt 23 = .ok (.areturn, 1) := by decide +kernel
theorem dX6_init_0 : decode cX6_init 0 = .ok (.aload_n 0, 1) := by decide +kernel
theorem dX6_init_1 : decode cX6_init 1 = .ok (.invokespecial 3, 3) := by decide +kernel
theorem dX6_init_4 : decode cX6_init 4 = .ok (.aload_n 0, 1) := by decide +kernel
theorem dX6_init_5 : decode cX6_init 5 = .ok (.aload_n 1, 1) := by decide +kernel
theorem dX6_init_6 : decode cX6_init 6 = .ok (.putfield 9, 3) := by decide +kernel
theorem dX6_init_9 : decode cX6_init 9 = .ok (.return_, 1) := by decide +kernel
theorem dX6_readCity_0 : decode cX6_readCity 0 = .ok (.aload_n 0, 1) := by decide +kernel
theorem dX6_readCity_1 : decode cX6_readCity 1 = .ok (.aload_n 1, 1) := by decide +kernel
theorem dX6_readCity_2 : decode cX6_readCity 2 = .ok (.putfield 15, 3) := by decide +kernel
theorem dX6_readCity_5 : decode cX6_readCity 5 = .ok (.aload_n 1, 1) := by decide +kernel
theorem dX6_readCity_6 : decode cX6_readCity 6 = .ok (.invokevirtual 19, 3) := by decide +kernel
theorem dX6_readCity_9 : decode cX6_readCity 9 = .ok (.aload_n 0, 1) := by decide +kernel
theorem dX6_readCity_10 : decode cX6_readCity 10 = .ok (.iconst 0, 1) := by decide +kernel
theorem dX6_readCity_11 : decode cX6_readCity 11 = .ok (.putfield 24, 3) := by decide +kernel
theorem dX6_readCity_14 : decode cX6_readCity 14 = .ok (.aload_n 0, 1) := by decide +kernel
theorem dX6_readCity_15 : decode cX6_readCity 15 = .ok (.getfield 9, 3) := by decide +kernel
theorem dX6_readCity_18 : decode cX6_readCity 18 = .ok (.invokevirtual 28, 3) := by decide +kernel
theorem dX6_readCity_21 : decode cX6_readCity 21 = .ok (.iconst 1, 1) := by decide +kernel
theorem dX6_readCity_22 : decode cX6_readCity 22 = .ok (.istore_n 2, 1) := by decide +kernel
theorem dX6_readCity_23 : decode cX6_readCity 23 = .ok (.iconst 0, 1) := by decide +kernel
theorem dX6_readCity_24 : decode cX6_readCity 24 = .ok (.istore_n 3, 1) := by decide +kernel
theorem dX6_readCity_25 : decode cX6_readCity 25 = .ok (.iload_n 3, 1) := by decide +kernel
theorem dX6_readCity_26 : decode cX6_readCity 26 = .ok (.sipush 1000, 3) := by decide +kernel
theorem dX6_readCity_29 : decode cX6_readCity 29 = .ok (.if_icmp .ge 28, 3) := by decide +kernel
theorem dX6_readCity_32 : decode cX6_readCity 32 = .ok (.iload_n 2, 1) := by decide +kernel
theorem dX6_readCity_33 : decode cX6_readCity 33 = .ok (.ifCond .eq 24, 3) := by decide +kernel
theorem dX6_readCity_36 : decode cX6_readCity 36 = .ok (.aload_n 0, 1) := by decide +kernel
theorem dX6_readCity_37 : decode cX6_readCity 37 = .ok (.getfield 9, 3) := by decide +kernel
theorem dX6_readCity_40 : decode cX6_readCity 40 = .ok (.getfield 33, 3) := by decide +kernel
theorem dX6_readCity_43 : decode cX6_readCity 43 = .ok (.ifCond .eq 14, 3) := by decide +kernel
theorem dX6_readCity_46 : decode cX6_readCity 46 = .ok (.aload_n 0, 1) := by decide +kernel
theorem dX6_readCity_47 : decode cX6_readCity 47 = .ok (.invokevirtual 36, 3) := by decide +kernel
theorem dX6_readCity_50 : decode cX6_readCity 50 = .ok (.istore_n 2, 1) := by decide +kernel
theorem dX6_readCity_51 : decode cX6_readCity 51 = .ok (.iinc 3 1, 3) := by decide +kernel
theorem dX6_readCity_54 : decode cX6_readCity 54 = .ok (.goto (-29), 3) := by decide +kernel
theorem dX6_readCity_57 : decode cX6_readCity 57 = .ok (.aload_n 0, 1) := by decide +kernel
theorem dX6_readCity_58 : decode cX6_readCity 58 = .ok (.getfield 9, 3) := by decide +kernel
theorem dX6_readCity_61 : decode cX6_readCity 61 = .ok (.invokevirtual 40, 3) := by decide +kernel
theorem dX6_readCity_64 : decode cX6_readCity 64 = .ok (.aload_n 0, 1) := by decide +kernel
theorem dX6_readCity_65 : decode cX6_readCity 65 = .ok (.getfield 24, 3) := by decide +kernel
theorem dX6_readCity_68 : decode cX6_readCity 68 = .ok (.ireturn, 1) := by decide +kernel
theorem dX6_readMonths_0 : decode cX6_readMonths 0 = .ok (.aload_n 0, 1) := by decide +kernel
theorem dX6_readMonths_1 : decode cX6_readMonths 1 = .ok (.aload_n 1, 1) := by decide +kernel
theorem dX6_readMonths_2 : decode cX6_readMonths 2 = .ok (.putfield 15, 3) := by decide +kernel
theorem dX6_readMonths_5 : decode cX6_readMonths 5 = .ok (.aload_n 0, 1) := by decide +kernel
theorem dX6_readMonths_6 : decode cX6_readMonths 6 = .ok (.aload_n 2, 1) := by decide +kernel
theorem dX6_readMonths_7 : decode cX6_readMonths 7 = .ok (.putfield 43, 3) := by decide +kernel
theorem dX6_readMonths_10 : decode cX6_readMonths 10 = .ok (.aload_n 2, 1) := by decide +kernel
theorem dX6_readMonths_11 : decode cX6_readMonths 11 = .ok (.iconst 0, 1) := by decide +kernel
theorem dX6_readMonths_12 : decode cX6_readMonths 12 = .ok (.putfield 47, 3) := by decide +kernel
theorem dX6_readMonths_15 : decode cX6_readMonths 15 = .ok (.aload_n 0, 1) := by decide +kernel
theorem dX6_readMonths_16 : decode cX6_readMonths 16 = .ok (.iconst 0, 1) := by decide +kernel
theorem dX6_readMonths_17 : decode cX6_readMonths 17 = .ok (.putfield 24, 3) := by decide +kernel
theorem dX6_readMonths_20 : decode cX6_readMonths 20 = .ok (.aload_n 0, 1) := by decide +kernel
theorem dX6_readMonths_21 : decode cX6_readMonths 21 = .ok (.getfield 9, 3) := by decide +kernel
theorem dX6_readMonths_24 : decode cX6_readMonths 24 = .ok (.invokevirtual 28, 3) := by decide +kernel
theorem dX6_readMonths_27 : decode cX6_readMonths 27 = .ok (.iconst 1, 1) := by decide +kernel
theorem dX6_readMonths_28 : decode cX6_readMonths 28 = .ok (.istore_n 3, 1) := by decide +kernel
theorem dX6_readMonths_29 : decode cX6_readMonths 29 = .ok (.iconst 0, 1) := by decide +kernel
theorem dX6_readMonths_30 : decode cX6_readMonths 30 = .ok (.istore 4, 2) := by decide +kernel
theorem dX6_readMonths_32 : decode cX6_readMonths 32 = .ok (.iload 4, 2) := by decide +kernel
theorem dX6_readMonths_34 : decode cX6_readMonths 34 = .ok (.sipush 1000, 3) := by decide +kernel
theorem dX6_readMonths_37 : decode cX6_readMonths 37 = .ok (.if_icmp .ge 28, 3) := by decide +kernel
theorem dX6_readMonths_40 : decode cX6_readMonths 40 = .ok (.iload_n 3, 1) := by decide +kernel
theorem dX6_readMonths_41 : decode cX6_readMonths 41 = .ok (.ifCond .eq 24, 3) := by decide +kernel
theorem dX6_readMonths_44 : decode cX6_readMonths 44 = .ok (.aload_n 0, 1) := by decide +kernel
theorem dX6_readMonths_45 : decode cX6_readMonths 45 = .ok (.getfield 9, 3) := by decide +kernel
theorem dX6_readMonths_48 : decode cX6_readMonths 48 = .ok (.getfield 33, 3) := by decide +kernel
theorem dX6_readMonths_51 : decode cX6_readMonths 51 = .ok (.ifCond .eq 14, 3) := by decide +kernel
theorem dX6_readMonths_54 : decode cX6_readMonths 54 = .ok (.aload_n 0, 1) := by decide +kernel
theorem dX6_readMonths_55 : decode cX6_readMonths 55 = .ok (.invokevirtual 52, 3) := by decide +kernel
theorem dX6_readMonths_58 : decode cX6_readMonths 58 = .ok (.istore_n 3, 1) := by decide +kernel
theorem dX6_readMonths_59 : decode cX6_readMonths 59 = .ok (.iinc 4 1, 3) := by decide +kernel
theorem dX6_readMonths_62 : decode cX6_readMonths 62 = .ok (.goto (-30), 3) := by decide +kernel
theorem dX6_readMonths_65 : decode cX6_readMonths 65 = .ok (.aload_n 0, 1) := by decide +kernel
theorem dX6_readMonths_66 : decode cX6_readMonths 66 = .ok (.getfield 9, 3) := by decide +kernel
theorem dX6_readMonths_69 : decode cX6_readMonths 69 = .ok (.invokevirtual 40, 3) := by decide +kernel
theorem dX6_readMonths_72 : decode cX6_readMonths 72 = .ok (.aload_n 0, 1) := by decide +kernel
theorem dX6_readMonths_73 : decode cX6_readMonths 73 = .ok (.getfield 24, 3) := by decide +kernel
theorem dX6_readMonths_76 : decode cX6_readMonths 76 = .ok (.ireturn, 1) := by decide +kernel
theorem dX6_wrong_0 : decode cX6_wrong 0 = .ok (.aload_n 0, 1) := by decide +kernel
theorem dX6_wrong_1 : decode cX6_wrong 1 = .ok (.iload_n 1, 1) := by decide +kernel
theorem dX6_wrong_2 : decode cX6_wrong 2 = .ok (.bipush 16, 2) := by decide +kernel
theorem dX6_wrong_4 : decode cX6_wrong 4 = .ok (.aload_n 0, 1) := by decide +kernel
theorem dX6_wrong_5 : decode cX6_wrong 5 = .ok (.getfield 9, 3) := by decide +kernel
theorem dX6_wrong_8 : decode cX6_wrong 8 = .ok (.getfield 55, 3) := by decide +kernel
theorem dX6_wrong_11 : decode cX6_wrong 11 = .ok (.imul, 1) := by decide +kernel
theorem dX6_wrong_12 : decode cX6_wrong 12 = .ok (.iadd, 1) := by decide +kernel
theorem dX6_wrong_13 : decode cX6_wrong 13 = .ok (.putfield 24, 3) := by decide +kernel
theorem dX6_wrong_16 : decode cX6_wrong 16 = .ok (.iconst 0, 1) := by decide +kernel
theorem dX6_wrong_17 : decode cX6_wrong 17 = .ok (.ireturn, 1) := by decide +kernel
theorem dX6_cityLine_0 : decode cX6_cityLine 0 = .ok (.aload_n 0, 1) := by decide +kernel
theorem dX6_cityLine_1 : decode cX6_cityLine 1 = .ok (.getfield 9, 3) := by decide +kernel
theorem dX6_cityLine_4 : decode cX6_cityLine 4 = .ok (.getfield 58, 3) := by decide +kernel
theorem dX6_cityLine_7 : decode cX6_cityLine 7 = .ok (.astore_n 1, 1) := by decide +kernel
theorem dX6_cityLine_8 : decode cX6_cityLine 8 = .ok (.aload_n 1, 1) := by decide +kernel
theorem dX6_cityLine_9 : decode cX6_cityLine 9 = .ok (.ifnonnull 9, 3) := by decide +kernel
theorem dX6_cityLine_12 : decode cX6_cityLine 12 = .ok (.aload_n 0, 1) := by decide +kernel
theorem dX6_cityLine_13 : decode cX6_cityLine 13 = .ok (.iconst 1, 1) := by decide +kernel
theorem dX6_cityLine_14 : decode cX6_cityLine 14 = .ok (.invokevirtual 62, 3) := by decide +kernel
theorem dX6_cityLine_17 : decode cX6_cityLine 17 = .ok (.ireturn, 1) := by decide +kernel
theorem dX6_cityLine_18 : decode cX6_cityLine 18 = .ok (.getstatic 66, 3) := by decide +kernel
theorem dX6_cityLine_21 : decode cX6_cityLine 21 = .ok (.aload_n 1, 1) := by decide +kernel
theorem dX6_cityLine_22 : decode cX6_cityLine 22 = .ok (.invokevirtual 72, 3) := by decide +kernel
theorem dX6_cityLine_25 : decode cX6_cityLine 25 = .ok (.iaload, 1) := by decide +kernel
theorem dX6_cityLine_26 : decode cX6_cityLine 26 = .ok (.tableswitch 88 1 8 #[46, 51, 56, 61, 66, 71, 76, 82], 46) := by decide +kernel
theorem dX6_cityLine_72 : decode cX6_cityLine 72 = .ok (.aload_n 0, 1) := by decide +kernel
theorem dX6_cityLine_73 : decode cX6_cityLine 73 = .ok (.invokevirtual 78, 3) := by decide +kernel
theorem dX6_cityLine_76 : decode cX6_cityLine 76 = .ok (.ireturn, 1) := by decide +kernel
theorem dX6_cityLine_77 : decode cX6_cityLine 77 = .ok (.aload_n 0, 1) := by decide +kernel
theorem dX6_cityLine_78 : decode cX6_cityLine 78 = .ok (.invokevirtual 81, 3) := by decide +kernel
theorem dX6_cityLine_81 : decode cX6_cityLine 81 = .ok (.ireturn, 1) := by decide +kernel
theorem dX6_cityLine_82 : decode cX6_cityLine 82 = .ok (.aload_n 0, 1) := by decide +kernel
theorem dX6_cityLine_83 : decode cX6_cityLine 83 = .ok (.invokevirtual 84, 3) := by decide +kernel
theorem dX6_cityLine_86 : decode cX6_cityLine 86 = .ok (.ireturn, 1) := by decide +kernel
theorem dX6_cityLine_87 : decode cX6_cityLine 87 = .ok (.aload_n 0, 1) := by decide +kernel
theorem dX6_cityLine_88 : decode cX6_cityLine 88 = .ok (.invokevirtual 87, 3) := by decide +kernel
theorem dX6_cityLine_91 : decode cX6_cityLine 91 = .ok (.ireturn, 1) := by decide +kernel
theorem dX6_cityLine_92 : decode cX6_cityLine 92 = .ok (.aload_n 0, 1) := by decide +kernel
theorem dX6_cityLine_93 : decode cX6_cityLine 93 = .ok (.invokevirtual 90, 3) := by decide +kernel
theorem dX6_cityLine_96 : decode cX6_cityLine 96 = .ok (.ireturn, 1) := by decide +kernel
theorem dX6_cityLine_97 : decode cX6_cityLine 97 = .ok (.aload_n 0, 1) := by decide +kernel
theorem dX6_cityLine_98 : decode cX6_cityLine 98 = .ok (.invokevirtual 93, 3) := by decide +kernel
theorem dX6_cityLine_101 : decode cX6_cityLine 101 = .ok (.ireturn, 1) := by decide +kernel
theorem dX6_cityLine_102 : decode cX6_cityLine 102 = .ok (.aload_n 0, 1) := by decide +kernel
theorem dX6_cityLine_103 : decode cX6_cityLine 103 = .ok (.iconst 0, 1) := by decide +kernel
theorem dX6_cityLine_104 : decode cX6_cityLine 104 = .ok (.invokevirtual 96, 3) := by decide +kernel
theorem dX6_cityLine_107 : decode cX6_cityLine 107 = .ok (.ireturn, 1) := by decide +kernel
theorem dX6_cityLine_108 : decode cX6_cityLine 108 = .ok (.aload_n 0, 1) := by decide +kernel
theorem dX6_cityLine_109 : decode cX6_cityLine 109 = .ok (.iconst 1, 1) := by decide +kernel
theorem dX6_cityLine_110 : decode cX6_cityLine 110 = .ok (.invokevirtual 96, 3) := by decide +kernel
theorem dX6_cityLine_113 : decode cX6_cityLine 113 = .ok (.ireturn, 1) := by decide +kernel
theorem dX6_cityLine_114 : decode cX6_cityLine 114 = .ok (.aload_n 0, 1) := by decide +kernel
theorem dX6_cityLine_115 : decode cX6_cityLine 115 = .ok (.iconst 1, 1) := by decide +kernel
theorem dX6_cityLine_116 : decode cX6_cityLine 116 = .ok (.invokevirtual 62, 3) := by decide +kernel
theorem dX6_cityLine_119 : decode cX6_cityLine 119 = .ok (.ireturn, 1) := by decide +kernel
theorem dX6_manLine_0 : decode cX6_manLine 0 = .ok (.aload_n 0, 1) := by decide +kernel
theorem dX6_manLine_1 : decode cX6_manLine 1 = .ok (.getfield 15, 3) := by decide +kernel
theorem dX6_manLine_4 : decode cX6_manLine 4 = .ok (.getfield 100, 3) := by decide +kernel
theorem dX6_manLine_7 : decode cX6_manLine 7 = .ok (.bipush 6, 2) := by decide +kernel
theorem dX6_manLine_9 : decode cX6_manLine 9 = .ok (.if_icmp .lt 9, 3) := by decide +kernel
theorem dX6_manLine_12 : decode cX6_manLine 12 = .ok (.aload_n 0, 1) := by decide +kernel
theorem dX6_manLine_13 : decode cX6_manLine 13 = .ok (.iconst 5, 1) := by decide +kernel
theorem dX6_manLine_14 : decode cX6_manLine 14 = .ok (.invokevirtual 62, 3) := by decide +kernel
theorem dX6_manLine_17 : decode cX6_manLine 17 = .ok (.ireturn, 1) := by decide +kernel
theorem dX6_manLine_18 : decode cX6_manLine 18 = .ok (.aload_n 0, 1) := by decide +kernel
theorem dX6_manLine_19 : decode cX6_manLine 19 = .ok (.getfield 9, 3) := by decide +kernel
theorem dX6_manLine_22 : decode cX6_manLine 22 = .ok (.invokevirtual 103, 3) := by decide +kernel
theorem dX6_manLine_25 : decode cX6_manLine 25 = .ok (.aload_n 0, 1) := by decide +kernel
theorem dX6_manLine_26 : decode cX6_manLine 26 = .ok (.getfield 9, 3) := by decide +kernel
theorem dX6_manLine_29 : decode cX6_manLine 29 = .ok (.getfield 106, 3) := by decide +kernel
theorem dX6_manLine_32 : decode cX6_manLine 32 = .ok (.lstore_n 1, 1) := by decide +kernel
theorem dX6_manLine_33 : decode cX6_manLine 33 = .ok (.aload_n 0, 1) := by decide +kernel
theorem dX6_manLine_34 : decode cX6_manLine 34 = .ok (.invokevirtual 110, 3) := by decide +kernel
theorem dX6_manLine_37 : decode cX6_manLine 37 = .ok (.ifCond .ne 5, 3) := by decide +kernel
theorem dX6_manLine_40 : decode cX6_manLine 40 = .ok (.iconst 0, 1) := by decide +kernel
theorem dX6_manLine_41 : decode cX6_manLine 41 = .ok (.ireturn, 1) := by decide +kernel
theorem dX6_manLine_42 : decode cX6_manLine 42 = .ok (.aload_n 0, 1) := by decide +kernel
theorem dX6_manLine_43 : decode cX6_manLine 43 = .ok (.invokevirtual 113, 3) := by decide +kernel
theorem dX6_manLine_46 : decode cX6_manLine 46 = .ok (.istore_n 3, 1) := by decide +kernel
theorem dX6_manLine_47 : decode cX6_manLine 47 = .ok (.iload_n 3, 1) := by decide +kernel
theorem dX6_manLine_48 : decode cX6_manLine 48 = .ok (.iconst (-1), 1) := by decide +kernel
theorem dX6_manLine_49 : decode cX6_manLine 49 = .ok (.if_icmp .ne 9, 3) := by decide +kernel
theorem dX6_manLine_52 : decode cX6_manLine 52 = .ok (.aload_n 0, 1) := by decide +kernel
theorem dX6_manLine_53 : decode cX6_manLine 53 = .ok (.iconst 1, 1) := by decide +kernel
theorem dX6_manLine_54 : decode cX6_manLine 54 = .ok (.invokevirtual 62, 3) := by decide +kernel
theorem dX6_manLine_57 : decode cX6_manLine 57 = .ok (.ireturn, 1) := by decide +kernel
theorem dX6_manLine_58 : decode cX6_manLine 58 = .ok (.aload_n 0, 1) := by decide +kernel
theorem dX6_manLine_59 : decode cX6_manLine 59 = .ok (.getfield 9, 3) := by decide +kernel
theorem dX6_manLine_62 : decode cX6_manLine 62 = .ok (.invokevirtual 103, 3) := by decide +kernel
theorem dX6_manLine_65 : decode cX6_manLine 65 = .ok (.aload_n 0, 1) := by decide +kernel
theorem dX6_manLine_66 : decode cX6_manLine 66 = .ok (.getstatic 116, 3) := by decide +kernel
theorem dX6_manLine_69 : decode cX6_manLine 69 = .ok (.iconst 0, 1) := by decide +kernel
theorem dX6_manLine_70 : decode cX6_manLine 70 = .ok (.bipush 9, 2) := by decide +kernel
theorem dX6_manLine_72 : decode cX6_manLine 72 = .ok (.invokevirtual 119, 3) := by decide +kernel
theorem dX6_manLine_75 : decode cX6_manLine 75 = .ok (.istore 4, 2) := by decide +kernel
theorem dX6_manLine_77 : decode cX6_manLine 77 = .ok (.iload 4, 2) := by decide +kernel
theorem dX6_manLine_79 : decode cX6_manLine 79 = .ok (.iconst (-1), 1) := by decide +kernel
theorem dX6_manLine_80 : decode cX6_manLine 80 = .ok (.if_icmp .ne 7, 3) := by decide +kernel
theorem dX6_manLine_83 : decode cX6_manLine 83 = .ok (.iconst (-1), 1) := by decide +kernel
theorem dX6_manLine_84 : decode cX6_manLine 84 = .ok (.goto 13, 3) := by decide +kernel
theorem dX6_manLine_87 : decode cX6_manLine 87 = .ok (.aload_n 0, 1) := by decide +kernel
theorem dX6_manLine_88 : decode cX6_manLine 88 = .ok (.getstatic 123, 3) := by decide +kernel
theorem dX6_manLine_91 : decode cX6_manLine 91 = .ok (.iconst 0, 1) := by decide +kernel
theorem dX6_manLine_92 : decode cX6_manLine 92 = .ok (.bipush 99, 2) := by decide +kernel
theorem dX6_manLine_94 : decode cX6_manLine 94 = .ok (.invokevirtual 119, 3) := by decide +kernel
theorem dX6_manLine_97 : decode cX6_manLine 97 = .ok (.istore 5, 2) := by decide +kernel
theorem dX6_manLine_99 : decode cX6_manLine 99 = .ok (.iload 5, 2) := by decide +kernel
theorem dX6_manLine_101 : decode cX6_manLine 101 = .ok (.iconst (-1), 1) := by decide +kernel
theorem dX6_manLine_102 : decode cX6_manLine 102 = .ok (.if_icmp .ne 7, 3) := by decide +kernel
theorem dX6_manLine_105 : decode cX6_manLine 105 = .ok (.iconst (-1), 1) := by decide +kernel
theorem dX6_manLine_106 : decode cX6_manLine 106 = .ok (.goto 13, 3) := by decide +kernel
theorem dX6_manLine_109 : decode cX6_manLine 109 = .ok (.aload_n 0, 1) := by decide +kernel
theorem dX6_manLine_110 : decode cX6_manLine 110 = .ok (.getstatic 126, 3) := by decide +kernel
theorem dX6_manLine_113 : decode cX6_manLine 113 = .ok (.iconst 0, 1) := by decide +kernel
theorem dX6_manLine_114 : decode cX6_manLine 114 = .ok (.bipush 9, 2) := by decide +kernel
theorem dX6_manLine_116 : decode cX6_manLine 116 = .ok (.invokevirtual 119, 3) := by decide +kernel
theorem dX6_manLine_119 : decode cX6_manLine 119 = .ok (.istore 6, 2) := by decide +kernel
theorem dX6_manLine_121 : decode cX6_manLine 121 = .ok (.iload 6, 2) := by decide +kernel
theorem dX6_manLine_123 : decode cX6_manLine 123 = .ok (.iconst (-1), 1) := by decide +kernel
theorem dX6_manLine_124 : decode cX6_manLine 124 = .ok (.if_icmp .eq 10, 3) := by decide +kernel
theorem dX6_manLine_127 : decode cX6_manLine 127 = .ok (.aload_n 0, 1) := by decide +kernel
theorem dX6_manLine_128 : decode cX6_manLine 128 = .ok (.invokevirtual 129, 3) := by decide +kernel
theorem dX6_manLine_131 : decode cX6_manLine 131 = .ok (.ifCond .ne 5, 3) := by decide +kernel
theorem dX6_manLine_134 : decode cX6_manLine 134 = .ok (.iconst 0, 1) := by decide +kernel
theorem dX6_manLine_135 : decode cX6_manLine 135 = .ok (.ireturn, 1) := by decide +kernel
theorem dX6_manLine_136 : decode cX6_manLine 136 = .ok (.aload_n 0, 1) := by decide +kernel
theorem dX6_manLine_137 : decode cX6_manLine 137 = .ok (.getfield 15, 3) := by decide +kernel
theorem dX6_manLine_140 : decode cX6_manLine 140 = .ok (.lload_n 1, 1) := by decide +kernel
theorem dX6_manLine_141 : decode cX6_manLine 141 = .ok (.iload_n 3, 1) := by decide +kernel
theorem dX6_manLine_142 : decode cX6_manLine 142 = .ok (.iload 4, 2) := by decide +kernel
theorem dX6_manLine_144 : decode cX6_manLine 144 = .ok (.iload 5, 2) := by decide +kernel
theorem dX6_manLine_146 : decode cX6_manLine 146 = .ok (.iload 6, 2) := by decide +kernel
theorem dX6_manLine_148 : decode cX6_manLine 148 = .ok (.invokevirtual 132, 3) := by decide +kernel
theorem dX6_manLine_151 : decode cX6_manLine 151 = .ok (.iconst 1, 1) := by decide +kernel
theorem dX6_manLine_152 : decode cX6_manLine 152 = .ok (.ireturn, 1) := by decide +kernel
theorem dX6_kindSpelt_0 : decode cX6_kindSpelt 0 = .ok (.aload_n 0, 1) := by decide +kernel
theorem dX6_kindSpelt_1 : decode cX6_kindSpelt 1 = .ok (.getfield 9, 3) := by decide +kernel
theorem dX6_kindSpelt_4 : decode cX6_kindSpelt 4 = .ok (.getfield 58, 3) := by decide +kernel
theorem dX6_kindSpelt_7 : decode cX6_kindSpelt 7 = .ok (.astore_n 1, 1) := by decide +kernel
theorem dX6_kindSpelt_8 : decode cX6_kindSpelt 8 = .ok (.aload_n 1, 1) := by decide +kernel
theorem dX6_kindSpelt_9 : decode cX6_kindSpelt 9 = .ok (.getstatic 136, 3) := by decide +kernel
theorem dX6_kindSpelt_12 : decode cX6_kindSpelt 12 = .ok (.if_acmp .ne 5, 3) := by decide +kernel
theorem dX6_kindSpelt_15 : decode cX6_kindSpelt 15 = .ok (.iconst 0, 1) := by decide +kernel
theorem dX6_kindSpelt_16 : decode cX6_kindSpelt 16 = .ok (.ireturn, 1) := by decide +kernel
theorem dX6_kindSpelt_17 : decode cX6_kindSpelt 17 = .ok (.aload_n 1, 1) := by decide +kernel
theorem dX6_kindSpelt_18 : decode cX6_kindSpelt 18 = .ok (.getstatic 139, 3) := by decide +kernel
theorem dX6_kindSpelt_21 : decode cX6_kindSpelt 21 = .ok (.if_acmp .ne 5, 3) := by decide +kernel
theorem dX6_kindSpelt_24 : decode cX6_kindSpelt 24 = .ok (.iconst 1, 1) := by decide +kernel
theorem dX6_kindSpelt_25 : decode cX6_kindSpelt 25 = .ok (.ireturn, 1) := by decide +kernel
theorem dX6_kindSpelt_26 : decode cX6_kindSpelt 26 = .ok (.aload_n 1, 1) := by decide +kernel
theorem dX6_kindSpelt_27 : decode cX6_kindSpelt 27 = .ok (.getstatic 142, 3) := by decide +kernel
theorem dX6_kindSpelt_30 : decode cX6_kindSpelt 30 = .ok (.if_acmp .ne 5, 3) := by decide +kernel
theorem dX6_kindSpelt_33 : decode cX6_kindSpelt 33 = .ok (.iconst 2, 1) := by decide +kernel
theorem dX6_kindSpelt_34 : decode cX6_kindSpelt 34 = .ok (.ireturn, 1) := by decide +kernel
theorem dX6_kindSpelt_35 : decode cX6_kindSpelt 35 = .ok (.aload_n 1, 1) := by decide +kernel
theorem dX6_kindSpelt_36 : decode cX6_kindSpelt 36 = .ok (.getstatic 145, 3) := by decide +kernel
theorem dX6_kindSpelt_39 : decode cX6_kindSpelt 39 = .ok (.if_acmp .ne 7, 3) := by decide +kernel
theorem dX6_kindSpelt_42 : decode cX6_kindSpelt 42 = .ok (.iconst 3, 1) := by decide +kernel
theorem dX6_kindSpelt_43 : decode cX6_kindSpelt 43 = .ok (.goto 4, 3) := by decide +kernel
theorem dX6_kindSpelt_46 : decode cX6_kindSpelt 46 = .ok (.iconst (-1), 1) := by decide +kernel
theorem dX6_kindSpelt_47 : decode cX6_kindSpelt 47 = .ok (.ireturn, 1) := by decide +kernel
theorem dX6_consulLine_0 : decode cX6_consulLine 0 = .ok (.aload_n 0, 1) := by decide +kernel
theorem dX6_consulLine_1 : decode cX6_consulLine 1 = .ok (.getfield 15, 3) := by decide +kernel
theorem dX6_consulLine_4 : decode cX6_consulLine 4 = .ok (.getfield 148, 3) := by decide +kernel
theorem dX6_consulLine_7 : decode cX6_consulLine 7 = .ok (.invokestatic 151, 3) := by decide +kernel
theorem dX6_consulLine_10 : decode cX6_consulLine 10 = .ok (.iconst 2, 1) := by decide +kernel
theorem dX6_consulLine_11 : decode cX6_consulLine 11 = .ok (.if_icmp .lt 9, 3) := by decide +kernel
theorem dX6_consulLine_14 : decode cX6_consulLine 14 = .ok (.aload_n 0, 1) := by decide +kernel
theorem dX6_consulLine_15 : decode cX6_consulLine 15 = .ok (.iconst 5, 1) := by decide +kernel
theorem dX6_consulLine_16 : decode cX6_consulLine 16 = .ok (.invokevirtual 62, 3) := by decide +kernel
theorem dX6_consulLine_19 : decode cX6_consulLine 19 = .ok (.ireturn, 1) := by decide +kernel
theorem dX6_consulLine_20 : decode cX6_consulLine 20 = .ok (.aload_n 0, 1) := by decide +kernel
theorem dX6_consulLine_21 : decode cX6_consulLine 21 = .ok (.getfield 9, 3) := by decide +kernel
theorem dX6_consulLine_24 : decode cX6_consulLine 24 = .ok (.invokevirtual 103, 3) := by decide +kernel
theorem dX6_consulLine_27 : decode cX6_consulLine 27 = .ok (.aload_n 0, 1) := by decide +kernel
theorem dX6_consulLine_28 : decode cX6_consulLine 28 = .ok (.iconst 1, 1) := by decide +kernel
theorem dX6_consulLine_29 : decode cX6_consulLine 29 = .ok (.invokevirtual 157, 3) := by decide +kernel
theorem dX6_consulLine_32 : decode cX6_consulLine 32 = .ok (.istore_n 1, 1) := by decide +kernel
theorem dX6_consulLine_33 : decode cX6_consulLine 33 = .ok (.iload_n 1, 1) := by decide +kernel
theorem dX6_consulLine_34 : decode cX6_consulLine 34 = .ok (.iconst (-1), 1) := by decide +kernel
theorem dX6_consulLine_35 : decode cX6_consulLine 35 = .ok (.if_icmp .ne 5, 3) := by decide +kernel
theorem dX6_consulLine_38 : decode cX6_consulLine 38 = .ok (.iconst 0, 1) := by decide +kernel
theorem dX6_consulLine_39 : decode cX6_consulLine 39 = .ok (.ireturn, 1) := by decide +kernel
theorem dX6_consulLine_40 : decode cX6_consulLine 40 = .ok (.aload_n 0, 1) := by decide +kernel
theorem dX6_consulLine_41 : decode cX6_consulLine 41 = .ok (.getfield 15, 3) := by decide +kernel
theorem dX6_consulLine_44 : decode cX6_consulLine 44 = .ok (.iload_n 1, 1) := by decide +kernel
theorem dX6_consulLine_45 : decode cX6_consulLine 45 = .ok (.invokevirtual 161, 3) := by decide +kernel
theorem dX6_consulLine_48 : decode cX6_consulLine 48 = .ok (.ifCond .eq 9, 3) := by decide +kernel
theorem dX6_consulLine_51 : decode cX6_consulLine 51 = .ok (.aload_n 0, 1) := by decide +kernel
theorem dX6_consulLine_52 : decode cX6_consulLine 52 = .ok (.iconst 3, 1) := by decide +kernel
theorem dX6_consulLine_53 : decode cX6_consulLine 53 = .ok (.invokevirtual 62, 3) := by decide +kernel
theorem dX6_consulLine_56 : decode cX6_consulLine 56 = .ok (.ireturn, 1) := by decide +kernel
theorem dX6_consulLine_57 : decode cX6_consulLine 57 = .ok (.aload_n 0, 1) := by decide +kernel
theorem dX6_consulLine_58 : decode cX6_consulLine 58 = .ok (.getfield 9, 3) := by decide +kernel
theorem dX6_consulLine_61 : decode cX6_consulLine 61 = .ok (.invokevirtual 103, 3) := by decide +kernel
theorem dX6_consulLine_64 : decode cX6_consulLine 64 = .ok (.aload_n 0, 1) := by decide +kernel
theorem dX6_consulLine_65 : decode cX6_consulLine 65 = .ok (.invokevirtual 129, 3) := by decide +kernel
theorem dX6_consulLine_68 : decode cX6_consulLine 68 = .ok (.ifCond .ne 5, 3) := by decide +kernel
theorem dX6_consulLine_71 : decode cX6_consulLine 71 = .ok (.iconst 0, 1) := by decide +kernel
theorem dX6_consulLine_72 : decode cX6_consulLine 72 = .ok (.ireturn, 1) := by decide +kernel
theorem dX6_consulLine_73 : decode cX6_consulLine 73 = .ok (.aload_n 0, 1) := by decide +kernel
theorem dX6_consulLine_74 : decode cX6_consulLine 74 = .ok (.getfield 15, 3) := by decide +kernel
theorem dX6_consulLine_77 : decode cX6_consulLine 77 = .ok (.dup, 1) := by decide +kernel
theorem dX6_consulLine_78 : decode cX6_consulLine 78 = .ok (.getfield 148, 3) := by decide +kernel
theorem dX6_consulLine_81 : decode cX6_consulLine 81 = .ok (.iconst 1, 1) := by decide +kernel
theorem dX6_consulLine_82 : decode cX6_consulLine 82 = .ok (.iload_n 1, 1) := by decide +kernel
theorem dX6_consulLine_83 : decode cX6_consulLine 83 = .ok (.ishl, 1) := by decide +kernel
theorem dX6_consulLine_84 : decode cX6_consulLine 84 = .ok (.ior, 1) := by decide +kernel
theorem dX6_consulLine_85 : decode cX6_consulLine 85 = .ok (.putfield 148, 3) := by decide +kernel
theorem dX6_consulLine_88 : decode cX6_consulLine 88 = .ok (.iconst 1, 1) := by decide +kernel
theorem dX6_consulLine_89 : decode cX6_consulLine 89 = .ok (.ireturn, 1) := by decide +kernel
theorem dX6_hatesLine_0 : decode cX6_hatesLine 0 = .ok (.aload_n 0, 1) := by decide +kernel
theorem dX6_hatesLine_1 : decode cX6_hatesLine 1 = .ok (.getfield 9, 3) := by decide +kernel
theorem dX6_hatesLine_4 : decode cX6_hatesLine 4 = .ok (.invokevirtual 103, 3) := by decide +kernel
theorem dX6_hatesLine_7 : decode cX6_hatesLine 7 = .ok (.aload_n 0, 1) := by decide +kernel
theorem dX6_hatesLine_8 : decode cX6_hatesLine 8 = .ok (.iconst 1, 1) := by decide +kernel
theorem dX6_hatesLine_9 : decode cX6_hatesLine 9 = .ok (.invokevirtual 157, 3) := by decide +kernel
theorem dX6_hatesLine_12 : decode cX6_hatesLine 12 = .ok (.istore_n 1, 1) := by decide +kernel
theorem dX6_hatesLine_13 : decode cX6_hatesLine 13 = .ok (.iload_n 1, 1) := by decide +kernel
theorem dX6_hatesLine_14 : decode cX6_hatesLine 14 = .ok (.iconst (-1), 1) := by decide +kernel
theorem dX6_hatesLine_15 : decode cX6_hatesLine 15 = .ok (.if_icmp .ne 5, 3) := by decide +kernel
theorem dX6_hatesLine_18 : decode cX6_hatesLine 18 = .ok (.iconst 0, 1) := by decide +kernel
theorem dX6_hatesLine_19 : decode cX6_hatesLine 19 = .ok (.ireturn, 1) := by decide +kernel
theorem dX6_hatesLine_20 : decode cX6_hatesLine 20 = .ok (.aload_n 0, 1) := by decide +kernel
theorem dX6_hatesLine_21 : decode cX6_hatesLine 21 = .ok (.getfield 9, 3) := by decide +kernel
theorem dX6_hatesLine_24 : decode cX6_hatesLine 24 = .ok (.invokevirtual 103, 3) := by decide +kernel
theorem dX6_hatesLine_27 : decode cX6_hatesLine 27 = .ok (.aload_n 0, 1) := by decide +kernel
theorem dX6_hatesLine_28 : decode cX6_hatesLine 28 = .ok (.iconst 1, 1) := by decide +kernel
theorem dX6_hatesLine_29 : decode cX6_hatesLine 29 = .ok (.invokevirtual 157, 3) := by decide +kernel
theorem dX6_hatesLine_32 : decode cX6_hatesLine 32 = .ok (.istore_n 2, 1) := by decide +kernel
theorem dX6_hatesLine_33 : decode cX6_hatesLine 33 = .ok (.iload_n 2, 1) := by decide +kernel
theorem dX6_hatesLine_34 : decode cX6_hatesLine 34 = .ok (.iconst (-1), 1) := by decide +kernel
theorem dX6_hatesLine_35 : decode cX6_hatesLine 35 = .ok (.if_icmp .ne 5, 3) := by decide +kernel
theorem dX6_hatesLine_38 : decode cX6_hatesLine 38 = .ok (.iconst 0, 1) := by decide +kernel
theorem dX6_hatesLine_39 : decode cX6_hatesLine 39 = .ok (.ireturn, 1) := by decide +kernel
theorem dX6_hatesLine_40 : decode cX6_hatesLine 40 = .ok (.iload_n 2, 1) := by decide +kernel
theorem dX6_hatesLine_41 : decode cX6_hatesLine 41 = .ok (.iload_n 1, 1) := by decide +kernel
theorem dX6_hatesLine_42 : decode cX6_hatesLine 42 = .ok (.if_icmp .eq 15, 3) := by decide +kernel
theorem dX6_hatesLine_45 : decode cX6_hatesLine 45 = .ok (.aload_n 0, 1) := by decide +kernel
theorem dX6_hatesLine_46 : decode cX6_hatesLine 46 = .ok (.getfield 15, 3) := by decide +kernel
theorem dX6_hatesLine_49 : decode cX6_hatesLine 49 = .ok (.iload_n 1, 1) := by decide +kernel
theorem dX6_hatesLine_50 : decode cX6_hatesLine 50 = .ok (.iload_n 2, 1) := by decide +kernel
theorem dX6_hatesLine_51 : decode cX6_hatesLine 51 = .ok (.invokevirtual 164, 3) := by decide +kernel
theorem dX6_hatesLine_54 : decode cX6_hatesLine 54 = .ok (.ifCond .eq 9, 3) := by decide +kernel
theorem dX6_hatesLine_57 : decode cX6_hatesLine 57 = .ok (.aload_n 0, 1) := by decide +kernel
theorem dX6_hatesLine_58 : decode cX6_hatesLine 58 = .ok (.iconst 3, 1) := by decide +kernel
theorem dX6_hatesLine_59 : decode cX6_hatesLine 59 = .ok (.invokevirtual 62, 3) := by decide +kernel
theorem dX6_hatesLine_62 : decode cX6_hatesLine 62 = .ok (.ireturn, 1) := by decide +kernel
theorem dX6_hatesLine_63 : decode cX6_hatesLine 63 = .ok (.aload_n 0, 1) := by decide +kernel
theorem dX6_hatesLine_64 : decode cX6_hatesLine 64 = .ok (.getfield 9, 3) := by decide +kernel
theorem dX6_hatesLine_67 : decode cX6_hatesLine 67 = .ok (.invokevirtual 103, 3) := by decide +kernel
theorem dX6_hatesLine_70 : decode cX6_hatesLine 70 = .ok (.aload_n 0, 1) := by decide +kernel
theorem dX6_hatesLine_71 : decode cX6_hatesLine 71 = .ok (.invokevirtual 129, 3) := by decide +kernel
theorem dX6_hatesLine_74 : decode cX6_hatesLine 74 = .ok (.ifCond .ne 5, 3) := by decide +kernel
theorem dX6_hatesLine_77 : decode cX6_hatesLine 77 = .ok (.iconst 0, 1) := by decide +kernel
theorem dX6_hatesLine_78 : decode cX6_hatesLine 78 = .ok (.ireturn, 1) := by decide +kernel
theorem dX6_hatesLine_79 : decode cX6_hatesLine 79 = .ok (.aload_n 0, 1) := by decide +kernel
theorem dX6_hatesLine_80 : decode cX6_hatesLine 80 = .ok (.getfield 15, 3) := by decide +kernel
theorem dX6_hatesLine_83 : decode cX6_hatesLine 83 = .ok (.getfield 168, 3) := by decide +kernel
theorem dX6_hatesLine_86 : decode cX6_hatesLine 86 = .ok (.iload_n 1, 1) := by decide +kernel
theorem dX6_hatesLine_87 : decode cX6_hatesLine 87 = .ok (.aload_n 0, 1) := by decide +kernel
theorem dX6_hatesLine_88 : decode cX6_hatesLine 88 = .ok (.getfield 15, 3) := by decide +kernel
theorem dX6_hatesLine_91 : decode cX6_hatesLine 91 = .ok (.getfield 168, 3) := by decide +kernel
theorem dX6_hatesLine_94 : decode cX6_hatesLine 94 = .ok (.iload_n 1, 1) := by decide +kernel
theorem dX6_hatesLine_95 : decode cX6_hatesLine 95 = .ok (.invokestatic 171, 3) := by decide +kernel
theorem dX6_hatesLine_98 : decode cX6_hatesLine 98 = .ok (.iconst 1, 1) := by decide +kernel
theorem dX6_hatesLine_99 : decode cX6_hatesLine 99 = .ok (.iload_n 2, 1) := by decide +kernel
theorem dX6_hatesLine_100 : decode cX6_hatesLine 100 = .ok (.ishl, 1) := by decide +kernel
theorem dX6_hatesLine_101 : decode cX6_hatesLine 101 = .ok (.ior, 1) := by decide +kernel
theorem dX6_hatesLine_102 : decode cX6_hatesLine 102 = .ok (.invokestatic 175, 3) := by decide +kernel
theorem dX6_hatesLine_105 : decode cX6_hatesLine 105 = .ok (.iconst 1, 1) := by decide +kernel
theorem dX6_hatesLine_106 : decode cX6_hatesLine 106 = .ok (.ireturn, 1) := by decide +kernel
theorem dX6_dangerLine_0 : decode cX6_dangerLine 0 = .ok (.aload_n 0, 1) := by decide +kernel
theorem dX6_dangerLine_1 : decode cX6_dangerLine 1 = .ok (.getfield 15, 3) := by decide +kernel
theorem dX6_dangerLine_4 : decode cX6_dangerLine 4 = .ok (.getfield 179, 3) := by decide +kernel
theorem dX6_dangerLine_7 : decode cX6_dangerLine 7 = .ok (.iconst 5, 1) := by decide +kernel
theorem dX6_dangerLine_8 : decode cX6_dangerLine 8 = .ok (.if_icmp .lt 9, 3) := by decide +kernel
theorem dX6_dangerLine_11 : decode cX6_dangerLine 11 = .ok (.aload_n 0, 1) := by decide +kernel
theorem dX6_dangerLine_12 : decode cX6_dangerLine 12 = .ok (.iconst 5, 1) := by decide +kernel
theorem dX6_dangerLine_13 : decode cX6_dangerLine 13 = .ok (.invokevirtual 62, 3) := by decide +kernel
theorem dX6_dangerLine_16 : decode cX6_dangerLine 16 = .ok (.ireturn, 1) := by decide +kernel
theorem dX6_dangerLine_17 : decode cX6_dangerLine 17 = .ok (.aload_n 0, 1) := by decide +kernel
theorem dX6_dangerLine_18 : decode cX6_dangerLine 18 = .ok (.getfield 9, 3) := by decide +kernel
theorem dX6_dangerLine_21 : decode cX6_dangerLine 21 = .ok (.invokevirtual 103, 3) := by decide +kernel
theorem dX6_dangerLine_24 : decode cX6_dangerLine 24 = .ok (.aload_n 0, 1) := by decide +kernel
theorem dX6_dangerLine_25 : decode cX6_dangerLine 25 = .ok (.getfield 9, 3) := by decide +kernel
theorem dX6_dangerLine_28 : decode cX6_dangerLine 28 = .ok (.getfield 106, 3) := by decide +kernel
theorem dX6_dangerLine_31 : decode cX6_dangerLine 31 = .ok (.lstore_n 1, 1) := by decide +kernel
theorem dX6_dangerLine_32 : decode cX6_dangerLine 32 = .ok (.aload_n 0, 1) := by decide +kernel
theorem dX6_dangerLine_33 : decode cX6_dangerLine 33 = .ok (.invokevirtual 110, 3) := by decide +kernel
theorem dX6_dangerLine_36 : decode cX6_dangerLine 36 = .ok (.ifCond .ne 5, 3) := by decide +kernel
theorem dX6_dangerLine_39 : decode cX6_dangerLine 39 = .ok (.iconst 0, 1) := by decide +kernel
theorem dX6_dangerLine_40 : decode cX6_dangerLine 40 = .ok (.ireturn, 1) := by decide +kernel
theorem dX6_dangerLine_41 : decode cX6_dangerLine 41 = .ok (.aload_n 0, 1) := by decide +kernel
theorem dX6_dangerLine_42 : decode cX6_dangerLine 42 = .ok (.getstatic 182, 3) := by decide +kernel
theorem dX6_dangerLine_45 : decode cX6_dangerLine 45 = .ok (.iconst 1, 1) := by decide +kernel
theorem dX6_dangerLine_46 : decode cX6_dangerLine 46 = .ok (.bipush 99, 2) := by decide +kernel
theorem dX6_dangerLine_48 : decode cX6_dangerLine 48 = .ok (.invokevirtual 119, 3) := by decide +kernel
theorem dX6_dangerLine_51 : decode cX6_dangerLine 51 = .ok (.istore_n 3, 1) := by decide +kernel
theorem dX6_dangerLine_52 : decode cX6_dangerLine 52 = .ok (.iload_n 3, 1) := by decide +kernel
theorem dX6_dangerLine_53 : decode cX6_dangerLine 53 = .ok (.iconst (-1), 1) := by decide +kernel
theorem dX6_dangerLine_54 : decode cX6_dangerLine 54 = .ok (.if_icmp .ne 7, 3) := by decide +kernel
theorem dX6_dangerLine_57 : decode cX6_dangerLine 57 = .ok (.iconst (-1), 1) := by decide +kernel
theorem dX6_dangerLine_58 : decode cX6_dangerLine 58 = .ok (.goto 13, 3) := by decide +kernel
theorem dX6_dangerLine_61 : decode cX6_dangerLine 61 = .ok (.aload_n 0, 1) := by decide +kernel
theorem dX6_dangerLine_62 : decode cX6_dangerLine 62 = .ok (.getstatic 185, 3) := by decide +kernel
theorem dX6_dangerLine_65 : decode cX6_dangerLine 65 = .ok (.iconst 0, 1) := by decide +kernel
theorem dX6_dangerLine_66 : decode cX6_dangerLine 66 = .ok (.bipush 9, 2) := by decide +kernel
theorem dX6_dangerLine_68 : decode cX6_dangerLine 68 = .ok (.invokevirtual 119, 3) := by decide +kernel
theorem dX6_dangerLine_71 : decode cX6_dangerLine 71 = .ok (.istore 4, 2) := by decide +kernel
theorem dX6_dangerLine_73 : decode cX6_dangerLine 73 = .ok (.iload 4, 2) := by decide +kernel
theorem dX6_dangerLine_75 : decode cX6_dangerLine 75 = .ok (.iconst (-1), 1) := by decide +kernel
theorem dX6_dangerLine_76 : decode cX6_dangerLine 76 = .ok (.if_icmp .eq 10, 3) := by decide +kernel
theorem dX6_dangerLine_79 : decode cX6_dangerLine 79 = .ok (.aload_n 0, 1) := by decide +kernel
theorem dX6_dangerLine_80 : decode cX6_dangerLine 80 = .ok (.invokevirtual 129, 3) := by decide +kernel
theorem dX6_dangerLine_83 : decode cX6_dangerLine 83 = .ok (.ifCond .ne 5, 3) := by decide +kernel
theorem dX6_dangerLine_86 : decode cX6_dangerLine 86 = .ok (.iconst 0, 1) := by decide +kernel
theorem dX6_dangerLine_87 : decode cX6_dangerLine 87 = .ok (.ireturn, 1) := by decide +kernel
theorem dX6_dangerLine_88 : decode cX6_dangerLine 88 = .ok (.aload_n 0, 1) := by decide +kernel
theorem dX6_dangerLine_89 : decode cX6_dangerLine 89 = .ok (.getfield 15, 3) := by decide +kernel
theorem dX6_dangerLine_92 : decode cX6_dangerLine 92 = .ok (.lload_n 1, 1) := by decide +kernel
theorem dX6_dangerLine_93 : decode cX6_dangerLine 93 = .ok (.iload_n 3, 1) := by decide +kernel
theorem dX6_dangerLine_94 : decode cX6_dangerLine 94 = .ok (.iload 4, 2) := by decide +kernel
theorem dX6_dangerLine_96 : decode cX6_dangerLine 96 = .ok (.invokevirtual 188, 3) := by decide +kernel
theorem dX6_dangerLine_99 : decode cX6_dangerLine 99 = .ok (.iconst 1, 1) := by decide +kernel
theorem dX6_dangerLine_100 : decode cX6_dangerLine 100 = .ok (.ireturn, 1) := by decide +kernel
theorem dX6_decreeLine_0 : decode cX6_decreeLine 0 = .ok (.aload_n 0, 1) := by decide +kernel
theorem dX6_decreeLine_1 : decode cX6_decreeLine 1 = .ok (.getfield 15, 3) := by decide +kernel
theorem dX6_decreeLine_4 : decode cX6_decreeLine 4 = .ok (.getfield 192, 3) := by decide +kernel
theorem dX6_decreeLine_7 : decode cX6_decreeLine 7 = .ok (.bipush 6, 2) := by decide +kernel
theorem dX6_decreeLine_9 : decode cX6_decreeLine 9 = .ok (.if_icmp .lt 9, 3) := by decide +kernel
theorem dX6_decreeLine_12 : decode cX6_decreeLine 12 = .ok (.aload_n 0, 1) := by decide +kernel
theorem dX6_decreeLine_13 : decode cX6_decreeLine 13 = .ok (.iconst 5, 1) := by decide +kernel
theorem dX6_decreeLine_14 : decode cX6_decreeLine 14 = .ok (.invokevirtual 62, 3) := by decide +kernel
theorem dX6_decreeLine_17 : decode cX6_decreeLine 17 = .ok (.ireturn, 1) := by decide +kernel
theorem dX6_decreeLine_18 : decode cX6_decreeLine 18 = .ok (.aload_n 0, 1) := by decide +kernel
theorem dX6_decreeLine_19 : decode cX6_decreeLine 19 = .ok (.getfield 9, 3) := by decide +kernel
theorem dX6_decreeLine_22 : decode cX6_decreeLine 22 = .ok (.invokevirtual 103, 3) := by decide +kernel
theorem dX6_decreeLine_25 : decode cX6_decreeLine 25 = .ok (.aload_n 0, 1) := by decide +kernel
theorem dX6_decreeLine_26 : decode cX6_decreeLine 26 = .ok (.getfield 9, 3) := by decide +kernel
theorem dX6_decreeLine_29 : decode cX6_decreeLine 29 = .ok (.getfield 106, 3) := by decide +kernel
theorem dX6_decreeLine_32 : decode cX6_decreeLine 32 = .ok (.lstore_n 1, 1) := by decide +kernel
theorem dX6_decreeLine_33 : decode cX6_decreeLine 33 = .ok (.aload_n 0, 1) := by decide +kernel
theorem dX6_decreeLine_34 : decode cX6_decreeLine 34 = .ok (.invokevirtual 110, 3) := by decide +kernel
theorem dX6_decreeLine_37 : decode cX6_decreeLine 37 = .ok (.ifCond .ne 5, 3) := by decide +kernel
theorem dX6_decreeLine_40 : decode cX6_decreeLine 40 = .ok (.iconst 0, 1) := by decide +kernel
theorem dX6_decreeLine_41 : decode cX6_decreeLine 41 = .ok (.ireturn, 1) := by decide +kernel
theorem dX6_decreeLine_42 : decode cX6_decreeLine 42 = .ok (.iconst 0, 1) := by decide +kernel
theorem dX6_decreeLine_43 : decode cX6_decreeLine 43 = .ok (.istore_n 3, 1) := by decide +kernel
theorem dX6_decreeLine_44 : decode cX6_decreeLine 44 = .ok (.aload_n 0, 1) := by decide +kernel
theorem dX6_decreeLine_45 : decode cX6_decreeLine 45 = .ok (.getfield 9, 3) := by decide +kernel
theorem dX6_decreeLine_48 : decode cX6_decreeLine 48 = .ok (.getfield 58, 3) := by decide +kernel
theorem dX6_decreeLine_51 : decode cX6_decreeLine 51 = .ok (.getstatic 195, 3) := by decide +kernel
theorem dX6_decreeLine_54 : decode cX6_decreeLine 54 = .ok (.if_acmp .ne 15, 3) := by decide +kernel
theorem dX6_decreeLine_57 : decode cX6_decreeLine 57 = .ok (.aload_n 0, 1) := by decide +kernel
theorem dX6_decreeLine_58 : decode cX6_decreeLine 58 = .ok (.getfield 9, 3) := by decide +kernel
theorem dX6_decreeLine_61 : decode cX6_decreeLine 61 = .ok (.invokevirtual 103, 3) := by decide +kernel
theorem dX6_decreeLine_64 : decode cX6_decreeLine 64 = .ok (.aload_n 0, 1) := by decide +kernel
theorem dX6_decreeLine_65 : decode cX6_decreeLine 65 = .ok (.invokevirtual 198, 3) := by decide +kernel
theorem dX6_decreeLine_68 : decode cX6_decreeLine 68 = .ok (.istore_n 3, 1) := by decide +kernel
theorem dX6_decreeLine_69 : decode cX6_decreeLine 69 = .ok (.iload_n 3, 1) := by decide +kernel
theorem dX6_decreeLine_70 : decode cX6_decreeLine 70 = .ok (.iconst (-1), 1) := by decide +kernel
theorem dX6_decreeLine_71 : decode cX6_decreeLine 71 = .ok (.if_icmp .eq 10, 3) := by decide +kernel
theorem dX6_decreeLine_74 : decode cX6_decreeLine 74 = .ok (.aload_n 0, 1) := by decide +kernel
theorem dX6_decreeLine_75 : decode cX6_decreeLine 75 = .ok (.invokevirtual 129, 3) := by decide +kernel
theorem dX6_decreeLine_78 : decode cX6_decreeLine 78 = .ok (.ifCond .ne 5, 3) := by decide +kernel
theorem dX6_decreeLine_81 : decode cX6_decreeLine 81 = .ok (.iconst 0, 1) := by decide +kernel
theorem dX6_decreeLine_82 : decode cX6_decreeLine 82 = .ok (.ireturn, 1) := by decide +kernel
theorem dX6_decreeLine_83 : decode cX6_decreeLine 83 = .ok (.aload_n 0, 1) := by decide +kernel
theorem dX6_decreeLine_84 : decode cX6_decreeLine 84 = .ok (.getfield 15, 3) := by decide +kernel
theorem dX6_decreeLine_87 : decode cX6_decreeLine 87 = .ok (.lload_n 1, 1) := by decide +kernel
theorem dX6_decreeLine_88 : decode cX6_decreeLine 88 = .ok (.iload_n 3, 1) := by decide +kernel
theorem dX6_decreeLine_89 : decode cX6_decreeLine 89 = .ok (.invokevirtual 201, 3) := by decide +kernel
theorem dX6_decreeLine_92 : decode cX6_decreeLine 92 = .ok (.iconst 1, 1) := by decide +kernel
theorem dX6_decreeLine_93 : decode cX6_decreeLine 93 = .ok (.ireturn, 1) := by decide +kernel
theorem dX6_groundsTold_0 : decode cX6_groundsTold 0 = .ok (.iconst 0, 1) := by decide +kernel
theorem dX6_groundsTold_1 : decode cX6_groundsTold 1 = .ok (.istore_n 1, 1) := by decide +kernel
theorem dX6_groundsTold_2 : decode cX6_groundsTold 2 = .ok (.iconst 0, 1) := by decide +kernel
theorem dX6_groundsTold_3 : decode cX6_groundsTold 3 = .ok (.istore_n 2, 1) := by decide +kernel
theorem dX6_groundsTold_4 : decode cX6_groundsTold 4 = .ok (.iload_n 2, 1) := by decide +kernel
theorem dX6_groundsTold_5 : decode cX6_groundsTold 5 = .ok (.bipush 6, 2) := by decide +kernel
theorem dX6_groundsTold_7 : decode cX6_groundsTold 7 = .ok (.if_icmp .gt 99, 3) := by decide +kernel
theorem dX6_groundsTold_10 : decode cX6_groundsTold 10 = .ok (.iload_n 2, 1) := by decide +kernel
theorem dX6_groundsTold_11 : decode cX6_groundsTold 11 = .ok (.ifCond .eq 13, 3) := by decide +kernel
theorem dX6_groundsTold_14 : decode cX6_groundsTold 14 = .ok (.aload_n 0, 1) := by decide +kernel
theorem dX6_groundsTold_15 : decode cX6_groundsTold 15 = .ok (.getfield 9, 3) := by decide +kernel
theorem dX6_groundsTold_18 : decode cX6_groundsTold 18 = .ok (.invokevirtual 205, 3) := by decide +kernel
theorem dX6_groundsTold_21 : decode cX6_groundsTold 21 = .ok (.ifCond .eq 85, 3) := by decide +kernel
theorem dX6_groundsTold_24 : decode cX6_groundsTold 24 = .ok (.aload_n 0, 1) := by decide +kernel
theorem dX6_groundsTold_25 : decode cX6_groundsTold 25 = .ok (.getfield 9, 3) := by decide +kernel
theorem dX6_groundsTold_28 : decode cX6_groundsTold 28 = .ok (.invokevirtual 205, 3) := by decide +kernel
theorem dX6_groundsTold_31 : decode cX6_groundsTold 31 = .ok (.ifCond .ne 11, 3) := by decide +kernel
theorem dX6_groundsTold_34 : decode cX6_groundsTold 34 = .ok (.aload_n 0, 1) := by decide +kernel
theorem dX6_groundsTold_35 : decode cX6_groundsTold 35 = .ok (.iconst 1, 1) := by decide +kernel
theorem dX6_groundsTold_36 : decode cX6_groundsTold 36 = .ok (.invokevirtual 62, 3) := by decide +kernel
theorem dX6_groundsTold_39 : decode cX6_groundsTold 39 = .ok (.pop, 1) := by decide +kernel
theorem dX6_groundsTold_40 : decode cX6_groundsTold 40 = .ok (.iconst (-1), 1) := by decide +kernel
theorem dX6_groundsTold_41 : decode cX6_groundsTold 41 = .ok (.ireturn, 1) := by decide +kernel
theorem dX6_groundsTold_42 : decode cX6_groundsTold 42 = .ok (.aload_n 0, 1) := by decide +kernel
theorem dX6_groundsTold_43 : decode cX6_groundsTold 43 = .ok (.getfield 15, 3) := by decide +kernel
theorem dX6_groundsTold_46 : decode cX6_groundsTold 46 = .ok (.aload_n 0, 1) := by decide +kernel
theorem dX6_groundsTold_47 : decode cX6_groundsTold 47 = .ok (.getfield 9, 3) := by decide +kernel
theorem dX6_groundsTold_50 : decode cX6_groundsTold 50 = .ok (.getfield 106, 3) := by decide +kernel
theorem dX6_groundsTold_53 : decode cX6_groundsTold 53 = .ok (.invokevirtual 208, 3) := by decide +kernel
theorem dX6_groundsTold_56 : decode cX6_groundsTold 56 = .ok (.istore_n 3, 1) := by decide +kernel
theorem dX6_groundsTold_57 : decode cX6_groundsTold 57 = .ok (.iload_n 3, 1) := by decide +kernel
theorem dX6_groundsTold_58 : decode cX6_groundsTold 58 = .ok (.iconst (-1), 1) := by decide +kernel
theorem dX6_groundsTold_59 : decode cX6_groundsTold 59 = .ok (.if_icmp .ne 11, 3) := by decide +kernel
theorem dX6_groundsTold_62 : decode cX6_groundsTold 62 = .ok (.aload_n 0, 1) := by decide +kernel
theorem dX6_groundsTold_63 : decode cX6_groundsTold 63 = .ok (.iconst 2, 1) := by decide +kernel
theorem dX6_groundsTold_64 : decode cX6_groundsTold 64 = .ok (.invokevirtual 62, 3) := by decide +kernel
theorem dX6_groundsTold_67 : decode cX6_groundsTold 67 = .ok (.pop, 1) := by decide +kernel
theorem dX6_groundsTold_68 : decode cX6_groundsTold 68 = .ok (.iconst (-1), 1) := by decide +kernel
theorem dX6_groundsTold_69 : decode cX6_groundsTold 69 = .ok (.ireturn, 1) := by decide +kernel
theorem dX6_groundsTold_70 : decode cX6_groundsTold 70 = .ok (.iload_n 1, 1) := by decide +kernel
theorem dX6_groundsTold_71 : decode cX6_groundsTold 71 = .ok (.iload_n 3, 1) := by decide +kernel
theorem dX6_groundsTold_72 : decode cX6_groundsTold 72 = .ok (.ishr, 1) := by decide +kernel
theorem dX6_groundsTold_73 : decode cX6_groundsTold 73 = .ok (.iconst 1, 1) := by decide +kernel
theorem dX6_groundsTold_74 : decode cX6_groundsTold 74 = .ok (.iand, 1) := by decide +kernel
theorem dX6_groundsTold_75 : decode cX6_groundsTold 75 = .ok (.iconst 1, 1) := by decide +kernel
theorem dX6_groundsTold_76 : decode cX6_groundsTold 76 = .ok (.if_icmp .ne 11, 3) := by decide +kernel
theorem dX6_groundsTold_79 : decode cX6_groundsTold 79 = .ok (.aload_n 0, 1) := by decide +kernel
theorem dX6_groundsTold_80 : decode cX6_groundsTold 80 = .ok (.iconst 3, 1) := by decide +kernel
theorem dX6_groundsTold_81 : decode cX6_groundsTold 81 = .ok (.invokevirtual 62, 3) := by decide +kernel
theorem dX6_groundsTold_84 : decode cX6_groundsTold 84 = .ok (.pop, 1) := by decide +kernel
theorem dX6_groundsTold_85 : decode cX6_groundsTold 85 = .ok (.iconst (-1), 1) := by decide +kernel
theorem dX6_groundsTold_86 : decode cX6_groundsTold 86 = .ok (.ireturn, 1) := by decide +kernel
theorem dX6_groundsTold_87 : decode cX6_groundsTold 87 = .ok (.iload_n 1, 1) := by decide +kernel
theorem dX6_groundsTold_88 : decode cX6_groundsTold 88 = .ok (.iconst 1, 1) := by decide +kernel
theorem dX6_groundsTold_89 : decode cX6_groundsTold 89 = .ok (.iload_n 3, 1) := by decide +kernel
theorem dX6_groundsTold_90 : decode cX6_groundsTold 90 = .ok (.ishl, 1) := by decide +kernel
theorem dX6_groundsTold_91 : decode cX6_groundsTold 91 = .ok (.ior, 1) := by decide +kernel
theorem dX6_groundsTold_92 : decode cX6_groundsTold 92 = .ok (.istore_n 1, 1) := by decide +kernel
theorem dX6_groundsTold_93 : decode cX6_groundsTold 93 = .ok (.aload_n 0, 1) := by decide +kernel
theorem dX6_groundsTold_94 : decode cX6_groundsTold 94 = .ok (.getfield 9, 3) := by decide +kernel
theorem dX6_groundsTold_97 : decode cX6_groundsTold 97 = .ok (.invokevirtual 103, 3) := by decide +kernel
theorem dX6_groundsTold_100 : decode cX6_groundsTold 100 = .ok (.iinc 2 1, 3) := by decide +kernel
theorem dX6_groundsTold_103 : decode cX6_groundsTold 103 = .ok (.goto (-99), 3) := by decide +kernel
theorem dX6_groundsTold_106 : decode cX6_groundsTold 106 = .ok (.iload_n 1, 1) := by decide +kernel
theorem dX6_groundsTold_107 : decode cX6_groundsTold 107 = .ok (.ireturn, 1) := by decide +kernel
theorem dX6_termLine_0 : decode cX6_termLine 0 = .ok (.aload_n 0, 1) := by decide +kernel
theorem dX6_termLine_1 : decode cX6_termLine 1 = .ok (.getfield 15, 3) := by decide +kernel
theorem dX6_termLine_4 : decode cX6_termLine 4 = .ok (.getfield 212, 3) := by decide +kernel
theorem dX6_termLine_7 : decode cX6_termLine 7 = .ok (.ifCond .eq 9, 3) := by decide +kernel
theorem dX6_termLine_10 : decode cX6_termLine 10 = .ok (.aload_n 0, 1) := by decide +kernel
theorem dX6_termLine_11 : decode cX6_termLine 11 = .ok (.iconst 3, 1) := by decide +kernel
theorem dX6_termLine_12 : decode cX6_termLine 12 = .ok (.invokevirtual 62, 3) := by decide +kernel
theorem dX6_termLine_15 : decode cX6_termLine 15 = .ok (.ireturn, 1) := by decide +kernel
theorem dX6_termLine_16 : decode cX6_termLine 16 = .ok (.aload_n 0, 1) := by decide +kernel
theorem dX6_termLine_17 : decode cX6_termLine 17 = .ok (.getstatic 216, 3) := by decide +kernel
theorem dX6_termLine_20 : decode cX6_termLine 20 = .ok (.iconst 1, 1) := by decide +kernel
theorem dX6_termLine_21 : decode cX6_termLine 21 = .ok (.bipush 12, 2) := by decide +kernel
theorem dX6_termLine_23 : decode cX6_termLine 23 = .ok (.invokevirtual 119, 3) := by decide +kernel
theorem dX6_termLine_26 : decode cX6_termLine 26 = .ok (.istore_n 1, 1) := by decide +kernel
theorem dX6_termLine_27 : decode cX6_termLine 27 = .ok (.iload_n 1, 1) := by decide +kernel
theorem dX6_termLine_28 : decode cX6_termLine 28 = .ok (.iconst (-1), 1) := by decide +kernel
theorem dX6_termLine_29 : decode cX6_termLine 29 = .ok (.if_icmp .eq 10, 3) := by decide +kernel
theorem dX6_termLine_32 : decode cX6_termLine 32 = .ok (.aload_n 0, 1) := by decide +kernel
theorem dX6_termLine_33 : decode cX6_termLine 33 = .ok (.invokevirtual 129, 3) := by decide +kernel
theorem dX6_termLine_36 : decode cX6_termLine 36 = .ok (.ifCond .ne 5, 3) := by decide +kernel
theorem dX6_termLine_39 : decode cX6_termLine 39 = .ok (.iconst 0, 1) := by decide +kernel
theorem dX6_termLine_40 : decode cX6_termLine 40 = .ok (.ireturn, 1) := by decide +kernel
theorem dX6_termLine_41 : decode cX6_termLine 41 = .ok (.aload_n 0, 1) := by decide +kernel
theorem dX6_termLine_42 : decode cX6_termLine 42 = .ok (.getfield 15, 3) := by decide +kernel
theorem dX6_termLine_45 : decode cX6_termLine 45 = .ok (.iload_n 1, 1) := by decide +kernel
theorem dX6_termLine_46 : decode cX6_termLine 46 = .ok (.putfield 219, 3) := by decide +kernel
theorem dX6_termLine_49 : decode cX6_termLine 49 = .ok (.aload_n 0, 1) := by decide +kernel
theorem dX6_termLine_50 : decode cX6_termLine 50 = .ok (.getfield 15, 3) := by decide +kernel
theorem dX6_termLine_53 : decode cX6_termLine 53 = .ok (.iconst 1, 1) := by decide +kernel
theorem dX6_termLine_54 : decode cX6_termLine 54 = .ok (.putfield 212, 3) := by decide +kernel
theorem dX6_termLine_57 : decode cX6_termLine 57 = .ok (.iconst 1, 1) := by decide +kernel
theorem dX6_termLine_58 : decode cX6_termLine 58 = .ok (.ireturn, 1) := by decide +kernel
theorem dX6_lawLine_0 : decode cX6_lawLine 0 = .ok (.aload_n 0, 1) := by decide +kernel
theorem dX6_lawLine_1 : decode cX6_lawLine 1 = .ok (.getfield 15, 3) := by decide +kernel
theorem dX6_lawLine_4 : decode cX6_lawLine 4 = .ok (.getfield 222, 3) := by decide +kernel
theorem dX6_lawLine_7 : decode cX6_lawLine 7 = .ok (.iload_n 1, 1) := by decide +kernel
theorem dX6_lawLine_8 : decode cX6_lawLine 8 = .ok (.invokevirtual 226, 3) := by decide +kernel
theorem dX6_lawLine_11 : decode cX6_lawLine 11 = .ok (.ifCond .eq 9, 3) := by decide +kernel
theorem dX6_lawLine_14 : decode cX6_lawLine 14 = .ok (.aload_n 0, 1) := by decide +kernel
theorem dX6_lawLine_15 : decode cX6_lawLine 15 = .ok (.iconst 3, 1) := by decide +kernel
theorem dX6_lawLine_16 : decode cX6_lawLine 16 = .ok (.invokevirtual 62, 3) := by decide +kernel
theorem dX6_lawLine_19 : decode cX6_lawLine 19 = .ok (.ireturn, 1) := by decide +kernel
theorem dX6_lawLine_20 : decode cX6_lawLine 20 = .ok (.aload_n 0, 1) := by decide +kernel
theorem dX6_lawLine_21 : decode cX6_lawLine 21 = .ok (.getfield 15, 3) := by decide +kernel
theorem dX6_lawLine_24 : decode cX6_lawLine 24 = .ok (.getfield 222, 3) := by decide +kernel
theorem dX6_lawLine_27 : decode cX6_lawLine 27 = .ok (.getfield 231, 3) := by decide +kernel
theorem dX6_lawLine_30 : decode cX6_lawLine 30 = .ok (.istore_n 2, 1) := by decide +kernel
theorem dX6_lawLine_31 : decode cX6_lawLine 31 = .ok (.aload_n 0, 1) := by decide +kernel
theorem dX6_lawLine_32 : decode cX6_lawLine 32 = .ok (.getfield 9, 3) := by decide +kernel
theorem dX6_lawLine_35 : decode cX6_lawLine 35 = .ok (.invokevirtual 103, 3) := by decide +kernel
theorem dX6_lawLine_38 : decode cX6_lawLine 38 = .ok (.aload_n 0, 1) := by decide +kernel
theorem dX6_lawLine_39 : decode cX6_lawLine 39 = .ok (.iload_n 1, 1) := by decide +kernel
theorem dX6_lawLine_40 : decode cX6_lawLine 40 = .ok (.iconst 0, 1) := by decide +kernel
theorem dX6_lawLine_41 : decode cX6_lawLine 41 = .ok (.invokevirtual 234, 3) := by decide +kernel
theorem dX6_lawLine_44 : decode cX6_lawLine 44 = .ok (.ifCond .eq 10, 3) := by decide +kernel
theorem dX6_lawLine_47 : decode cX6_lawLine 47 = .ok (.aload_n 0, 1) := by decide +kernel
theorem dX6_lawLine_48 : decode cX6_lawLine 48 = .ok (.invokevirtual 129, 3) := by decide +kernel
theorem dX6_lawLine_51 : decode cX6_lawLine 51 = .ok (.ifCond .ne 5, 3) := by decide +kernel
theorem dX6_lawLine_54 : decode cX6_lawLine 54 = .ok (.iconst 0, 1) := by decide +kernel
theorem dX6_lawLine_55 : decode cX6_lawLine 55 = .ok (.ireturn, 1) := by decide +kernel
theorem dX6_lawLine_56 : decode cX6_lawLine 56 = .ok (.aload_n 0, 1) := by decide +kernel
theorem dX6_lawLine_57 : decode cX6_lawLine 57 = .ok (.getfield 15, 3) := by decide +kernel
theorem dX6_lawLine_60 : decode cX6_lawLine 60 = .ok (.getfield 222, 3) := by decide +kernel
theorem dX6_lawLine_63 : decode cX6_lawLine 63 = .ok (.iload_n 1, 1) := by decide +kernel
theorem dX6_lawLine_64 : decode cX6_lawLine 64 = .ok (.iload_n 2, 1) := by decide +kernel
theorem dX6_lawLine_65 : decode cX6_lawLine 65 = .ok (.invokevirtual 238, 3) := by decide +kernel
theorem dX6_lawLine_68 : decode cX6_lawLine 68 = .ok (.iconst 1, 1) := by decide +kernel
theorem dX6_lawLine_69 : decode cX6_lawLine 69 = .ok (.ireturn, 1) := by decide +kernel
theorem dX6_monthsLine_0 : decode cX6_monthsLine 0 = .ok (.aload_n 0, 1) := by decide +kernel
theorem dX6_monthsLine_1 : decode cX6_monthsLine 1 = .ok (.invokevirtual 242, 3) := by decide +kernel
theorem dX6_monthsLine_4 : decode cX6_monthsLine 4 = .ok (.istore_n 1, 1) := by decide +kernel
theorem dX6_monthsLine_5 : decode cX6_monthsLine 5 = .ok (.iload_n 1, 1) := by decide +kernel
theorem dX6_monthsLine_6 : decode cX6_monthsLine 6 = .ok (.iconst (-1), 1) := by decide +kernel
theorem dX6_monthsLine_7 : decode cX6_monthsLine 7 = .ok (.if_icmp .ne 9, 3) := by decide +kernel
theorem dX6_monthsLine_10 : decode cX6_monthsLine 10 = .ok (.aload_n 0, 1) := by decide +kernel
theorem dX6_monthsLine_11 : decode cX6_monthsLine 11 = .ok (.iconst 1, 1) := by decide +kernel
theorem dX6_monthsLine_12 : decode cX6_monthsLine 12 = .ok (.invokevirtual 62, 3) := by decide +kernel
theorem dX6_monthsLine_15 : decode cX6_monthsLine 15 = .ok (.ireturn, 1) := by decide +kernel
theorem dX6_monthsLine_16 : decode cX6_monthsLine 16 = .ok (.aload_n 0, 1) := by decide +kernel
theorem dX6_monthsLine_17 : decode cX6_monthsLine 17 = .ok (.getfield 43, 3) := by decide +kernel
theorem dX6_monthsLine_20 : decode cX6_monthsLine 20 = .ok (.getfield 47, 3) := by decide +kernel
theorem dX6_monthsLine_23 : decode cX6_monthsLine 23 = .ok (.bipush 40, 2) := by decide +kernel
theorem dX6_monthsLine_25 : decode cX6_monthsLine 25 = .ok (.if_icmp .lt 9, 3) := by decide +kernel
theorem dX6_monthsLine_28 : decode cX6_monthsLine 28 = .ok (.aload_n 0, 1) := by decide +kernel
theorem dX6_monthsLine_29 : decode cX6_monthsLine 29 = .ok (.iconst 5, 1) := by decide +kernel
theorem dX6_monthsLine_30 : decode cX6_monthsLine 30 = .ok (.invokevirtual 62, 3) := by decide +kernel
theorem dX6_monthsLine_33 : decode cX6_monthsLine 33 = .ok (.ireturn, 1) := by decide +kernel
theorem dX6_monthsLine_34 : decode cX6_monthsLine 34 = .ok (.aload_n 0, 1) := by decide +kernel
theorem dX6_monthsLine_35 : decode cX6_monthsLine 35 = .ok (.getfield 9, 3) := by decide +kernel
theorem dX6_monthsLine_38 : decode cX6_monthsLine 38 = .ok (.invokevirtual 103, 3) := by decide +kernel
theorem dX6_monthsLine_41 : decode cX6_monthsLine 41 = .ok (.iload_n 1, 1) := by decide +kernel
theorem dX6_monthsLine_42 : decode cX6_monthsLine 42 = .ok (.ifCond .eq 8, 3) := by decide +kernel
theorem dX6_monthsLine_45 : decode cX6_monthsLine 45 = .ok (.iload_n 1, 1) := by decide +kernel
theorem dX6_monthsLine_46 : decode cX6_monthsLine 46 = .ok (.iconst 1, 1) := by decide +kernel
theorem dX6_monthsLine_47 : decode cX6_monthsLine 47 = .ok (.if_icmp .ne 7, 3) := by decide +kernel
theorem dX6_monthsLine_50 : decode cX6_monthsLine 50 = .ok (.iconst 1, 1) := by decide +kernel
theorem dX6_monthsLine_51 : decode cX6_monthsLine 51 = .ok (.goto 4, 3) := by decide +kernel
theorem dX6_monthsLine_54 : decode cX6_monthsLine 54 = .ok (.iconst 0, 1) := by decide +kernel
theorem dX6_monthsLine_55 : decode cX6_monthsLine 55 = .ok (.istore_n 2, 1) := by decide +kernel
theorem dX6_monthsLine_56 : decode cX6_monthsLine 56 = .ok (.iload_n 1, 1) := by decide +kernel
theorem dX6_monthsLine_57 : decode cX6_monthsLine 57 = .ok (.ifCond .eq 8, 3) := by decide +kernel
theorem dX6_monthsLine_60 : decode cX6_monthsLine 60 = .ok (.iload_n 1, 1) := by decide +kernel
theorem dX6_monthsLine_61 : decode cX6_monthsLine 61 = .ok (.iconst 3, 1) := by decide +kernel
theorem dX6_monthsLine_62 : decode cX6_monthsLine 62 = .ok (.if_icmp .ne 7, 3) := by decide +kernel
theorem dX6_monthsLine_65 : decode cX6_monthsLine 65 = .ok (.iconst 1, 1) := by decide +kernel
theorem dX6_monthsLine_66 : decode cX6_monthsLine 66 = .ok (.goto 4, 3) := by decide +kernel
theorem dX6_monthsLine_69 : decode cX6_monthsLine 69 = .ok (.iconst 0, 1) := by decide +kernel
theorem dX6_monthsLine_70 : decode cX6_monthsLine 70 = .ok (.istore_n 3, 1) := by decide +kernel
theorem dX6_monthsLine_71 : decode cX6_monthsLine 71 = .ok (.iload_n 1, 1) := by decide +kernel
theorem dX6_monthsLine_72 : decode cX6_monthsLine 72 = .ok (.iconst 4, 1) := by decide +kernel
theorem dX6_monthsLine_73 : decode cX6_monthsLine 73 = .ok (.if_icmp .ne 7, 3) := by decide +kernel
theorem dX6_monthsLine_76 : decode cX6_monthsLine 76 = .ok (.iconst 0, 1) := by decide +kernel
theorem dX6_monthsLine_77 : decode cX6_monthsLine 77 = .ok (.goto 8, 3) := by decide +kernel
theorem dX6_monthsLine_80 : decode cX6_monthsLine 80 = .ok (.aload_n 0, 1) := by decide +kernel
theorem dX6_monthsLine_81 : decode cX6_monthsLine 81 = .ok (.iload_n 2, 1) := by decide +kernel
theorem dX6_monthsLine_82 : decode cX6_monthsLine 82 = .ok (.invokevirtual 157, 3) := by decide +kernel
theorem dX6_monthsLine_85 : decode cX6_monthsLine 85 = .ok (.istore 4, 2) := by decide +kernel
theorem dX6_monthsLine_87 : decode cX6_monthsLine 87 = .ok (.iload 4, 2) := by decide +kernel
theorem dX6_monthsLine_89 : decode cX6_monthsLine 89 = .ok (.iconst (-1), 1) := by decide +kernel
theorem dX6_monthsLine_90 : decode cX6_monthsLine 90 = .ok (.if_icmp .ne 5, 3) := by decide +kernel
theorem dX6_monthsLine_93 : decode cX6_monthsLine 93 = .ok (.iconst 0, 1) := by decide +kernel
theorem dX6_monthsLine_94 : decode cX6_monthsLine 94 = .ok (.ireturn, 1) := by decide +kernel
theorem dX6_monthsLine_95 : decode cX6_monthsLine 95 = .ok (.iload_n 1, 1) := by decide +kernel
theorem dX6_monthsLine_96 : decode cX6_monthsLine 96 = .ok (.iconst 4, 1) := by decide +kernel
theorem dX6_monthsLine_97 : decode cX6_monthsLine 97 = .ok (.if_icmp .eq 10, 3) := by decide +kernel
theorem dX6_monthsLine_100 : decode cX6_monthsLine 100 = .ok (.aload_n 0, 1) := by decide +kernel
theorem dX6_monthsLine_101 : decode cX6_monthsLine 101 = .ok (.getfield 9, 3) := by decide +kernel
theorem dX6_monthsLine_104 : decode cX6_monthsLine 104 = .ok (.invokevirtual 103, 3) := by decide +kernel
theorem dX6_monthsLine_107 : decode cX6_monthsLine 107 = .ok (.iload_n 3, 1) := by decide +kernel
theorem dX6_monthsLine_108 : decode cX6_monthsLine 108 = .ok (.ifCond .eq 11, 3) := by decide +kernel
theorem dX6_monthsLine_111 : decode cX6_monthsLine 111 = .ok (.aload_n 0, 1) := by decide +kernel
theorem dX6_monthsLine_112 : decode cX6_monthsLine 112 = .ok (.iload_n 2, 1) := by decide +kernel
theorem dX6_monthsLine_113 : decode cX6_monthsLine 113 = .ok (.invokevirtual 157, 3) := by decide +kernel
theorem dX6_monthsLine_116 : decode cX6_monthsLine 116 = .ok (.goto 4, 3) := by decide +kernel
theorem dX6_monthsLine_119 : decode cX6_monthsLine 119 = .ok (.iconst 0, 1) := by decide +kernel
theorem dX6_monthsLine_120 : decode cX6_monthsLine 120 = .ok (.istore 5, 2) := by decide +kernel
theorem dX6_monthsLine_122 : decode cX6_monthsLine 122 = .ok (.iload 5, 2) := by decide +kernel
theorem dX6_monthsLine_124 : decode cX6_monthsLine 124 = .ok (.iconst (-1), 1) := by decide +kernel
theorem dX6_monthsLine_125 : decode cX6_monthsLine 125 = .ok (.if_icmp .ne 5, 3) := by decide +kernel
theorem dX6_monthsLine_128 : decode cX6_monthsLine 128 = .ok (.iconst 0, 1) := by decide +kernel
theorem dX6_monthsLine_129 : decode cX6_monthsLine 129 = .ok (.ireturn, 1) := by decide +kernel
theorem dX6_monthsLine_130 : decode cX6_monthsLine 130 = .ok (.iload_n 3, 1) := by decide +kernel
theorem dX6_monthsLine_131 : decode cX6_monthsLine 131 = .ok (.ifCond .eq 16, 3) := by decide +kernel
theorem dX6_monthsLine_134 : decode cX6_monthsLine 134 = .ok (.iload 5, 2) := by decide +kernel
theorem dX6_monthsLine_136 : decode cX6_monthsLine 136 = .ok (.iload 4, 2) := by decide +kernel
theorem dX6_monthsLine_138 : decode cX6_monthsLine 138 = .ok (.if_icmp .ne 9, 3) := by decide +kernel
theorem dX6_monthsLine_141 : decode cX6_monthsLine 141 = .ok (.aload_n 0, 1) := by decide +kernel
theorem dX6_monthsLine_142 : decode cX6_monthsLine 142 = .ok (.iconst 3, 1) := by decide +kernel
theorem dX6_monthsLine_143 : decode cX6_monthsLine 143 = .ok (.invokevirtual 62, 3) := by decide +kernel
theorem dX6_monthsLine_146 : decode cX6_monthsLine 146 = .ok (.ireturn, 1) := by decide +kernel
theorem dX6_monthsLine_147 : decode cX6_monthsLine 147 = .ok (.iload_n 3, 1) := by decide +kernel
theorem dX6_monthsLine_148 : decode cX6_monthsLine 148 = .ok (.ifCond .eq 10, 3) := by decide +kernel
theorem dX6_monthsLine_151 : decode cX6_monthsLine 151 = .ok (.aload_n 0, 1) := by decide +kernel
theorem dX6_monthsLine_152 : decode cX6_monthsLine 152 = .ok (.getfield 9, 3) := by decide +kernel
theorem dX6_monthsLine_155 : decode cX6_monthsLine 155 = .ok (.invokevirtual 103, 3) := by decide +kernel
theorem dX6_monthsLine_158 : decode cX6_monthsLine 158 = .ok (.aload_n 0, 1) := by decide +kernel
theorem dX6_monthsLine_159 : decode cX6_monthsLine 159 = .ok (.invokevirtual 129, 3) := by decide +kernel
theorem dX6_monthsLine_162 : decode cX6_monthsLine 162 = .ok (.ifCond .ne 5, 3) := by decide +kernel
theorem dX6_monthsLine_165 : decode cX6_monthsLine 165 = .ok (.iconst 0, 1) := by decide +kernel
theorem dX6_monthsLine_166 : decode cX6_monthsLine 166 = .ok (.ireturn, 1) := by decide +kernel
theorem dX6_monthsLine_167 : decode cX6_monthsLine 167 = .ok (.aload_n 0, 1) := by decide +kernel
theorem dX6_monthsLine_168 : decode cX6_monthsLine 168 = .ok (.getfield 43, 3) := by decide +kernel
theorem dX6_monthsLine_171 : decode cX6_monthsLine 171 = .ok (.iload_n 1, 1) := by decide +kernel
theorem dX6_monthsLine_172 : decode cX6_monthsLine 172 = .ok (.iload 4, 2) := by decide +kernel
theorem dX6_monthsLine_174 : decode cX6_monthsLine 174 = .ok (.iload 5, 2) := by decide +kernel
theorem dX6_monthsLine_176 : decode cX6_monthsLine 176 = .ok (.invokevirtual 245, 3) := by decide +kernel
theorem dX6_monthsLine_179 : decode cX6_monthsLine 179 = .ok (.iconst 1, 1) := by decide +kernel
theorem dX6_monthsLine_180 : decode cX6_monthsLine 180 = .ok (.ireturn, 1) := by decide +kernel
theorem dX6_lineSpelt_0 : decode cX6_lineSpelt 0 = .ok (.aload_n 0, 1) := by decide +kernel
theorem dX6_lineSpelt_1 : decode cX6_lineSpelt 1 = .ok (.getfield 9, 3) := by decide +kernel
theorem dX6_lineSpelt_4 : decode cX6_lineSpelt 4 = .ok (.getfield 58, 3) := by decide +kernel
theorem dX6_lineSpelt_7 : decode cX6_lineSpelt 7 = .ok (.astore_n 1, 1) := by decide +kernel
theorem dX6_lineSpelt_8 : decode cX6_lineSpelt 8 = .ok (.aload_n 1, 1) := by decide +kernel
theorem dX6_lineSpelt_9 : decode cX6_lineSpelt 9 = .ok (.getstatic 249, 3) := by decide +kernel
theorem dX6_lineSpelt_12 : decode cX6_lineSpelt 12 = .ok (.if_acmp .ne 5, 3) := by decide +kernel
theorem dX6_lineSpelt_15 : decode cX6_lineSpelt 15 = .ok (.iconst 0, 1) := by decide +kernel
theorem dX6_lineSpelt_16 : decode cX6_lineSpelt 16 = .ok (.ireturn, 1) := by decide +kernel
theorem dX6_lineSpelt_17 : decode cX6_lineSpelt 17 = .ok (.aload_n 1, 1) := by decide +kernel
theorem dX6_lineSpelt_18 : decode cX6_lineSpelt 18 = .ok (.getstatic 252, 3) := by decide +kernel
theorem dX6_lineSpelt_21 : decode cX6_lineSpelt 21 = .ok (.if_acmp .ne 5, 3) := by decide +kernel
theorem dX6_lineSpelt_24 : decode cX6_lineSpelt 24 = .ok (.iconst 1, 1) := by decide +kernel
theorem dX6_lineSpelt_25 : decode cX6_lineSpelt 25 = .ok (.ireturn, 1) := by decide +kernel
theorem dX6_lineSpelt_26 : decode cX6_lineSpelt 26 = .ok (.aload_n 1, 1) := by decide +kernel
theorem dX6_lineSpelt_27 : decode cX6_lineSpelt 27 = .ok (.getstatic 255, 3) := by decide +kernel
theorem dX6_lineSpelt_30 : decode cX6_lineSpelt 30 = .ok (.if_acmp .ne 5, 3) := by decide +kernel
theorem dX6_lineSpelt_33 : decode cX6_lineSpelt 33 = .ok (.iconst 2, 1) := by decide +kernel
theorem dX6_lineSpelt_34 : decode cX6_lineSpelt 34 = .ok (.ireturn, 1) := by decide +kernel
theorem dX6_lineSpelt_35 : decode cX6_lineSpelt 35 = .ok (.aload_n 1, 1) := by decide +kernel
theorem dX6_lineSpelt_36 : decode cX6_lineSpelt 36 = .ok (.getstatic 258, 3) := by decide +kernel
theorem dX6_lineSpelt_39 : decode cX6_lineSpelt 39 = .ok (.if_acmp .ne 5, 3) := by decide +kernel
theorem dX6_lineSpelt_42 : decode cX6_lineSpelt 42 = .ok (.iconst 3, 1) := by decide +kernel
theorem dX6_lineSpelt_43 : decode cX6_lineSpelt 43 = .ok (.ireturn, 1) := by decide +kernel
theorem dX6_lineSpelt_44 : decode cX6_lineSpelt 44 = .ok (.aload_n 1, 1) := by decide +kernel
theorem dX6_lineSpelt_45 : decode cX6_lineSpelt 45 = .ok (.getstatic 261, 3) := by decide +kernel
theorem dX6_lineSpelt_48 : decode cX6_lineSpelt 48 = .ok (.if_acmp .ne 7, 3) := by decide +kernel
theorem dX6_lineSpelt_51 : decode cX6_lineSpelt 51 = .ok (.iconst 4, 1) := by decide +kernel
theorem dX6_lineSpelt_52 : decode cX6_lineSpelt 52 = .ok (.goto 4, 3) := by decide +kernel
theorem dX6_lineSpelt_55 : decode cX6_lineSpelt 55 = .ok (.iconst (-1), 1) := by decide +kernel
theorem dX6_lineSpelt_56 : decode cX6_lineSpelt 56 = .ok (.ireturn, 1) := by decide +kernel
theorem dX6_freshName_0 : decode cX6_freshName 0 = .ok (.aload_n 0, 1) := by decide +kernel
theorem dX6_freshName_1 : decode cX6_freshName 1 = .ok (.getfield 9, 3) := by decide +kernel
theorem dX6_freshName_4 : decode cX6_freshName 4 = .ok (.invokevirtual 205, 3) := by decide +kernel
theorem dX6_freshName_7 : decode cX6_freshName 7 = .ok (.ifCond .ne 9, 3) := by decide +kernel
theorem dX6_freshName_10 : decode cX6_freshName 10 = .ok (.aload_n 0, 1) := by decide +kernel
theorem dX6_freshName_11 : decode cX6_freshName 11 = .ok (.iconst 1, 1) := by decide +kernel
theorem dX6_freshName_12 : decode cX6_freshName 12 = .ok (.invokevirtual 62, 3) := by decide +kernel
theorem dX6_freshName_15 : decode cX6_freshName 15 = .ok (.ireturn, 1) := by decide +kernel
theorem dX6_freshName_16 : decode cX6_freshName 16 = .ok (.aload_n 0, 1) := by decide +kernel
theorem dX6_freshName_17 : decode cX6_freshName 17 = .ok (.getfield 15, 3) := by decide +kernel
theorem dX6_freshName_20 : decode cX6_freshName 20 = .ok (.aload_n 0, 1) := by decide +kernel
theorem dX6_freshName_21 : decode cX6_freshName 21 = .ok (.getfield 9, 3) := by decide +kernel
theorem dX6_freshName_24 : decode cX6_freshName 24 = .ok (.getfield 106, 3) := by decide +kernel
theorem dX6_freshName_27 : decode cX6_freshName 27 = .ok (.invokevirtual 264, 3) := by decide +kernel
theorem dX6_freshName_30 : decode cX6_freshName 30 = .ok (.ifCond .eq 9, 3) := by decide +kernel
theorem dX6_freshName_33 : decode cX6_freshName 33 = .ok (.aload_n 0, 1) := by decide +kernel
theorem dX6_freshName_34 : decode cX6_freshName 34 = .ok (.iconst 3, 1) := by decide +kernel
theorem dX6_freshName_35 : decode cX6_freshName 35 = .ok (.invokevirtual 62, 3) := by decide +kernel
theorem dX6_freshName_38 : decode cX6_freshName 38 = .ok (.ireturn, 1) := by decide +kernel
theorem dX6_freshName_39 : decode cX6_freshName 39 = .ok (.aload_n 0, 1) := by decide +kernel
theorem dX6_freshName_40 : decode cX6_freshName 40 = .ok (.getfield 9, 3) := by decide +kernel
theorem dX6_freshName_43 : decode cX6_freshName 43 = .ok (.invokevirtual 103, 3) := by decide +kernel
theorem dX6_freshName_46 : decode cX6_freshName 46 = .ok (.iconst 1, 1) := by decide +kernel
theorem dX6_freshName_47 : decode cX6_freshName 47 = .ok (.ireturn, 1) := by decide +kernel
theorem dX6_toldOne_0 : decode cX6_toldOne 0 = .ok (.aload_n 0, 1) := by decide +kernel
theorem dX6_toldOne_1 : decode cX6_toldOne 1 = .ok (.getfield 9, 3) := by decide +kernel
theorem dX6_toldOne_4 : decode cX6_toldOne 4 = .ok (.invokevirtual 205, 3) := by decide +kernel
theorem dX6_toldOne_7 : decode cX6_toldOne 7 = .ok (.ifCond .ne 11, 3) := by decide +kernel
theorem dX6_toldOne_10 : decode cX6_toldOne 10 = .ok (.aload_n 0, 1) := by decide +kernel
theorem dX6_toldOne_11 : decode cX6_toldOne 11 = .ok (.iconst 1, 1) := by decide +kernel
theorem dX6_toldOne_12 : decode cX6_toldOne 12 = .ok (.invokevirtual 62, 3) := by decide +kernel
theorem dX6_toldOne_15 : decode cX6_toldOne 15 = .ok (.pop, 1) := by decide +kernel
theorem dX6_toldOne_16 : decode cX6_toldOne 16 = .ok (.iconst (-1), 1) := by decide +kernel
theorem dX6_toldOne_17 : decode cX6_toldOne 17 = .ok (.ireturn, 1) := by decide +kernel
theorem dX6_toldOne_18 : decode cX6_toldOne 18 = .ok (.iload_n 1, 1) := by decide +kernel
theorem dX6_toldOne_19 : decode cX6_toldOne 19 = .ok (.ifCond .eq 20, 3) := by decide +kernel
theorem dX6_toldOne_22 : decode cX6_toldOne 22 = .ok (.aload_n 0, 1) := by decide +kernel
theorem dX6_toldOne_23 : decode cX6_toldOne 23 = .ok (.getfield 15, 3) := by decide +kernel
theorem dX6_toldOne_26 : decode cX6_toldOne 26 = .ok (.aload_n 0, 1) := by decide +kernel
theorem dX6_toldOne_27 : decode cX6_toldOne 27 = .ok (.getfield 9, 3) := by decide +kernel
theorem dX6_toldOne_30 : decode cX6_toldOne 30 = .ok (.getfield 106, 3) := by decide +kernel
theorem dX6_toldOne_33 : decode cX6_toldOne 33 = .ok (.invokevirtual 268, 3) := by decide +kernel
theorem dX6_toldOne_36 : decode cX6_toldOne 36 = .ok (.goto 17, 3) := by decide +kernel
theorem dX6_toldOne_39 : decode cX6_toldOne 39 = .ok (.aload_n 0, 1) := by decide +kernel
theorem dX6_toldOne_40 : decode cX6_toldOne 40 = .ok (.getfield 15, 3) := by decide +kernel
theorem dX6_toldOne_43 : decode cX6_toldOne 43 = .ok (.aload_n 0, 1) := by decide +kernel
theorem dX6_toldOne_44 : decode cX6_toldOne 44 = .ok (.getfield 9, 3) := by decide +kernel
theorem dX6_toldOne_47 : decode cX6_toldOne 47 = .ok (.getfield 106, 3) := by decide +kernel
theorem dX6_toldOne_50 : decode cX6_toldOne 50 = .ok (.invokevirtual 271, 3) := by decide +kernel
theorem dX6_toldOne_53 : decode cX6_toldOne 53 = .ok (.istore_n 2, 1) := by decide +kernel
theorem dX6_toldOne_54 : decode cX6_toldOne 54 = .ok (.iload_n 2, 1) := by decide +kernel
theorem dX6_toldOne_55 : decode cX6_toldOne 55 = .ok (.iconst (-1), 1) := by decide +kernel
theorem dX6_toldOne_56 : decode cX6_toldOne 56 = .ok (.if_icmp .ne 9, 3) := by decide +kernel
theorem dX6_toldOne_59 : decode cX6_toldOne 59 = .ok (.aload_n 0, 1) := by decide +kernel
theorem dX6_toldOne_60 : decode cX6_toldOne 60 = .ok (.iconst 2, 1) := by decide +kernel
theorem dX6_toldOne_61 : decode cX6_toldOne 61 = .ok (.invokevirtual 62, 3) := by decide +kernel
theorem dX6_toldOne_64 : decode cX6_toldOne 64 = .ok (.pop, 1) := by decide +kernel
theorem dX6_toldOne_65 : decode cX6_toldOne 65 = .ok (.iload_n 2, 1) := by decide +kernel
theorem dX6_toldOne_66 : decode cX6_toldOne 66 = .ok (.ireturn, 1) := by decide +kernel
theorem dX6_labelled_0 : decode cX6_labelled 0 = .ok (.aload_n 0, 1) := by decide +kernel
theorem dX6_labelled_1 : decode cX6_labelled 1 = .ok (.getfield 9, 3) := by decide +kernel
theorem dX6_labelled_4 : decode cX6_labelled 4 = .ok (.getfield 58, 3) := by decide +kernel
theorem dX6_labelled_7 : decode cX6_labelled 7 = .ok (.aload_n 1, 1) := by decide +kernel
theorem dX6_labelled_8 : decode cX6_labelled 8 = .ok (.if_acmp .eq 11, 3) := by decide +kernel
theorem dX6_labelled_11 : decode cX6_labelled 11 = .ok (.aload_n 0, 1) := by decide +kernel
theorem dX6_labelled_12 : decode cX6_labelled 12 = .ok (.iconst 1, 1) := by decide +kernel
theorem dX6_labelled_13 : decode cX6_labelled 13 = .ok (.invokevirtual 62, 3) := by decide +kernel
theorem dX6_labelled_16 : decode cX6_labelled 16 = .ok (.pop, 1) := by decide +kernel
theorem dX6_labelled_17 : decode cX6_labelled 17 = .ok (.iconst (-1), 1) := by decide +kernel
theorem dX6_labelled_18 : decode cX6_labelled 18 = .ok (.ireturn, 1) := by decide +kernel
theorem dX6_labelled_19 : decode cX6_labelled 19 = .ok (.aload_n 0, 1) := by decide +kernel
theorem dX6_labelled_20 : decode cX6_labelled 20 = .ok (.getfield 9, 3) := by decide +kernel
theorem dX6_labelled_23 : decode cX6_labelled 23 = .ok (.invokevirtual 103, 3) := by decide +kernel
theorem dX6_labelled_26 : decode cX6_labelled 26 = .ok (.aload_n 0, 1) := by decide +kernel
theorem dX6_labelled_27 : decode cX6_labelled 27 = .ok (.getfield 9, 3) := by decide +kernel
theorem dX6_labelled_30 : decode cX6_labelled 30 = .ok (.getfield 33, 3) := by decide +kernel
theorem dX6_labelled_33 : decode cX6_labelled 33 = .ok (.iconst 3, 1) := by decide +kernel
theorem dX6_labelled_34 : decode cX6_labelled 34 = .ok (.if_icmp .eq 11, 3) := by decide +kernel
theorem dX6_labelled_37 : decode cX6_labelled 37 = .ok (.aload_n 0, 1) := by decide +kernel
theorem dX6_labelled_38 : decode cX6_labelled 38 = .ok (.iconst 1, 1) := by decide +kernel
theorem dX6_labelled_39 : decode cX6_labelled 39 = .ok (.invokevirtual 62, 3) := by decide +kernel
theorem dX6_labelled_42 : decode cX6_labelled 42 = .ok (.pop, 1) := by decide +kernel
theorem dX6_labelled_43 : decode cX6_labelled 43 = .ok (.iconst (-1), 1) := by decide +kernel
theorem dX6_labelled_44 : decode cX6_labelled 44 = .ok (.ireturn, 1) := by decide +kernel
theorem dX6_labelled_45 : decode cX6_labelled 45 = .ok (.aload_n 0, 1) := by decide +kernel
theorem dX6_labelled_46 : decode cX6_labelled 46 = .ok (.getfield 9, 3) := by decide +kernel
theorem dX6_labelled_49 : decode cX6_labelled 49 = .ok (.getfield 274, 3) := by decide +kernel
theorem dX6_labelled_52 : decode cX6_labelled 52 = .ok (.istore 4, 2) := by decide +kernel
theorem dX6_labelled_54 : decode cX6_labelled 54 = .ok (.iload 4, 2) := by decide +kernel
theorem dX6_labelled_56 : decode cX6_labelled 56 = .ok (.iload_n 2, 1) := by decide +kernel
theorem dX6_labelled_57 : decode cX6_labelled 57 = .ok (.iload_n 3, 1) := by decide +kernel
theorem dX6_labelled_58 : decode cX6_labelled 58 = .ok (.invokestatic 277, 3) := by decide +kernel
theorem dX6_labelled_61 : decode cX6_labelled 61 = .ok (.ifCond .ne 11, 3) := by decide +kernel
theorem dX6_labelled_64 : decode cX6_labelled 64 = .ok (.aload_n 0, 1) := by decide +kernel
theorem dX6_labelled_65 : decode cX6_labelled 65 = .ok (.iconst 4, 1) := by decide +kernel
theorem dX6_labelled_66 : decode cX6_labelled 66 = .ok (.invokevirtual 62, 3) := by decide +kernel
theorem dX6_labelled_69 : decode cX6_labelled 69 = .ok (.pop, 1) := by decide +kernel
theorem dX6_labelled_70 : decode cX6_labelled 70 = .ok (.iconst (-1), 1) := by decide +kernel
theorem dX6_labelled_71 : decode cX6_labelled 71 = .ok (.ireturn, 1) := by decide +kernel
theorem dX6_labelled_72 : decode cX6_labelled 72 = .ok (.aload_n 0, 1) := by decide +kernel
theorem dX6_labelled_73 : decode cX6_labelled 73 = .ok (.getfield 9, 3) := by decide +kernel
theorem dX6_labelled_76 : decode cX6_labelled 76 = .ok (.invokevirtual 103, 3) := by decide +kernel
theorem dX6_labelled_79 : decode cX6_labelled 79 = .ok (.iload 4, 2) := by decide +kernel
theorem dX6_labelled_81 : decode cX6_labelled 81 = .ok (.ireturn, 1) := by decide +kernel
theorem dX6_lineEnds_0 : decode cX6_lineEnds 0 = .ok (.aload_n 0, 1) := by decide +kernel
theorem dX6_lineEnds_1 : decode cX6_lineEnds 1 = .ok (.getfield 9, 3) := by decide +kernel
theorem dX6_lineEnds_4 : decode cX6_lineEnds 4 = .ok (.bipush 59, 2) := by decide +kernel
theorem dX6_lineEnds_6 : decode cX6_lineEnds 6 = .ok (.invokevirtual 281, 3) := by decide +kernel
theorem dX6_lineEnds_9 : decode cX6_lineEnds 9 = .ok (.ifCond .ne 9, 3) := by decide +kernel
theorem dX6_lineEnds_12 : decode cX6_lineEnds 12 = .ok (.aload_n 0, 1) := by decide +kernel
theorem dX6_lineEnds_13 : decode cX6_lineEnds 13 = .ok (.iconst 1, 1) := by decide +kernel
theorem dX6_lineEnds_14 : decode cX6_lineEnds 14 = .ok (.invokevirtual 62, 3) := by decide +kernel
theorem dX6_lineEnds_17 : decode cX6_lineEnds 17 = .ok (.ireturn, 1) := by decide +kernel
theorem dX6_lineEnds_18 : decode cX6_lineEnds 18 = .ok (.aload_n 0, 1) := by decide +kernel
theorem dX6_lineEnds_19 : decode cX6_lineEnds 19 = .ok (.getfield 9, 3) := by decide +kernel
theorem dX6_lineEnds_22 : decode cX6_lineEnds 22 = .ok (.invokevirtual 103, 3) := by decide +kernel
theorem dX6_lineEnds_25 : decode cX6_lineEnds 25 = .ok (.iconst 1, 1) := by decide +kernel
theorem dX6_lineEnds_26 : decode cX6_lineEnds 26 = .ok (.ireturn, 1) := by decide +kernel
theorem dX6_expression_0 : decode cX6_expression 0 = .ok (.aload_n 0, 1) := by decide +kernel
theorem dX6_expression_1 : decode cX6_expression 1 = .ok (.iload_n 1, 1) := by decide +kernel
theorem dX6_expression_2 : decode cX6_expression 2 = .ok (.iload_n 2, 1) := by decide +kernel
theorem dX6_expression_3 : decode cX6_expression 3 = .ok (.invokevirtual 285, 3) := by decide +kernel
theorem dX6_expression_6 : decode cX6_expression 6 = .ok (.istore_n 3, 1) := by decide +kernel
theorem dX6_expression_7 : decode cX6_expression 7 = .ok (.iconst 0, 1) := by decide +kernel
theorem dX6_expression_8 : decode cX6_expression 8 = .ok (.istore 4, 2) := by decide +kernel
theorem dX6_expression_10 : decode cX6_expression 10 = .ok (.iload 4, 2) := by decide +kernel
theorem dX6_expression_12 : decode cX6_expression 12 = .ok (.sipush 1000, 3) := by decide +kernel
theorem dX6_expression_15 : decode cX6_expression 15 = .ok (.if_icmp .ge 87, 3) := by decide +kernel
theorem dX6_expression_18 : decode cX6_expression 18 = .ok (.iload_n 3, 1) := by decide +kernel
theorem dX6_expression_19 : decode cX6_expression 19 = .ok (.ifCond .eq 83, 3) := by decide +kernel
theorem dX6_expression_22 : decode cX6_expression 22 = .ok (.aload_n 0, 1) := by decide +kernel
theorem dX6_expression_23 : decode cX6_expression 23 = .ok (.getfield 9, 3) := by decide +kernel
theorem dX6_expression_26 : decode cX6_expression 26 = .ok (.getfield 58, 3) := by decide +kernel
theorem dX6_expression_29 : decode cX6_expression 29 = .ok (.getstatic 288, 3) := by decide +kernel
theorem dX6_expression_32 : decode cX6_expression 32 = .ok (.if_acmp .eq 16, 3) := by decide +kernel
theorem dX6_expression_35 : decode cX6_expression 35 = .ok (.aload_n 0, 1) := by decide +kernel
theorem dX6_expression_36 : decode cX6_expression 36 = .ok (.getfield 9, 3) := by decide +kernel
theorem dX6_expression_39 : decode cX6_expression 39 = .ok (.getfield 58, 3) := by decide +kernel
theorem dX6_expression_42 : decode cX6_expression 42 = .ok (.getstatic 291, 3) := by decide +kernel
theorem dX6_expression_45 : decode cX6_expression 45 = .ok (.if_acmp .ne 57, 3) := by decide +kernel
theorem dX6_expression_48 : decode cX6_expression 48 = .ok (.aload_n 0, 1) := by decide +kernel
theorem dX6_expression_49 : decode cX6_expression 49 = .ok (.getfield 9, 3) := by decide +kernel
theorem dX6_expression_52 : decode cX6_expression 52 = .ok (.getfield 58, 3) := by decide +kernel
theorem dX6_expression_55 : decode cX6_expression 55 = .ok (.getstatic 288, 3) := by decide +kernel
theorem dX6_expression_58 : decode cX6_expression 58 = .ok (.if_acmp .ne 8, 3) := by decide +kernel
theorem dX6_expression_61 : decode cX6_expression 61 = .ok (.bipush (-6), 2) := by decide +kernel
theorem dX6_expression_63 : decode cX6_expression 63 = .ok (.goto 5, 3) := by decide +kernel
theorem dX6_expression_66 : decode cX6_expression 66 = .ok (.bipush (-7), 2) := by decide +kernel
theorem dX6_expression_68 : decode cX6_expression 68 = .ok (.istore 5, 2) := by decide +kernel
theorem dX6_expression_70 : decode cX6_expression 70 = .ok (.aload_n 0, 1) := by decide +kernel
theorem dX6_expression_71 : decode cX6_expression 71 = .ok (.getfield 9, 3) := by decide +kernel
theorem dX6_expression_74 : decode cX6_expression 74 = .ok (.invokevirtual 103, 3) := by decide +kernel
theorem dX6_expression_77 : decode cX6_expression 77 = .ok (.aload_n 0, 1) := by decide +kernel
theorem dX6_expression_78 : decode cX6_expression 78 = .ok (.iload_n 1, 1) := by decide +kernel
theorem dX6_expression_79 : decode cX6_expression 79 = .ok (.iload_n 2, 1) := by decide +kernel
theorem dX6_expression_80 : decode cX6_expression 80 = .ok (.invokevirtual 285, 3) := by decide +kernel
theorem dX6_expression_83 : decode cX6_expression 83 = .ok (.istore_n 3, 1) := by decide +kernel
theorem dX6_expression_84 : decode cX6_expression 84 = .ok (.aload_n 0, 1) := by decide +kernel
theorem dX6_expression_85 : decode cX6_expression 85 = .ok (.getfield 15, 3) := by decide +kernel
theorem dX6_expression_88 : decode cX6_expression 88 = .ok (.getfield 222, 3) := by decide +kernel
theorem dX6_expression_91 : decode cX6_expression 91 = .ok (.iload 5, 2) := by decide +kernel
theorem dX6_expression_93 : decode cX6_expression 93 = .ok (.invokevirtual 294, 3) := by decide +kernel
theorem dX6_expression_96 : decode cX6_expression 96 = .ok (.iinc 4 1, 3) := by decide +kernel
theorem dX6_expression_99 : decode cX6_expression 99 = .ok (.goto (-89), 3) := by decide +kernel
theorem dX6_expression_102 : decode cX6_expression 102 = .ok (.iload_n 3, 1) := by decide +kernel
theorem dX6_expression_103 : decode cX6_expression 103 = .ok (.ireturn, 1) := by decide +kernel
theorem dX6_comparison_0 : decode cX6_comparison 0 = .ok (.aload_n 0, 1) := by decide +kernel
theorem dX6_comparison_1 : decode cX6_comparison 1 = .ok (.iload_n 1, 1) := by decide +kernel
theorem dX6_comparison_2 : decode cX6_comparison 2 = .ok (.iload_n 2, 1) := by decide +kernel
theorem dX6_comparison_3 : decode cX6_comparison 3 = .ok (.invokevirtual 297, 3) := by decide +kernel
theorem dX6_comparison_6 : decode cX6_comparison 6 = .ok (.ifCond .ne 5, 3) := by decide +kernel
theorem dX6_comparison_9 : decode cX6_comparison 9 = .ok (.iconst 0, 1) := by decide +kernel
theorem dX6_comparison_10 : decode cX6_comparison 10 = .ok (.ireturn, 1) := by decide +kernel
theorem dX6_comparison_11 : decode cX6_comparison 11 = .ok (.aload_n 0, 1) := by decide +kernel
theorem dX6_comparison_12 : decode cX6_comparison 12 = .ok (.getfield 9, 3) := by decide +kernel
theorem dX6_comparison_15 : decode cX6_comparison 15 = .ok (.bipush 60, 2) := by decide +kernel
theorem dX6_comparison_17 : decode cX6_comparison 17 = .ok (.invokevirtual 281, 3) := by decide +kernel
theorem dX6_comparison_20 : decode cX6_comparison 20 = .ok (.ifCond .ne 17, 3) := by decide +kernel
theorem dX6_comparison_23 : decode cX6_comparison 23 = .ok (.aload_n 0, 1) := by decide +kernel
theorem dX6_comparison_24 : decode cX6_comparison 24 = .ok (.getfield 9, 3) := by decide +kernel
theorem dX6_comparison_27 : decode cX6_comparison 27 = .ok (.bipush 61, 2) := by decide +kernel
theorem dX6_comparison_29 : decode cX6_comparison 29 = .ok (.invokevirtual 281, 3) := by decide +kernel
theorem dX6_comparison_32 : decode cX6_comparison 32 = .ok (.ifCond .ne 5, 3) := by decide +kernel
theorem dX6_comparison_35 : decode cX6_comparison 35 = .ok (.iconst 1, 1) := by decide +kernel
theorem dX6_comparison_36 : decode cX6_comparison 36 = .ok (.ireturn, 1) := by decide +kernel
theorem dX6_comparison_37 : decode cX6_comparison 37 = .ok (.aload_n 0, 1) := by decide +kernel
theorem dX6_comparison_38 : decode cX6_comparison 38 = .ok (.getfield 9, 3) := by decide +kernel
theorem dX6_comparison_41 : decode cX6_comparison 41 = .ok (.bipush 60, 2) := by decide +kernel
theorem dX6_comparison_43 : decode cX6_comparison 43 = .ok (.invokevirtual 281, 3) := by decide +kernel
theorem dX6_comparison_46 : decode cX6_comparison 46 = .ok (.ifCond .eq 8, 3) := by decide +kernel
theorem dX6_comparison_49 : decode cX6_comparison 49 = .ok (.bipush (-8), 2) := by decide +kernel
theorem dX6_comparison_51 : decode cX6_comparison 51 = .ok (.goto 5, 3) := by decide +kernel
theorem dX6_comparison_54 : decode cX6_comparison 54 = .ok (.bipush (-9), 2) := by decide +kernel
theorem dX6_comparison_56 : decode cX6_comparison 56 = .ok (.istore_n 3, 1) := by decide +kernel
theorem dX6_comparison_57 : decode cX6_comparison 57 = .ok (.aload_n 0, 1) := by decide +kernel
theorem dX6_comparison_58 : decode cX6_comparison 58 = .ok (.getfield 9, 3) := by decide +kernel
theorem dX6_comparison_61 : decode cX6_comparison 61 = .ok (.invokevirtual 103, 3) := by decide +kernel
theorem dX6_comparison_64 : decode cX6_comparison 64 = .ok (.aload_n 0, 1) := by decide +kernel
theorem dX6_comparison_65 : decode cX6_comparison 65 = .ok (.iload_n 1, 1) := by decide +kernel
theorem dX6_comparison_66 : decode cX6_comparison 66 = .ok (.iload_n 2, 1) := by decide +kernel
theorem dX6_comparison_67 : decode cX6_comparison 67 = .ok (.invokevirtual 297, 3) := by decide +kernel
theorem dX6_comparison_70 : decode cX6_comparison 70 = .ok (.istore 4, 2) := by decide +kernel
theorem dX6_comparison_72 : decode cX6_comparison 72 = .ok (.aload_n 0, 1) := by decide +kernel
theorem dX6_comparison_73 : decode cX6_comparison 73 = .ok (.getfield 15, 3) := by decide +kernel
theorem dX6_comparison_76 : decode cX6_comparison 76 = .ok (.getfield 222, 3) := by decide +kernel
theorem dX6_comparison_79 : decode cX6_comparison 79 = .ok (.iload_n 3, 1) := by decide +kernel
theorem dX6_comparison_80 : decode cX6_comparison 80 = .ok (.invokevirtual 294, 3) := by decide +kernel
theorem dX6_comparison_83 : decode cX6_comparison 83 = .ok (.iload 4, 2) := by decide +kernel
theorem dX6_comparison_85 : decode cX6_comparison 85 = .ok (.ireturn, 1) := by decide +kernel
theorem dX6_total_0 : decode cX6_total 0 = .ok (.aload_n 0, 1) := by decide +kernel
theorem dX6_total_1 : decode cX6_total 1 = .ok (.iload_n 1, 1) := by decide +kernel
theorem dX6_total_2 : decode cX6_total 2 = .ok (.iload_n 2, 1) := by decide +kernel
theorem dX6_total_3 : decode cX6_total 3 = .ok (.invokevirtual 300, 3) := by decide +kernel
theorem dX6_total_6 : decode cX6_total 6 = .ok (.istore_n 3, 1) := by decide +kernel
theorem dX6_total_7 : decode cX6_total 7 = .ok (.iconst 0, 1) := by decide +kernel
theorem dX6_total_8 : decode cX6_total 8 = .ok (.istore 4, 2) := by decide +kernel
theorem dX6_total_10 : decode cX6_total 10 = .ok (.iload 4, 2) := by decide +kernel
theorem dX6_total_12 : decode cX6_total 12 = .ok (.sipush 1000, 3) := by decide +kernel
theorem dX6_total_15 : decode cX6_total 15 = .ok (.if_icmp .ge 84, 3) := by decide +kernel
theorem dX6_total_18 : decode cX6_total 18 = .ok (.iload_n 3, 1) := by decide +kernel
theorem dX6_total_19 : decode cX6_total 19 = .ok (.ifCond .eq 80, 3) := by decide +kernel
theorem dX6_total_22 : decode cX6_total 22 = .ok (.aload_n 0, 1) := by decide +kernel
theorem dX6_total_23 : decode cX6_total 23 = .ok (.getfield 9, 3) := by decide +kernel
theorem dX6_total_26 : decode cX6_total 26 = .ok (.bipush 43, 2) := by decide +kernel
theorem dX6_total_28 : decode cX6_total 28 = .ok (.invokevirtual 281, 3) := by decide +kernel
theorem dX6_total_31 : decode cX6_total 31 = .ok (.ifCond .ne 15, 3) := by decide +kernel
theorem dX6_total_34 : decode cX6_total 34 = .ok (.aload_n 0, 1) := by decide +kernel
theorem dX6_total_35 : decode cX6_total 35 = .ok (.getfield 9, 3) := by decide +kernel
theorem dX6_total_38 : decode cX6_total 38 = .ok (.bipush 45, 2) := by decide +kernel
theorem dX6_total_40 : decode cX6_total 40 = .ok (.invokevirtual 281, 3) := by decide +kernel
theorem dX6_total_43 : decode cX6_total 43 = .ok (.ifCond .eq 56, 3) := by decide +kernel
theorem dX6_total_46 : decode cX6_total 46 = .ok (.aload_n 0, 1) := by decide +kernel
theorem dX6_total_47 : decode cX6_total 47 = .ok (.getfield 9, 3) := by decide +kernel
theorem dX6_total_50 : decode cX6_total 50 = .ok (.bipush 43, 2) := by decide +kernel
theorem dX6_total_52 : decode cX6_total 52 = .ok (.invokevirtual 281, 3) := by decide +kernel
theorem dX6_total_55 : decode cX6_total 55 = .ok (.ifCond .eq 8, 3) := by decide +kernel
theorem dX6_total_58 : decode cX6_total 58 = .ok (.bipush (-10), 2) := by decide +kernel
theorem dX6_total_60 : decode cX6_total 60 = .ok (.goto 5, 3) := by decide +kernel
theorem dX6_total_63 : decode cX6_total 63 = .ok (.bipush (-11), 2) := by decide +kernel
theorem dX6_total_65 : decode cX6_total 65 = .ok (.istore 5, 2) := by decide +kernel
theorem dX6_total_67 : decode cX6_total 67 = .ok (.aload_n 0, 1) := by decide +kernel
theorem dX6_total_68 : decode cX6_total 68 = .ok (.getfield 9, 3) := by decide +kernel
theorem dX6_total_71 : decode cX6_total 71 = .ok (.invokevirtual 103, 3) := by decide +kernel
theorem dX6_total_74 : decode cX6_total 74 = .ok (.aload_n 0, 1) := by decide +kernel
theorem dX6_total_75 : decode cX6_total 75 = .ok (.iload_n 1, 1) := by decide +kernel
theorem dX6_total_76 : decode cX6_total 76 = .ok (.iload_n 2, 1) := by decide +kernel
theorem dX6_total_77 : decode cX6_total 77 = .ok (.invokevirtual 300, 3) := by decide +kernel
theorem dX6_total_80 : decode cX6_total 80 = .ok (.istore_n 3, 1) := by decide +kernel
theorem dX6_total_81 : decode cX6_total 81 = .ok (.aload_n 0, 1) := by decide +kernel
theorem dX6_total_82 : decode cX6_total 82 = .ok (.getfield 15, 3) := by decide +kernel
theorem dX6_total_85 : decode cX6_total 85 = .ok (.getfield 222, 3) := by decide +kernel
theorem dX6_total_88 : decode cX6_total 88 = .ok (.iload 5, 2) := by decide +kernel
theorem dX6_total_90 : decode cX6_total 90 = .ok (.invokevirtual 294, 3) := by decide +kernel
theorem dX6_total_93 : decode cX6_total 93 = .ok (.iinc 4 1, 3) := by decide +kernel
theorem dX6_total_96 : decode cX6_total 96 = .ok (.goto (-86), 3) := by decide +kernel
theorem dX6_total_99 : decode cX6_total 99 = .ok (.iload_n 3, 1) := by decide +kernel
theorem dX6_total_100 : decode cX6_total 100 = .ok (.ireturn, 1) := by decide +kernel
theorem dX6_product_0 : decode cX6_product 0 = .ok (.aload_n 0, 1) := by decide +kernel
theorem dX6_product_1 : decode cX6_product 1 = .ok (.iload_n 1, 1) := by decide +kernel
theorem dX6_product_2 : decode cX6_product 2 = .ok (.iload_n 2, 1) := by decide +kernel
theorem dX6_product_3 : decode cX6_product 3 = .ok (.invokevirtual 303, 3) := by decide +kernel
theorem dX6_product_6 : decode cX6_product 6 = .ok (.istore_n 3, 1) := by decide +kernel
theorem dX6_product_7 : decode cX6_product 7 = .ok (.iconst 0, 1) := by decide +kernel
theorem dX6_product_8 : decode cX6_product 8 = .ok (.istore 4, 2) := by decide +kernel
theorem dX6_product_10 : decode cX6_product 10 = .ok (.iload 4, 2) := by decide +kernel
theorem dX6_product_12 : decode cX6_product 12 = .ok (.sipush 1000, 3) := by decide +kernel
theorem dX6_product_15 : decode cX6_product 15 = .ok (.if_icmp .ge 51, 3) := by decide +kernel
theorem dX6_product_18 : decode cX6_product 18 = .ok (.iload_n 3, 1) := by decide +kernel
theorem dX6_product_19 : decode cX6_product 19 = .ok (.ifCond .eq 47, 3) := by decide +kernel
theorem dX6_product_22 : decode cX6_product 22 = .ok (.aload_n 0, 1) := by decide +kernel
theorem dX6_product_23 : decode cX6_product 23 = .ok (.getfield 9, 3) := by decide +kernel
theorem dX6_product_26 : decode cX6_product 26 = .ok (.bipush 42, 2) := by decide +kernel
theorem dX6_product_28 : decode cX6_product 28 = .ok (.invokevirtual 281, 3) := by decide +kernel
theorem dX6_product_31 : decode cX6_product 31 = .ok (.ifCond .eq 35, 3) := by decide +kernel
theorem dX6_product_34 : decode cX6_product 34 = .ok (.aload_n 0, 1) := by decide +kernel
theorem dX6_product_35 : decode cX6_product 35 = .ok (.getfield 9, 3) := by decide +kernel
theorem dX6_product_38 : decode cX6_product 38 = .ok (.invokevirtual 103, 3) := by decide +kernel
theorem dX6_product_41 : decode cX6_product 41 = .ok (.aload_n 0, 1) := by decide +kernel
theorem dX6_product_42 : decode cX6_product 42 = .ok (.iload_n 1, 1) := by decide +kernel
theorem dX6_product_43 : decode cX6_product 43 = .ok (.iload_n 2, 1) := by decide +kernel
theorem dX6_product_44 : decode cX6_product 44 = .ok (.invokevirtual 303, 3) := by decide +kernel
theorem dX6_product_47 : decode cX6_product 47 = .ok (.istore_n 3, 1) := by decide +kernel
theorem dX6_product_48 : decode cX6_product 48 = .ok (.aload_n 0, 1) := by decide +kernel
theorem dX6_product_49 : decode cX6_product 49 = .ok (.getfield 15, 3) := by decide +kernel
theorem dX6_product_52 : decode cX6_product 52 = .ok (.getfield 222, 3) := by decide +kernel
theorem dX6_product_55 : decode cX6_product 55 = .ok (.bipush (-12), 2) := by decide +kernel
theorem dX6_product_57 : decode cX6_product 57 = .ok (.invokevirtual 294, 3) := by decide +kernel
theorem dX6_product_60 : decode cX6_product 60 = .ok (.iinc 4 1, 3) := by decide +kernel
theorem dX6_product_63 : decode cX6_product 63 = .ok (.goto (-53), 3) := by decide +kernel
theorem dX6_product_66 : decode cX6_product 66 = .ok (.iload_n 3, 1) := by decide +kernel
theorem dX6_product_67 : decode cX6_product 67 = .ok (.ireturn, 1) := by decide +kernel
theorem dX6_part_0 : decode cX6_part 0 = .ok (.aload_n 0, 1) := by decide +kernel
theorem dX6_part_1 : decode cX6_part 1 = .ok (.iload_n 1, 1) := by decide +kernel
theorem dX6_part_2 : decode cX6_part 2 = .ok (.invokevirtual 306, 3) := by decide +kernel
theorem dX6_part_5 : decode cX6_part 5 = .ok (.istore_n 3, 1) := by decide +kernel
theorem dX6_part_6 : decode cX6_part 6 = .ok (.aload_n 0, 1) := by decide +kernel
theorem dX6_part_7 : decode cX6_part 7 = .ok (.getfield 9, 3) := by decide +kernel
theorem dX6_part_10 : decode cX6_part 10 = .ok (.bipush 40, 2) := by decide +kernel
theorem dX6_part_12 : decode cX6_part 12 = .ok (.invokevirtual 281, 3) := by decide +kernel
theorem dX6_part_15 : decode cX6_part 15 = .ok (.istore 4, 2) := by decide +kernel
theorem dX6_part_17 : decode cX6_part 17 = .ok (.aload_n 0, 1) := by decide +kernel
theorem dX6_part_18 : decode cX6_part 18 = .ok (.getfield 9, 3) := by decide +kernel
theorem dX6_part_21 : decode cX6_part 21 = .ok (.getfield 58, 3) := by decide +kernel
theorem dX6_part_24 : decode cX6_part 24 = .ok (.getstatic 309, 3) := by decide +kernel
theorem dX6_part_27 : decode cX6_part 27 = .ok (.if_acmp .ne 7, 3) := by decide +kernel
theorem dX6_part_30 : decode cX6_part 30 = .ok (.iconst 1, 1) := by decide +kernel
theorem dX6_part_31 : decode cX6_part 31 = .ok (.goto 4, 3) := by decide +kernel
theorem dX6_part_34 : decode cX6_part 34 = .ok (.iconst 0, 1) := by decide +kernel
theorem dX6_part_35 : decode cX6_part 35 = .ok (.istore 5, 2) := by decide +kernel
theorem dX6_part_37 : decode cX6_part 37 = .ok (.aload_n 0, 1) := by decide +kernel
theorem dX6_part_38 : decode cX6_part 38 = .ok (.getfield 9, 3) := by decide +kernel
theorem dX6_part_41 : decode cX6_part 41 = .ok (.getfield 33, 3) := by decide +kernel
theorem dX6_part_44 : decode cX6_part 44 = .ok (.iconst 3, 1) := by decide +kernel
theorem dX6_part_45 : decode cX6_part 45 = .ok (.if_icmp .eq 23, 3) := by decide +kernel
theorem dX6_part_48 : decode cX6_part 48 = .ok (.iload_n 3, 1) := by decide +kernel
theorem dX6_part_49 : decode cX6_part 49 = .ok (.ifCond .ne 19, 3) := by decide +kernel
theorem dX6_part_52 : decode cX6_part 52 = .ok (.iload 4, 2) := by decide +kernel
theorem dX6_part_54 : decode cX6_part 54 = .ok (.ifCond .ne 14, 3) := by decide +kernel
theorem dX6_part_57 : decode cX6_part 57 = .ok (.iload 5, 2) := by decide +kernel
theorem dX6_part_59 : decode cX6_part 59 = .ok (.ifCond .ne 9, 3) := by decide +kernel
theorem dX6_part_62 : decode cX6_part 62 = .ok (.aload_n 0, 1) := by decide +kernel
theorem dX6_part_63 : decode cX6_part 63 = .ok (.iconst 1, 1) := by decide +kernel
theorem dX6_part_64 : decode cX6_part 64 = .ok (.invokevirtual 62, 3) := by decide +kernel
theorem dX6_part_67 : decode cX6_part 67 = .ok (.ireturn, 1) := by decide +kernel
theorem dX6_part_68 : decode cX6_part 68 = .ok (.iload_n 2, 1) := by decide +kernel
theorem dX6_part_69 : decode cX6_part 69 = .ok (.iconst 5, 1) := by decide +kernel
theorem dX6_part_70 : decode cX6_part 70 = .ok (.if_icmp .lt 9, 3) := by decide +kernel
theorem dX6_part_73 : decode cX6_part 73 = .ok (.aload_n 0, 1) := by decide +kernel
theorem dX6_part_74 : decode cX6_part 74 = .ok (.iconst 5, 1) := by decide +kernel
theorem dX6_part_75 : decode cX6_part 75 = .ok (.invokevirtual 62, 3) := by decide +kernel
theorem dX6_part_78 : decode cX6_part 78 = .ok (.ireturn, 1) := by decide +kernel
theorem dX6_part_79 : decode cX6_part 79 = .ok (.aload_n 0, 1) := by decide +kernel
theorem dX6_part_80 : decode cX6_part 80 = .ok (.getfield 9, 3) := by decide +kernel
theorem dX6_part_83 : decode cX6_part 83 = .ok (.getfield 274, 3) := by decide +kernel
theorem dX6_part_86 : decode cX6_part 86 = .ok (.istore 6, 2) := by decide +kernel
theorem dX6_part_88 : decode cX6_part 88 = .ok (.aload_n 0, 1) := by decide +kernel
theorem dX6_part_89 : decode cX6_part 89 = .ok (.getfield 9, 3) := by decide +kernel
theorem dX6_part_92 : decode cX6_part 92 = .ok (.invokevirtual 103, 3) := by decide +kernel
theorem dX6_part_95 : decode cX6_part 95 = .ok (.iload 5, 2) := by decide +kernel
theorem dX6_part_97 : decode cX6_part 97 = .ok (.ifCond .eq 28, 3) := by decide +kernel
theorem dX6_part_100 : decode cX6_part 100 = .ok (.aload_n 0, 1) := by decide +kernel
theorem dX6_part_101 : decode cX6_part 101 = .ok (.iload_n 1, 1) := by decide +kernel
theorem dX6_part_102 : decode cX6_part 102 = .ok (.iload_n 2, 1) := by decide +kernel
theorem dX6_part_103 : decode cX6_part 103 = .ok (.iconst 1, 1) := by decide +kernel
theorem dX6_part_104 : decode cX6_part 104 = .ok (.iadd, 1) := by decide +kernel
theorem dX6_part_105 : decode cX6_part 105 = .ok (.invokevirtual 303, 3) := by decide +kernel
theorem dX6_part_108 : decode cX6_part 108 = .ok (.istore 7, 2) := by decide +kernel
theorem dX6_part_110 : decode cX6_part 110 = .ok (.aload_n 0, 1) := by decide +kernel
theorem dX6_part_111 : decode cX6_part 111 = .ok (.getfield 15, 3) := by decide +kernel
theorem dX6_part_114 : decode cX6_part 114 = .ok (.getfield 222, 3) := by decide +kernel
theorem dX6_part_117 : decode cX6_part 117 = .ok (.bipush (-5), 2) := by decide +kernel
theorem dX6_part_119 : decode cX6_part 119 = .ok (.invokevirtual 294, 3) := by decide +kernel
theorem dX6_part_122 : decode cX6_part 122 = .ok (.iload 7, 2) := by decide +kernel
theorem dX6_part_124 : decode cX6_part 124 = .ok (.ireturn, 1) := by decide +kernel
theorem dX6_part_125 : decode cX6_part 125 = .ok (.iload 4, 2) := by decide +kernel
theorem dX6_part_127 : decode cX6_part 127 = .ok (.ifCond .ne 25, 3) := by decide +kernel
theorem dX6_part_130 : decode cX6_part 130 = .ok (.aload_n 0, 1) := by decide +kernel
theorem dX6_part_131 : decode cX6_part 131 = .ok (.getfield 15, 3) := by decide +kernel
theorem dX6_part_134 : decode cX6_part 134 = .ok (.getfield 222, 3) := by decide +kernel
theorem dX6_part_137 : decode cX6_part 137 = .ok (.iload_n 3, 1) := by decide +kernel
theorem dX6_part_138 : decode cX6_part 138 = .ok (.ifCond .ne 8, 3) := by decide +kernel
theorem dX6_part_141 : decode cX6_part 141 = .ok (.iload 6, 2) := by decide +kernel
theorem dX6_part_143 : decode cX6_part 143 = .ok (.goto 4, 3) := by decide +kernel
theorem dX6_part_146 : decode cX6_part 146 = .ok (.iload_n 3, 1) := by decide +kernel
theorem dX6_part_147 : decode cX6_part 147 = .ok (.invokevirtual 294, 3) := by decide +kernel
theorem dX6_part_150 : decode cX6_part 150 = .ok (.iconst 1, 1) := by decide +kernel
theorem dX6_part_151 : decode cX6_part 151 = .ok (.ireturn, 1) := by decide +kernel
theorem dX6_part_152 : decode cX6_part 152 = .ok (.aload_n 0, 1) := by decide +kernel
theorem dX6_part_153 : decode cX6_part 153 = .ok (.iload_n 1, 1) := by decide +kernel
theorem dX6_part_154 : decode cX6_part 154 = .ok (.iload_n 2, 1) := by decide +kernel
theorem dX6_part_155 : decode cX6_part 155 = .ok (.iconst 1, 1) := by decide +kernel
theorem dX6_part_156 : decode cX6_part 156 = .ok (.iadd, 1) := by decide +kernel
theorem dX6_part_157 : decode cX6_part 157 = .ok (.invokevirtual 234, 3) := by decide +kernel
theorem dX6_part_160 : decode cX6_part 160 = .ok (.ifCond .ne 5, 3) := by decide +kernel
theorem dX6_part_163 : decode cX6_part 163 = .ok (.iconst 0, 1) := by decide +kernel
theorem dX6_part_164 : decode cX6_part 164 = .ok (.ireturn, 1) := by decide +kernel
theorem dX6_part_165 : decode cX6_part 165 = .ok (.aload_n 0, 1) := by decide +kernel
theorem dX6_part_166 : decode cX6_part 166 = .ok (.getfield 9, 3) := by decide +kernel
theorem dX6_part_169 : decode cX6_part 169 = .ok (.bipush 41, 2) := by decide +kernel
theorem dX6_part_171 : decode cX6_part 171 = .ok (.invokevirtual 281, 3) := by decide +kernel
theorem dX6_part_174 : decode cX6_part 174 = .ok (.ifCond .ne 9, 3) := by decide +kernel
theorem dX6_part_177 : decode cX6_part 177 = .ok (.aload_n 0, 1) := by decide +kernel
theorem dX6_part_178 : decode cX6_part 178 = .ok (.iconst 1, 1) := by decide +kernel
theorem dX6_part_179 : decode cX6_part 179 = .ok (.invokevirtual 62, 3) := by decide +kernel
theorem dX6_part_182 : decode cX6_part 182 = .ok (.ireturn, 1) := by decide +kernel
theorem dX6_part_183 : decode cX6_part 183 = .ok (.aload_n 0, 1) := by decide +kernel
theorem dX6_part_184 : decode cX6_part 184 = .ok (.getfield 9, 3) := by decide +kernel
theorem dX6_part_187 : decode cX6_part 187 = .ok (.invokevirtual 103, 3) := by decide +kernel
theorem dX6_part_190 : decode cX6_part 190 = .ok (.iconst 1, 1) := by decide +kernel
theorem dX6_part_191 : decode cX6_part 191 = .ok (.ireturn, 1) := by decide +kernel
theorem dX6_factSpelt_0 : decode cX6_factSpelt 0 = .ok (.aload_n 0, 1) := by decide +kernel
theorem dX6_factSpelt_1 : decode cX6_factSpelt 1 = .ok (.getfield 9, 3) := by decide +kernel
theorem dX6_factSpelt_4 : decode cX6_factSpelt 4 = .ok (.getfield 58, 3) := by decide +kernel
theorem dX6_factSpelt_7 : decode cX6_factSpelt 7 = .ok (.astore_n 2, 1) := by decide +kernel
theorem dX6_factSpelt_8 : decode cX6_factSpelt 8 = .ok (.aload_n 2, 1) := by decide +kernel
theorem dX6_factSpelt_9 : decode cX6_factSpelt 9 = .ok (.getstatic 312, 3) := by decide +kernel
theorem dX6_factSpelt_12 : decode cX6_factSpelt 12 = .ok (.if_acmp .ne 5, 3) := by decide +kernel
theorem dX6_factSpelt_15 : decode cX6_factSpelt 15 = .ok (.iconst (-1), 1) := by decide +kernel
theorem dX6_factSpelt_16 : decode cX6_factSpelt 16 = .ok (.ireturn, 1) := by decide +kernel
theorem dX6_factSpelt_17 : decode cX6_factSpelt 17 = .ok (.aload_n 2, 1) := by decide +kernel
theorem dX6_factSpelt_18 : decode cX6_factSpelt 18 = .ok (.getstatic 315, 3) := by decide +kernel
theorem dX6_factSpelt_21 : decode cX6_factSpelt 21 = .ok (.if_acmp .ne 6, 3) := by decide +kernel
theorem dX6_factSpelt_24 : decode cX6_factSpelt 24 = .ok (.bipush (-2), 2) := by decide +kernel
theorem dX6_factSpelt_26 : decode cX6_factSpelt 26 = .ok (.ireturn, 1) := by decide +kernel
theorem dX6_factSpelt_27 : decode cX6_factSpelt 27 = .ok (.aload_n 2, 1) := by decide +kernel
theorem dX6_factSpelt_28 : decode cX6_factSpelt 28 = .ok (.ifnull 23, 3) := by decide +kernel
theorem dX6_factSpelt_31 : decode cX6_factSpelt 31 = .ok (.aload_n 2, 1) := by decide +kernel
theorem dX6_factSpelt_32 : decode cX6_factSpelt 32 = .ok (.iload_n 1, 1) := by decide +kernel
theorem dX6_factSpelt_33 : decode cX6_factSpelt 33 = .ok (.ifCond .eq 9, 3) := by decide +kernel
theorem dX6_factSpelt_36 : decode cX6_factSpelt 36 = .ok (.getstatic 318, 3) := by decide +kernel
theorem dX6_factSpelt_39 : decode cX6_factSpelt 39 = .ok (.goto 6, 3) := by decide +kernel
theorem dX6_factSpelt_42 : decode cX6_factSpelt 42 = .ok (.getstatic 321, 3) := by decide +kernel
theorem dX6_factSpelt_45 : decode cX6_factSpelt 45 = .ok (.if_acmp .ne 6, 3) := by decide +kernel
theorem dX6_factSpelt_48 : decode cX6_factSpelt 48 = .ok (.bipush (-3), 2) := by decide +kernel
theorem dX6_factSpelt_50 : decode cX6_factSpelt 50 = .ok (.ireturn, 1) := by decide +kernel
theorem dX6_factSpelt_51 : decode cX6_factSpelt 51 = .ok (.aload_n 2, 1) := by decide +kernel
theorem dX6_factSpelt_52 : decode cX6_factSpelt 52 = .ok (.ifnull 25, 3) := by decide +kernel
theorem dX6_factSpelt_55 : decode cX6_factSpelt 55 = .ok (.aload_n 2, 1) := by decide +kernel
theorem dX6_factSpelt_56 : decode cX6_factSpelt 56 = .ok (.iload_n 1, 1) := by decide +kernel
theorem dX6_factSpelt_57 : decode cX6_factSpelt 57 = .ok (.ifCond .eq 9, 3) := by decide +kernel
theorem dX6_factSpelt_60 : decode cX6_factSpelt 60 = .ok (.getstatic 324, 3) := by decide +kernel
theorem dX6_factSpelt_63 : decode cX6_factSpelt 63 = .ok (.goto 6, 3) := by decide +kernel
theorem dX6_factSpelt_66 : decode cX6_factSpelt 66 = .ok (.getstatic 327, 3) := by decide +kernel
theorem dX6_factSpelt_69 : decode cX6_factSpelt 69 = .ok (.if_acmp .ne 8, 3) := by decide +kernel
theorem dX6_factSpelt_72 : decode cX6_factSpelt 72 = .ok (.bipush (-4), 2) := by decide +kernel
theorem dX6_factSpelt_74 : decode cX6_factSpelt 74 = .ok (.goto 4, 3) := by decide +kernel
theorem dX6_factSpelt_77 : decode cX6_factSpelt 77 = .ok (.iconst 0, 1) := by decide +kernel
theorem dX6_factSpelt_78 : decode cX6_factSpelt 78 = .ok (.ireturn, 1) := by decide +kernel
theorem dX7_init_0 : decode cX7_init 0 = .ok (.aload_n 0, 1) := by decide +kernel
theorem dX7_init_1 : decode cX7_init 1 = .ok (.invokespecial 3, 3) := by decide +kernel
theorem dX7_init_4 : decode cX7_init 4 = .ok (.aload_n 0, 1) := by decide +kernel
theorem dX7_init_5 : decode cX7_init 5 = .ok (.bipush 8, 2) := by decide +kernel
theorem dX7_init_7 : decode cX7_init 7 = .ok (.newarray .int, 2) := by decide +kernel
theorem dX7_init_9 : decode cX7_init 9 = .ok (.putfield 9, 3) := by decide +kernel
theorem dX7_init_12 : decode cX7_init 12 = .ok (.aload_n 0, 1) := by decide +kernel
theorem dX7_init_13 : decode cX7_init 13 = .ok (.bipush 8, 2) := by decide +kernel
theorem dX7_init_15 : decode cX7_init 15 = .ok (.newarray .int, 2) := by decide +kernel
theorem dX7_init_17 : decode cX7_init 17 = .ok (.putfield 15, 3) := by decide +kernel
theorem dX7_init_20 : decode cX7_init 20 = .ok (.aload_n 0, 1) := by decide +kernel
theorem dX7_init_21 : decode cX7_init 21 = .ok (.bipush 8, 2) := by decide +kernel
theorem dX7_init_23 : decode cX7_init 23 = .ok (.newarray .int, 2) := by decide +kernel
theorem dX7_init_25 : decode cX7_init 25 = .ok (.putfield 18, 3) := by decide +kernel
theorem dX7_init_28 : decode cX7_init 28 = .ok (.return_, 1) := by decide +kernel
theorem dX7_add_0 : decode cX7_add 0 = .ok (.aload_n 0, 1) := by decide +kernel
theorem dX7_add_1 : decode cX7_add 1 = .ok (.getfield 21, 3) := by decide +kernel
theorem dX7_add_4 : decode cX7_add 4 = .ok (.bipush 8, 2) := by decide +kernel
theorem dX7_add_6 : decode cX7_add 6 = .ok (.if_icmp .lt 5, 3) := by decide +kernel
theorem dX7_add_9 : decode cX7_add 9 = .ok (.iconst 0, 1) := by decide +kernel
theorem dX7_add_10 : decode cX7_add 10 = .ok (.ireturn, 1) := by decide +kernel
theorem dX7_add_11 : decode cX7_add 11 = .ok (.aload_n 0, 1) := by decide +kernel
theorem dX7_add_12 : decode cX7_add 12 = .ok (.getfield 9, 3) := by decide +kernel
theorem dX7_add_15 : decode cX7_add 15 = .ok (.aload_n 0, 1) := by decide +kernel
theorem dX7_add_16 : decode cX7_add 16 = .ok (.getfield 21, 3) := by decide +kernel
theorem dX7_add_19 : decode cX7_add 19 = .ok (.iload_n 1, 1) := by decide +kernel
theorem dX7_add_20 : decode cX7_add 20 = .ok (.invokestatic 25, 3) := by decide +kernel
theorem dX7_add_23 : decode cX7_add 23 = .ok (.aload_n 0, 1) := by decide +kernel
theorem dX7_add_24 : decode cX7_add 24 = .ok (.getfield 15, 3) := by decide +kernel
theorem dX7_add_27 : decode cX7_add 27 = .ok (.aload_n 0, 1) := by decide +kernel
theorem dX7_add_28 : decode cX7_add 28 = .ok (.getfield 21, 3) := by decide +kernel
theorem dX7_add_31 : decode cX7_add 31 = .ok (.iload_n 2, 1) := by decide +kernel
theorem dX7_add_32 : decode cX7_add 32 = .ok (.invokestatic 25, 3) := by decide +kernel
theorem dX7_add_35 : decode cX7_add 35 = .ok (.aload_n 0, 1) := by decide +kernel
theorem dX7_add_36 : decode cX7_add 36 = .ok (.getfield 18, 3) := by decide +kernel
theorem dX7_add_39 : decode cX7_add 39 = .ok (.aload_n 0, 1) := by decide +kernel
theorem dX7_add_40 : decode cX7_add 40 = .ok (.getfield 21, 3) := by decide +kernel
theorem dX7_add_43 : decode cX7_add 43 = .ok (.iload_n 3, 1) := by decide +kernel
theorem dX7_add_44 : decode cX7_add 44 = .ok (.invokestatic 25, 3) := by decide +kernel
theorem dX7_add_47 : decode cX7_add 47 = .ok (.aload_n 0, 1) := by decide +kernel
theorem dX7_add_48 : decode cX7_add 48 = .ok (.dup, 1) := by decide +kernel
