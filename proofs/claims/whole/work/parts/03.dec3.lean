theorem dX13_name_41 : decode cX13_name 41 = .ok (.aload_n 0, 1) := by decide +kernel
theorem dX13_name_42 : decode cX13_name 42 = .ok (.invokevirtual 456, 3) := by decide +kernel
theorem dX13_name_45 : decode cX13_name 45 = .ok (.aload_n 0, 1) := by decide +kernel
theorem dX13_name_46 : decode cX13_name 46 = .ok (.iload_n 2, 1) := by decide +kernel
theorem dX13_name_47 : decode cX13_name 47 = .ok (.invokevirtual 459, 3) := by decide +kernel
theorem dX13_name_50 : decode cX13_name 50 = .ok (.iconst 1, 1) := by decide +kernel
theorem dX13_name_51 : decode cX13_name 51 = .ok (.ireturn, 1) := by decide +kernel
theorem dX13_master_0 : decode cX13_master 0 = .ok (.aload_n 0, 1) := by decide +kernel
theorem dX13_master_1 : decode cX13_master 1 = .ok (.iconst 0, 1) := by decide +kernel
theorem dX13_master_2 : decode cX13_master 2 = .ok (.putfield 153, 3) := by decide +kernel
theorem dX13_master_5 : decode cX13_master 5 = .ok (.aload_n 0, 1) := by decide +kernel
theorem dX13_master_6 : decode cX13_master 6 = .ok (.iload_n 1, 1) := by decide +kernel
theorem dX13_master_7 : decode cX13_master 7 = .ok (.invokevirtual 443, 3) := by decide +kernel
theorem dX13_master_10 : decode cX13_master 10 = .ok (.ifCond .eq 21, 3) := by decide +kernel
theorem dX13_master_13 : decode cX13_master 13 = .ok (.aload_n 0, 1) := by decide +kernel
theorem dX13_master_14 : decode cX13_master 14 = .ok (.iload_n 1, 1) := by decide +kernel
theorem dX13_master_15 : decode cX13_master 15 = .ok (.invokevirtual 462, 3) := by decide +kernel
theorem dX13_master_18 : decode cX13_master 18 = .ok (.ifCond .eq 13, 3) := by decide +kernel
theorem dX13_master_21 : decode cX13_master 21 = .ok (.aload_n 0, 1) := by decide +kernel
theorem dX13_master_22 : decode cX13_master 22 = .ok (.getfield 120, 3) := by decide +kernel
theorem dX13_master_25 : decode cX13_master 25 = .ok (.iconst 2, 1) := by decide +kernel
theorem dX13_master_26 : decode cX13_master 26 = .ok (.iaload, 1) := by decide +kernel
theorem dX13_master_27 : decode cX13_master 27 = .ok (.iload_n 1, 1) := by decide +kernel
theorem dX13_master_28 : decode cX13_master 28 = .ok (.if_icmp .ne 5, 3) := by decide +kernel
theorem dX13_master_31 : decode cX13_master 31 = .ok (.iconst 0, 1) := by decide +kernel
theorem dX13_master_32 : decode cX13_master 32 = .ok (.ireturn, 1) := by decide +kernel
theorem dX13_master_33 : decode cX13_master 33 = .ok (.aload_n 0, 1) := by decide +kernel
theorem dX13_master_34 : decode cX13_master 34 = .ok (.invokevirtual 456, 3) := by decide +kernel
theorem dX13_master_37 : decode cX13_master 37 = .ok (.aload_n 0, 1) := by decide +kernel
theorem dX13_master_38 : decode cX13_master 38 = .ok (.getfield 120, 3) := by decide +kernel
theorem dX13_master_41 : decode cX13_master 41 = .ok (.iconst 2, 1) := by decide +kernel
theorem dX13_master_42 : decode cX13_master 42 = .ok (.iload_n 1, 1) := by decide +kernel
theorem dX13_master_43 : decode cX13_master 43 = .ok (.iastore, 1) := by decide +kernel
theorem dX13_master_44 : decode cX13_master 44 = .ok (.iconst 1, 1) := by decide +kernel
theorem dX13_master_45 : decode cX13_master 45 = .ok (.ireturn, 1) := by decide +kernel
theorem dX13_month_0 : decode cX13_month 0 = .ok (.aload_n 0, 1) := by decide +kernel
theorem dX13_month_1 : decode cX13_month 1 = .ok (.iconst 0, 1) := by decide +kernel
theorem dX13_month_2 : decode cX13_month 2 = .ok (.putfield 153, 3) := by decide +kernel
theorem dX13_month_5 : decode cX13_month 5 = .ok (.aload_n 0, 1) := by decide +kernel
theorem dX13_month_6 : decode cX13_month 6 = .ok (.iload_n 1, 1) := by decide +kernel
theorem dX13_month_7 : decode cX13_month 7 = .ok (.invokevirtual 446, 3) := by decide +kernel
theorem dX13_month_10 : decode cX13_month 10 = .ok (.ifCond .ne 5, 3) := by decide +kernel
theorem dX13_month_13 : decode cX13_month 13 = .ok (.iconst (-1), 1) := by decide +kernel
theorem dX13_month_14 : decode cX13_month 14 = .ok (.ireturn, 1) := by decide +kernel
theorem dX13_month_15 : decode cX13_month 15 = .ok (.aload_n 0, 1) := by decide +kernel
theorem dX13_month_16 : decode cX13_month 16 = .ok (.invokevirtual 456, 3) := by decide +kernel
theorem dX13_month_19 : decode cX13_month 19 = .ok (.aload_n 0, 1) := by decide +kernel
theorem dX13_month_20 : decode cX13_month 20 = .ok (.iload_n 1, 1) := by decide +kernel
theorem dX13_month_21 : decode cX13_month 21 = .ok (.iconst (-1), 1) := by decide +kernel
theorem dX13_month_22 : decode cX13_month 22 = .ok (.invokevirtual 465, 3) := by decide +kernel
theorem dX13_month_25 : decode cX13_month 25 = .ok (.ireturn, 1) := by decide +kernel
theorem dX13_canDisobey_0 : decode cX13_canDisobey 0 = .ok (.aload_n 0, 1) := by decide +kernel
theorem dX13_canDisobey_1 : decode cX13_canDisobey 1 = .ok (.getfield 120, 3) := by decide +kernel
theorem dX13_canDisobey_4 : decode cX13_canDisobey 4 = .ok (.iconst 1, 1) := by decide +kernel
theorem dX13_canDisobey_5 : decode cX13_canDisobey 5 = .ok (.iaload, 1) := by decide +kernel
theorem dX13_canDisobey_6 : decode cX13_canDisobey 6 = .ok (.ifCond .lt 16, 3) := by decide +kernel
theorem dX13_canDisobey_9 : decode cX13_canDisobey 9 = .ok (.aload_n 0, 1) := by decide +kernel
theorem dX13_canDisobey_10 : decode cX13_canDisobey 10 = .ok (.getfield 120, 3) := by decide +kernel
theorem dX13_canDisobey_13 : decode cX13_canDisobey 13 = .ok (.iconst 2, 1) := by decide +kernel
theorem dX13_canDisobey_14 : decode cX13_canDisobey 14 = .ok (.iaload, 1) := by decide +kernel
theorem dX13_canDisobey_15 : decode cX13_canDisobey 15 = .ok (.ifCond .lt 7, 3) := by decide +kernel
theorem dX13_canDisobey_18 : decode cX13_canDisobey 18 = .ok (.iconst 1, 1) := by decide +kernel
theorem dX13_canDisobey_19 : decode cX13_canDisobey 19 = .ok (.goto 4, 3) := by decide +kernel
theorem dX13_canDisobey_22 : decode cX13_canDisobey 22 = .ok (.iconst 0, 1) := by decide +kernel
theorem dX13_canDisobey_23 : decode cX13_canDisobey 23 = .ok (.ireturn, 1) := by decide +kernel
theorem dX13_disobey_0 : decode cX13_disobey 0 = .ok (.aload_n 0, 1) := by decide +kernel
theorem dX13_disobey_1 : decode cX13_disobey 1 = .ok (.iconst 0, 1) := by decide +kernel
theorem dX13_disobey_2 : decode cX13_disobey 2 = .ok (.putfield 153, 3) := by decide +kernel
theorem dX13_disobey_5 : decode cX13_disobey 5 = .ok (.aload_n 0, 1) := by decide +kernel
theorem dX13_disobey_6 : decode cX13_disobey 6 = .ok (.iload_n 1, 1) := by decide +kernel
theorem dX13_disobey_7 : decode cX13_disobey 7 = .ok (.invokevirtual 446, 3) := by decide +kernel
theorem dX13_disobey_10 : decode cX13_disobey 10 = .ok (.ifCond .eq 23, 3) := by decide +kernel
theorem dX13_disobey_13 : decode cX13_disobey 13 = .ok (.aload_n 0, 1) := by decide +kernel
theorem dX13_disobey_14 : decode cX13_disobey 14 = .ok (.iload_n 2, 1) := by decide +kernel
theorem dX13_disobey_15 : decode cX13_disobey 15 = .ok (.invokevirtual 446, 3) := by decide +kernel
theorem dX13_disobey_18 : decode cX13_disobey 18 = .ok (.ifCond .eq 15, 3) := by decide +kernel
theorem dX13_disobey_21 : decode cX13_disobey 21 = .ok (.iload_n 1, 1) := by decide +kernel
theorem dX13_disobey_22 : decode cX13_disobey 22 = .ok (.iload_n 2, 1) := by decide +kernel
theorem dX13_disobey_23 : decode cX13_disobey 23 = .ok (.if_icmp .eq 10, 3) := by decide +kernel
theorem dX13_disobey_26 : decode cX13_disobey 26 = .ok (.aload_n 0, 1) := by decide +kernel
theorem dX13_disobey_27 : decode cX13_disobey 27 = .ok (.invokevirtual 468, 3) := by decide +kernel
theorem dX13_disobey_30 : decode cX13_disobey 30 = .ok (.ifCond .ne 5, 3) := by decide +kernel
theorem dX13_disobey_33 : decode cX13_disobey 33 = .ok (.iconst (-1), 1) := by decide +kernel
theorem dX13_disobey_34 : decode cX13_disobey 34 = .ok (.ireturn, 1) := by decide +kernel
theorem dX13_disobey_35 : decode cX13_disobey 35 = .ok (.aload_n 0, 1) := by decide +kernel
theorem dX13_disobey_36 : decode cX13_disobey 36 = .ok (.invokevirtual 456, 3) := by decide +kernel
theorem dX13_disobey_39 : decode cX13_disobey 39 = .ok (.aload_n 0, 1) := by decide +kernel
theorem dX13_disobey_40 : decode cX13_disobey 40 = .ok (.iload_n 1, 1) := by decide +kernel
theorem dX13_disobey_41 : decode cX13_disobey 41 = .ok (.iload_n 2, 1) := by decide +kernel
theorem dX13_disobey_42 : decode cX13_disobey 42 = .ok (.invokevirtual 465, 3) := by decide +kernel
theorem dX13_disobey_45 : decode cX13_disobey 45 = .ok (.ireturn, 1) := by decide +kernel
theorem dX13_canLay_0 : decode cX13_canLay 0 = .ok (.aload_n 0, 1) := by decide +kernel
theorem dX13_canLay_1 : decode cX13_canLay 1 = .ok (.getfield 120, 3) := by decide +kernel
theorem dX13_canLay_4 : decode cX13_canLay 4 = .ok (.iconst 1, 1) := by decide +kernel
theorem dX13_canLay_5 : decode cX13_canLay 5 = .ok (.iaload, 1) := by decide +kernel
theorem dX13_canLay_6 : decode cX13_canLay 6 = .ok (.ifCond .lt 16, 3) := by decide +kernel
theorem dX13_canLay_9 : decode cX13_canLay 9 = .ok (.aload_n 0, 1) := by decide +kernel
theorem dX13_canLay_10 : decode cX13_canLay 10 = .ok (.getfield 120, 3) := by decide +kernel
theorem dX13_canLay_13 : decode cX13_canLay 13 = .ok (.iconst 4, 1) := by decide +kernel
theorem dX13_canLay_14 : decode cX13_canLay 14 = .ok (.iaload, 1) := by decide +kernel
theorem dX13_canLay_15 : decode cX13_canLay 15 = .ok (.ifCond .ne 7, 3) := by decide +kernel
theorem dX13_canLay_18 : decode cX13_canLay 18 = .ok (.iconst 1, 1) := by decide +kernel
theorem dX13_canLay_19 : decode cX13_canLay 19 = .ok (.goto 4, 3) := by decide +kernel
theorem dX13_canLay_22 : decode cX13_canLay 22 = .ok (.iconst 0, 1) := by decide +kernel
theorem dX13_canLay_23 : decode cX13_canLay 23 = .ok (.ireturn, 1) := by decide +kernel
theorem dX13_laysDown_0 : decode cX13_laysDown 0 = .ok (.aload_n 0, 1) := by decide +kernel
theorem dX13_laysDown_1 : decode cX13_laysDown 1 = .ok (.getfield 120, 3) := by decide +kernel
theorem dX13_laysDown_4 : decode cX13_laysDown 4 = .ok (.iconst 3, 1) := by decide +kernel
theorem dX13_laysDown_5 : decode cX13_laysDown 5 = .ok (.iaload, 1) := by decide +kernel
theorem dX13_laysDown_6 : decode cX13_laysDown 6 = .ok (.istore_n 1, 1) := by decide +kernel
theorem dX13_laysDown_7 : decode cX13_laysDown 7 = .ok (.aload_n 0, 1) := by decide +kernel
theorem dX13_laysDown_8 : decode cX13_laysDown 8 = .ok (.aload_n 0, 1) := by decide +kernel
theorem dX13_laysDown_9 : decode cX13_laysDown 9 = .ok (.getfield 120, 3) := by decide +kernel
theorem dX13_laysDown_12 : decode cX13_laysDown 12 = .ok (.iconst 1, 1) := by decide +kernel
theorem dX13_laysDown_13 : decode cX13_laysDown 13 = .ok (.iaload, 1) := by decide +kernel
theorem dX13_laysDown_14 : decode cX13_laysDown 14 = .ok (.iload_n 1, 1) := by decide +kernel
theorem dX13_laysDown_15 : decode cX13_laysDown 15 = .ok (.invokevirtual 431, 3) := by decide +kernel
theorem dX13_laysDown_18 : decode cX13_laysDown 18 = .ok (.aload_n 0, 1) := by decide +kernel
theorem dX13_laysDown_19 : decode cX13_laysDown 19 = .ok (.invokevirtual 413, 3) := by decide +kernel
theorem dX13_laysDown_22 : decode cX13_laysDown 22 = .ok (.iload_n 1, 1) := by decide +kernel
theorem dX13_laysDown_23 : decode cX13_laysDown 23 = .ok (.ireturn, 1) := by decide +kernel
theorem dX13_lay_0 : decode cX13_lay 0 = .ok (.aload_n 0, 1) := by decide +kernel
theorem dX13_lay_1 : decode cX13_lay 1 = .ok (.iconst 0, 1) := by decide +kernel
theorem dX13_lay_2 : decode cX13_lay 2 = .ok (.putfield 153, 3) := by decide +kernel
theorem dX13_lay_5 : decode cX13_lay 5 = .ok (.aload_n 0, 1) := by decide +kernel
theorem dX13_lay_6 : decode cX13_lay 6 = .ok (.invokevirtual 471, 3) := by decide +kernel
theorem dX13_lay_9 : decode cX13_lay 9 = .ok (.ifCond .ne 5, 3) := by decide +kernel
theorem dX13_lay_12 : decode cX13_lay 12 = .ok (.iconst (-1), 1) := by decide +kernel
theorem dX13_lay_13 : decode cX13_lay 13 = .ok (.ireturn, 1) := by decide +kernel
theorem dX13_lay_14 : decode cX13_lay 14 = .ok (.aload_n 0, 1) := by decide +kernel
theorem dX13_lay_15 : decode cX13_lay 15 = .ok (.invokevirtual 456, 3) := by decide +kernel
theorem dX13_lay_18 : decode cX13_lay 18 = .ok (.aload_n 0, 1) := by decide +kernel
theorem dX13_lay_19 : decode cX13_lay 19 = .ok (.invokevirtual 474, 3) := by decide +kernel
theorem dX13_lay_22 : decode cX13_lay 22 = .ok (.ireturn, 1) := by decide +kernel
theorem dX13_undo_0 : decode cX13_undo 0 = .ok (.aload_n 0, 1) := by decide +kernel
theorem dX13_undo_1 : decode cX13_undo 1 = .ok (.iconst 0, 1) := by decide +kernel
theorem dX13_undo_2 : decode cX13_undo 2 = .ok (.putfield 153, 3) := by decide +kernel
theorem dX13_undo_5 : decode cX13_undo 5 = .ok (.aload_n 0, 1) := by decide +kernel
theorem dX13_undo_6 : decode cX13_undo 6 = .ok (.getfield 393, 3) := by decide +kernel
theorem dX13_undo_9 : decode cX13_undo 9 = .ok (.ifCond .ne 5, 3) := by decide +kernel
theorem dX13_undo_12 : decode cX13_undo 12 = .ok (.iconst 0, 1) := by decide +kernel
theorem dX13_undo_13 : decode cX13_undo 13 = .ok (.ireturn, 1) := by decide +kernel
theorem dX13_undo_14 : decode cX13_undo 14 = .ok (.aload_n 0, 1) := by decide +kernel
theorem dX13_undo_15 : decode cX13_undo 15 = .ok (.dup, 1) := by decide +kernel
theorem dX13_undo_16 : decode cX13_undo 16 = .ok (.getfield 393, 3) := by decide +kernel
theorem dX13_undo_19 : decode cX13_undo 19 = .ok (.iconst 1, 1) := by decide +kernel
theorem dX13_undo_20 : decode cX13_undo 20 = .ok (.isub, 1) := by decide +kernel
theorem dX13_undo_21 : decode cX13_undo 21 = .ok (.putfield 393, 3) := by decide +kernel
theorem dX13_undo_24 : decode cX13_undo 24 = .ok (.aload_n 0, 1) := by decide +kernel
theorem dX13_undo_25 : decode cX13_undo 25 = .ok (.getfield 132, 3) := by decide +kernel
theorem dX13_undo_28 : decode cX13_undo 28 = .ok (.bipush 23, 2) := by decide +kernel
theorem dX13_undo_30 : decode cX13_undo 30 = .ok (.aload_n 0, 1) := by decide +kernel
theorem dX13_undo_31 : decode cX13_undo 31 = .ok (.getfield 393, 3) := by decide +kernel
theorem dX13_undo_34 : decode cX13_undo 34 = .ok (.imul, 1) := by decide +kernel
theorem dX13_undo_35 : decode cX13_undo 35 = .ok (.aload_n 0, 1) := by decide +kernel
theorem dX13_undo_36 : decode cX13_undo 36 = .ok (.getfield 120, 3) := by decide +kernel
theorem dX13_undo_39 : decode cX13_undo 39 = .ok (.iconst 0, 1) := by decide +kernel
theorem dX13_undo_40 : decode cX13_undo 40 = .ok (.invokestatic 452, 3) := by decide +kernel
theorem dX13_undo_43 : decode cX13_undo 43 = .ok (.iconst 1, 1) := by decide +kernel
theorem dX13_undo_44 : decode cX13_undo 44 = .ok (.ireturn, 1) := by decide +kernel
theorem dX13_goes_0 : decode cX13_goes 0 = .ok (.aload_n 0, 1) := by decide +kernel
theorem dX13_goes_1 : decode cX13_goes 1 = .ok (.getfield 99, 3) := by decide +kernel
theorem dX13_goes_4 : decode cX13_goes 4 = .ok (.iload_n 1, 1) := by decide +kernel
theorem dX13_goes_5 : decode cX13_goes 5 = .ok (.iaload, 1) := by decide +kernel
theorem dX13_goes_6 : decode cX13_goes 6 = .ok (.istore_n 2, 1) := by decide +kernel
theorem dX13_goes_7 : decode cX13_goes 7 = .ok (.aload_n 0, 1) := by decide +kernel
theorem dX13_goes_8 : decode cX13_goes 8 = .ok (.getfield 102, 3) := by decide +kernel
theorem dX13_goes_11 : decode cX13_goes 11 = .ok (.iload_n 1, 1) := by decide +kernel
theorem dX13_goes_12 : decode cX13_goes 12 = .ok (.iaload, 1) := by decide +kernel
theorem dX13_goes_13 : decode cX13_goes 13 = .ok (.istore_n 3, 1) := by decide +kernel
theorem dX13_goes_14 : decode cX13_goes 14 = .ok (.aload_n 0, 1) := by decide +kernel
theorem dX13_goes_15 : decode cX13_goes 15 = .ok (.getfield 105, 3) := by decide +kernel
theorem dX13_goes_18 : decode cX13_goes 18 = .ok (.iload_n 1, 1) := by decide +kernel
theorem dX13_goes_19 : decode cX13_goes 19 = .ok (.iaload, 1) := by decide +kernel
theorem dX13_goes_20 : decode cX13_goes 20 = .ok (.istore 4, 2) := by decide +kernel
theorem dX13_goes_22 : decode cX13_goes 22 = .ok (.iload_n 2, 1) := by decide +kernel
theorem dX13_goes_23 : decode cX13_goes 23 = .ok (.ifCond .ne 33, 3) := by decide +kernel
theorem dX13_goes_26 : decode cX13_goes 26 = .ok (.aload_n 0, 1) := by decide +kernel
theorem dX13_goes_27 : decode cX13_goes 27 = .ok (.getfield 120, 3) := by decide +kernel
theorem dX13_goes_30 : decode cX13_goes 30 = .ok (.iconst 1, 1) := by decide +kernel
theorem dX13_goes_31 : decode cX13_goes 31 = .ok (.iaload, 1) := by decide +kernel
theorem dX13_goes_32 : decode cX13_goes 32 = .ok (.ifCond .ge 13, 3) := by decide +kernel
theorem dX13_goes_35 : decode cX13_goes 35 = .ok (.aload_n 0, 1) := by decide +kernel
theorem dX13_goes_36 : decode cX13_goes 36 = .ok (.iload_n 3, 1) := by decide +kernel
theorem dX13_goes_37 : decode cX13_goes 37 = .ok (.iload 4, 2) := by decide +kernel
theorem dX13_goes_39 : decode cX13_goes 39 = .ok (.invokevirtual 449, 3) := by decide +kernel
theorem dX13_goes_42 : decode cX13_goes 42 = .ok (.ifCond .ne 5, 3) := by decide +kernel
theorem dX13_goes_45 : decode cX13_goes 45 = .ok (.iconst 0, 1) := by decide +kernel
theorem dX13_goes_46 : decode cX13_goes 46 = .ok (.ireturn, 1) := by decide +kernel
theorem dX13_goes_47 : decode cX13_goes 47 = .ok (.aload_n 0, 1) := by decide +kernel
theorem dX13_goes_48 : decode cX13_goes 48 = .ok (.iload 4, 2) := by decide +kernel
theorem dX13_goes_50 : decode cX13_goes 50 = .ok (.invokevirtual 459, 3) := by decide +kernel
theorem dX13_goes_53 : decode cX13_goes 53 = .ok (.goto 91, 3) := by decide +kernel
theorem dX13_goes_56 : decode cX13_goes 56 = .ok (.iload_n 2, 1) := by decide +kernel
theorem dX13_goes_57 : decode cX13_goes 57 = .ok (.iconst 1, 1) := by decide +kernel
theorem dX13_goes_58 : decode cX13_goes 58 = .ok (.if_icmp .ne 33, 3) := by decide +kernel
theorem dX13_goes_61 : decode cX13_goes 61 = .ok (.aload_n 0, 1) := by decide +kernel
theorem dX13_goes_62 : decode cX13_goes 62 = .ok (.iload_n 3, 1) := by decide +kernel
theorem dX13_goes_63 : decode cX13_goes 63 = .ok (.invokevirtual 462, 3) := by decide +kernel
theorem dX13_goes_66 : decode cX13_goes 66 = .ok (.ifCond .eq 13, 3) := by decide +kernel
theorem dX13_goes_69 : decode cX13_goes 69 = .ok (.aload_n 0, 1) := by decide +kernel
theorem dX13_goes_70 : decode cX13_goes 70 = .ok (.getfield 120, 3) := by decide +kernel
theorem dX13_goes_73 : decode cX13_goes 73 = .ok (.iconst 2, 1) := by decide +kernel
theorem dX13_goes_74 : decode cX13_goes 74 = .ok (.iaload, 1) := by decide +kernel
theorem dX13_goes_75 : decode cX13_goes 75 = .ok (.iload_n 3, 1) := by decide +kernel
theorem dX13_goes_76 : decode cX13_goes 76 = .ok (.if_icmp .ne 5, 3) := by decide +kernel
theorem dX13_goes_79 : decode cX13_goes 79 = .ok (.iconst 0, 1) := by decide +kernel
theorem dX13_goes_80 : decode cX13_goes 80 = .ok (.ireturn, 1) := by decide +kernel
theorem dX13_goes_81 : decode cX13_goes 81 = .ok (.aload_n 0, 1) := by decide +kernel
theorem dX13_goes_82 : decode cX13_goes 82 = .ok (.getfield 120, 3) := by decide +kernel
theorem dX13_goes_85 : decode cX13_goes 85 = .ok (.iconst 2, 1) := by decide +kernel
theorem dX13_goes_86 : decode cX13_goes 86 = .ok (.iload_n 3, 1) := by decide +kernel
theorem dX13_goes_87 : decode cX13_goes 87 = .ok (.iastore, 1) := by decide +kernel
theorem dX13_goes_88 : decode cX13_goes 88 = .ok (.goto 56, 3) := by decide +kernel
theorem dX13_goes_91 : decode cX13_goes 91 = .ok (.iload_n 2, 1) := by decide +kernel
theorem dX13_goes_92 : decode cX13_goes 92 = .ok (.iconst 4, 1) := by decide +kernel
theorem dX13_goes_93 : decode cX13_goes 93 = .ok (.if_icmp .ne 20, 3) := by decide +kernel
theorem dX13_goes_96 : decode cX13_goes 96 = .ok (.aload_n 0, 1) := by decide +kernel
theorem dX13_goes_97 : decode cX13_goes 97 = .ok (.invokevirtual 471, 3) := by decide +kernel
theorem dX13_goes_100 : decode cX13_goes 100 = .ok (.ifCond .ne 5, 3) := by decide +kernel
theorem dX13_goes_103 : decode cX13_goes 103 = .ok (.iconst 0, 1) := by decide +kernel
theorem dX13_goes_104 : decode cX13_goes 104 = .ok (.ireturn, 1) := by decide +kernel
theorem dX13_goes_105 : decode cX13_goes 105 = .ok (.aload_n 0, 1) := by decide +kernel
theorem dX13_goes_106 : decode cX13_goes 106 = .ok (.invokevirtual 474, 3) := by decide +kernel
theorem dX13_goes_109 : decode cX13_goes 109 = .ok (.pop, 1) := by decide +kernel
theorem dX13_goes_110 : decode cX13_goes 110 = .ok (.goto 34, 3) := by decide +kernel
theorem dX13_goes_113 : decode cX13_goes 113 = .ok (.iload_n 2, 1) := by decide +kernel
theorem dX13_goes_114 : decode cX13_goes 114 = .ok (.iconst 3, 1) := by decide +kernel
theorem dX13_goes_115 : decode cX13_goes 115 = .ok (.if_icmp .ne 12, 3) := by decide +kernel
theorem dX13_goes_118 : decode cX13_goes 118 = .ok (.aload_n 0, 1) := by decide +kernel
theorem dX13_goes_119 : decode cX13_goes 119 = .ok (.invokevirtual 468, 3) := by decide +kernel
theorem dX13_goes_122 : decode cX13_goes 122 = .ok (.ifCond .ne 5, 3) := by decide +kernel
theorem dX13_goes_125 : decode cX13_goes 125 = .ok (.iconst 0, 1) := by decide +kernel
theorem dX13_goes_126 : decode cX13_goes 126 = .ok (.ireturn, 1) := by decide +kernel
theorem dX13_goes_127 : decode cX13_goes 127 = .ok (.aload_n 0, 1) := by decide +kernel
theorem dX13_goes_128 : decode cX13_goes 128 = .ok (.iload_n 3, 1) := by decide +kernel
theorem dX13_goes_129 : decode cX13_goes 129 = .ok (.iload_n 2, 1) := by decide +kernel
theorem dX13_goes_130 : decode cX13_goes 130 = .ok (.iconst 3, 1) := by decide +kernel
theorem dX13_goes_131 : decode cX13_goes 131 = .ok (.if_icmp .ne 8, 3) := by decide +kernel
theorem dX13_goes_134 : decode cX13_goes 134 = .ok (.iload 4, 2) := by decide +kernel
theorem dX13_goes_136 : decode cX13_goes 136 = .ok (.goto 4, 3) := by decide +kernel
theorem dX13_goes_139 : decode cX13_goes 139 = .ok (.iconst (-1), 1) := by decide +kernel
theorem dX13_goes_140 : decode cX13_goes 140 = .ok (.invokevirtual 465, 3) := by decide +kernel
theorem dX13_goes_143 : decode cX13_goes 143 = .ok (.pop, 1) := by decide +kernel
theorem dX13_goes_144 : decode cX13_goes 144 = .ok (.iconst 1, 1) := by decide +kernel
theorem dX13_goes_145 : decode cX13_goes 145 = .ok (.ireturn, 1) := by decide +kernel
theorem dX13_judged_0 : decode cX13_judged 0 = .ok (.aload_n 0, 1) := by decide +kernel
theorem dX13_judged_1 : decode cX13_judged 1 = .ok (.iconst 0, 1) := by decide +kernel
theorem dX13_judged_2 : decode cX13_judged 2 = .ok (.putfield 153, 3) := by decide +kernel
theorem dX13_judged_5 : decode cX13_judged 5 = .ok (.iload_n 1, 1) := by decide +kernel
theorem dX13_judged_6 : decode cX13_judged 6 = .ok (.iconst 0, 1) := by decide +kernel
theorem dX13_judged_7 : decode cX13_judged 7 = .ok (.iconst 2, 1) := by decide +kernel
theorem dX13_judged_8 : decode cX13_judged 8 = .ok (.invokestatic 297, 3) := by decide +kernel
theorem dX13_judged_11 : decode cX13_judged 11 = .ok (.ifCond .ne 6, 3) := by decide +kernel
theorem dX13_judged_14 : decode cX13_judged 14 = .ok (.bipush (-2), 2) := by decide +kernel
theorem dX13_judged_16 : decode cX13_judged 16 = .ok (.ireturn, 1) := by decide +kernel
theorem dX13_judged_17 : decode cX13_judged 17 = .ok (.aload_n 0, 1) := by decide +kernel
theorem dX13_judged_18 : decode cX13_judged 18 = .ok (.getfield 120, 3) := by decide +kernel
theorem dX13_judged_21 : decode cX13_judged 21 = .ok (.iconst 0, 1) := by decide +kernel
theorem dX13_judged_22 : decode cX13_judged 22 = .ok (.aload_n 0, 1) := by decide +kernel
theorem dX13_judged_23 : decode cX13_judged 23 = .ok (.getfield 123, 3) := by decide +kernel
theorem dX13_judged_26 : decode cX13_judged 26 = .ok (.iconst 0, 1) := by decide +kernel
theorem dX13_judged_27 : decode cX13_judged 27 = .ok (.invokestatic 452, 3) := by decide +kernel
theorem dX13_judged_30 : decode cX13_judged 30 = .ok (.aload_n 0, 1) := by decide +kernel
theorem dX13_judged_31 : decode cX13_judged 31 = .ok (.invokevirtual 150, 3) := by decide +kernel
theorem dX13_judged_34 : decode cX13_judged 34 = .ok (.iconst (-1), 1) := by decide +kernel
theorem dX13_judged_35 : decode cX13_judged 35 = .ok (.istore_n 2, 1) := by decide +kernel
theorem dX13_judged_36 : decode cX13_judged 36 = .ok (.iconst (-1), 1) := by decide +kernel
theorem dX13_judged_37 : decode cX13_judged 37 = .ok (.istore_n 3, 1) := by decide +kernel
theorem dX13_judged_38 : decode cX13_judged 38 = .ok (.iconst 0, 1) := by decide +kernel
theorem dX13_judged_39 : decode cX13_judged 39 = .ok (.istore 4, 2) := by decide +kernel
theorem dX13_judged_41 : decode cX13_judged 41 = .ok (.iload 4, 2) := by decide +kernel
theorem dX13_judged_43 : decode cX13_judged 43 = .ok (.aload_n 0, 1) := by decide +kernel
theorem dX13_judged_44 : decode cX13_judged 44 = .ok (.getfield 96, 3) := by decide +kernel
theorem dX13_judged_47 : decode cX13_judged 47 = .ok (.iconst 0, 1) := by decide +kernel
theorem dX13_judged_48 : decode cX13_judged 48 = .ok (.iaload, 1) := by decide +kernel
theorem dX13_judged_49 : decode cX13_judged 49 = .ok (.if_icmp .ge 42, 3) := by decide +kernel
theorem dX13_judged_52 : decode cX13_judged 52 = .ok (.aload_n 0, 1) := by decide +kernel
theorem dX13_judged_53 : decode cX13_judged 53 = .ok (.iload 4, 2) := by decide +kernel
theorem dX13_judged_55 : decode cX13_judged 55 = .ok (.invokevirtual 477, 3) := by decide +kernel
theorem dX13_judged_58 : decode cX13_judged 58 = .ok (.ifCond .ne 10, 3) := by decide +kernel
theorem dX13_judged_61 : decode cX13_judged 61 = .ok (.iload_n 2, 1) := by decide +kernel
theorem dX13_judged_62 : decode cX13_judged 62 = .ok (.ifCond .ge 6, 3) := by decide +kernel
theorem dX13_judged_65 : decode cX13_judged 65 = .ok (.iload 4, 2) := by decide +kernel
theorem dX13_judged_67 : decode cX13_judged 67 = .ok (.istore_n 2, 1) := by decide +kernel
theorem dX13_judged_68 : decode cX13_judged 68 = .ok (.aload_n 0, 1) := by decide +kernel
theorem dX13_judged_69 : decode cX13_judged 69 = .ok (.getfield 120, 3) := by decide +kernel
theorem dX13_judged_72 : decode cX13_judged 72 = .ok (.iconst 4, 1) := by decide +kernel
theorem dX13_judged_73 : decode cX13_judged 73 = .ok (.iaload, 1) := by decide +kernel
theorem dX13_judged_74 : decode cX13_judged 74 = .ok (.iconst 1, 1) := by decide +kernel
theorem dX13_judged_75 : decode cX13_judged 75 = .ok (.if_icmp .ne 10, 3) := by decide +kernel
theorem dX13_judged_78 : decode cX13_judged 78 = .ok (.iload_n 3, 1) := by decide +kernel
theorem dX13_judged_79 : decode cX13_judged 79 = .ok (.ifCond .ge 6, 3) := by decide +kernel
theorem dX13_judged_82 : decode cX13_judged 82 = .ok (.iload 4, 2) := by decide +kernel
theorem dX13_judged_84 : decode cX13_judged 84 = .ok (.istore_n 3, 1) := by decide +kernel
theorem dX13_judged_85 : decode cX13_judged 85 = .ok (.iinc 4 1, 3) := by decide +kernel
theorem dX13_judged_88 : decode cX13_judged 88 = .ok (.goto (-47), 3) := by decide +kernel
theorem dX13_judged_91 : decode cX13_judged 91 = .ok (.aload_n 0, 1) := by decide +kernel
theorem dX13_judged_92 : decode cX13_judged 92 = .ok (.invokevirtual 437, 3) := by decide +kernel
theorem dX13_judged_95 : decode cX13_judged 95 = .ok (.istore 4, 2) := by decide +kernel
theorem dX13_judged_97 : decode cX13_judged 97 = .ok (.aload_n 0, 1) := by decide +kernel
theorem dX13_judged_98 : decode cX13_judged 98 = .ok (.getfield 123, 3) := by decide +kernel
theorem dX13_judged_101 : decode cX13_judged 101 = .ok (.iconst 0, 1) := by decide +kernel
theorem dX13_judged_102 : decode cX13_judged 102 = .ok (.aload_n 0, 1) := by decide +kernel
theorem dX13_judged_103 : decode cX13_judged 103 = .ok (.getfield 120, 3) := by decide +kernel
theorem dX13_judged_106 : decode cX13_judged 106 = .ok (.iconst 0, 1) := by decide +kernel
theorem dX13_judged_107 : decode cX13_judged 107 = .ok (.invokestatic 452, 3) := by decide +kernel
theorem dX13_judged_110 : decode cX13_judged 110 = .ok (.iload_n 1, 1) := by decide +kernel
theorem dX13_judged_111 : decode cX13_judged 111 = .ok (.ifCond .ne 7, 3) := by decide +kernel
theorem dX13_judged_114 : decode cX13_judged 114 = .ok (.iload_n 2, 1) := by decide +kernel
theorem dX13_judged_115 : decode cX13_judged 115 = .ok (.goto 14, 3) := by decide +kernel
theorem dX13_judged_118 : decode cX13_judged 118 = .ok (.iload_n 1, 1) := by decide +kernel
theorem dX13_judged_119 : decode cX13_judged 119 = .ok (.iconst 1, 1) := by decide +kernel
theorem dX13_judged_120 : decode cX13_judged 120 = .ok (.if_icmp .ne 7, 3) := by decide +kernel
theorem dX13_judged_123 : decode cX13_judged 123 = .ok (.iload_n 3, 1) := by decide +kernel
theorem dX13_judged_124 : decode cX13_judged 124 = .ok (.goto 5, 3) := by decide +kernel
theorem dX13_judged_127 : decode cX13_judged 127 = .ok (.iload 4, 2) := by decide +kernel
theorem dX13_judged_129 : decode cX13_judged 129 = .ok (.ireturn, 1) := by decide +kernel
theorem dX13_soonOf_0 : decode cX13_soonOf 0 = .ok (.aload_n 0, 1) := by decide +kernel
theorem dX13_soonOf_1 : decode cX13_soonOf 1 = .ok (.getfield 120, 3) := by decide +kernel
theorem dX13_soonOf_4 : decode cX13_soonOf 4 = .ok (.bipush 6, 2) := by decide +kernel
theorem dX13_soonOf_6 : decode cX13_soonOf 6 = .ok (.iload_n 2, 1) := by decide +kernel
theorem dX13_soonOf_7 : decode cX13_soonOf 7 = .ok (.iadd, 1) := by decide +kernel
theorem dX13_soonOf_8 : decode cX13_soonOf 8 = .ok (.iaload, 1) := by decide +kernel
theorem dX13_soonOf_9 : decode cX13_soonOf 9 = .ok (.istore_n 3, 1) := by decide +kernel
theorem dX13_soonOf_10 : decode cX13_soonOf 10 = .ok (.iconst 0, 1) := by decide +kernel
theorem dX13_soonOf_11 : decode cX13_soonOf 11 = .ok (.istore 4, 2) := by decide +kernel
theorem dX13_soonOf_13 : decode cX13_soonOf 13 = .ok (.iload 4, 2) := by decide +kernel
theorem dX13_soonOf_15 : decode cX13_soonOf 15 = .ok (.bipush 25, 2) := by decide +kernel
theorem dX13_soonOf_17 : decode cX13_soonOf 17 = .ok (.if_icmp .ge 31, 3) := by decide +kernel
theorem dX13_soonOf_20 : decode cX13_soonOf 20 = .ok (.iload_n 3, 1) := by decide +kernel
theorem dX13_soonOf_21 : decode cX13_soonOf 21 = .ok (.ifCond .ne 6, 3) := by decide +kernel
theorem dX13_soonOf_24 : decode cX13_soonOf 24 = .ok (.iload 4, 2) := by decide +kernel
theorem dX13_soonOf_26 : decode cX13_soonOf 26 = .ok (.ireturn, 1) := by decide +kernel
theorem dX13_soonOf_27 : decode cX13_soonOf 27 = .ok (.iconst 0, 1) := by decide +kernel
theorem dX13_soonOf_28 : decode cX13_soonOf 28 = .ok (.iload_n 3, 1) := by decide +kernel
theorem dX13_soonOf_29 : decode cX13_soonOf 29 = .ok (.aload_n 0, 1) := by decide +kernel
theorem dX13_soonOf_30 : decode cX13_soonOf 30 = .ok (.iload_n 1, 1) := by decide +kernel
theorem dX13_soonOf_31 : decode cX13_soonOf 31 = .ok (.iload_n 3, 1) := by decide +kernel
theorem dX13_soonOf_32 : decode cX13_soonOf 32 = .ok (.iload 4, 2) := by decide +kernel
theorem dX13_soonOf_34 : decode cX13_soonOf 34 = .ok (.invokevirtual 425, 3) := by decide +kernel
theorem dX13_soonOf_37 : decode cX13_soonOf 37 = .ok (.isub, 1) := by decide +kernel
theorem dX13_soonOf_38 : decode cX13_soonOf 38 = .ok (.invokestatic 422, 3) := by decide +kernel
theorem dX13_soonOf_41 : decode cX13_soonOf 41 = .ok (.istore_n 3, 1) := by decide +kernel
theorem dX13_soonOf_42 : decode cX13_soonOf 42 = .ok (.iinc 4 1, 3) := by decide +kernel
theorem dX13_soonOf_45 : decode cX13_soonOf 45 = .ok (.goto (-32), 3) := by decide +kernel
theorem dX13_soonOf_48 : decode cX13_soonOf 48 = .ok (.iconst (-1), 1) := by decide +kernel
theorem dX13_soonOf_49 : decode cX13_soonOf 49 = .ok (.ireturn, 1) := by decide +kernel
theorem dX13_soon_0 : decode cX13_soon 0 = .ok (.aload_n 0, 1) := by decide +kernel
theorem dX13_soon_1 : decode cX13_soon 1 = .ok (.iconst 0, 1) := by decide +kernel
theorem dX13_soon_2 : decode cX13_soon 2 = .ok (.putfield 153, 3) := by decide +kernel
theorem dX13_soon_5 : decode cX13_soon 5 = .ok (.aload_n 0, 1) := by decide +kernel
theorem dX13_soon_6 : decode cX13_soon 6 = .ok (.iload_n 1, 1) := by decide +kernel
theorem dX13_soon_7 : decode cX13_soon 7 = .ok (.invokevirtual 443, 3) := by decide +kernel
theorem dX13_soon_10 : decode cX13_soon 10 = .ok (.ifCond .eq 20, 3) := by decide +kernel
theorem dX13_soon_13 : decode cX13_soon 13 = .ok (.aload_n 0, 1) := by decide +kernel
theorem dX13_soon_14 : decode cX13_soon 14 = .ok (.iload_n 2, 1) := by decide +kernel
theorem dX13_soon_15 : decode cX13_soon 15 = .ok (.invokevirtual 446, 3) := by decide +kernel
theorem dX13_soon_18 : decode cX13_soon 18 = .ok (.ifCond .eq 12, 3) := by decide +kernel
theorem dX13_soon_21 : decode cX13_soon 21 = .ok (.aload_n 0, 1) := by decide +kernel
theorem dX13_soon_22 : decode cX13_soon 22 = .ok (.iload_n 1, 1) := by decide +kernel
theorem dX13_soon_23 : decode cX13_soon 23 = .ok (.iload_n 2, 1) := by decide +kernel
theorem dX13_soon_24 : decode cX13_soon 24 = .ok (.invokevirtual 480, 3) := by decide +kernel
theorem dX13_soon_27 : decode cX13_soon 27 = .ok (.goto 4, 3) := by decide +kernel
theorem dX13_soon_30 : decode cX13_soon 30 = .ok (.iconst (-1), 1) := by decide +kernel
theorem dX13_soon_31 : decode cX13_soon 31 = .ok (.ireturn, 1) := by decide +kernel
theorem dX13_isNamedBySome_0 : decode cX13_isNamedBySome 0 = .ok (.iconst 0, 1) := by decide +kernel
theorem dX13_isNamedBySome_1 : decode cX13_isNamedBySome 1 = .ok (.istore_n 2, 1) := by decide +kernel
theorem dX13_isNamedBySome_2 : decode cX13_isNamedBySome 2 = .ok (.iload_n 2, 1) := by decide +kernel
theorem dX13_isNamedBySome_3 : decode cX13_isNamedBySome 3 = .ok (.aload_n 0, 1) := by decide +kernel
theorem dX13_isNamedBySome_4 : decode cX13_isNamedBySome 4 = .ok (.getfield 13, 3) := by decide +kernel
theorem dX13_isNamedBySome_7 : decode cX13_isNamedBySome 7 = .ok (.iconst 0, 1) := by decide +kernel
theorem dX13_isNamedBySome_8 : decode cX13_isNamedBySome 8 = .ok (.iaload, 1) := by decide +kernel
theorem dX13_isNamedBySome_9 : decode cX13_isNamedBySome 9 = .ok (.if_icmp .ge 20, 3) := by decide +kernel
theorem dX13_isNamedBySome_12 : decode cX13_isNamedBySome 12 = .ok (.aload_n 0, 1) := by decide +kernel
theorem dX13_isNamedBySome_13 : decode cX13_isNamedBySome 13 = .ok (.iload_n 2, 1) := by decide +kernel
theorem dX13_isNamedBySome_14 : decode cX13_isNamedBySome 14 = .ok (.iload_n 1, 1) := by decide +kernel
theorem dX13_isNamedBySome_15 : decode cX13_isNamedBySome 15 = .ok (.invokevirtual 449, 3) := by decide +kernel
theorem dX13_isNamedBySome_18 : decode cX13_isNamedBySome 18 = .ok (.ifCond .eq 5, 3) := by decide +kernel
theorem dX13_isNamedBySome_21 : decode cX13_isNamedBySome 21 = .ok (.iconst 1, 1) := by decide +kernel
theorem dX13_isNamedBySome_22 : decode cX13_isNamedBySome 22 = .ok (.ireturn, 1) := by decide +kernel
theorem dX13_isNamedBySome_23 : decode cX13_isNamedBySome 23 = .ok (.iinc 2 1, 3) := by decide +kernel
theorem dX13_isNamedBySome_26 : decode cX13_isNamedBySome 26 = .ok (.goto (-24), 3) := by decide +kernel
theorem dX13_isNamedBySome_29 : decode cX13_isNamedBySome 29 = .ok (.iconst 0, 1) := by decide +kernel
theorem dX13_isNamedBySome_30 : decode cX13_isNamedBySome 30 = .ok (.ireturn, 1) := by decide +kernel
theorem dX13_grownBy_0 : decode cX13_grownBy 0 = .ok (.aload_n 0, 1) := by decide +kernel
theorem dX13_grownBy_1 : decode cX13_grownBy 1 = .ok (.getfield 120, 3) := by decide +kernel
theorem dX13_grownBy_4 : decode cX13_grownBy 4 = .ok (.bipush 6, 2) := by decide +kernel
theorem dX13_grownBy_6 : decode cX13_grownBy 6 = .ok (.iload_n 1, 1) := by decide +kernel
theorem dX13_grownBy_7 : decode cX13_grownBy 7 = .ok (.iadd, 1) := by decide +kernel
theorem dX13_grownBy_8 : decode cX13_grownBy 8 = .ok (.iaload, 1) := by decide +kernel
theorem dX13_grownBy_9 : decode cX13_grownBy 9 = .ok (.ifCond .ne 7, 3) := by decide +kernel
theorem dX13_grownBy_12 : decode cX13_grownBy 12 = .ok (.iconst 0, 1) := by decide +kernel
theorem dX13_grownBy_13 : decode cX13_grownBy 13 = .ok (.goto 26, 3) := by decide +kernel
theorem dX13_grownBy_16 : decode cX13_grownBy 16 = .ok (.bipush 99, 2) := by decide +kernel
theorem dX13_grownBy_18 : decode cX13_grownBy 18 = .ok (.aload_n 0, 1) := by decide +kernel
theorem dX13_grownBy_19 : decode cX13_grownBy 19 = .ok (.getfield 120, 3) := by decide +kernel
theorem dX13_grownBy_22 : decode cX13_grownBy 22 = .ok (.bipush 6, 2) := by decide +kernel
theorem dX13_grownBy_24 : decode cX13_grownBy 24 = .ok (.iload_n 1, 1) := by decide +kernel
theorem dX13_grownBy_25 : decode cX13_grownBy 25 = .ok (.iadd, 1) := by decide +kernel
theorem dX13_grownBy_26 : decode cX13_grownBy 26 = .ok (.iaload, 1) := by decide +kernel
theorem dX13_grownBy_27 : decode cX13_grownBy 27 = .ok (.aload_n 0, 1) := by decide +kernel
theorem dX13_grownBy_28 : decode cX13_grownBy 28 = .ok (.getfield 47, 3) := by decide +kernel
theorem dX13_grownBy_31 : decode cX13_grownBy 31 = .ok (.iload_n 1, 1) := by decide +kernel
theorem dX13_grownBy_32 : decode cX13_grownBy 32 = .ok (.iaload, 1) := by decide +kernel
theorem dX13_grownBy_33 : decode cX13_grownBy 33 = .ok (.iload_n 2, 1) := by decide +kernel
theorem dX13_grownBy_34 : decode cX13_grownBy 34 = .ok (.imul, 1) := by decide +kernel
theorem dX13_grownBy_35 : decode cX13_grownBy 35 = .ok (.iadd, 1) := by decide +kernel
theorem dX13_grownBy_36 : decode cX13_grownBy 36 = .ok (.invokestatic 416, 3) := by decide +kernel
theorem dX13_grownBy_39 : decode cX13_grownBy 39 = .ok (.ireturn, 1) := by decide +kernel
theorem dX13_wouldKeep_0 : decode cX13_wouldKeep 0 = .ok (.aload_n 0, 1) := by decide +kernel
theorem dX13_wouldKeep_1 : decode cX13_wouldKeep 1 = .ok (.getfield 120, 3) := by decide +kernel
theorem dX13_wouldKeep_4 : decode cX13_wouldKeep 4 = .ok (.bipush 17, 2) := by decide +kernel
theorem dX13_wouldKeep_6 : decode cX13_wouldKeep 6 = .ok (.iload_n 1, 1) := by decide +kernel
theorem dX13_wouldKeep_7 : decode cX13_wouldKeep 7 = .ok (.iadd, 1) := by decide +kernel
theorem dX13_wouldKeep_8 : decode cX13_wouldKeep 8 = .ok (.iaload, 1) := by decide +kernel
theorem dX13_wouldKeep_9 : decode cX13_wouldKeep 9 = .ok (.aload_n 0, 1) := by decide +kernel
theorem dX13_wouldKeep_10 : decode cX13_wouldKeep 10 = .ok (.getfield 120, 3) := by decide +kernel
theorem dX13_wouldKeep_13 : decode cX13_wouldKeep 13 = .ok (.bipush 6, 2) := by decide +kernel
theorem dX13_wouldKeep_15 : decode cX13_wouldKeep 15 = .ok (.iload_n 2, 1) := by decide +kernel
theorem dX13_wouldKeep_16 : decode cX13_wouldKeep 16 = .ok (.iadd, 1) := by decide +kernel
theorem dX13_wouldKeep_17 : decode cX13_wouldKeep 17 = .ok (.iaload, 1) := by decide +kernel
theorem dX13_wouldKeep_18 : decode cX13_wouldKeep 18 = .ok (.ifCond .ne 7, 3) := by decide +kernel
theorem dX13_wouldKeep_21 : decode cX13_wouldKeep 21 = .ok (.iconst 0, 1) := by decide +kernel
theorem dX13_wouldKeep_22 : decode cX13_wouldKeep 22 = .ok (.goto 18, 3) := by decide +kernel
theorem dX13_wouldKeep_25 : decode cX13_wouldKeep 25 = .ok (.aload_n 0, 1) := by decide +kernel
theorem dX13_wouldKeep_26 : decode cX13_wouldKeep 26 = .ok (.getfield 26, 3) := by decide +kernel
theorem dX13_wouldKeep_29 : decode cX13_wouldKeep 29 = .ok (.iload_n 1, 1) := by decide +kernel
theorem dX13_wouldKeep_30 : decode cX13_wouldKeep 30 = .ok (.iaload, 1) := by decide +kernel
theorem dX13_wouldKeep_31 : decode cX13_wouldKeep 31 = .ok (.iconst 2, 1) := by decide +kernel
theorem dX13_wouldKeep_32 : decode cX13_wouldKeep 32 = .ok (.if_icmp .ne 7, 3) := by decide +kernel
theorem dX13_wouldKeep_35 : decode cX13_wouldKeep 35 = .ok (.iconst 5, 1) := by decide +kernel
theorem dX13_wouldKeep_36 : decode cX13_wouldKeep 36 = .ok (.goto 4, 3) := by decide +kernel
theorem dX13_wouldKeep_39 : decode cX13_wouldKeep 39 = .ok (.iconst 3, 1) := by decide +kernel
theorem dX13_wouldKeep_40 : decode cX13_wouldKeep 40 = .ok (.iadd, 1) := by decide +kernel
theorem dX13_wouldKeep_41 : decode cX13_wouldKeep 41 = .ok (.istore 4, 2) := by decide +kernel
theorem dX13_wouldKeep_43 : decode cX13_wouldKeep 43 = .ok (.iconst 0, 1) := by decide +kernel
theorem dX13_wouldKeep_44 : decode cX13_wouldKeep 44 = .ok (.istore 5, 2) := by decide +kernel
theorem dX13_wouldKeep_46 : decode cX13_wouldKeep 46 = .ok (.iconst 0, 1) := by decide +kernel
theorem dX13_wouldKeep_47 : decode cX13_wouldKeep 47 = .ok (.istore 6, 2) := by decide +kernel
theorem dX13_wouldKeep_49 : decode cX13_wouldKeep 49 = .ok (.iload 6, 2) := by decide +kernel
theorem dX13_wouldKeep_51 : decode cX13_wouldKeep 51 = .ok (.aload_n 0, 1) := by decide +kernel
theorem dX13_wouldKeep_52 : decode cX13_wouldKeep 52 = .ok (.getfield 13, 3) := by decide +kernel
theorem dX13_wouldKeep_55 : decode cX13_wouldKeep 55 = .ok (.iconst 1, 1) := by decide +kernel
theorem dX13_wouldKeep_56 : decode cX13_wouldKeep 56 = .ok (.iaload, 1) := by decide +kernel
theorem dX13_wouldKeep_57 : decode cX13_wouldKeep 57 = .ok (.if_icmp .ge 31, 3) := by decide +kernel
theorem dX13_wouldKeep_60 : decode cX13_wouldKeep 60 = .ok (.iload 5, 2) := by decide +kernel
theorem dX13_wouldKeep_62 : decode cX13_wouldKeep 62 = .ok (.iload 6, 2) := by decide +kernel
theorem dX13_wouldKeep_64 : decode cX13_wouldKeep 64 = .ok (.iload_n 2, 1) := by decide +kernel
theorem dX13_wouldKeep_65 : decode cX13_wouldKeep 65 = .ok (.if_icmp .ne 7, 3) := by decide +kernel
theorem dX13_wouldKeep_68 : decode cX13_wouldKeep 68 = .ok (.iconst 0, 1) := by decide +kernel
theorem dX13_wouldKeep_69 : decode cX13_wouldKeep 69 = .ok (.goto 10, 3) := by decide +kernel
theorem dX13_wouldKeep_72 : decode cX13_wouldKeep 72 = .ok (.aload_n 0, 1) := by decide +kernel
theorem dX13_wouldKeep_73 : decode cX13_wouldKeep 73 = .ok (.iload 6, 2) := by decide +kernel
theorem dX13_wouldKeep_75 : decode cX13_wouldKeep 75 = .ok (.iload_n 3, 1) := by decide +kernel
theorem dX13_wouldKeep_76 : decode cX13_wouldKeep 76 = .ok (.invokevirtual 483, 3) := by decide +kernel
theorem dX13_wouldKeep_79 : decode cX13_wouldKeep 79 = .ok (.iadd, 1) := by decide +kernel
theorem dX13_wouldKeep_80 : decode cX13_wouldKeep 80 = .ok (.istore 5, 2) := by decide +kernel
theorem dX13_wouldKeep_82 : decode cX13_wouldKeep 82 = .ok (.iinc 6 1, 3) := by decide +kernel
theorem dX13_wouldKeep_85 : decode cX13_wouldKeep 85 = .ok (.goto (-36), 3) := by decide +kernel
theorem dX13_wouldKeep_88 : decode cX13_wouldKeep 88 = .ok (.aload_n 0, 1) := by decide +kernel
theorem dX13_wouldKeep_89 : decode cX13_wouldKeep 89 = .ok (.iload_n 1, 1) := by decide +kernel
theorem dX13_wouldKeep_90 : decode cX13_wouldKeep 90 = .ok (.bipush 99, 2) := by decide +kernel
theorem dX13_wouldKeep_92 : decode cX13_wouldKeep 92 = .ok (.iload 4, 2) := by decide +kernel
theorem dX13_wouldKeep_94 : decode cX13_wouldKeep 94 = .ok (.invokestatic 416, 3) := by decide +kernel
theorem dX13_wouldKeep_97 : decode cX13_wouldKeep 97 = .ok (.iload 5, 2) := by decide +kernel
theorem dX13_wouldKeep_99 : decode cX13_wouldKeep 99 = .ok (.invokevirtual 440, 3) := by decide +kernel
theorem dX13_wouldKeep_102 : decode cX13_wouldKeep 102 = .ok (.ireturn, 1) := by decide +kernel
theorem dX13_whomFor_0 : decode cX13_whomFor 0 = .ok (.iconst (-1), 1) := by decide +kernel
theorem dX13_whomFor_1 : decode cX13_whomFor 1 = .ok (.istore_n 3, 1) := by decide +kernel
theorem dX13_whomFor_2 : decode cX13_whomFor 2 = .ok (.iconst 0, 1) := by decide +kernel
theorem dX13_whomFor_3 : decode cX13_whomFor 3 = .ok (.istore 4, 2) := by decide +kernel
theorem dX13_whomFor_5 : decode cX13_whomFor 5 = .ok (.iconst 0, 1) := by decide +kernel
theorem dX13_whomFor_6 : decode cX13_whomFor 6 = .ok (.istore 5, 2) := by decide +kernel
theorem dX13_whomFor_8 : decode cX13_whomFor 8 = .ok (.iload 5, 2) := by decide +kernel
theorem dX13_whomFor_10 : decode cX13_whomFor 10 = .ok (.aload_n 0, 1) := by decide +kernel
theorem dX13_whomFor_11 : decode cX13_whomFor 11 = .ok (.getfield 13, 3) := by decide +kernel
theorem dX13_whomFor_14 : decode cX13_whomFor 14 = .ok (.iconst 0, 1) := by decide +kernel
theorem dX13_whomFor_15 : decode cX13_whomFor 15 = .ok (.iaload, 1) := by decide +kernel
theorem dX13_whomFor_16 : decode cX13_whomFor 16 = .ok (.if_icmp .ge 71, 3) := by decide +kernel
theorem dX13_whomFor_19 : decode cX13_whomFor 19 = .ok (.aload_n 0, 1) := by decide +kernel
theorem dX13_whomFor_20 : decode cX13_whomFor 20 = .ok (.iload 5, 2) := by decide +kernel
theorem dX13_whomFor_22 : decode cX13_whomFor 22 = .ok (.iload_n 1, 1) := by decide +kernel
theorem dX13_whomFor_23 : decode cX13_whomFor 23 = .ok (.invokevirtual 480, 3) := by decide +kernel
theorem dX13_whomFor_26 : decode cX13_whomFor 26 = .ok (.istore 6, 2) := by decide +kernel
theorem dX13_whomFor_28 : decode cX13_whomFor 28 = .ok (.iload 6, 2) := by decide +kernel
theorem dX13_whomFor_30 : decode cX13_whomFor 30 = .ok (.ifCond .lt 51, 3) := by decide +kernel
theorem dX13_whomFor_33 : decode cX13_whomFor 33 = .ok (.iload 6, 2) := by decide +kernel
theorem dX13_whomFor_35 : decode cX13_whomFor 35 = .ok (.iload_n 2, 1) := by decide +kernel
theorem dX13_whomFor_36 : decode cX13_whomFor 36 = .ok (.if_icmp .gt 45, 3) := by decide +kernel
theorem dX13_whomFor_39 : decode cX13_whomFor 39 = .ok (.aload_n 0, 1) := by decide +kernel
theorem dX13_whomFor_40 : decode cX13_whomFor 40 = .ok (.iload 5, 2) := by decide +kernel
theorem dX13_whomFor_42 : decode cX13_whomFor 42 = .ok (.invokevirtual 486, 3) := by decide +kernel
theorem dX13_whomFor_45 : decode cX13_whomFor 45 = .ok (.ifCond .eq 36, 3) := by decide +kernel
theorem dX13_whomFor_48 : decode cX13_whomFor 48 = .ok (.iload_n 3, 1) := by decide +kernel
theorem dX13_whomFor_49 : decode cX13_whomFor 49 = .ok (.ifCond .lt 10, 3) := by decide +kernel
theorem dX13_whomFor_52 : decode cX13_whomFor 52 = .ok (.iload 6, 2) := by decide +kernel
theorem dX13_whomFor_54 : decode cX13_whomFor 54 = .ok (.iload 4, 2) := by decide +kernel
theorem dX13_whomFor_56 : decode cX13_whomFor 56 = .ok (.if_icmp .ge 25, 3) := by decide +kernel
theorem dX13_whomFor_59 : decode cX13_whomFor 59 = .ok (.aload_n 0, 1) := by decide +kernel
theorem dX13_whomFor_60 : decode cX13_whomFor 60 = .ok (.iload 5, 2) := by decide +kernel
theorem dX13_whomFor_62 : decode cX13_whomFor 62 = .ok (.iload_n 1, 1) := by decide +kernel
theorem dX13_whomFor_63 : decode cX13_whomFor 63 = .ok (.iload 6, 2) := by decide +kernel
theorem dX13_whomFor_65 : decode cX13_whomFor 65 = .ok (.invokevirtual 489, 3) := by decide +kernel
theorem dX13_whomFor_68 : decode cX13_whomFor 68 = .ok (.ifCond .eq 6, 3) := by decide +kernel
theorem dX13_whomFor_71 : decode cX13_whomFor 71 = .ok (.goto 10, 3) := by decide +kernel
theorem dX13_whomFor_74 : decode cX13_whomFor 74 = .ok (.iload 5, 2) := by decide +kernel
theorem dX13_whomFor_76 : decode cX13_whomFor 76 = .ok (.istore_n 3, 1) := by decide +kernel
theorem dX13_whomFor_77 : decode cX13_whomFor 77 = .ok (.iload 6, 2) := by decide +kernel
theorem dX13_whomFor_79 : decode cX13_whomFor 79 = .ok (.istore 4, 2) := by decide +kernel
theorem dX13_whomFor_81 : decode cX13_whomFor 81 = .ok (.iinc 5 1, 3) := by decide +kernel
theorem dX13_whomFor_84 : decode cX13_whomFor 84 = .ok (.goto (-76), 3) := by decide +kernel
theorem dX13_whomFor_87 : decode cX13_whomFor 87 = .ok (.iload_n 3, 1) := by decide +kernel
theorem dX13_whomFor_88 : decode cX13_whomFor 88 = .ok (.ireturn, 1) := by decide +kernel
theorem dX13_whom_0 : decode cX13_whom 0 = .ok (.aload_n 0, 1) := by decide +kernel
theorem dX13_whom_1 : decode cX13_whom 1 = .ok (.iconst 0, 1) := by decide +kernel
theorem dX13_whom_2 : decode cX13_whom 2 = .ok (.putfield 153, 3) := by decide +kernel
theorem dX13_whom_5 : decode cX13_whom 5 = .ok (.aload_n 0, 1) := by decide +kernel
theorem dX13_whom_6 : decode cX13_whom 6 = .ok (.iload_n 1, 1) := by decide +kernel
theorem dX13_whom_7 : decode cX13_whom 7 = .ok (.invokevirtual 446, 3) := by decide +kernel
theorem dX13_whom_10 : decode cX13_whom 10 = .ok (.ifCond .eq 17, 3) := by decide +kernel
theorem dX13_whom_13 : decode cX13_whom 13 = .ok (.aload_n 0, 1) := by decide +kernel
theorem dX13_whom_14 : decode cX13_whom 14 = .ok (.iload_n 1, 1) := by decide +kernel
theorem dX13_whom_15 : decode cX13_whom 15 = .ok (.aload_n 0, 1) := by decide +kernel
theorem dX13_whom_16 : decode cX13_whom 16 = .ok (.getfield 13, 3) := by decide +kernel
theorem dX13_whom_19 : decode cX13_whom 19 = .ok (.iconst 4, 1) := by decide +kernel
theorem dX13_whom_20 : decode cX13_whom 20 = .ok (.iaload, 1) := by decide +kernel
theorem dX13_whom_21 : decode cX13_whom 21 = .ok (.invokevirtual 492, 3) := by decide +kernel
theorem dX13_whom_24 : decode cX13_whom 24 = .ok (.goto 4, 3) := by decide +kernel
theorem dX13_whom_27 : decode cX13_whom 27 = .ok (.iconst (-1), 1) := by decide +kernel
theorem dX13_whom_28 : decode cX13_whom 28 = .ok (.ireturn, 1) := by decide +kernel
theorem dX13_terms_0 : decode cX13_terms 0 = .ok (.aload_n 0, 1) := by decide +kernel
theorem dX13_terms_1 : decode cX13_terms 1 = .ok (.iconst 0, 1) := by decide +kernel
theorem dX13_terms_2 : decode cX13_terms 2 = .ok (.putfield 153, 3) := by decide +kernel
theorem dX13_terms_5 : decode cX13_terms 5 = .ok (.iconst 1, 1) := by decide +kernel
theorem dX13_terms_6 : decode cX13_terms 6 = .ok (.istore_n 2, 1) := by decide +kernel
theorem dX13_terms_7 : decode cX13_terms 7 = .ok (.iload_n 2, 1) := by decide +kernel
theorem dX13_terms_8 : decode cX13_terms 8 = .ok (.bipush 13, 2) := by decide +kernel
theorem dX13_terms_10 : decode cX13_terms 10 = .ok (.if_icmp .ge 28, 3) := by decide +kernel
theorem dX13_terms_13 : decode cX13_terms 13 = .ok (.aload_n 0, 1) := by decide +kernel
theorem dX13_terms_14 : decode cX13_terms 14 = .ok (.iload_n 1, 1) := by decide +kernel
theorem dX13_terms_15 : decode cX13_terms 15 = .ok (.invokevirtual 446, 3) := by decide +kernel
theorem dX13_terms_18 : decode cX13_terms 18 = .ok (.ifCond .eq 20, 3) := by decide +kernel
theorem dX13_terms_21 : decode cX13_terms 21 = .ok (.aload_n 0, 1) := by decide +kernel
theorem dX13_terms_22 : decode cX13_terms 22 = .ok (.iload_n 1, 1) := by decide +kernel
theorem dX13_terms_23 : decode cX13_terms 23 = .ok (.iload_n 2, 1) := by decide +kernel
theorem dX13_terms_24 : decode cX13_terms 24 = .ok (.invokevirtual 492, 3) := by decide +kernel
theorem dX13_terms_27 : decode cX13_terms 27 = .ok (.ifCond .lt 5, 3) := by decide +kernel
theorem dX13_terms_30 : decode cX13_terms 30 = .ok (.iload_n 2, 1) := by decide +kernel
theorem dX13_terms_31 : decode cX13_terms 31 = .ok (.ireturn, 1) := by decide +kernel
theorem dX13_terms_32 : decode cX13_terms 32 = .ok (.iinc 2 1, 3) := by decide +kernel
theorem dX13_terms_35 : decode cX13_terms 35 = .ok (.goto (-28), 3) := by decide +kernel
theorem dX13_terms_38 : decode cX13_terms 38 = .ok (.iconst (-1), 1) := by decide +kernel
theorem dX13_terms_39 : decode cX13_terms 39 = .ok (.ireturn, 1) := by decide +kernel
theorem dX13_heads_0 : decode cX13_heads 0 = .ok (.iload_n 1, 1) := by decide +kernel
theorem dX13_heads_1 : decode cX13_heads 1 = .ok (.iload_n 2, 1) := by decide +kernel
theorem dX13_heads_2 : decode cX13_heads 2 = .ok (.if_icmp .ne 59, 3) := by decide +kernel
theorem dX13_heads_5 : decode cX13_heads 5 = .ok (.aload_n 0, 1) := by decide +kernel
theorem dX13_heads_6 : decode cX13_heads 6 = .ok (.invokevirtual 437, 3) := by decide +kernel
theorem dX13_heads_9 : decode cX13_heads 9 = .ok (.istore_n 3, 1) := by decide +kernel
theorem dX13_heads_10 : decode cX13_heads 10 = .ok (.aload_n 0, 1) := by decide +kernel
theorem dX13_heads_11 : decode cX13_heads 11 = .ok (.getfield 495, 3) := by decide +kernel
theorem dX13_heads_14 : decode cX13_heads 14 = .ok (.ifCond .lt 12, 3) := by decide +kernel
theorem dX13_heads_17 : decode cX13_heads 17 = .ok (.iload_n 3, 1) := by decide +kernel
theorem dX13_heads_18 : decode cX13_heads 18 = .ok (.aload_n 0, 1) := by decide +kernel
theorem dX13_heads_19 : decode cX13_heads 19 = .ok (.getfield 495, 3) := by decide +kernel
theorem dX13_heads_22 : decode cX13_heads 22 = .ok (.if_icmp .lt 4, 3) := by decide +kernel
theorem dX13_heads_25 : decode cX13_heads 25 = .ok (.return_, 1) := by decide +kernel
theorem dX13_heads_26 : decode cX13_heads 26 = .ok (.aload_n 0, 1) := by decide +kernel
theorem dX13_heads_27 : decode cX13_heads 27 = .ok (.iload_n 3, 1) := by decide +kernel
theorem dX13_heads_28 : decode cX13_heads 28 = .ok (.putfield 495, 3) := by decide +kernel
theorem dX13_heads_31 : decode cX13_heads 31 = .ok (.iconst 0, 1) := by decide +kernel
theorem dX13_heads_32 : decode cX13_heads 32 = .ok (.istore 4, 2) := by decide +kernel
theorem dX13_heads_34 : decode cX13_heads 34 = .ok (.iload 4, 2) := by decide +kernel
theorem dX13_heads_36 : decode cX13_heads 36 = .ok (.iconst 5, 1) := by decide +kernel
theorem dX13_heads_37 : decode cX13_heads 37 = .ok (.if_icmp .ge 23, 3) := by decide +kernel
theorem dX13_heads_40 : decode cX13_heads 40 = .ok (.aload_n 0, 1) := by decide +kernel
theorem dX13_heads_41 : decode cX13_heads 41 = .ok (.getfield 141, 3) := by decide +kernel
theorem dX13_heads_44 : decode cX13_heads 44 = .ok (.iload 4, 2) := by decide +kernel
theorem dX13_heads_46 : decode cX13_heads 46 = .ok (.aload_n 0, 1) := by decide +kernel
theorem dX13_heads_47 : decode cX13_heads 47 = .ok (.getfield 138, 3) := by decide +kernel
theorem dX13_heads_50 : decode cX13_heads 50 = .ok (.iload 4, 2) := by decide +kernel
theorem dX13_heads_52 : decode cX13_heads 52 = .ok (.iaload, 1) := by decide +kernel
theorem dX13_heads_53 : decode cX13_heads 53 = .ok (.iastore, 1) := by decide +kernel
theorem dX13_heads_54 : decode cX13_heads 54 = .ok (.iinc 4 1, 3) := by decide +kernel
theorem dX13_heads_57 : decode cX13_heads 57 = .ok (.goto (-23), 3) := by decide +kernel
theorem dX13_heads_60 : decode cX13_heads 60 = .ok (.return_, 1) := by decide +kernel
theorem dX13_heads_61 : decode cX13_heads 61 = .ok (.aload_n 0, 1) := by decide +kernel
theorem dX13_heads_62 : decode cX13_heads 62 = .ok (.getfield 120, 3) := by decide +kernel
theorem dX13_heads_65 : decode cX13_heads 65 = .ok (.iconst 0, 1) := by decide +kernel
theorem dX13_heads_66 : decode cX13_heads 66 = .ok (.aload_n 0, 1) := by decide +kernel
theorem dX13_heads_67 : decode cX13_heads 67 = .ok (.getfield 126, 3) := by decide +kernel
theorem dX13_heads_70 : decode cX13_heads 70 = .ok (.bipush 23, 2) := by decide +kernel
theorem dX13_heads_72 : decode cX13_heads 72 = .ok (.iload_n 1, 1) := by decide +kernel
theorem dX13_heads_73 : decode cX13_heads 73 = .ok (.imul, 1) := by decide +kernel
theorem dX13_heads_74 : decode cX13_heads 74 = .ok (.invokestatic 452, 3) := by decide +kernel
theorem dX13_heads_77 : decode cX13_heads 77 = .ok (.iconst 0, 1) := by decide +kernel
theorem dX13_heads_78 : decode cX13_heads 78 = .ok (.istore_n 3, 1) := by decide +kernel
theorem dX13_heads_79 : decode cX13_heads 79 = .ok (.iload_n 3, 1) := by decide +kernel
theorem dX13_heads_80 : decode cX13_heads 80 = .ok (.aload_n 0, 1) := by decide +kernel
theorem dX13_heads_81 : decode cX13_heads 81 = .ok (.getfield 13, 3) := by decide +kernel
theorem dX13_heads_84 : decode cX13_heads 84 = .ok (.iconst 1, 1) := by decide +kernel
theorem dX13_heads_85 : decode cX13_heads 85 = .ok (.iaload, 1) := by decide +kernel
theorem dX13_heads_86 : decode cX13_heads 86 = .ok (.if_icmp .ge 47, 3) := by decide +kernel
theorem dX13_heads_89 : decode cX13_heads 89 = .ok (.aload_n 0, 1) := by decide +kernel
theorem dX13_heads_90 : decode cX13_heads 90 = .ok (.iload_n 3, 1) := by decide +kernel
theorem dX13_heads_91 : decode cX13_heads 91 = .ok (.iconst (-1), 1) := by decide +kernel
theorem dX13_heads_92 : decode cX13_heads 92 = .ok (.invokevirtual 465, 3) := by decide +kernel
theorem dX13_heads_95 : decode cX13_heads 95 = .ok (.pop, 1) := by decide +kernel
theorem dX13_heads_96 : decode cX13_heads 96 = .ok (.aload_n 0, 1) := by decide +kernel
theorem dX13_heads_97 : decode cX13_heads 97 = .ok (.getfield 138, 3) := by decide +kernel
theorem dX13_heads_100 : decode cX13_heads 100 = .ok (.iload_n 1, 1) := by decide +kernel
theorem dX13_heads_101 : decode cX13_heads 101 = .ok (.iload_n 3, 1) := by decide +kernel
theorem dX13_heads_102 : decode cX13_heads 102 = .ok (.iastore, 1) := by decide +kernel
theorem dX13_heads_103 : decode cX13_heads 103 = .ok (.aload_n 0, 1) := by decide +kernel
theorem dX13_heads_104 : decode cX13_heads 104 = .ok (.iload_n 1, 1) := by decide +kernel
theorem dX13_heads_105 : decode cX13_heads 105 = .ok (.iconst 1, 1) := by decide +kernel
theorem dX13_heads_106 : decode cX13_heads 106 = .ok (.iadd, 1) := by decide +kernel
theorem dX13_heads_107 : decode cX13_heads 107 = .ok (.iload_n 2, 1) := by decide +kernel
theorem dX13_heads_108 : decode cX13_heads 108 = .ok (.invokevirtual 498, 3) := by decide +kernel
theorem dX13_heads_111 : decode cX13_heads 111 = .ok (.aload_n 0, 1) := by decide +kernel
theorem dX13_heads_112 : decode cX13_heads 112 = .ok (.getfield 126, 3) := by decide +kernel
theorem dX13_heads_115 : decode cX13_heads 115 = .ok (.bipush 23, 2) := by decide +kernel
theorem dX13_heads_117 : decode cX13_heads 117 = .ok (.iload_n 1, 1) := by decide +kernel
theorem dX13_heads_118 : decode cX13_heads 118 = .ok (.imul, 1) := by decide +kernel
theorem dX13_heads_119 : decode cX13_heads 119 = .ok (.aload_n 0, 1) := by decide +kernel
theorem dX13_heads_120 : decode cX13_heads 120 = .ok (.getfield 120, 3) := by decide +kernel
theorem dX13_heads_123 : decode cX13_heads 123 = .ok (.iconst 0, 1) := by decide +kernel
theorem dX13_heads_124 : decode cX13_heads 124 = .ok (.invokestatic 452, 3) := by decide +kernel
theorem dX13_heads_127 : decode cX13_heads 127 = .ok (.iinc 3 1, 3) := by decide +kernel
theorem dX13_heads_130 : decode cX13_heads 130 = .ok (.goto (-51), 3) := by decide +kernel
theorem dX13_heads_133 : decode cX13_heads 133 = .ok (.return_, 1) := by decide +kernel
theorem dX13_headings_0 : decode cX13_headings 0 = .ok (.aload_n 0, 1) := by decide +kernel
theorem dX13_headings_1 : decode cX13_headings 1 = .ok (.iconst 0, 1) := by decide +kernel
theorem dX13_headings_2 : decode cX13_headings 2 = .ok (.putfield 153, 3) := by decide +kernel
theorem dX13_headings_5 : decode cX13_headings 5 = .ok (.iload_n 1, 1) := by decide +kernel
theorem dX13_headings_6 : decode cX13_headings 6 = .ok (.iconst 1, 1) := by decide +kernel
theorem dX13_headings_7 : decode cX13_headings 7 = .ok (.iconst 5, 1) := by decide +kernel
theorem dX13_headings_8 : decode cX13_headings 8 = .ok (.invokestatic 297, 3) := by decide +kernel
theorem dX13_headings_11 : decode cX13_headings 11 = .ok (.ifCond .eq 30, 3) := by decide +kernel
theorem dX13_headings_14 : decode cX13_headings 14 = .ok (.iload_n 2, 1) := by decide +kernel
theorem dX13_headings_15 : decode cX13_headings 15 = .ok (.iconst 0, 1) := by decide +kernel
theorem dX13_headings_16 : decode cX13_headings 16 = .ok (.iload_n 1, 1) := by decide +kernel
theorem dX13_headings_17 : decode cX13_headings 17 = .ok (.invokestatic 297, 3) := by decide +kernel
theorem dX13_headings_20 : decode cX13_headings 20 = .ok (.ifCond .eq 21, 3) := by decide +kernel
theorem dX13_headings_23 : decode cX13_headings 23 = .ok (.aload_n 0, 1) := by decide +kernel
theorem dX13_headings_24 : decode cX13_headings 24 = .ok (.getfield 120, 3) := by decide +kernel
theorem dX13_headings_27 : decode cX13_headings 27 = .ok (.iconst 1, 1) := by decide +kernel
theorem dX13_headings_28 : decode cX13_headings 28 = .ok (.iaload, 1) := by decide +kernel
theorem dX13_headings_29 : decode cX13_headings 29 = .ok (.ifCond .lt 12, 3) := by decide +kernel
theorem dX13_headings_32 : decode cX13_headings 32 = .ok (.aload_n 0, 1) := by decide +kernel
theorem dX13_headings_33 : decode cX13_headings 33 = .ok (.getfield 13, 3) := by decide +kernel
theorem dX13_headings_36 : decode cX13_headings 36 = .ok (.iconst 1, 1) := by decide +kernel
theorem dX13_headings_37 : decode cX13_headings 37 = .ok (.iaload, 1) := by decide +kernel
theorem dX13_headings_38 : decode cX13_headings 38 = .ok (.ifCond .ne 6, 3) := by decide +kernel
theorem dX13_headings_41 : decode cX13_headings 41 = .ok (.bipush (-2), 2) := by decide +kernel
theorem dX13_headings_43 : decode cX13_headings 43 = .ok (.ireturn, 1) := by decide +kernel
theorem dX13_headings_44 : decode cX13_headings 44 = .ok (.aload_n 0, 1) := by decide +kernel
theorem dX13_headings_45 : decode cX13_headings 45 = .ok (.iconst (-1), 1) := by decide +kernel
theorem dX13_headings_46 : decode cX13_headings 46 = .ok (.putfield 495, 3) := by decide +kernel
theorem dX13_headings_49 : decode cX13_headings 49 = .ok (.aload_n 0, 1) := by decide +kernel
theorem dX13_headings_50 : decode cX13_headings 50 = .ok (.iconst 0, 1) := by decide +kernel
theorem dX13_headings_51 : decode cX13_headings 51 = .ok (.iload_n 1, 1) := by decide +kernel
theorem dX13_headings_52 : decode cX13_headings 52 = .ok (.invokevirtual 498, 3) := by decide +kernel
theorem dX13_headings_55 : decode cX13_headings 55 = .ok (.iload_n 2, 1) := by decide +kernel
theorem dX13_headings_56 : decode cX13_headings 56 = .ok (.ifCond .ne 10, 3) := by decide +kernel
theorem dX13_headings_59 : decode cX13_headings 59 = .ok (.aload_n 0, 1) := by decide +kernel
theorem dX13_headings_60 : decode cX13_headings 60 = .ok (.getfield 495, 3) := by decide +kernel
theorem dX13_headings_63 : decode cX13_headings 63 = .ok (.goto 11, 3) := by decide +kernel
theorem dX13_headings_66 : decode cX13_headings 66 = .ok (.aload_n 0, 1) := by decide +kernel
theorem dX13_headings_67 : decode cX13_headings 67 = .ok (.getfield 141, 3) := by decide +kernel
theorem dX13_headings_70 : decode cX13_headings 70 = .ok (.iload_n 2, 1) := by decide +kernel
theorem dX13_headings_71 : decode cX13_headings 71 = .ok (.iconst 1, 1) := by decide +kernel
theorem dX13_headings_72 : decode cX13_headings 72 = .ok (.isub, 1) := by decide +kernel
theorem dX13_headings_73 : decode cX13_headings 73 = .ok (.iaload, 1) := by decide +kernel
theorem dX13_headings_74 : decode cX13_headings 74 = .ok (.ireturn, 1) := by decide +kernel
theorem dX13_gives_0 : decode cX13_gives 0 = .ok (.aload_n 0, 1) := by decide +kernel
theorem dX13_gives_1 : decode cX13_gives 1 = .ok (.getfield 501, 3) := by decide +kernel
theorem dX13_gives_4 : decode cX13_gives 4 = .ok (.ifCond .lt 12, 3) := by decide +kernel
theorem dX13_gives_7 : decode cX13_gives 7 = .ok (.iload_n 3, 1) := by decide +kernel
theorem dX13_gives_8 : decode cX13_gives 8 = .ok (.aload_n 0, 1) := by decide +kernel
theorem dX13_gives_9 : decode cX13_gives 9 = .ok (.getfield 501, 3) := by decide +kernel
theorem dX13_gives_12 : decode cX13_gives 12 = .ok (.if_icmp .lt 4, 3) := by decide +kernel
theorem dX13_gives_15 : decode cX13_gives 15 = .ok (.return_, 1) := by decide +kernel
theorem dX13_gives_16 : decode cX13_gives 16 = .ok (.iload_n 1, 1) := by decide +kernel
theorem dX13_gives_17 : decode cX13_gives 17 = .ok (.aload_n 0, 1) := by decide +kernel
theorem dX13_gives_18 : decode cX13_gives 18 = .ok (.getfield 13, 3) := by decide +kernel
theorem dX13_gives_21 : decode cX13_gives 21 = .ok (.iconst 1, 1) := by decide +kernel
theorem dX13_gives_22 : decode cX13_gives 22 = .ok (.iaload, 1) := by decide +kernel
theorem dX13_gives_23 : decode cX13_gives 23 = .ok (.if_icmp .ne 38, 3) := by decide +kernel
theorem dX13_gives_26 : decode cX13_gives 26 = .ok (.aload_n 0, 1) := by decide +kernel
theorem dX13_gives_27 : decode cX13_gives 27 = .ok (.iload_n 3, 1) := by decide +kernel
theorem dX13_gives_28 : decode cX13_gives 28 = .ok (.putfield 501, 3) := by decide +kernel
theorem dX13_gives_31 : decode cX13_gives 31 = .ok (.iconst 0, 1) := by decide +kernel
theorem dX13_gives_32 : decode cX13_gives 32 = .ok (.istore 4, 2) := by decide +kernel
theorem dX13_gives_34 : decode cX13_gives 34 = .ok (.iload 4, 2) := by decide +kernel
theorem dX13_gives_36 : decode cX13_gives 36 = .ok (.iconst 5, 1) := by decide +kernel
theorem dX13_gives_37 : decode cX13_gives 37 = .ok (.if_icmp .ge 23, 3) := by decide +kernel
theorem dX13_gives_40 : decode cX13_gives 40 = .ok (.aload_n 0, 1) := by decide +kernel
theorem dX13_gives_41 : decode cX13_gives 41 = .ok (.getfield 147, 3) := by decide +kernel
theorem dX13_gives_44 : decode cX13_gives 44 = .ok (.iload 4, 2) := by decide +kernel
theorem dX13_gives_46 : decode cX13_gives 46 = .ok (.aload_n 0, 1) := by decide +kernel
theorem dX13_gives_47 : decode cX13_gives 47 = .ok (.getfield 144, 3) := by decide +kernel
theorem dX13_gives_50 : decode cX13_gives 50 = .ok (.iload 4, 2) := by decide +kernel
theorem dX13_gives_52 : decode cX13_gives 52 = .ok (.iaload, 1) := by decide +kernel
theorem dX13_gives_53 : decode cX13_gives 53 = .ok (.iastore, 1) := by decide +kernel
theorem dX13_gives_54 : decode cX13_gives 54 = .ok (.iinc 4 1, 3) := by decide +kernel
theorem dX13_gives_57 : decode cX13_gives 57 = .ok (.goto (-23), 3) := by decide +kernel
theorem dX13_gives_60 : decode cX13_gives 60 = .ok (.return_, 1) := by decide +kernel
theorem dX13_gives_61 : decode cX13_gives 61 = .ok (.aload_n 0, 1) := by decide +kernel
theorem dX13_gives_62 : decode cX13_gives 62 = .ok (.getfield 144, 3) := by decide +kernel
theorem dX13_gives_65 : decode cX13_gives 65 = .ok (.iload_n 1, 1) := by decide +kernel
theorem dX13_gives_66 : decode cX13_gives 66 = .ok (.iconst (-1), 1) := by decide +kernel
theorem dX13_gives_67 : decode cX13_gives 67 = .ok (.iastore, 1) := by decide +kernel
theorem dX13_gives_68 : decode cX13_gives 68 = .ok (.aload_n 0, 1) := by decide +kernel
theorem dX13_gives_69 : decode cX13_gives 69 = .ok (.getfield 120, 3) := by decide +kernel
theorem dX13_gives_72 : decode cX13_gives 72 = .ok (.bipush 6, 2) := by decide +kernel
theorem dX13_gives_74 : decode cX13_gives 74 = .ok (.iload_n 1, 1) := by decide +kernel
theorem dX13_gives_75 : decode cX13_gives 75 = .ok (.iadd, 1) := by decide +kernel
theorem dX13_gives_76 : decode cX13_gives 76 = .ok (.iaload, 1) := by decide +kernel
theorem dX13_gives_77 : decode cX13_gives 77 = .ok (.ifCond .ne 13, 3) := by decide +kernel
theorem dX13_gives_80 : decode cX13_gives 80 = .ok (.aload_n 0, 1) := by decide +kernel
theorem dX13_gives_81 : decode cX13_gives 81 = .ok (.iload_n 1, 1) := by decide +kernel
theorem dX13_gives_82 : decode cX13_gives 82 = .ok (.iconst 1, 1) := by decide +kernel
theorem dX13_gives_83 : decode cX13_gives 83 = .ok (.iadd, 1) := by decide +kernel
theorem dX13_gives_84 : decode cX13_gives 84 = .ok (.iload_n 2, 1) := by decide +kernel
theorem dX13_gives_85 : decode cX13_gives 85 = .ok (.iload_n 3, 1) := by decide +kernel
theorem dX13_gives_86 : decode cX13_gives 86 = .ok (.invokevirtual 504, 3) := by decide +kernel
theorem dX13_gives_89 : decode cX13_gives 89 = .ok (.return_, 1) := by decide +kernel
theorem dX13_gives_90 : decode cX13_gives 90 = .ok (.iconst 0, 1) := by decide +kernel
theorem dX13_gives_91 : decode cX13_gives 91 = .ok (.istore 4, 2) := by decide +kernel
theorem dX13_gives_93 : decode cX13_gives 93 = .ok (.iload 4, 2) := by decide +kernel
theorem dX13_gives_95 : decode cX13_gives 95 = .ok (.aload_n 0, 1) := by decide +kernel
theorem dX13_gives_96 : decode cX13_gives 96 = .ok (.getfield 13, 3) := by decide +kernel
theorem dX13_gives_99 : decode cX13_gives 99 = .ok (.iconst 0, 1) := by decide +kernel
theorem dX13_gives_100 : decode cX13_gives 100 = .ok (.iaload, 1) := by decide +kernel
theorem dX13_gives_101 : decode cX13_gives 101 = .ok (.if_icmp .ge 66, 3) := by decide +kernel
theorem dX13_gives_104 : decode cX13_gives 104 = .ok (.iload_n 2, 1) := by decide +kernel
theorem dX13_gives_105 : decode cX13_gives 105 = .ok (.iload 4, 2) := by decide +kernel
theorem dX13_gives_107 : decode cX13_gives 107 = .ok (.ishr, 1) := by decide +kernel
theorem dX13_gives_108 : decode cX13_gives 108 = .ok (.iconst 1, 1) := by decide +kernel
theorem dX13_gives_109 : decode cX13_gives 109 = .ok (.iand, 1) := by decide +kernel
theorem dX13_gives_110 : decode cX13_gives 110 = .ok (.iconst 1, 1) := by decide +kernel
theorem dX13_gives_111 : decode cX13_gives 111 = .ok (.if_icmp .ne 6, 3) := by decide +kernel
theorem dX13_gives_114 : decode cX13_gives 114 = .ok (.goto 47, 3) := by decide +kernel
theorem dX13_gives_117 : decode cX13_gives 117 = .ok (.aload_n 0, 1) := by decide +kernel
theorem dX13_gives_118 : decode cX13_gives 118 = .ok (.iload 4, 2) := by decide +kernel
theorem dX13_gives_120 : decode cX13_gives 120 = .ok (.iload_n 1, 1) := by decide +kernel
theorem dX13_gives_121 : decode cX13_gives 121 = .ok (.invokevirtual 480, 3) := by decide +kernel
theorem dX13_gives_124 : decode cX13_gives 124 = .ok (.istore 5, 2) := by decide +kernel
theorem dX13_gives_126 : decode cX13_gives 126 = .ok (.aload_n 0, 1) := by decide +kernel
theorem dX13_gives_127 : decode cX13_gives 127 = .ok (.getfield 144, 3) := by decide +kernel
theorem dX13_gives_130 : decode cX13_gives 130 = .ok (.iload_n 1, 1) := by decide +kernel
theorem dX13_gives_131 : decode cX13_gives 131 = .ok (.iload 4, 2) := by decide +kernel
theorem dX13_gives_133 : decode cX13_gives 133 = .ok (.iastore, 1) := by decide +kernel
theorem dX13_gives_134 : decode cX13_gives 134 = .ok (.aload_n 0, 1) := by decide +kernel
theorem dX13_gives_135 : decode cX13_gives 135 = .ok (.iload_n 1, 1) := by decide +kernel
theorem dX13_gives_136 : decode cX13_gives 136 = .ok (.iconst 1, 1) := by decide +kernel
theorem dX13_gives_137 : decode cX13_gives 137 = .ok (.iadd, 1) := by decide +kernel
theorem dX13_gives_138 : decode cX13_gives 138 = .ok (.iload_n 2, 1) := by decide +kernel
theorem dX13_gives_139 : decode cX13_gives 139 = .ok (.iconst 1, 1) := by decide +kernel
theorem dX13_gives_140 : decode cX13_gives 140 = .ok (.iload 4, 2) := by decide +kernel
theorem dX13_gives_142 : decode cX13_gives 142 = .ok (.ishl, 1) := by decide +kernel
theorem dX13_gives_143 : decode cX13_gives 143 = .ok (.ior, 1) := by decide +kernel
theorem dX13_gives_144 : decode cX13_gives 144 = .ok (.iload_n 3, 1) := by decide +kernel
theorem dX13_gives_145 : decode cX13_gives 145 = .ok (.iload 5, 2) := by decide +kernel
theorem dX13_gives_147 : decode cX13_gives 147 = .ok (.ifCond .ge 8, 3) := by decide +kernel
theorem dX13_gives_150 : decode cX13_gives 150 = .ok (.bipush 99, 2) := by decide +kernel
theorem dX13_gives_152 : decode cX13_gives 152 = .ok (.goto 5, 3) := by decide +kernel
theorem dX13_gives_155 : decode cX13_gives 155 = .ok (.iload 5, 2) := by decide +kernel
theorem dX13_gives_157 : decode cX13_gives 157 = .ok (.iadd, 1) := by decide +kernel
theorem dX13_gives_158 : decode cX13_gives 158 = .ok (.invokevirtual 504, 3) := by decide +kernel
theorem dX13_gives_161 : decode cX13_gives 161 = .ok (.iinc 4 1, 3) := by decide +kernel
theorem dX13_gives_164 : decode cX13_gives 164 = .ok (.goto (-71), 3) := by decide +kernel
theorem dX13_gives_167 : decode cX13_gives 167 = .ok (.return_, 1) := by decide +kernel
theorem dX13_all_0 : decode cX13_all 0 = .ok (.aload_n 0, 1) := by decide +kernel
theorem dX13_all_1 : decode cX13_all 1 = .ok (.iconst 0, 1) := by decide +kernel
theorem dX13_all_2 : decode cX13_all 2 = .ok (.putfield 153, 3) := by decide +kernel
theorem dX13_all_5 : decode cX13_all 5 = .ok (.iload_n 1, 1) := by decide +kernel
theorem dX13_all_6 : decode cX13_all 6 = .ok (.iconst (-1), 1) := by decide +kernel
theorem dX13_all_7 : decode cX13_all 7 = .ok (.if_icmp .eq 14, 3) := by decide +kernel
theorem dX13_all_10 : decode cX13_all 10 = .ok (.aload_n 0, 1) := by decide +kernel
theorem dX13_all_11 : decode cX13_all 11 = .ok (.iload_n 1, 1) := by decide +kernel
theorem dX13_all_12 : decode cX13_all 12 = .ok (.invokevirtual 446, 3) := by decide +kernel
theorem dX13_all_15 : decode cX13_all 15 = .ok (.ifCond .ne 6, 3) := by decide +kernel
theorem dX13_all_18 : decode cX13_all 18 = .ok (.bipush (-2), 2) := by decide +kernel
theorem dX13_all_20 : decode cX13_all 20 = .ok (.ireturn, 1) := by decide +kernel
theorem dX13_all_21 : decode cX13_all 21 = .ok (.aload_n 0, 1) := by decide +kernel
theorem dX13_all_22 : decode cX13_all 22 = .ok (.iconst (-1), 1) := by decide +kernel
theorem dX13_all_23 : decode cX13_all 23 = .ok (.putfield 501, 3) := by decide +kernel
theorem dX13_all_26 : decode cX13_all 26 = .ok (.aload_n 0, 1) := by decide +kernel
theorem dX13_all_27 : decode cX13_all 27 = .ok (.iconst 0, 1) := by decide +kernel
theorem dX13_all_28 : decode cX13_all 28 = .ok (.iconst 0, 1) := by decide +kernel
theorem dX13_all_29 : decode cX13_all 29 = .ok (.iconst 0, 1) := by decide +kernel
theorem dX13_all_30 : decode cX13_all 30 = .ok (.invokevirtual 504, 3) := by decide +kernel
theorem dX13_all_33 : decode cX13_all 33 = .ok (.aload_n 0, 1) := by decide +kernel
theorem dX13_all_34 : decode cX13_all 34 = .ok (.getfield 501, 3) := by decide +kernel
theorem dX13_all_37 : decode cX13_all 37 = .ok (.ifCond .ge 6, 3) := by decide +kernel
theorem dX13_all_40 : decode cX13_all 40 = .ok (.bipush (-2), 2) := by decide +kernel
theorem dX13_all_42 : decode cX13_all 42 = .ok (.ireturn, 1) := by decide +kernel
theorem dX13_all_43 : decode cX13_all 43 = .ok (.iload_n 1, 1) := by decide +kernel
theorem dX13_all_44 : decode cX13_all 44 = .ok (.iconst (-1), 1) := by decide +kernel
theorem dX13_all_45 : decode cX13_all 45 = .ok (.if_icmp .ne 10, 3) := by decide +kernel
theorem dX13_all_48 : decode cX13_all 48 = .ok (.aload_n 0, 1) := by decide +kernel
theorem dX13_all_49 : decode cX13_all 49 = .ok (.getfield 501, 3) := by decide +kernel
theorem dX13_all_52 : decode cX13_all 52 = .ok (.goto 9, 3) := by decide +kernel
theorem dX13_all_55 : decode cX13_all 55 = .ok (.aload_n 0, 1) := by decide +kernel
theorem dX13_all_56 : decode cX13_all 56 = .ok (.getfield 147, 3) := by decide +kernel
theorem dX13_all_59 : decode cX13_all 59 = .ok (.iload_n 1, 1) := by decide +kernel
theorem dX13_all_60 : decode cX13_all 60 = .ok (.iaload, 1) := by decide +kernel
theorem dX13_all_61 : decode cX13_all 61 = .ok (.ireturn, 1) := by decide +kernel
theorem dX13_waits_0 : decode cX13_waits 0 = .ok (.aload_n 0, 1) := by decide +kernel
theorem dX13_waits_1 : decode cX13_waits 1 = .ok (.iconst 0, 1) := by decide +kernel
theorem dX13_waits_2 : decode cX13_waits 2 = .ok (.putfield 153, 3) := by decide +kernel
theorem dX13_waits_5 : decode cX13_waits 5 = .ok (.iload_n 1, 1) := by decide +kernel
theorem dX13_waits_6 : decode cX13_waits 6 = .ok (.iconst 1, 1) := by decide +kernel
theorem dX13_waits_7 : decode cX13_waits 7 = .ok (.sipush 495, 3) := by decide +kernel
theorem dX13_waits_10 : decode cX13_waits 10 = .ok (.invokestatic 297, 3) := by decide +kernel
theorem dX13_waits_13 : decode cX13_waits 13 = .ok (.ifCond .ne 5, 3) := by decide +kernel
theorem dX13_waits_16 : decode cX13_waits 16 = .ok (.iconst (-1), 1) := by decide +kernel
theorem dX13_waits_17 : decode cX13_waits 17 = .ok (.ireturn, 1) := by decide +kernel
theorem dX13_waits_18 : decode cX13_waits 18 = .ok (.iconst 0, 1) := by decide +kernel
theorem dX13_waits_19 : decode cX13_waits 19 = .ok (.istore_n 2, 1) := by decide +kernel
theorem dX13_waits_20 : decode cX13_waits 20 = .ok (.iload_n 2, 1) := by decide +kernel
theorem dX13_waits_21 : decode cX13_waits 21 = .ok (.bipush 100, 2) := by decide +kernel
theorem dX13_waits_23 : decode cX13_waits 23 = .ok (.if_icmp .ge 48, 3) := by decide +kernel
theorem dX13_waits_26 : decode cX13_waits 26 = .ok (.iconst 0, 1) := by decide +kernel
theorem dX13_waits_27 : decode cX13_waits 27 = .ok (.istore_n 3, 1) := by decide +kernel
theorem dX13_waits_28 : decode cX13_waits 28 = .ok (.iconst 0, 1) := by decide +kernel
theorem dX13_waits_29 : decode cX13_waits 29 = .ok (.istore 4, 2) := by decide +kernel
theorem dX13_waits_31 : decode cX13_waits 31 = .ok (.iload 4, 2) := by decide +kernel
theorem dX13_waits_33 : decode cX13_waits 33 = .ok (.aload_n 0, 1) := by decide +kernel
theorem dX13_waits_34 : decode cX13_waits 34 = .ok (.getfield 13, 3) := by decide +kernel
theorem dX13_waits_37 : decode cX13_waits 37 = .ok (.iconst 1, 1) := by decide +kernel
theorem dX13_waits_38 : decode cX13_waits 38 = .ok (.iaload, 1) := by decide +kernel
theorem dX13_waits_39 : decode cX13_waits 39 = .ok (.if_icmp .ge 19, 3) := by decide +kernel
theorem dX13_waits_42 : decode cX13_waits 42 = .ok (.iload_n 3, 1) := by decide +kernel
theorem dX13_waits_43 : decode cX13_waits 43 = .ok (.aload_n 0, 1) := by decide +kernel
theorem dX13_waits_44 : decode cX13_waits 44 = .ok (.iload 4, 2) := by decide +kernel
theorem dX13_waits_46 : decode cX13_waits 46 = .ok (.iload_n 2, 1) := by decide +kernel
theorem dX13_waits_47 : decode cX13_waits 47 = .ok (.invokevirtual 483, 3) := by decide +kernel
theorem dX13_waits_50 : decode cX13_waits 50 = .ok (.iadd, 1) := by decide +kernel
theorem dX13_waits_51 : decode cX13_waits 51 = .ok (.istore_n 3, 1) := by decide +kernel
theorem dX13_waits_52 : decode cX13_waits 52 = .ok (.iinc 4 1, 3) := by decide +kernel
theorem dX13_waits_55 : decode cX13_waits 55 = .ok (.goto (-24), 3) := by decide +kernel
theorem dX13_waits_58 : decode cX13_waits 58 = .ok (.iload_n 3, 1) := by decide +kernel
theorem dX13_waits_59 : decode cX13_waits 59 = .ok (.iload_n 1, 1) := by decide +kernel
theorem dX13_waits_60 : decode cX13_waits 60 = .ok (.if_icmp .lt 5, 3) := by decide +kernel
theorem dX13_waits_63 : decode cX13_waits 63 = .ok (.iload_n 2, 1) := by decide +kernel
theorem dX13_waits_64 : decode cX13_waits 64 = .ok (.ireturn, 1) := by decide +kernel
theorem dX13_waits_65 : decode cX13_waits 65 = .ok (.iinc 2 1, 3) := by decide +kernel
theorem dX13_waits_68 : decode cX13_waits 68 = .ok (.goto (-48), 3) := by decide +kernel
theorem dX13_waits_71 : decode cX13_waits 71 = .ok (.iconst (-1), 1) := by decide +kernel
theorem dX13_waits_72 : decode cX13_waits 72 = .ok (.ireturn, 1) := by decide +kernel
theorem dX13_endsBy_0 : decode cX13_endsBy 0 = .ok (.lconst 1, 1) := by decide +kernel
theorem dX13_endsBy_1 : decode cX13_endsBy 1 = .ok (.lstore 7, 2) := by decide +kernel
theorem dX13_endsBy_3 : decode cX13_endsBy 3 = .ok (.iconst 0, 1) := by decide +kernel
theorem dX13_endsBy_4 : decode cX13_endsBy 4 = .ok (.istore 9, 2) := by decide +kernel
theorem dX13_endsBy_6 : decode cX13_endsBy 6 = .ok (.iload 9, 2) := by decide +kernel
theorem dX13_endsBy_8 : decode cX13_endsBy 8 = .ok (.iload 5, 2) := by decide +kernel
theorem dX13_endsBy_10 : decode cX13_endsBy 10 = .ok (.if_icmp .ge 17, 3) := by decide +kernel
theorem dX13_endsBy_13 : decode cX13_endsBy 13 = .ok (.lload 7, 2) := by decide +kernel
theorem dX13_endsBy_15 : decode cX13_endsBy 15 = .ok (.ldc2_w 508, 3) := by decide +kernel
theorem dX13_endsBy_18 : decode cX13_endsBy 18 = .ok (.lmul, 1) := by decide +kernel
theorem dX13_endsBy_19 : decode cX13_endsBy 19 = .ok (.lstore 7, 2) := by decide +kernel
theorem dX13_endsBy_21 : decode cX13_endsBy 21 = .ok (.iinc 9 1, 3) := by decide +kernel
theorem dX13_endsBy_24 : decode cX13_endsBy 24 = .ok (.goto (-18), 3) := by decide +kernel
theorem dX13_endsBy_27 : decode cX13_endsBy 27 = .ok (.iload_n 3, 1) := by decide +kernel
theorem dX13_endsBy_28 : decode cX13_endsBy 28 = .ok (.ifCond .ne 6, 3) := by decide +kernel
theorem dX13_endsBy_31 : decode cX13_endsBy 31 = .ok (.lload 7, 2) := by decide +kernel
theorem dX13_endsBy_33 : decode cX13_endsBy 33 = .ok (.lreturn, 1) := by decide +kernel
theorem dX13_endsBy_34 : decode cX13_endsBy 34 = .ok (.iload 5, 2) := by decide +kernel
theorem dX13_endsBy_36 : decode cX13_endsBy 36 = .ok (.ifCond .ne 5, 3) := by decide +kernel
theorem dX13_endsBy_39 : decode cX13_endsBy 39 = .ok (.lconst 0, 1) := by decide +kernel
theorem dX13_endsBy_40 : decode cX13_endsBy 40 = .ok (.lreturn, 1) := by decide +kernel
theorem dX13_endsBy_41 : decode cX13_endsBy 41 = .ok (.iload 6, 2) := by decide +kernel
theorem dX13_endsBy_43 : decode cX13_endsBy 43 = .ok (.ifCond .ne 7, 3) := by decide +kernel
theorem dX13_endsBy_46 : decode cX13_endsBy 46 = .ok (.lconst 0, 1) := by decide +kernel
theorem dX13_endsBy_47 : decode cX13_endsBy 47 = .ok (.goto 36, 3) := by decide +kernel
theorem dX13_endsBy_50 : decode cX13_endsBy 50 = .ok (.iload 6, 2) := by decide +kernel
theorem dX13_endsBy_52 : decode cX13_endsBy 52 = .ok (.i2l, 1) := by decide +kernel
theorem dX13_endsBy_53 : decode cX13_endsBy 53 = .ok (.aload_n 0, 1) := by decide +kernel
theorem dX13_endsBy_54 : decode cX13_endsBy 54 = .ok (.iload_n 1, 1) := by decide +kernel
theorem dX13_endsBy_55 : decode cX13_endsBy 55 = .ok (.iload_n 2, 1) := by decide +kernel
theorem dX13_endsBy_56 : decode cX13_endsBy 56 = .ok (.bipush 99, 2) := by decide +kernel
theorem dX13_endsBy_58 : decode cX13_endsBy 58 = .ok (.iload_n 3, 1) := by decide +kernel
theorem dX13_endsBy_59 : decode cX13_endsBy 59 = .ok (.aload_n 0, 1) := by decide +kernel
theorem dX13_endsBy_60 : decode cX13_endsBy 60 = .ok (.getfield 47, 3) := by decide +kernel
theorem dX13_endsBy_63 : decode cX13_endsBy 63 = .ok (.iload_n 2, 1) := by decide +kernel
theorem dX13_endsBy_64 : decode cX13_endsBy 64 = .ok (.iaload, 1) := by decide +kernel
theorem dX13_endsBy_65 : decode cX13_endsBy 65 = .ok (.iadd, 1) := by decide +kernel
theorem dX13_endsBy_66 : decode cX13_endsBy 66 = .ok (.invokestatic 416, 3) := by decide +kernel
theorem dX13_endsBy_69 : decode cX13_endsBy 69 = .ok (.iload 4, 2) := by decide +kernel
theorem dX13_endsBy_71 : decode cX13_endsBy 71 = .ok (.iconst 1, 1) := by decide +kernel
theorem dX13_endsBy_72 : decode cX13_endsBy 72 = .ok (.iadd, 1) := by decide +kernel
theorem dX13_endsBy_73 : decode cX13_endsBy 73 = .ok (.iload 5, 2) := by decide +kernel
theorem dX13_endsBy_75 : decode cX13_endsBy 75 = .ok (.iconst 1, 1) := by decide +kernel
theorem dX13_endsBy_76 : decode cX13_endsBy 76 = .ok (.isub, 1) := by decide +kernel
theorem dX13_endsBy_77 : decode cX13_endsBy 77 = .ok (.iload 6, 2) := by decide +kernel
theorem dX13_endsBy_79 : decode cX13_endsBy 79 = .ok (.invokevirtual 510, 3) := by decide +kernel
theorem dX13_endsBy_82 : decode cX13_endsBy 82 = .ok (.lmul, 1) := by decide +kernel
theorem dX13_endsBy_83 : decode cX13_endsBy 83 = .ok (.lstore 9, 2) := by decide +kernel
theorem dX13_endsBy_85 : decode cX13_endsBy 85 = .ok (.lload 9, 2) := by decide +kernel
theorem dX13_endsBy_87 : decode cX13_endsBy 87 = .ok (.iload 6, 2) := by decide +kernel
theorem dX13_endsBy_89 : decode cX13_endsBy 89 = .ok (.bipush 10, 2) := by decide +kernel
theorem dX13_endsBy_91 : decode cX13_endsBy 91 = .ok (.if_icmp .ne 7, 3) := by decide +kernel
theorem dX13_endsBy_94 : decode cX13_endsBy 94 = .ok (.lconst 0, 1) := by decide +kernel
theorem dX13_endsBy_95 : decode cX13_endsBy 95 = .ok (.goto 40, 3) := by decide +kernel
theorem dX13_endsBy_98 : decode cX13_endsBy 98 = .ok (.bipush 10, 2) := by decide +kernel
theorem dX13_endsBy_100 : decode cX13_endsBy 100 = .ok (.iload 6, 2) := by decide +kernel
theorem dX13_endsBy_102 : decode cX13_endsBy 102 = .ok (.isub, 1) := by decide +kernel
theorem dX13_endsBy_103 : decode cX13_endsBy 103 = .ok (.i2l, 1) := by decide +kernel
theorem dX13_endsBy_104 : decode cX13_endsBy 104 = .ok (.aload_n 0, 1) := by decide +kernel
theorem dX13_endsBy_105 : decode cX13_endsBy 105 = .ok (.iload_n 1, 1) := by decide +kernel
theorem dX13_endsBy_106 : decode cX13_endsBy 106 = .ok (.iload_n 2, 1) := by decide +kernel
theorem dX13_endsBy_107 : decode cX13_endsBy 107 = .ok (.iconst 0, 1) := by decide +kernel
theorem dX13_endsBy_108 : decode cX13_endsBy 108 = .ok (.iload_n 3, 1) := by decide +kernel
theorem dX13_endsBy_109 : decode cX13_endsBy 109 = .ok (.aload_n 0, 1) := by decide +kernel
theorem dX13_endsBy_110 : decode cX13_endsBy 110 = .ok (.iload_n 1, 1) := by decide +kernel
theorem dX13_endsBy_111 : decode cX13_endsBy 111 = .ok (.iload_n 3, 1) := by decide +kernel
theorem dX13_endsBy_112 : decode cX13_endsBy 112 = .ok (.iload 4, 2) := by decide +kernel
theorem dX13_endsBy_114 : decode cX13_endsBy 114 = .ok (.invokevirtual 425, 3) := by decide +kernel
theorem dX13_endsBy_117 : decode cX13_endsBy 117 = .ok (.isub, 1) := by decide +kernel
theorem dX13_endsBy_118 : decode cX13_endsBy 118 = .ok (.invokestatic 422, 3) := by decide +kernel
theorem dX13_endsBy_121 : decode cX13_endsBy 121 = .ok (.iload 4, 2) := by decide +kernel
theorem dX13_endsBy_123 : decode cX13_endsBy 123 = .ok (.iconst 1, 1) := by decide +kernel
theorem dX13_endsBy_124 : decode cX13_endsBy 124 = .ok (.iadd, 1) := by decide +kernel
theorem dX13_endsBy_125 : decode cX13_endsBy 125 = .ok (.iload 5, 2) := by decide +kernel
theorem dX13_endsBy_127 : decode cX13_endsBy 127 = .ok (.iconst 1, 1) := by decide +kernel
theorem dX13_endsBy_128 : decode cX13_endsBy 128 = .ok (.isub, 1) := by decide +kernel
theorem dX13_endsBy_129 : decode cX13_endsBy 129 = .ok (.iload 6, 2) := by decide +kernel
theorem dX13_endsBy_131 : decode cX13_endsBy 131 = .ok (.invokevirtual 510, 3) := by decide +kernel
theorem dX13_endsBy_134 : decode cX13_endsBy 134 = .ok (.lmul, 1) := by decide +kernel
theorem dX13_endsBy_135 : decode cX13_endsBy 135 = .ok (.ladd, 1) := by decide +kernel
theorem dX13_endsBy_136 : decode cX13_endsBy 136 = .ok (.lreturn, 1) := by decide +kernel
theorem dX13_chance_0 : decode cX13_chance 0 = .ok (.aload_n 0, 1) := by decide +kernel
theorem dX13_chance_1 : decode cX13_chance 1 = .ok (.aload_n 0, 1) := by decide +kernel
theorem dX13_chance_2 : decode cX13_chance 2 = .ok (.iload_n 1, 1) := by decide +kernel
theorem dX13_chance_3 : decode cX13_chance 3 = .ok (.invokevirtual 443, 3) := by decide +kernel
theorem dX13_chance_6 : decode cX13_chance 6 = .ok (.ifCond .eq 36, 3) := by decide +kernel
theorem dX13_chance_9 : decode cX13_chance 9 = .ok (.aload_n 0, 1) := by decide +kernel
theorem dX13_chance_10 : decode cX13_chance 10 = .ok (.iload_n 2, 1) := by decide +kernel
theorem dX13_chance_11 : decode cX13_chance 11 = .ok (.invokevirtual 446, 3) := by decide +kernel
theorem dX13_chance_14 : decode cX13_chance 14 = .ok (.ifCond .eq 28, 3) := by decide +kernel
theorem dX13_chance_17 : decode cX13_chance 17 = .ok (.iload_n 3, 1) := by decide +kernel
theorem dX13_chance_18 : decode cX13_chance 18 = .ok (.iconst 0, 1) := by decide +kernel
theorem dX13_chance_19 : decode cX13_chance 19 = .ok (.bipush 10, 2) := by decide +kernel
theorem dX13_chance_21 : decode cX13_chance 21 = .ok (.invokestatic 297, 3) := by decide +kernel
theorem dX13_chance_24 : decode cX13_chance 24 = .ok (.ifCond .eq 18, 3) := by decide +kernel
theorem dX13_chance_27 : decode cX13_chance 27 = .ok (.iload 4, 2) := by decide +kernel
theorem dX13_chance_29 : decode cX13_chance 29 = .ok (.iconst 1, 1) := by decide +kernel
theorem dX13_chance_30 : decode cX13_chance 30 = .ok (.bipush 12, 2) := by decide +kernel
theorem dX13_chance_32 : decode cX13_chance 32 = .ok (.invokestatic 297, 3) := by decide +kernel
theorem dX13_chance_35 : decode cX13_chance 35 = .ok (.ifCond .eq 7, 3) := by decide +kernel
theorem dX13_chance_38 : decode cX13_chance 38 = .ok (.iconst 0, 1) := by decide +kernel
theorem dX13_chance_39 : decode cX13_chance 39 = .ok (.goto 4, 3) := by decide +kernel
theorem dX13_chance_42 : decode cX13_chance 42 = .ok (.iconst 1, 1) := by decide +kernel
theorem dX13_chance_43 : decode cX13_chance 43 = .ok (.putfield 153, 3) := by decide +kernel
theorem dX13_chance_46 : decode cX13_chance 46 = .ok (.aload_n 0, 1) := by decide +kernel
theorem dX13_chance_47 : decode cX13_chance 47 = .ok (.getfield 153, 3) := by decide +kernel
theorem dX13_chance_50 : decode cX13_chance 50 = .ok (.iconst 1, 1) := by decide +kernel
theorem dX13_chance_51 : decode cX13_chance 51 = .ok (.if_icmp .ne 5, 3) := by decide +kernel
theorem dX13_chance_54 : decode cX13_chance 54 = .ok (.iconst 0, 1) := by decide +kernel
theorem dX13_chance_55 : decode cX13_chance 55 = .ok (.ireturn, 1) := by decide +kernel
theorem dX13_chance_56 : decode cX13_chance 56 = .ok (.lconst 1, 1) := by decide +kernel
theorem dX13_chance_57 : decode cX13_chance 57 = .ok (.lstore 5, 2) := by decide +kernel
theorem dX13_chance_59 : decode cX13_chance 59 = .ok (.iconst 0, 1) := by decide +kernel
theorem dX13_chance_60 : decode cX13_chance 60 = .ok (.istore 7, 2) := by decide +kernel
theorem dX13_chance_62 : decode cX13_chance 62 = .ok (.iload 7, 2) := by decide +kernel
theorem dX13_chance_64 : decode cX13_chance 64 = .ok (.iload 4, 2) := by decide +kernel
theorem dX13_chance_66 : decode cX13_chance 66 = .ok (.if_icmp .ge 17, 3) := by decide +kernel
theorem dX13_chance_69 : decode cX13_chance 69 = .ok (.lload 5, 2) := by decide +kernel
theorem dX13_chance_71 : decode cX13_chance 71 = .ok (.ldc2_w 508, 3) := by decide +kernel
theorem dX13_chance_74 : decode cX13_chance 74 = .ok (.lmul, 1) := by decide +kernel
theorem dX13_chance_75 : decode cX13_chance 75 = .ok (.lstore 5, 2) := by decide +kernel
theorem dX13_chance_77 : decode cX13_chance 77 = .ok (.iinc 7 1, 3) := by decide +kernel
theorem dX13_chance_80 : decode cX13_chance 80 = .ok (.goto (-18), 3) := by decide +kernel
theorem dX13_chance_83 : decode cX13_chance 83 = .ok (.aload_n 0, 1) := by decide +kernel
theorem dX13_chance_84 : decode cX13_chance 84 = .ok (.iload_n 1, 1) := by decide +kernel
theorem dX13_chance_85 : decode cX13_chance 85 = .ok (.iload_n 2, 1) := by decide +kernel
theorem dX13_chance_86 : decode cX13_chance 86 = .ok (.aload_n 0, 1) := by decide +kernel
theorem dX13_chance_87 : decode cX13_chance 87 = .ok (.getfield 120, 3) := by decide +kernel
theorem dX13_chance_90 : decode cX13_chance 90 = .ok (.bipush 6, 2) := by decide +kernel
theorem dX13_chance_92 : decode cX13_chance 92 = .ok (.iload_n 2, 1) := by decide +kernel
theorem dX13_chance_93 : decode cX13_chance 93 = .ok (.iadd, 1) := by decide +kernel
theorem dX13_chance_94 : decode cX13_chance 94 = .ok (.iaload, 1) := by decide +kernel
theorem dX13_chance_95 : decode cX13_chance 95 = .ok (.iconst 0, 1) := by decide +kernel
theorem dX13_chance_96 : decode cX13_chance 96 = .ok (.iload 4, 2) := by decide +kernel
theorem dX13_chance_98 : decode cX13_chance 98 = .ok (.iload_n 3, 1) := by decide +kernel
theorem dX13_chance_99 : decode cX13_chance 99 = .ok (.invokevirtual 510, 3) := by decide +kernel
theorem dX13_chance_102 : decode cX13_chance 102 = .ok (.ldc2_w 514, 3) := by decide +kernel
theorem dX13_chance_105 : decode cX13_chance 105 = .ok (.lmul, 1) := by decide +kernel
theorem dX13_chance_106 : decode cX13_chance 106 = .ok (.lload 5, 2) := by decide +kernel
theorem dX13_chance_108 : decode cX13_chance 108 = .ok (.ldiv, 1) := by decide +kernel
theorem dX13_chance_109 : decode cX13_chance 109 = .ok (.l2i, 1) := by decide +kernel
theorem dX13_chance_110 : decode cX13_chance 110 = .ok (.ireturn, 1) := by decide +kernel
theorem dX13_fallen_0 : decode cX13_fallen 0 = .ok (.iload_n 1, 1) := by decide +kernel
theorem dX13_fallen_1 : decode cX13_fallen 1 = .ok (.istore_n 2, 1) := by decide +kernel
theorem dX13_fallen_2 : decode cX13_fallen 2 = .ok (.iconst 0, 1) := by decide +kernel
theorem dX13_fallen_3 : decode cX13_fallen 3 = .ok (.istore_n 3, 1) := by decide +kernel
theorem dX13_fallen_4 : decode cX13_fallen 4 = .ok (.iload_n 3, 1) := by decide +kernel
theorem dX13_fallen_5 : decode cX13_fallen 5 = .ok (.aload_n 0, 1) := by decide +kernel
theorem dX13_fallen_6 : decode cX13_fallen 6 = .ok (.getfield 13, 3) := by decide +kernel
theorem dX13_fallen_9 : decode cX13_fallen 9 = .ok (.iconst 2, 1) := by decide +kernel
theorem dX13_fallen_10 : decode cX13_fallen 10 = .ok (.iaload, 1) := by decide +kernel
theorem dX13_fallen_11 : decode cX13_fallen 11 = .ok (.if_icmp .ge 26, 3) := by decide +kernel
theorem dX13_fallen_14 : decode cX13_fallen 14 = .ok (.aload_n 0, 1) := by decide +kernel
theorem dX13_fallen_15 : decode cX13_fallen 15 = .ok (.getfield 41, 3) := by decide +kernel
theorem dX13_fallen_18 : decode cX13_fallen 18 = .ok (.iload_n 3, 1) := by decide +kernel
theorem dX13_fallen_19 : decode cX13_fallen 19 = .ok (.iaload, 1) := by decide +kernel
theorem dX13_fallen_20 : decode cX13_fallen 20 = .ok (.iload_n 2, 1) := by decide +kernel
theorem dX13_fallen_21 : decode cX13_fallen 21 = .ok (.iand, 1) := by decide +kernel
theorem dX13_fallen_22 : decode cX13_fallen 22 = .ok (.ifCond .eq 9, 3) := by decide +kernel
theorem dX13_fallen_25 : decode cX13_fallen 25 = .ok (.iload_n 2, 1) := by decide +kernel
theorem dX13_fallen_26 : decode cX13_fallen 26 = .ok (.iconst 1, 1) := by decide +kernel
theorem dX13_fallen_27 : decode cX13_fallen 27 = .ok (.iload_n 3, 1) := by decide +kernel
theorem dX13_fallen_28 : decode cX13_fallen 28 = .ok (.ishl, 1) := by decide +kernel
theorem dX13_fallen_29 : decode cX13_fallen 29 = .ok (.ior, 1) := by decide +kernel
theorem dX13_fallen_30 : decode cX13_fallen 30 = .ok (.istore_n 2, 1) := by decide +kernel
theorem dX13_fallen_31 : decode cX13_fallen 31 = .ok (.iinc 3 1, 3) := by decide +kernel
theorem dX13_fallen_34 : decode cX13_fallen 34 = .ok (.goto (-30), 3) := by decide +kernel
theorem dX13_fallen_37 : decode cX13_fallen 37 = .ok (.iload_n 2, 1) := by decide +kernel
theorem dX13_fallen_38 : decode cX13_fallen 38 = .ok (.ireturn, 1) := by decide +kernel
theorem dX13_areDecrees_0 : decode cX13_areDecrees 0 = .ok (.iload_n 1, 1) := by decide +kernel
theorem dX13_areDecrees_1 : decode cX13_areDecrees 1 = .ok (.ifCond .lt 19, 3) := by decide +kernel
theorem dX13_areDecrees_4 : decode cX13_areDecrees 4 = .ok (.iload_n 1, 1) := by decide +kernel
theorem dX13_areDecrees_5 : decode cX13_areDecrees 5 = .ok (.iconst 1, 1) := by decide +kernel
theorem dX13_areDecrees_6 : decode cX13_areDecrees 6 = .ok (.aload_n 0, 1) := by decide +kernel
theorem dX13_areDecrees_7 : decode cX13_areDecrees 7 = .ok (.getfield 13, 3) := by decide +kernel
theorem dX13_areDecrees_10 : decode cX13_areDecrees 10 = .ok (.iconst 2, 1) := by decide +kernel
theorem dX13_areDecrees_11 : decode cX13_areDecrees 11 = .ok (.iaload, 1) := by decide +kernel
theorem dX13_areDecrees_12 : decode cX13_areDecrees 12 = .ok (.ishl, 1) := by decide +kernel
theorem dX13_areDecrees_13 : decode cX13_areDecrees 13 = .ok (.if_icmp .ge 7, 3) := by decide +kernel
theorem dX13_areDecrees_16 : decode cX13_areDecrees 16 = .ok (.iconst 1, 1) := by decide +kernel
theorem dX13_areDecrees_17 : decode cX13_areDecrees 17 = .ok (.goto 4, 3) := by decide +kernel
theorem dX13_areDecrees_20 : decode cX13_areDecrees 20 = .ok (.iconst 0, 1) := by decide +kernel
theorem dX13_areDecrees_21 : decode cX13_areDecrees 21 = .ok (.ireturn, 1) := by decide +kernel
theorem dX13_falls_0 : decode cX13_falls 0 = .ok (.aload_n 0, 1) := by decide +kernel
theorem dX13_falls_1 : decode cX13_falls 1 = .ok (.iconst 0, 1) := by decide +kernel
theorem dX13_falls_2 : decode cX13_falls 2 = .ok (.putfield 153, 3) := by decide +kernel
theorem dX13_falls_5 : decode cX13_falls 5 = .ok (.aload_n 0, 1) := by decide +kernel
theorem dX13_falls_6 : decode cX13_falls 6 = .ok (.iload_n 1, 1) := by decide +kernel
theorem dX13_falls_7 : decode cX13_falls 7 = .ok (.invokevirtual 516, 3) := by decide +kernel
theorem dX13_falls_10 : decode cX13_falls 10 = .ok (.ifCond .eq 11, 3) := by decide +kernel
theorem dX13_falls_13 : decode cX13_falls 13 = .ok (.aload_n 0, 1) := by decide +kernel
theorem dX13_falls_14 : decode cX13_falls 14 = .ok (.iload_n 1, 1) := by decide +kernel
theorem dX13_falls_15 : decode cX13_falls 15 = .ok (.invokevirtual 519, 3) := by decide +kernel
theorem dX13_falls_18 : decode cX13_falls 18 = .ok (.goto 4, 3) := by decide +kernel
theorem dX13_falls_21 : decode cX13_falls 21 = .ok (.iconst (-1), 1) := by decide +kernel
theorem dX13_falls_22 : decode cX13_falls 22 = .ok (.ireturn, 1) := by decide +kernel
theorem dX13_anew_0 : decode cX13_anew 0 = .ok (.aload_n 0, 1) := by decide +kernel
theorem dX13_anew_1 : decode cX13_anew 1 = .ok (.iconst 0, 1) := by decide +kernel
theorem dX13_anew_2 : decode cX13_anew 2 = .ok (.putfield 153, 3) := by decide +kernel
theorem dX13_anew_5 : decode cX13_anew 5 = .ok (.aload_n 0, 1) := by decide +kernel
theorem dX13_anew_6 : decode cX13_anew 6 = .ok (.iload_n 1, 1) := by decide +kernel
theorem dX13_anew_7 : decode cX13_anew 7 = .ok (.invokevirtual 516, 3) := by decide +kernel
theorem dX13_anew_10 : decode cX13_anew 10 = .ok (.ifCond .eq 19, 3) := by decide +kernel
theorem dX13_anew_13 : decode cX13_anew 13 = .ok (.iload_n 2, 1) := by decide +kernel
theorem dX13_anew_14 : decode cX13_anew 14 = .ok (.iconst 0, 1) := by decide +kernel
theorem dX13_anew_15 : decode cX13_anew 15 = .ok (.aload_n 0, 1) := by decide +kernel
theorem dX13_anew_16 : decode cX13_anew 16 = .ok (.getfield 13, 3) := by decide +kernel
theorem dX13_anew_19 : decode cX13_anew 19 = .ok (.iconst 2, 1) := by decide +kernel
theorem dX13_anew_20 : decode cX13_anew 20 = .ok (.iaload, 1) := by decide +kernel
theorem dX13_anew_21 : decode cX13_anew 21 = .ok (.iconst 1, 1) := by decide +kernel
theorem dX13_anew_22 : decode cX13_anew 22 = .ok (.isub, 1) := by decide +kernel
theorem dX13_anew_23 : decode cX13_anew 23 = .ok (.invokestatic 297, 3) := by decide +kernel
theorem dX13_anew_26 : decode cX13_anew 26 = .ok (.ifCond .ne 5, 3) := by decide +kernel
theorem dX13_anew_29 : decode cX13_anew 29 = .ok (.iconst (-1), 1) := by decide +kernel
theorem dX13_anew_30 : decode cX13_anew 30 = .ok (.ireturn, 1) := by decide +kernel
theorem dX13_anew_31 : decode cX13_anew 31 = .ok (.iconst 1, 1) := by decide +kernel
theorem dX13_anew_32 : decode cX13_anew 32 = .ok (.iload_n 2, 1) := by decide +kernel
theorem dX13_anew_33 : decode cX13_anew 33 = .ok (.ishl, 1) := by decide +kernel
theorem dX13_anew_34 : decode cX13_anew 34 = .ok (.istore_n 3, 1) := by decide +kernel
theorem dX13_anew_35 : decode cX13_anew 35 = .ok (.iload_n 2, 1) := by decide +kernel
theorem dX13_anew_36 : decode cX13_anew 36 = .ok (.istore 4, 2) := by decide +kernel
theorem dX13_anew_38 : decode cX13_anew 38 = .ok (.iload 4, 2) := by decide +kernel
theorem dX13_anew_40 : decode cX13_anew 40 = .ok (.ifCond .lt 33, 3) := by decide +kernel
theorem dX13_anew_43 : decode cX13_anew 43 = .ok (.iload_n 3, 1) := by decide +kernel
theorem dX13_anew_44 : decode cX13_anew 44 = .ok (.iload_n 3, 1) := by decide +kernel
theorem dX13_anew_45 : decode cX13_anew 45 = .ok (.iload 4, 2) := by decide +kernel
theorem dX13_anew_47 : decode cX13_anew 47 = .ok (.ishr, 1) := by decide +kernel
theorem dX13_anew_48 : decode cX13_anew 48 = .ok (.iconst 1, 1) := by decide +kernel
theorem dX13_anew_49 : decode cX13_anew 49 = .ok (.iand, 1) := by decide +kernel
theorem dX13_anew_50 : decode cX13_anew 50 = .ok (.iconst 1, 1) := by decide +kernel
theorem dX13_anew_51 : decode cX13_anew 51 = .ok (.if_icmp .ne 13, 3) := by decide +kernel
theorem dX13_anew_54 : decode cX13_anew 54 = .ok (.aload_n 0, 1) := by decide +kernel
theorem dX13_anew_55 : decode cX13_anew 55 = .ok (.getfield 41, 3) := by decide +kernel
theorem dX13_anew_58 : decode cX13_anew 58 = .ok (.iload 4, 2) := by decide +kernel
theorem dX13_anew_60 : decode cX13_anew 60 = .ok (.iaload, 1) := by decide +kernel
theorem dX13_anew_61 : decode cX13_anew 61 = .ok (.goto 4, 3) := by decide +kernel
theorem dX13_anew_64 : decode cX13_anew 64 = .ok (.iconst 0, 1) := by decide +kernel
theorem dX13_anew_65 : decode cX13_anew 65 = .ok (.ior, 1) := by decide +kernel
theorem dX13_anew_66 : decode cX13_anew 66 = .ok (.istore_n 3, 1) := by decide +kernel
theorem dX13_anew_67 : decode cX13_anew 67 = .ok (.iinc 4 (-1), 3) := by decide +kernel
theorem dX13_anew_70 : decode cX13_anew 70 = .ok (.goto (-32), 3) := by decide +kernel
theorem dX13_anew_73 : decode cX13_anew 73 = .ok (.iload_n 3, 1) := by decide +kernel
theorem dX13_anew_74 : decode cX13_anew 74 = .ok (.aload_n 0, 1) := by decide +kernel
theorem dX13_anew_75 : decode cX13_anew 75 = .ok (.iload_n 1, 1) := by decide +kernel
theorem dX13_anew_76 : decode cX13_anew 76 = .ok (.invokevirtual 519, 3) := by decide +kernel
theorem dX13_anew_79 : decode cX13_anew 79 = .ok (.iand, 1) := by decide +kernel
theorem dX13_anew_80 : decode cX13_anew 80 = .ok (.ireturn, 1) := by decide +kernel
theorem dX13_tell_0 : decode cX13_tell 0 = .ok (.aload_n 0, 1) := by decide +kernel
theorem dX13_tell_1 : decode cX13_tell 1 = .ok (.iconst 0, 1) := by decide +kernel
theorem dX13_tell_2 : decode cX13_tell 2 = .ok (.putfield 153, 3) := by decide +kernel
theorem dX13_tell_5 : decode cX13_tell 5 = .ok (.aload_n 0, 1) := by decide +kernel
theorem dX13_tell_6 : decode cX13_tell 6 = .ok (.iload_n 1, 1) := by decide +kernel
theorem dX13_tell_7 : decode cX13_tell 7 = .ok (.invokevirtual 446, 3) := by decide +kernel
theorem dX13_tell_10 : decode cX13_tell 10 = .ok (.ifCond .eq 34, 3) := by decide +kernel
theorem dX13_tell_13 : decode cX13_tell 13 = .ok (.iload_n 2, 1) := by decide +kernel
theorem dX13_tell_14 : decode cX13_tell 14 = .ok (.iconst 0, 1) := by decide +kernel
theorem dX13_tell_15 : decode cX13_tell 15 = .ok (.bipush 12, 2) := by decide +kernel
theorem dX13_tell_17 : decode cX13_tell 17 = .ok (.invokestatic 297, 3) := by decide +kernel
theorem dX13_tell_20 : decode cX13_tell 20 = .ok (.ifCond .eq 24, 3) := by decide +kernel
theorem dX13_tell_23 : decode cX13_tell 23 = .ok (.iload_n 3, 1) := by decide +kernel
theorem dX13_tell_24 : decode cX13_tell 24 = .ok (.iconst 0, 1) := by decide +kernel
theorem dX13_tell_25 : decode cX13_tell 25 = .ok (.bipush 99, 2) := by decide +kernel
theorem dX13_tell_27 : decode cX13_tell 27 = .ok (.invokestatic 297, 3) := by decide +kernel
theorem dX13_tell_30 : decode cX13_tell 30 = .ok (.ifCond .eq 14, 3) := by decide +kernel
theorem dX13_tell_33 : decode cX13_tell 33 = .ok (.aload_n 0, 1) := by decide +kernel
theorem dX13_tell_34 : decode cX13_tell 34 = .ok (.getfield 108, 3) := by decide +kernel
theorem dX13_tell_37 : decode cX13_tell 37 = .ok (.iconst 0, 1) := by decide +kernel
theorem dX13_tell_38 : decode cX13_tell 38 = .ok (.iaload, 1) := by decide +kernel
theorem dX13_tell_39 : decode cX13_tell 39 = .ok (.bipush 8, 2) := by decide +kernel
theorem dX13_tell_41 : decode cX13_tell 41 = .ok (.if_icmp .ne 5, 3) := by decide +kernel
theorem dX13_tell_44 : decode cX13_tell 44 = .ok (.iconst 0, 1) := by decide +kernel
theorem dX13_tell_45 : decode cX13_tell 45 = .ok (.ireturn, 1) := by decide +kernel
theorem dX13_tell_46 : decode cX13_tell 46 = .ok (.aload_n 0, 1) := by decide +kernel
theorem dX13_tell_47 : decode cX13_tell 47 = .ok (.getfield 111, 3) := by decide +kernel
theorem dX13_tell_50 : decode cX13_tell 50 = .ok (.aload_n 0, 1) := by decide +kernel
theorem dX13_tell_51 : decode cX13_tell 51 = .ok (.getfield 108, 3) := by decide +kernel
theorem dX13_tell_54 : decode cX13_tell 54 = .ok (.iconst 0, 1) := by decide +kernel
theorem dX13_tell_55 : decode cX13_tell 55 = .ok (.iaload, 1) := by decide +kernel
theorem dX13_tell_56 : decode cX13_tell 56 = .ok (.iload_n 1, 1) := by decide +kernel
theorem dX13_tell_57 : decode cX13_tell 57 = .ok (.iastore, 1) := by decide +kernel
theorem dX13_tell_58 : decode cX13_tell 58 = .ok (.aload_n 0, 1) := by decide +kernel
theorem dX13_tell_59 : decode cX13_tell 59 = .ok (.getfield 114, 3) := by decide +kernel
theorem dX13_tell_62 : decode cX13_tell 62 = .ok (.aload_n 0, 1) := by decide +kernel
theorem dX13_tell_63 : decode cX13_tell 63 = .ok (.getfield 108, 3) := by decide +kernel
theorem dX13_tell_66 : decode cX13_tell 66 = .ok (.iconst 0, 1) := by decide +kernel
theorem dX13_tell_67 : decode cX13_tell 67 = .ok (.iaload, 1) := by decide +kernel
theorem dX13_tell_68 : decode cX13_tell 68 = .ok (.iload_n 2, 1) := by decide +kernel
theorem dX13_tell_69 : decode cX13_tell 69 = .ok (.iastore, 1) := by decide +kernel
theorem dX13_tell_70 : decode cX13_tell 70 = .ok (.aload_n 0, 1) := by decide +kernel
theorem dX13_tell_71 : decode cX13_tell 71 = .ok (.getfield 117, 3) := by decide +kernel
theorem dX13_tell_74 : decode cX13_tell 74 = .ok (.aload_n 0, 1) := by decide +kernel
theorem dX13_tell_75 : decode cX13_tell 75 = .ok (.getfield 108, 3) := by decide +kernel
theorem dX13_tell_78 : decode cX13_tell 78 = .ok (.iconst 0, 1) := by decide +kernel
theorem dX13_tell_79 : decode cX13_tell 79 = .ok (.iaload, 1) := by decide +kernel
theorem dX13_tell_80 : decode cX13_tell 80 = .ok (.iload_n 3, 1) := by decide +kernel
theorem dX13_tell_81 : decode cX13_tell 81 = .ok (.iastore, 1) := by decide +kernel
theorem dX13_tell_82 : decode cX13_tell 82 = .ok (.aload_n 0, 1) := by decide +kernel
theorem dX13_tell_83 : decode cX13_tell 83 = .ok (.getfield 108, 3) := by decide +kernel
theorem dX13_tell_86 : decode cX13_tell 86 = .ok (.iconst 0, 1) := by decide +kernel
theorem dX13_tell_87 : decode cX13_tell 87 = .ok (.dup2, 1) := by decide +kernel
theorem dX13_tell_88 : decode cX13_tell 88 = .ok (.iaload, 1) := by decide +kernel
theorem dX13_tell_89 : decode cX13_tell 89 = .ok (.iconst 1, 1) := by decide +kernel
theorem dX13_tell_90 : decode cX13_tell 90 = .ok (.iadd, 1) := by decide +kernel
theorem dX13_tell_91 : decode cX13_tell 91 = .ok (.iastore, 1) := by decide +kernel
theorem dX13_tell_92 : decode cX13_tell 92 = .ok (.iconst 1, 1) := by decide +kernel
theorem dX13_tell_93 : decode cX13_tell 93 = .ok (.ireturn, 1) := by decide +kernel
theorem dX13_sizeBy_0 : decode cX13_sizeBy 0 = .ok (.aload_n 0, 1) := by decide +kernel
theorem dX13_sizeBy_1 : decode cX13_sizeBy 1 = .ok (.getfield 44, 3) := by decide +kernel
theorem dX13_sizeBy_4 : decode cX13_sizeBy 4 = .ok (.iload_n 2, 1) := by decide +kernel
theorem dX13_sizeBy_5 : decode cX13_sizeBy 5 = .ok (.iaload, 1) := by decide +kernel
theorem dX13_sizeBy_6 : decode cX13_sizeBy 6 = .ok (.istore 4, 2) := by decide +kernel
theorem dX13_sizeBy_8 : decode cX13_sizeBy 8 = .ok (.iconst 0, 1) := by decide +kernel
theorem dX13_sizeBy_9 : decode cX13_sizeBy 9 = .ok (.istore 5, 2) := by decide +kernel
theorem dX13_sizeBy_11 : decode cX13_sizeBy 11 = .ok (.iload 5, 2) := by decide +kernel
theorem dX13_sizeBy_13 : decode cX13_sizeBy 13 = .ok (.iload_n 3, 1) := by decide +kernel
theorem dX13_sizeBy_14 : decode cX13_sizeBy 14 = .ok (.if_icmp .ge 27, 3) := by decide +kernel
theorem dX13_sizeBy_17 : decode cX13_sizeBy 17 = .ok (.iconst 0, 1) := by decide +kernel
theorem dX13_sizeBy_18 : decode cX13_sizeBy 18 = .ok (.iload 4, 2) := by decide +kernel
theorem dX13_sizeBy_20 : decode cX13_sizeBy 20 = .ok (.aload_n 0, 1) := by decide +kernel
theorem dX13_sizeBy_21 : decode cX13_sizeBy 21 = .ok (.iload_n 1, 1) := by decide +kernel
theorem dX13_sizeBy_22 : decode cX13_sizeBy 22 = .ok (.iload 4, 2) := by decide +kernel
theorem dX13_sizeBy_24 : decode cX13_sizeBy 24 = .ok (.iload 5, 2) := by decide +kernel
theorem dX13_sizeBy_26 : decode cX13_sizeBy 26 = .ok (.invokevirtual 425, 3) := by decide +kernel
theorem dX13_sizeBy_29 : decode cX13_sizeBy 29 = .ok (.isub, 1) := by decide +kernel
theorem dX13_sizeBy_30 : decode cX13_sizeBy 30 = .ok (.invokestatic 422, 3) := by decide +kernel
theorem dX13_sizeBy_33 : decode cX13_sizeBy 33 = .ok (.istore 4, 2) := by decide +kernel
theorem dX13_sizeBy_35 : decode cX13_sizeBy 35 = .ok (.iinc 5 1, 3) := by decide +kernel
theorem dX13_sizeBy_38 : decode cX13_sizeBy 38 = .ok (.goto (-27), 3) := by decide +kernel
theorem dX13_sizeBy_41 : decode cX13_sizeBy 41 = .ok (.iload 4, 2) := by decide +kernel
theorem dX13_sizeBy_43 : decode cX13_sizeBy 43 = .ok (.ireturn, 1) := by decide +kernel
theorem dX13_isAsTold_0 : decode cX13_isAsTold 0 = .ok (.iconst 0, 1) := by decide +kernel
theorem dX13_isAsTold_1 : decode cX13_isAsTold 1 = .ok (.istore_n 2, 1) := by decide +kernel
theorem dX13_isAsTold_2 : decode cX13_isAsTold 2 = .ok (.iload_n 2, 1) := by decide +kernel
theorem dX13_isAsTold_3 : decode cX13_isAsTold 3 = .ok (.aload_n 0, 1) := by decide +kernel
theorem dX13_isAsTold_4 : decode cX13_isAsTold 4 = .ok (.getfield 108, 3) := by decide +kernel
theorem dX13_isAsTold_7 : decode cX13_isAsTold 7 = .ok (.iconst 0, 1) := by decide +kernel
theorem dX13_isAsTold_8 : decode cX13_isAsTold 8 = .ok (.iaload, 1) := by decide +kernel
theorem dX13_isAsTold_9 : decode cX13_isAsTold 9 = .ok (.if_icmp .ge 37, 3) := by decide +kernel
theorem dX13_isAsTold_12 : decode cX13_isAsTold 12 = .ok (.aload_n 0, 1) := by decide +kernel
theorem dX13_isAsTold_13 : decode cX13_isAsTold 13 = .ok (.iload_n 1, 1) := by decide +kernel
theorem dX13_isAsTold_14 : decode cX13_isAsTold 14 = .ok (.aload_n 0, 1) := by decide +kernel
theorem dX13_isAsTold_15 : decode cX13_isAsTold 15 = .ok (.getfield 111, 3) := by decide +kernel
theorem dX13_isAsTold_18 : decode cX13_isAsTold 18 = .ok (.iload_n 2, 1) := by decide +kernel
theorem dX13_isAsTold_19 : decode cX13_isAsTold 19 = .ok (.iaload, 1) := by decide +kernel
theorem dX13_isAsTold_20 : decode cX13_isAsTold 20 = .ok (.aload_n 0, 1) := by decide +kernel
theorem dX13_isAsTold_21 : decode cX13_isAsTold 21 = .ok (.getfield 114, 3) := by decide +kernel
theorem dX13_isAsTold_24 : decode cX13_isAsTold 24 = .ok (.iload_n 2, 1) := by decide +kernel
theorem dX13_isAsTold_25 : decode cX13_isAsTold 25 = .ok (.iaload, 1) := by decide +kernel
theorem dX13_isAsTold_26 : decode cX13_isAsTold 26 = .ok (.invokevirtual 522, 3) := by decide +kernel
theorem dX13_isAsTold_29 : decode cX13_isAsTold 29 = .ok (.aload_n 0, 1) := by decide +kernel
theorem dX13_isAsTold_30 : decode cX13_isAsTold 30 = .ok (.getfield 117, 3) := by decide +kernel
theorem dX13_isAsTold_33 : decode cX13_isAsTold 33 = .ok (.iload_n 2, 1) := by decide +kernel
theorem dX13_isAsTold_34 : decode cX13_isAsTold 34 = .ok (.iaload, 1) := by decide +kernel
theorem dX13_isAsTold_35 : decode cX13_isAsTold 35 = .ok (.if_icmp .eq 5, 3) := by decide +kernel
theorem dX13_isAsTold_38 : decode cX13_isAsTold 38 = .ok (.iconst 0, 1) := by decide +kernel
theorem dX13_isAsTold_39 : decode cX13_isAsTold 39 = .ok (.ireturn, 1) := by decide +kernel
theorem dX13_isAsTold_40 : decode cX13_isAsTold 40 = .ok (.iinc 2 1, 3) := by decide +kernel
theorem dX13_isAsTold_43 : decode cX13_isAsTold 43 = .ok (.goto (-41), 3) := by decide +kernel
theorem dX13_isAsTold_46 : decode cX13_isAsTold 46 = .ok (.iconst 1, 1) := by decide +kernel
theorem dX13_isAsTold_47 : decode cX13_isAsTold 47 = .ok (.ireturn, 1) := by decide +kernel
theorem dX13_allWho_0 : decode cX13_allWho 0 = .ok (.iconst 0, 1) := by decide +kernel
theorem dX13_allWho_1 : decode cX13_allWho 1 = .ok (.istore_n 1, 1) := by decide +kernel
theorem dX13_allWho_2 : decode cX13_allWho 2 = .ok (.iconst 0, 1) := by decide +kernel
theorem dX13_allWho_3 : decode cX13_allWho 3 = .ok (.istore_n 2, 1) := by decide +kernel
theorem dX13_allWho_4 : decode cX13_allWho 4 = .ok (.iload_n 2, 1) := by decide +kernel
theorem dX13_allWho_5 : decode cX13_allWho 5 = .ok (.aload_n 0, 1) := by decide +kernel
theorem dX13_allWho_6 : decode cX13_allWho 6 = .ok (.getfield 13, 3) := by decide +kernel
theorem dX13_allWho_9 : decode cX13_allWho 9 = .ok (.iconst 0, 1) := by decide +kernel
theorem dX13_allWho_10 : decode cX13_allWho 10 = .ok (.iaload, 1) := by decide +kernel
theorem dX13_allWho_11 : decode cX13_allWho 11 = .ok (.if_icmp .ge 27, 3) := by decide +kernel
theorem dX13_allWho_14 : decode cX13_allWho 14 = .ok (.iload_n 1, 1) := by decide +kernel
theorem dX13_allWho_15 : decode cX13_allWho 15 = .ok (.aload_n 0, 1) := by decide +kernel
theorem dX13_allWho_16 : decode cX13_allWho 16 = .ok (.iload_n 2, 1) := by decide +kernel
theorem dX13_allWho_17 : decode cX13_allWho 17 = .ok (.invokevirtual 525, 3) := by decide +kernel
theorem dX13_allWho_20 : decode cX13_allWho 20 = .ok (.ifCond .eq 9, 3) := by decide +kernel
theorem dX13_allWho_23 : decode cX13_allWho 23 = .ok (.iconst 1, 1) := by decide +kernel
theorem dX13_allWho_24 : decode cX13_allWho 24 = .ok (.iload_n 2, 1) := by decide +kernel
theorem dX13_allWho_25 : decode cX13_allWho 25 = .ok (.ishl, 1) := by decide +kernel
theorem dX13_allWho_26 : decode cX13_allWho 26 = .ok (.goto 4, 3) := by decide +kernel
theorem dX13_allWho_29 : decode cX13_allWho 29 = .ok (.iconst 0, 1) := by decide +kernel
theorem dX13_allWho_30 : decode cX13_allWho 30 = .ok (.ior, 1) := by decide +kernel
theorem dX13_allWho_31 : decode cX13_allWho 31 = .ok (.istore_n 1, 1) := by decide +kernel
theorem dX13_allWho_32 : decode cX13_allWho 32 = .ok (.iinc 2 1, 3) := by decide +kernel
theorem dX13_allWho_35 : decode cX13_allWho 35 = .ok (.goto (-31), 3) := by decide +kernel
theorem dX13_allWho_38 : decode cX13_allWho 38 = .ok (.iload_n 1, 1) := by decide +kernel
theorem dX13_allWho_39 : decode cX13_allWho 39 = .ok (.ireturn, 1) := by decide +kernel
theorem dX13_who_0 : decode cX13_who 0 = .ok (.aload_n 0, 1) := by decide +kernel
theorem dX13_who_1 : decode cX13_who 1 = .ok (.iconst 0, 1) := by decide +kernel
theorem dX13_who_2 : decode cX13_who 2 = .ok (.putfield 153, 3) := by decide +kernel
theorem dX13_who_5 : decode cX13_who 5 = .ok (.aload_n 0, 1) := by decide +kernel
theorem dX13_who_6 : decode cX13_who 6 = .ok (.invokevirtual 528, 3) := by decide +kernel
theorem dX13_who_9 : decode cX13_who 9 = .ok (.ireturn, 1) := by decide +kernel
theorem dX13_mostAlike_0 : decode cX13_mostAlike 0 = .ok (.iconst 0, 1) := by decide +kernel
theorem dX13_mostAlike_1 : decode cX13_mostAlike 1 = .ok (.istore 4, 2) := by decide +kernel
theorem dX13_mostAlike_3 : decode cX13_mostAlike 3 = .ok (.iconst 0, 1) := by decide +kernel
theorem dX13_mostAlike_4 : decode cX13_mostAlike 4 = .ok (.istore 5, 2) := by decide +kernel
theorem dX13_mostAlike_6 : decode cX13_mostAlike 6 = .ok (.iload 5, 2) := by decide +kernel
theorem dX13_mostAlike_8 : decode cX13_mostAlike 8 = .ok (.aload_n 0, 1) := by decide +kernel
theorem dX13_mostAlike_9 : decode cX13_mostAlike 9 = .ok (.getfield 13, 3) := by decide +kernel
theorem dX13_mostAlike_12 : decode cX13_mostAlike 12 = .ok (.iconst 0, 1) := by decide +kernel
theorem dX13_mostAlike_13 : decode cX13_mostAlike 13 = .ok (.iaload, 1) := by decide +kernel
theorem dX13_mostAlike_14 : decode cX13_mostAlike 14 = .ok (.if_icmp .ge 92, 3) := by decide +kernel
theorem dX13_mostAlike_17 : decode cX13_mostAlike 17 = .ok (.iload_n 1, 1) := by decide +kernel
theorem dX13_mostAlike_18 : decode cX13_mostAlike 18 = .ok (.iload 5, 2) := by decide +kernel
theorem dX13_mostAlike_20 : decode cX13_mostAlike 20 = .ok (.ishr, 1) := by decide +kernel
theorem dX13_mostAlike_21 : decode cX13_mostAlike 21 = .ok (.iconst 1, 1) := by decide +kernel
theorem dX13_mostAlike_22 : decode cX13_mostAlike 22 = .ok (.iand, 1) := by decide +kernel
theorem dX13_mostAlike_23 : decode cX13_mostAlike 23 = .ok (.ifCond .ne 6, 3) := by decide +kernel
theorem dX13_mostAlike_26 : decode cX13_mostAlike 26 = .ok (.goto 74, 3) := by decide +kernel
theorem dX13_mostAlike_29 : decode cX13_mostAlike 29 = .ok (.iconst 0, 1) := by decide +kernel
theorem dX13_mostAlike_30 : decode cX13_mostAlike 30 = .ok (.istore 6, 2) := by decide +kernel
theorem dX13_mostAlike_32 : decode cX13_mostAlike 32 = .ok (.iconst 0, 1) := by decide +kernel
theorem dX13_mostAlike_33 : decode cX13_mostAlike 33 = .ok (.istore 7, 2) := by decide +kernel
theorem dX13_mostAlike_35 : decode cX13_mostAlike 35 = .ok (.iload 7, 2) := by decide +kernel
theorem dX13_mostAlike_37 : decode cX13_mostAlike 37 = .ok (.aload_n 0, 1) := by decide +kernel
theorem dX13_mostAlike_38 : decode cX13_mostAlike 38 = .ok (.getfield 13, 3) := by decide +kernel
theorem dX13_mostAlike_41 : decode cX13_mostAlike 41 = .ok (.iconst 0, 1) := by decide +kernel
theorem dX13_mostAlike_42 : decode cX13_mostAlike 42 = .ok (.iaload, 1) := by decide +kernel
theorem dX13_mostAlike_43 : decode cX13_mostAlike 43 = .ok (.if_icmp .ge 48, 3) := by decide +kernel
theorem dX13_mostAlike_46 : decode cX13_mostAlike 46 = .ok (.iload 6, 2) := by decide +kernel
theorem dX13_mostAlike_48 : decode cX13_mostAlike 48 = .ok (.iload_n 1, 1) := by decide +kernel
theorem dX13_mostAlike_49 : decode cX13_mostAlike 49 = .ok (.iload 7, 2) := by decide +kernel
theorem dX13_mostAlike_51 : decode cX13_mostAlike 51 = .ok (.ishr, 1) := by decide +kernel
theorem dX13_mostAlike_52 : decode cX13_mostAlike 52 = .ok (.iconst 1, 1) := by decide +kernel
theorem dX13_mostAlike_53 : decode cX13_mostAlike 53 = .ok (.iand, 1) := by decide +kernel
theorem dX13_mostAlike_54 : decode cX13_mostAlike 54 = .ok (.iconst 1, 1) := by decide +kernel
theorem dX13_mostAlike_55 : decode cX13_mostAlike 55 = .ok (.if_icmp .ne 26, 3) := by decide +kernel
theorem dX13_mostAlike_58 : decode cX13_mostAlike 58 = .ok (.aload_n 0, 1) := by decide +kernel
theorem dX13_mostAlike_59 : decode cX13_mostAlike 59 = .ok (.iload 7, 2) := by decide +kernel
theorem dX13_mostAlike_61 : decode cX13_mostAlike 61 = .ok (.iload_n 2, 1) := by decide +kernel
theorem dX13_mostAlike_62 : decode cX13_mostAlike 62 = .ok (.iload_n 3, 1) := by decide +kernel
theorem dX13_mostAlike_63 : decode cX13_mostAlike 63 = .ok (.invokevirtual 522, 3) := by decide +kernel
theorem dX13_mostAlike_66 : decode cX13_mostAlike 66 = .ok (.aload_n 0, 1) := by decide +kernel
theorem dX13_mostAlike_67 : decode cX13_mostAlike 67 = .ok (.iload 5, 2) := by decide +kernel
theorem dX13_mostAlike_69 : decode cX13_mostAlike 69 = .ok (.iload_n 2, 1) := by decide +kernel
theorem dX13_mostAlike_70 : decode cX13_mostAlike 70 = .ok (.iload_n 3, 1) := by decide +kernel
theorem dX13_mostAlike_71 : decode cX13_mostAlike 71 = .ok (.invokevirtual 522, 3) := by decide +kernel
theorem dX13_mostAlike_74 : decode cX13_mostAlike 74 = .ok (.if_icmp .ne 7, 3) := by decide +kernel
theorem dX13_mostAlike_77 : decode cX13_mostAlike 77 = .ok (.iconst 1, 1) := by decide +kernel
theorem dX13_mostAlike_78 : decode cX13_mostAlike 78 = .ok (.goto 4, 3) := by decide +kernel
theorem dX13_mostAlike_81 : decode cX13_mostAlike 81 = .ok (.iconst 0, 1) := by decide +kernel
theorem dX13_mostAlike_82 : decode cX13_mostAlike 82 = .ok (.iadd, 1) := by decide +kernel
theorem dX13_mostAlike_83 : decode cX13_mostAlike 83 = .ok (.istore 6, 2) := by decide +kernel
theorem dX13_mostAlike_85 : decode cX13_mostAlike 85 = .ok (.iinc 7 1, 3) := by decide +kernel
theorem dX13_mostAlike_88 : decode cX13_mostAlike 88 = .ok (.goto (-53), 3) := by decide +kernel
theorem dX13_mostAlike_91 : decode cX13_mostAlike 91 = .ok (.iload 4, 2) := by decide +kernel
theorem dX13_mostAlike_93 : decode cX13_mostAlike 93 = .ok (.iload 6, 2) := by decide +kernel
theorem dX13_mostAlike_95 : decode cX13_mostAlike 95 = .ok (.invokestatic 422, 3) := by decide +kernel
theorem dX13_mostAlike_98 : decode cX13_mostAlike 98 = .ok (.istore 4, 2) := by decide +kernel
theorem dX13_mostAlike_100 : decode cX13_mostAlike 100 = .ok (.iinc 5 1, 3) := by decide +kernel
theorem dX13_mostAlike_103 : decode cX13_mostAlike 103 = .ok (.goto (-97), 3) := by decide +kernel
theorem dX13_mostAlike_106 : decode cX13_mostAlike 106 = .ok (.iload 4, 2) := by decide +kernel
theorem dX13_mostAlike_108 : decode cX13_mostAlike 108 = .ok (.ireturn, 1) := by decide +kernel
theorem dX13_when_0 : decode cX13_when 0 = .ok (.aload_n 0, 1) := by decide +kernel
theorem dX13_when_1 : decode cX13_when 1 = .ok (.iconst 0, 1) := by decide +kernel
theorem dX13_when_2 : decode cX13_when 2 = .ok (.putfield 153, 3) := by decide +kernel
theorem dX13_when_5 : decode cX13_when 5 = .ok (.aload_n 0, 1) := by decide +kernel
theorem dX13_when_6 : decode cX13_when 6 = .ok (.iload_n 1, 1) := by decide +kernel
theorem dX13_when_7 : decode cX13_when 7 = .ok (.invokevirtual 446, 3) := by decide +kernel
theorem dX13_when_10 : decode cX13_when 10 = .ok (.ifCond .ne 5, 3) := by decide +kernel
theorem dX13_when_13 : decode cX13_when 13 = .ok (.iconst (-1), 1) := by decide +kernel
theorem dX13_when_14 : decode cX13_when 14 = .ok (.ireturn, 1) := by decide +kernel
theorem dX13_when_15 : decode cX13_when 15 = .ok (.aload_n 0, 1) := by decide +kernel
theorem dX13_when_16 : decode cX13_when 16 = .ok (.invokevirtual 528, 3) := by decide +kernel
theorem dX13_when_19 : decode cX13_when 19 = .ok (.istore_n 2, 1) := by decide +kernel
theorem dX13_when_20 : decode cX13_when 20 = .ok (.iconst (-1), 1) := by decide +kernel
theorem dX13_when_21 : decode cX13_when 21 = .ok (.istore_n 3, 1) := by decide +kernel
theorem dX13_when_22 : decode cX13_when 22 = .ok (.iconst 0, 1) := by decide +kernel
theorem dX13_when_23 : decode cX13_when 23 = .ok (.istore 4, 2) := by decide +kernel
theorem dX13_when_25 : decode cX13_when 25 = .ok (.iconst 0, 1) := by decide +kernel
theorem dX13_when_26 : decode cX13_when 26 = .ok (.istore 5, 2) := by decide +kernel
theorem dX13_when_28 : decode cX13_when 28 = .ok (.iload 5, 2) := by decide +kernel
theorem dX13_when_30 : decode cX13_when 30 = .ok (.bipush 6, 2) := by decide +kernel
theorem dX13_when_32 : decode cX13_when 32 = .ok (.if_icmp .ge 20, 3) := by decide +kernel
theorem dX13_when_35 : decode cX13_when 35 = .ok (.iload 4, 2) := by decide +kernel
theorem dX13_when_37 : decode cX13_when 37 = .ok (.iload_n 2, 1) := by decide +kernel
theorem dX13_when_38 : decode cX13_when 38 = .ok (.iload 5, 2) := by decide +kernel
theorem dX13_when_40 : decode cX13_when 40 = .ok (.ishr, 1) := by decide +kernel
theorem dX13_when_41 : decode cX13_when 41 = .ok (.iconst 1, 1) := by decide +kernel
theorem dX13_when_42 : decode cX13_when 42 = .ok (.iand, 1) := by decide +kernel
theorem dX13_when_43 : decode cX13_when 43 = .ok (.iadd, 1) := by decide +kernel
theorem dX13_when_44 : decode cX13_when 44 = .ok (.istore 4, 2) := by decide +kernel
theorem dX13_when_46 : decode cX13_when 46 = .ok (.iinc 5 1, 3) := by decide +kernel
theorem dX13_when_49 : decode cX13_when 49 = .ok (.goto (-21), 3) := by decide +kernel
theorem dX13_when_52 : decode cX13_when 52 = .ok (.iconst 0, 1) := by decide +kernel
theorem dX13_when_53 : decode cX13_when 53 = .ok (.istore 5, 2) := by decide +kernel
theorem dX13_when_55 : decode cX13_when 55 = .ok (.iload 5, 2) := by decide +kernel
theorem dX13_when_57 : decode cX13_when 57 = .ok (.bipush 13, 2) := by decide +kernel
theorem dX13_when_59 : decode cX13_when 59 = .ok (.if_icmp .ge 36, 3) := by decide +kernel
theorem dX13_when_62 : decode cX13_when 62 = .ok (.aload_n 0, 1) := by decide +kernel
theorem dX13_when_63 : decode cX13_when 63 = .ok (.iload_n 2, 1) := by decide +kernel
theorem dX13_when_64 : decode cX13_when 64 = .ok (.iload_n 1, 1) := by decide +kernel
theorem dX13_when_65 : decode cX13_when 65 = .ok (.iload 5, 2) := by decide +kernel
theorem dX13_when_67 : decode cX13_when 67 = .ok (.invokevirtual 531, 3) := by decide +kernel
theorem dX13_when_70 : decode cX13_when 70 = .ok (.istore 6, 2) := by decide +kernel
theorem dX13_when_72 : decode cX13_when 72 = .ok (.iload 6, 2) := by decide +kernel
theorem dX13_when_74 : decode cX13_when 74 = .ok (.iload 4, 2) := by decide +kernel
theorem dX13_when_76 : decode cX13_when 76 = .ok (.if_icmp .lt 6, 3) := by decide +kernel
theorem dX13_when_79 : decode cX13_when 79 = .ok (.goto 10, 3) := by decide +kernel
theorem dX13_when_82 : decode cX13_when 82 = .ok (.iload 6, 2) := by decide +kernel
theorem dX13_when_84 : decode cX13_when 84 = .ok (.istore 4, 2) := by decide +kernel
theorem dX13_when_86 : decode cX13_when 86 = .ok (.iload 5, 2) := by decide +kernel
theorem dX13_when_88 : decode cX13_when 88 = .ok (.istore_n 3, 1) := by decide +kernel
theorem dX13_when_89 : decode cX13_when 89 = .ok (.iinc 5 1, 3) := by decide +kernel
theorem dX13_when_92 : decode cX13_when 92 = .ok (.goto (-37), 3) := by decide +kernel
theorem dX13_when_95 : decode cX13_when 95 = .ok (.iload_n 3, 1) := by decide +kernel
theorem dX13_when_96 : decode cX13_when 96 = .ok (.ireturn, 1) := by decide +kernel
theorem dX13_getsBy_0 : decode cX13_getsBy 0 = .ok (.iload_n 3, 1) := by decide +kernel
theorem dX13_getsBy_1 : decode cX13_getsBy 1 = .ok (.ifCond .ne 16, 3) := by decide +kernel
theorem dX13_getsBy_4 : decode cX13_getsBy 4 = .ok (.iload 4, 2) := by decide +kernel
theorem dX13_getsBy_6 : decode cX13_getsBy 6 = .ok (.ifCond .ne 7, 3) := by decide +kernel
theorem dX13_getsBy_9 : decode cX13_getsBy 9 = .ok (.iload_n 0, 1) := by decide +kernel
theorem dX13_getsBy_10 : decode cX13_getsBy 10 = .ok (.goto 17, 3) := by decide +kernel
theorem dX13_getsBy_13 : decode cX13_getsBy 13 = .ok (.iload_n 2, 1) := by decide +kernel
theorem dX13_getsBy_14 : decode cX13_getsBy 14 = .ok (.goto 13, 3) := by decide +kernel
theorem dX13_getsBy_17 : decode cX13_getsBy 17 = .ok (.iload 4, 2) := by decide +kernel
theorem dX13_getsBy_19 : decode cX13_getsBy 19 = .ok (.ifCond .ne 7, 3) := by decide +kernel
theorem dX13_getsBy_22 : decode cX13_getsBy 22 = .ok (.iload_n 1, 1) := by decide +kernel
theorem dX13_getsBy_23 : decode cX13_getsBy 23 = .ok (.goto 4, 3) := by decide +kernel
theorem dX13_getsBy_26 : decode cX13_getsBy 26 = .ok (.iconst 0, 1) := by decide +kernel
theorem dX13_getsBy_27 : decode cX13_getsBy 27 = .ok (.ireturn, 1) := by decide +kernel
theorem dX13_rests_0 : decode cX13_rests 0 = .ok (.aload_n 0, 1) := by decide +kernel
theorem dX13_rests_1 : decode cX13_rests 1 = .ok (.iload_n 1, 1) := by decide +kernel
theorem dX13_rests_2 : decode cX13_rests 2 = .ok (.iconst 0, 1) := by decide +kernel
theorem dX13_rests_3 : decode cX13_rests 3 = .ok (.bipush 9, 2) := by decide +kernel
theorem dX13_rests_5 : decode cX13_rests 5 = .ok (.invokestatic 297, 3) := by decide +kernel
theorem dX13_rests_8 : decode cX13_rests 8 = .ok (.ifCond .eq 33, 3) := by decide +kernel
theorem dX13_rests_11 : decode cX13_rests 11 = .ok (.iload_n 2, 1) := by decide +kernel
theorem dX13_rests_12 : decode cX13_rests 12 = .ok (.iconst 0, 1) := by decide +kernel
theorem dX13_rests_13 : decode cX13_rests 13 = .ok (.bipush 9, 2) := by decide +kernel
theorem dX13_rests_15 : decode cX13_rests 15 = .ok (.invokestatic 297, 3) := by decide +kernel
theorem dX13_rests_18 : decode cX13_rests 18 = .ok (.ifCond .eq 23, 3) := by decide +kernel
theorem dX13_rests_21 : decode cX13_rests 21 = .ok (.iload_n 3, 1) := by decide +kernel
theorem dX13_rests_22 : decode cX13_rests 22 = .ok (.iconst 0, 1) := by decide +kernel
theorem dX13_rests_23 : decode cX13_rests 23 = .ok (.bipush 9, 2) := by decide +kernel
theorem dX13_rests_25 : decode cX13_rests 25 = .ok (.invokestatic 297, 3) := by decide +kernel
theorem dX13_rests_28 : decode cX13_rests 28 = .ok (.ifCond .eq 13, 3) := by decide +kernel
theorem dX13_rests_31 : decode cX13_rests 31 = .ok (.iload 4, 2) := by decide +kernel
theorem dX13_rests_33 : decode cX13_rests 33 = .ok (.iconst (-1), 1) := by decide +kernel
theorem dX13_rests_34 : decode cX13_rests 34 = .ok (.if_icmp .lt 7, 3) := by decide +kernel
theorem dX13_rests_37 : decode cX13_rests 37 = .ok (.iconst 0, 1) := by decide +kernel
theorem dX13_rests_38 : decode cX13_rests 38 = .ok (.goto 4, 3) := by decide +kernel
theorem dX13_rests_41 : decode cX13_rests 41 = .ok (.iconst 1, 1) := by decide +kernel
theorem dX13_rests_42 : decode cX13_rests 42 = .ok (.putfield 153, 3) := by decide +kernel
theorem dX13_rests_45 : decode cX13_rests 45 = .ok (.aload_n 0, 1) := by decide +kernel
theorem dX13_rests_46 : decode cX13_rests 46 = .ok (.getfield 153, 3) := by decide +kernel
theorem dX13_rests_49 : decode cX13_rests 49 = .ok (.iconst 1, 1) := by decide +kernel
theorem dX13_rests_50 : decode cX13_rests 50 = .ok (.if_icmp .ne 5, 3) := by decide +kernel
theorem dX13_rests_53 : decode cX13_rests 53 = .ok (.iconst 0, 1) := by decide +kernel
theorem dX13_rests_54 : decode cX13_rests 54 = .ok (.ireturn, 1) := by decide +kernel
theorem dX13_rests_55 : decode cX13_rests 55 = .ok (.iconst 0, 1) := by decide +kernel
theorem dX13_rests_56 : decode cX13_rests 56 = .ok (.istore 5, 2) := by decide +kernel
theorem dX13_rests_58 : decode cX13_rests 58 = .ok (.iconst 0, 1) := by decide +kernel
theorem dX13_rests_59 : decode cX13_rests 59 = .ok (.istore 6, 2) := by decide +kernel
theorem dX13_rests_61 : decode cX13_rests 61 = .ok (.iload 6, 2) := by decide +kernel
theorem dX13_rests_63 : decode cX13_rests 63 = .ok (.iconst 4, 1) := by decide +kernel
theorem dX13_rests_64 : decode cX13_rests 64 = .ok (.if_icmp .ge 87, 3) := by decide +kernel
theorem dX13_rests_67 : decode cX13_rests 67 = .ok (.iload 6, 2) := by decide +kernel
theorem dX13_rests_69 : decode cX13_rests 69 = .ok (.iconst 2, 1) := by decide +kernel
theorem dX13_rests_70 : decode cX13_rests 70 = .ok (.idiv, 1) := by decide +kernel
theorem dX13_rests_71 : decode cX13_rests 71 = .ok (.istore 7, 2) := by decide +kernel
theorem dX13_rests_73 : decode cX13_rests 73 = .ok (.iload 6, 2) := by decide +kernel
theorem dX13_rests_75 : decode cX13_rests 75 = .ok (.iconst 2, 1) := by decide +kernel
theorem dX13_rests_76 : decode cX13_rests 76 = .ok (.irem, 1) := by decide +kernel
theorem dX13_rests_77 : decode cX13_rests 77 = .ok (.istore 8, 2) := by decide +kernel
theorem dX13_rests_79 : decode cX13_rests 79 = .ok (.iload_n 1, 1) := by decide +kernel
theorem dX13_rests_80 : decode cX13_rests 80 = .ok (.iload_n 2, 1) := by decide +kernel
theorem dX13_rests_81 : decode cX13_rests 81 = .ok (.iload_n 3, 1) := by decide +kernel
theorem dX13_rests_82 : decode cX13_rests 82 = .ok (.iconst 1, 1) := by decide +kernel
theorem dX13_rests_83 : decode cX13_rests 83 = .ok (.iload 7, 2) := by decide +kernel
theorem dX13_rests_85 : decode cX13_rests 85 = .ok (.isub, 1) := by decide +kernel
theorem dX13_rests_86 : decode cX13_rests 86 = .ok (.iload 8, 2) := by decide +kernel
theorem dX13_rests_88 : decode cX13_rests 88 = .ok (.invokestatic 534, 3) := by decide +kernel
theorem dX13_rests_91 : decode cX13_rests 91 = .ok (.iload_n 1, 1) := by decide +kernel
theorem dX13_rests_92 : decode cX13_rests 92 = .ok (.iload_n 2, 1) := by decide +kernel
theorem dX13_rests_93 : decode cX13_rests 93 = .ok (.iload_n 3, 1) := by decide +kernel
theorem dX13_rests_94 : decode cX13_rests 94 = .ok (.iload 7, 2) := by decide +kernel
theorem dX13_rests_96 : decode cX13_rests 96 = .ok (.iload 8, 2) := by decide +kernel
theorem dX13_rests_98 : decode cX13_rests 98 = .ok (.invokestatic 534, 3) := by decide +kernel
theorem dX13_rests_101 : decode cX13_rests 101 = .ok (.if_icmp .gt 44, 3) := by decide +kernel
theorem dX13_rests_104 : decode cX13_rests 104 = .ok (.iload_n 1, 1) := by decide +kernel
theorem dX13_rests_105 : decode cX13_rests 105 = .ok (.iload_n 2, 1) := by decide +kernel
theorem dX13_rests_106 : decode cX13_rests 106 = .ok (.iload_n 3, 1) := by decide +kernel
theorem dX13_rests_107 : decode cX13_rests 107 = .ok (.iconst 1, 1) := by decide +kernel
theorem dX13_rests_108 : decode cX13_rests 108 = .ok (.iload 8, 2) := by decide +kernel
theorem dX13_rests_110 : decode cX13_rests 110 = .ok (.isub, 1) := by decide +kernel
theorem dX13_rests_111 : decode cX13_rests 111 = .ok (.iload 7, 2) := by decide +kernel
theorem dX13_rests_113 : decode cX13_rests 113 = .ok (.invokestatic 534, 3) := by decide +kernel
theorem dX13_rests_116 : decode cX13_rests 116 = .ok (.iload_n 1, 1) := by decide +kernel
theorem dX13_rests_117 : decode cX13_rests 117 = .ok (.iload_n 2, 1) := by decide +kernel
theorem dX13_rests_118 : decode cX13_rests 118 = .ok (.iload_n 3, 1) := by decide +kernel
theorem dX13_rests_119 : decode cX13_rests 119 = .ok (.iload 8, 2) := by decide +kernel
theorem dX13_rests_121 : decode cX13_rests 121 = .ok (.iload 7, 2) := by decide +kernel
theorem dX13_rests_123 : decode cX13_rests 123 = .ok (.invokestatic 534, 3) := by decide +kernel
theorem dX13_rests_126 : decode cX13_rests 126 = .ok (.if_icmp .le 6, 3) := by decide +kernel
theorem dX13_rests_129 : decode cX13_rests 129 = .ok (.goto 16, 3) := by decide +kernel
theorem dX13_rests_132 : decode cX13_rests 132 = .ok (.iload 5, 2) := by decide +kernel
theorem dX13_rests_134 : decode cX13_rests 134 = .ok (.iload 4, 2) := by decide +kernel
theorem dX13_rests_136 : decode cX13_rests 136 = .ok (.if_icmp .ne 6, 3) := by decide +kernel
theorem dX13_rests_139 : decode cX13_rests 139 = .ok (.iload 6, 2) := by decide +kernel
theorem dX13_rests_141 : decode cX13_rests 141 = .ok (.ireturn, 1) := by decide +kernel
theorem dX13_rests_142 : decode cX13_rests 142 = .ok (.iinc 5 1, 3) := by decide +kernel
theorem dX13_rests_145 : decode cX13_rests 145 = .ok (.iinc 6 1, 3) := by decide +kernel
theorem dX13_rests_148 : decode cX13_rests 148 = .ok (.goto (-87), 3) := by decide +kernel
theorem dX13_rests_151 : decode cX13_rests 151 = .ok (.aload_n 0, 1) := by decide +kernel
theorem dX13_rests_152 : decode cX13_rests 152 = .ok (.iload 4, 2) := by decide +kernel
theorem dX13_rests_154 : decode cX13_rests 154 = .ok (.iconst (-1), 1) := by decide +kernel
theorem dX13_rests_155 : decode cX13_rests 155 = .ok (.if_icmp .ne 7, 3) := by decide +kernel
theorem dX13_rests_158 : decode cX13_rests 158 = .ok (.iconst 0, 1) := by decide +kernel
theorem dX13_rests_159 : decode cX13_rests 159 = .ok (.goto 4, 3) := by decide +kernel
theorem dX13_rests_162 : decode cX13_rests 162 = .ok (.iconst 1, 1) := by decide +kernel
theorem dX13_rests_163 : decode cX13_rests 163 = .ok (.putfield 153, 3) := by decide +kernel
theorem dX13_rests_166 : decode cX13_rests 166 = .ok (.iload 4, 2) := by decide +kernel
theorem dX13_rests_168 : decode cX13_rests 168 = .ok (.iconst (-1), 1) := by decide +kernel
theorem dX13_rests_169 : decode cX13_rests 169 = .ok (.if_icmp .ne 8, 3) := by decide +kernel
theorem dX13_rests_172 : decode cX13_rests 172 = .ok (.iload 5, 2) := by decide +kernel
theorem dX13_rests_174 : decode cX13_rests 174 = .ok (.goto 4, 3) := by decide +kernel
theorem dX13_rests_177 : decode cX13_rests 177 = .ok (.iconst 0, 1) := by decide +kernel
theorem dX13_rests_178 : decode cX13_rests 178 = .ok (.ireturn, 1) := by decide +kernel
theorem dX13_draws_0 : decode cX13_draws 0 = .ok (.aload_n 0, 1) := by decide +kernel
theorem dX13_draws_1 : decode cX13_draws 1 = .ok (.aload_n 0, 1) := by decide +kernel
theorem dX13_draws_2 : decode cX13_draws 2 = .ok (.getfield 538, 3) := by decide +kernel
theorem dX13_draws_5 : decode cX13_draws 5 = .ok (.ldc2_w 541, 3) := by decide +kernel
theorem dX13_draws_8 : decode cX13_draws 8 = .ok (.lmul, 1) := by decide +kernel
theorem dX13_draws_9 : decode cX13_draws 9 = .ok (.ldc2_w 543, 3) := by decide +kernel
theorem dX13_draws_12 : decode cX13_draws 12 = .ok (.ladd, 1) := by decide +kernel
theorem dX13_draws_13 : decode cX13_draws 13 = .ok (.ldc2_w 545, 3) := by decide +kernel
theorem dX13_draws_16 : decode cX13_draws 16 = .ok (.lrem, 1) := by decide +kernel
theorem dX13_draws_17 : decode cX13_draws 17 = .ok (.putfield 538, 3) := by decide +kernel
theorem dX13_draws_20 : decode cX13_draws 20 = .ok (.aload_n 0, 1) := by decide +kernel
theorem dX13_draws_21 : decode cX13_draws 21 = .ok (.getfield 538, 3) := by decide +kernel
theorem dX13_draws_24 : decode cX13_draws 24 = .ok (.ldc2_w 547, 3) := by decide +kernel
theorem dX13_draws_27 : decode cX13_draws 27 = .ok (.ldiv, 1) := by decide +kernel
theorem dX13_draws_28 : decode cX13_draws 28 = .ok (.iload_n 1, 1) := by decide +kernel
theorem dX13_draws_29 : decode cX13_draws 29 = .ok (.i2l, 1) := by decide +kernel
theorem dX13_draws_30 : decode cX13_draws 30 = .ok (.lrem, 1) := by decide +kernel
theorem dX13_draws_31 : decode cX13_draws 31 = .ok (.l2i, 1) := by decide +kernel
theorem dX13_draws_32 : decode cX13_draws 32 = .ok (.ireturn, 1) := by decide +kernel
theorem dX13_livesMonth_0 : decode cX13_livesMonth 0 = .ok (.aload_n 0, 1) := by decide +kernel
theorem dX13_livesMonth_1 : decode cX13_livesMonth 1 = .ok (.getfield 120, 3) := by decide +kernel
theorem dX13_livesMonth_4 : decode cX13_livesMonth 4 = .ok (.iconst 1, 1) := by decide +kernel
theorem dX13_livesMonth_5 : decode cX13_livesMonth 5 = .ok (.iaload, 1) := by decide +kernel
theorem dX13_livesMonth_6 : decode cX13_livesMonth 6 = .ok (.ifCond .ge 48, 3) := by decide +kernel
theorem dX13_livesMonth_9 : decode cX13_livesMonth 9 = .ok (.aload_n 0, 1) := by decide +kernel
theorem dX13_livesMonth_10 : decode cX13_livesMonth 10 = .ok (.getfield 13, 3) := by decide +kernel
theorem dX13_livesMonth_13 : decode cX13_livesMonth 13 = .ok (.iconst 0, 1) := by decide +kernel
theorem dX13_livesMonth_14 : decode cX13_livesMonth 14 = .ok (.iaload, 1) := by decide +kernel
theorem dX13_livesMonth_15 : decode cX13_livesMonth 15 = .ok (.ifCond .le 39, 3) := by decide +kernel
theorem dX13_livesMonth_18 : decode cX13_livesMonth 18 = .ok (.aload_n 0, 1) := by decide +kernel
theorem dX13_livesMonth_19 : decode cX13_livesMonth 19 = .ok (.aload_n 0, 1) := by decide +kernel
theorem dX13_livesMonth_20 : decode cX13_livesMonth 20 = .ok (.getfield 13, 3) := by decide +kernel
theorem dX13_livesMonth_23 : decode cX13_livesMonth 23 = .ok (.iconst 0, 1) := by decide +kernel
theorem dX13_livesMonth_24 : decode cX13_livesMonth 24 = .ok (.iaload, 1) := by decide +kernel
theorem dX13_livesMonth_25 : decode cX13_livesMonth 25 = .ok (.invokevirtual 549, 3) := by decide +kernel
theorem dX13_livesMonth_28 : decode cX13_livesMonth 28 = .ok (.istore_n 1, 1) := by decide +kernel
theorem dX13_livesMonth_29 : decode cX13_livesMonth 29 = .ok (.aload_n 0, 1) := by decide +kernel
theorem dX13_livesMonth_30 : decode cX13_livesMonth 30 = .ok (.aload_n 0, 1) := by decide +kernel
theorem dX13_livesMonth_31 : decode cX13_livesMonth 31 = .ok (.getfield 13, 3) := by decide +kernel
theorem dX13_livesMonth_34 : decode cX13_livesMonth 34 = .ok (.iconst 0, 1) := by decide +kernel
theorem dX13_livesMonth_35 : decode cX13_livesMonth 35 = .ok (.iaload, 1) := by decide +kernel
theorem dX13_livesMonth_36 : decode cX13_livesMonth 36 = .ok (.invokevirtual 549, 3) := by decide +kernel
theorem dX13_livesMonth_39 : decode cX13_livesMonth 39 = .ok (.istore_n 2, 1) := by decide +kernel
theorem dX13_livesMonth_40 : decode cX13_livesMonth 40 = .ok (.aload_n 0, 1) := by decide +kernel
theorem dX13_livesMonth_41 : decode cX13_livesMonth 41 = .ok (.iload_n 1, 1) := by decide +kernel
theorem dX13_livesMonth_42 : decode cX13_livesMonth 42 = .ok (.iload_n 2, 1) := by decide +kernel
theorem dX13_livesMonth_43 : decode cX13_livesMonth 43 = .ok (.invokevirtual 449, 3) := by decide +kernel
theorem dX13_livesMonth_46 : decode cX13_livesMonth 46 = .ok (.ifCond .eq 8, 3) := by decide +kernel
theorem dX13_livesMonth_49 : decode cX13_livesMonth 49 = .ok (.aload_n 0, 1) := by decide +kernel
theorem dX13_livesMonth_50 : decode cX13_livesMonth 50 = .ok (.iload_n 2, 1) := by decide +kernel
theorem dX13_livesMonth_51 : decode cX13_livesMonth 51 = .ok (.invokevirtual 459, 3) := by decide +kernel
theorem dX13_livesMonth_54 : decode cX13_livesMonth 54 = .ok (.aload_n 0, 1) := by decide +kernel
theorem dX13_livesMonth_55 : decode cX13_livesMonth 55 = .ok (.getfield 13, 3) := by decide +kernel
theorem dX13_livesMonth_58 : decode cX13_livesMonth 58 = .ok (.iconst 1, 1) := by decide +kernel
theorem dX13_livesMonth_59 : decode cX13_livesMonth 59 = .ok (.iaload, 1) := by decide +kernel
theorem dX13_livesMonth_60 : decode cX13_livesMonth 60 = .ok (.ifCond .ne 7, 3) := by decide +kernel
theorem dX13_livesMonth_63 : decode cX13_livesMonth 63 = .ok (.iconst 0, 1) := by decide +kernel
theorem dX13_livesMonth_64 : decode cX13_livesMonth 64 = .ok (.goto 18, 3) := by decide +kernel
theorem dX13_livesMonth_67 : decode cX13_livesMonth 67 = .ok (.aload_n 0, 1) := by decide +kernel
theorem dX13_livesMonth_68 : decode cX13_livesMonth 68 = .ok (.aload_n 0, 1) := by decide +kernel
theorem dX13_livesMonth_69 : decode cX13_livesMonth 69 = .ok (.aload_n 0, 1) := by decide +kernel
theorem dX13_livesMonth_70 : decode cX13_livesMonth 70 = .ok (.getfield 13, 3) := by decide +kernel
theorem dX13_livesMonth_73 : decode cX13_livesMonth 73 = .ok (.iconst 1, 1) := by decide +kernel
theorem dX13_livesMonth_74 : decode cX13_livesMonth 74 = .ok (.iaload, 1) := by decide +kernel
theorem dX13_livesMonth_75 : decode cX13_livesMonth 75 = .ok (.invokevirtual 549, 3) := by decide +kernel
theorem dX13_livesMonth_78 : decode cX13_livesMonth 78 = .ok (.iconst (-1), 1) := by decide +kernel
theorem dX13_livesMonth_79 : decode cX13_livesMonth 79 = .ok (.invokevirtual 465, 3) := by decide +kernel
theorem dX13_livesMonth_82 : decode cX13_livesMonth 82 = .ok (.ireturn, 1) := by decide +kernel
theorem dX13_ages_0 : decode cX13_ages 0 = .ok (.aload_n 0, 1) := by decide +kernel
theorem dX13_ages_1 : decode cX13_ages 1 = .ok (.iconst 0, 1) := by decide +kernel
theorem dX13_ages_2 : decode cX13_ages 2 = .ok (.putfield 153, 3) := by decide +kernel
theorem dX13_ages_5 : decode cX13_ages 5 = .ok (.iload_n 1, 1) := by decide +kernel
theorem dX13_ages_6 : decode cX13_ages 6 = .ok (.iconst 0, 1) := by decide +kernel
theorem dX13_ages_7 : decode cX13_ages 7 = .ok (.sipush 9999, 3) := by decide +kernel
theorem dX13_ages_10 : decode cX13_ages 10 = .ok (.invokestatic 297, 3) := by decide +kernel
theorem dX13_ages_13 : decode cX13_ages 13 = .ok (.ifCond .eq 22, 3) := by decide +kernel
theorem dX13_ages_16 : decode cX13_ages 16 = .ok (.iload_n 2, 1) := by decide +kernel
theorem dX13_ages_17 : decode cX13_ages 17 = .ok (.iconst 1, 1) := by decide +kernel
theorem dX13_ages_18 : decode cX13_ages 18 = .ok (.bipush 99, 2) := by decide +kernel
theorem dX13_ages_20 : decode cX13_ages 20 = .ok (.invokestatic 297, 3) := by decide +kernel
theorem dX13_ages_23 : decode cX13_ages 23 = .ok (.ifCond .eq 12, 3) := by decide +kernel
theorem dX13_ages_26 : decode cX13_ages 26 = .ok (.iload_n 3, 1) := by decide +kernel
theorem dX13_ages_27 : decode cX13_ages 27 = .ok (.iconst 0, 1) := by decide +kernel
theorem dX13_ages_28 : decode cX13_ages 28 = .ok (.iconst 2, 1) := by decide +kernel
theorem dX13_ages_29 : decode cX13_ages 29 = .ok (.invokestatic 297, 3) := by decide +kernel
theorem dX13_ages_32 : decode cX13_ages 32 = .ok (.ifCond .ne 5, 3) := by decide +kernel
theorem dX13_ages_35 : decode cX13_ages 35 = .ok (.iconst (-1), 1) := by decide +kernel
theorem dX13_ages_36 : decode cX13_ages 36 = .ok (.ireturn, 1) := by decide +kernel
theorem dX13_ages_37 : decode cX13_ages 37 = .ok (.aload_n 0, 1) := by decide +kernel
theorem dX13_ages_38 : decode cX13_ages 38 = .ok (.iload_n 1, 1) := by decide +kernel
theorem dX13_ages_39 : decode cX13_ages 39 = .ok (.i2l, 1) := by decide +kernel
theorem dX13_ages_40 : decode cX13_ages 40 = .ok (.putfield 538, 3) := by decide +kernel
theorem dX13_ages_43 : decode cX13_ages 43 = .ok (.aload_n 0, 1) := by decide +kernel
theorem dX13_ages_44 : decode cX13_ages 44 = .ok (.getfield 120, 3) := by decide +kernel
theorem dX13_ages_47 : decode cX13_ages 47 = .ok (.iconst 0, 1) := by decide +kernel
theorem dX13_ages_48 : decode cX13_ages 48 = .ok (.aload_n 0, 1) := by decide +kernel
theorem dX13_ages_49 : decode cX13_ages 49 = .ok (.getfield 123, 3) := by decide +kernel
theorem dX13_ages_52 : decode cX13_ages 52 = .ok (.iconst 0, 1) := by decide +kernel
theorem dX13_ages_53 : decode cX13_ages 53 = .ok (.invokestatic 452, 3) := by decide +kernel
theorem dX13_ages_56 : decode cX13_ages 56 = .ok (.iconst 0, 1) := by decide +kernel
theorem dX13_ages_57 : decode cX13_ages 57 = .ok (.istore 4, 2) := by decide +kernel
theorem dX13_ages_59 : decode cX13_ages 59 = .ok (.iconst 0, 1) := by decide +kernel
theorem dX13_ages_60 : decode cX13_ages 60 = .ok (.istore 5, 2) := by decide +kernel
theorem dX13_ages_62 : decode cX13_ages 62 = .ok (.iconst 0, 1) := by decide +kernel
theorem dX13_ages_63 : decode cX13_ages 63 = .ok (.istore 6, 2) := by decide +kernel
theorem dX13_ages_65 : decode cX13_ages 65 = .ok (.iload 6, 2) := by decide +kernel
theorem dX13_ages_67 : decode cX13_ages 67 = .ok (.iload_n 2, 1) := by decide +kernel
theorem dX13_ages_68 : decode cX13_ages 68 = .ok (.if_icmp .ge 29, 3) := by decide +kernel
theorem dX13_ages_71 : decode cX13_ages 71 = .ok (.iload 4, 2) := by decide +kernel
theorem dX13_ages_73 : decode cX13_ages 73 = .ok (.aload_n 0, 1) := by decide +kernel
theorem dX13_ages_74 : decode cX13_ages 74 = .ok (.invokevirtual 552, 3) := by decide +kernel
theorem dX13_ages_77 : decode cX13_ages 77 = .ok (.iadd, 1) := by decide +kernel
theorem dX13_ages_78 : decode cX13_ages 78 = .ok (.istore 4, 2) := by decide +kernel
theorem dX13_ages_80 : decode cX13_ages 80 = .ok (.iload 5, 2) := by decide +kernel
theorem dX13_ages_82 : decode cX13_ages 82 = .ok (.aload_n 0, 1) := by decide +kernel
theorem dX13_ages_83 : decode cX13_ages 83 = .ok (.getfield 120, 3) := by decide +kernel
theorem dX13_ages_86 : decode cX13_ages 86 = .ok (.iconst 4, 1) := by decide +kernel
theorem dX13_ages_87 : decode cX13_ages 87 = .ok (.iaload, 1) := by decide +kernel
theorem dX13_ages_88 : decode cX13_ages 88 = .ok (.iadd, 1) := by decide +kernel
theorem dX13_ages_89 : decode cX13_ages 89 = .ok (.istore 5, 2) := by decide +kernel
theorem dX13_ages_91 : decode cX13_ages 91 = .ok (.iinc 6 1, 3) := by decide +kernel
theorem dX13_ages_94 : decode cX13_ages 94 = .ok (.goto (-29), 3) := by decide +kernel
theorem dX13_ages_97 : decode cX13_ages 97 = .ok (.iconst 0, 1) := by decide +kernel
theorem dX13_ages_98 : decode cX13_ages 98 = .ok (.istore 6, 2) := by decide +kernel
theorem dX13_ages_100 : decode cX13_ages 100 = .ok (.iconst 0, 1) := by decide +kernel
theorem dX13_ages_101 : decode cX13_ages 101 = .ok (.istore 7, 2) := by decide +kernel
theorem dX13_ages_103 : decode cX13_ages 103 = .ok (.iload 7, 2) := by decide +kernel
theorem dX13_ages_105 : decode cX13_ages 105 = .ok (.bipush 6, 2) := by decide +kernel
theorem dX13_ages_107 : decode cX13_ages 107 = .ok (.if_icmp .ge 24, 3) := by decide +kernel
theorem dX13_ages_110 : decode cX13_ages 110 = .ok (.iload 6, 2) := by decide +kernel
theorem dX13_ages_112 : decode cX13_ages 112 = .ok (.aload_n 0, 1) := by decide +kernel
theorem dX13_ages_113 : decode cX13_ages 113 = .ok (.getfield 120, 3) := by decide +kernel
theorem dX13_ages_116 : decode cX13_ages 116 = .ok (.bipush 11, 2) := by decide +kernel
theorem dX13_ages_118 : decode cX13_ages 118 = .ok (.iload 7, 2) := by decide +kernel
theorem dX13_ages_120 : decode cX13_ages 120 = .ok (.iadd, 1) := by decide +kernel
theorem dX13_ages_121 : decode cX13_ages 121 = .ok (.iaload, 1) := by decide +kernel
theorem dX13_ages_122 : decode cX13_ages 122 = .ok (.iadd, 1) := by decide +kernel
theorem dX13_ages_123 : decode cX13_ages 123 = .ok (.istore 6, 2) := by decide +kernel
theorem dX13_ages_125 : decode cX13_ages 125 = .ok (.iinc 7 1, 3) := by decide +kernel
theorem dX13_ages_128 : decode cX13_ages 128 = .ok (.goto (-25), 3) := by decide +kernel
theorem dX13_ages_131 : decode cX13_ages 131 = .ok (.aload_n 0, 1) := by decide +kernel
theorem dX13_ages_132 : decode cX13_ages 132 = .ok (.getfield 123, 3) := by decide +kernel
theorem dX13_ages_135 : decode cX13_ages 135 = .ok (.iconst 0, 1) := by decide +kernel
theorem dX13_ages_136 : decode cX13_ages 136 = .ok (.aload_n 0, 1) := by decide +kernel
theorem dX13_ages_137 : decode cX13_ages 137 = .ok (.getfield 120, 3) := by decide +kernel
theorem dX13_ages_140 : decode cX13_ages 140 = .ok (.iconst 0, 1) := by decide +kernel
theorem dX13_ages_141 : decode cX13_ages 141 = .ok (.invokestatic 452, 3) := by decide +kernel
theorem dX13_ages_144 : decode cX13_ages 144 = .ok (.iload_n 3, 1) := by decide +kernel
theorem dX13_ages_145 : decode cX13_ages 145 = .ok (.ifCond .ne 8, 3) := by decide +kernel
theorem dX13_ages_148 : decode cX13_ages 148 = .ok (.iload 4, 2) := by decide +kernel
theorem dX13_ages_150 : decode cX13_ages 150 = .ok (.goto 15, 3) := by decide +kernel
theorem dX13_ages_153 : decode cX13_ages 153 = .ok (.iload_n 3, 1) := by decide +kernel
theorem dX13_ages_154 : decode cX13_ages 154 = .ok (.iconst 1, 1) := by decide +kernel
theorem dX13_ages_155 : decode cX13_ages 155 = .ok (.if_icmp .ne 8, 3) := by decide +kernel
theorem dX13_ages_158 : decode cX13_ages 158 = .ok (.iload 5, 2) := by decide +kernel
theorem dX13_ages_160 : decode cX13_ages 160 = .ok (.goto 5, 3) := by decide +kernel
theorem dX13_ages_163 : decode cX13_ages 163 = .ok (.iload 6, 2) := by decide +kernel
theorem dX13_ages_165 : decode cX13_ages 165 = .ok (.ireturn, 1) := by decide +kernel
theorem dX13_mark_0 : decode cX13_mark 0 = .ok (.aload_n 0, 1) := by decide +kernel
theorem dX13_mark_1 : decode cX13_mark 1 = .ok (.iconst 0, 1) := by decide +kernel
theorem dX13_mark_2 : decode cX13_mark 2 = .ok (.putfield 153, 3) := by decide +kernel
theorem dX13_mark_5 : decode cX13_mark 5 = .ok (.iload_n 1, 1) := by decide +kernel
theorem dX13_mark_6 : decode cX13_mark 6 = .ok (.iconst 0, 1) := by decide +kernel
theorem dX13_mark_7 : decode cX13_mark 7 = .ok (.iconst 3, 1) := by decide +kernel
theorem dX13_mark_8 : decode cX13_mark 8 = .ok (.invokestatic 297, 3) := by decide +kernel
theorem dX13_mark_11 : decode cX13_mark 11 = .ok (.ifCond .eq 16, 3) := by decide +kernel
theorem dX13_mark_14 : decode cX13_mark 14 = .ok (.iload_n 2, 1) := by decide +kernel
theorem dX13_mark_15 : decode cX13_mark 15 = .ok (.ifCond .eq 14, 3) := by decide +kernel
theorem dX13_mark_18 : decode cX13_mark 18 = .ok (.aload_n 0, 1) := by decide +kernel
theorem dX13_mark_19 : decode cX13_mark 19 = .ok (.getfield 135, 3) := by decide +kernel
theorem dX13_mark_22 : decode cX13_mark 22 = .ok (.iload_n 1, 1) := by decide +kernel
theorem dX13_mark_23 : decode cX13_mark 23 = .ok (.baload, 1) := by decide +kernel
theorem dX13_mark_24 : decode cX13_mark 24 = .ok (.ifCond .ne 5, 3) := by decide +kernel
theorem dX13_mark_27 : decode cX13_mark 27 = .ok (.iconst 0, 1) := by decide +kernel
theorem dX13_mark_28 : decode cX13_mark 28 = .ok (.ireturn, 1) := by decide +kernel
theorem dX13_mark_29 : decode cX13_mark 29 = .ok (.aload_n 0, 1) := by decide +kernel
theorem dX13_mark_30 : decode cX13_mark 30 = .ok (.getfield 135, 3) := by decide +kernel
theorem dX13_mark_33 : decode cX13_mark 33 = .ok (.iload_n 1, 1) := by decide +kernel
theorem dX13_mark_34 : decode cX13_mark 34 = .ok (.iconst 1, 1) := by decide +kernel
theorem dX13_mark_35 : decode cX13_mark 35 = .ok (.bastore, 1) := by decide +kernel
theorem dX13_mark_36 : decode cX13_mark 36 = .ok (.iload_n 2, 1) := by decide +kernel
theorem dX13_mark_37 : decode cX13_mark 37 = .ok (.ifCond .eq 9, 3) := by decide +kernel
theorem dX13_mark_40 : decode cX13_mark 40 = .ok (.iconst 1, 1) := by decide +kernel
theorem dX13_mark_41 : decode cX13_mark 41 = .ok (.iload_n 1, 1) := by decide +kernel
theorem dX13_mark_42 : decode cX13_mark 42 = .ok (.iadd, 1) := by decide +kernel
theorem dX13_mark_43 : decode cX13_mark 43 = .ok (.goto 4, 3) := by decide +kernel
theorem dX13_mark_46 : decode cX13_mark 46 = .ok (.iconst 0, 1) := by decide +kernel
theorem dX13_mark_47 : decode cX13_mark 47 = .ok (.istore_n 3, 1) := by decide +kernel
theorem dX13_mark_48 : decode cX13_mark 48 = .ok (.iload_n 2, 1) := by decide +kernel
theorem dX13_mark_49 : decode cX13_mark 49 = .ok (.ifCond .eq 7, 3) := by decide +kernel
theorem dX13_mark_52 : decode cX13_mark 52 = .ok (.iconst 0, 1) := by decide +kernel
theorem dX13_mark_53 : decode cX13_mark 53 = .ok (.goto 6, 3) := by decide +kernel
theorem dX13_mark_56 : decode cX13_mark 56 = .ok (.iconst 1, 1) := by decide +kernel
theorem dX13_mark_57 : decode cX13_mark 57 = .ok (.iload_n 1, 1) := by decide +kernel
theorem dX13_mark_58 : decode cX13_mark 58 = .ok (.iadd, 1) := by decide +kernel
theorem dX13_mark_59 : decode cX13_mark 59 = .ok (.istore 4, 2) := by decide +kernel
theorem dX13_mark_61 : decode cX13_mark 61 = .ok (.aload_n 0, 1) := by decide +kernel
theorem dX13_mark_62 : decode cX13_mark 62 = .ok (.iload_n 3, 1) := by decide +kernel
theorem dX13_mark_63 : decode cX13_mark 63 = .ok (.iload 4, 2) := by decide +kernel
theorem dX13_mark_65 : decode cX13_mark 65 = .ok (.invokevirtual 399, 3) := by decide +kernel
theorem dX13_mark_68 : decode cX13_mark 68 = .ok (.aload_n 0, 1) := by decide +kernel
theorem dX13_mark_69 : decode cX13_mark 69 = .ok (.iload_n 3, 1) := by decide +kernel
theorem dX13_mark_70 : decode cX13_mark 70 = .ok (.iload 4, 2) := by decide +kernel
theorem dX13_mark_72 : decode cX13_mark 72 = .ok (.invokevirtual 555, 3) := by decide +kernel
theorem dX13_mark_75 : decode cX13_mark 75 = .ok (.iload_n 2, 1) := by decide +kernel
theorem dX13_mark_76 : decode cX13_mark 76 = .ok (.ifCond .eq 27, 3) := by decide +kernel
theorem dX13_mark_79 : decode cX13_mark 79 = .ok (.aload_n 0, 1) := by decide +kernel
theorem dX13_mark_80 : decode cX13_mark 80 = .ok (.getfield 129, 3) := by decide +kernel
theorem dX13_mark_83 : decode cX13_mark 83 = .ok (.bipush 23, 2) := by decide +kernel
theorem dX13_mark_85 : decode cX13_mark 85 = .ok (.iload_n 1, 1) := by decide +kernel
theorem dX13_mark_86 : decode cX13_mark 86 = .ok (.imul, 1) := by decide +kernel
theorem dX13_mark_87 : decode cX13_mark 87 = .ok (.aload_n 0, 1) := by decide +kernel
theorem dX13_mark_88 : decode cX13_mark 88 = .ok (.getfield 120, 3) := by decide +kernel
theorem dX13_mark_91 : decode cX13_mark 91 = .ok (.iconst 0, 1) := by decide +kernel
theorem dX13_mark_92 : decode cX13_mark 92 = .ok (.invokestatic 452, 3) := by decide +kernel
theorem dX13_mark_95 : decode cX13_mark 95 = .ok (.aload_n 0, 1) := by decide +kernel
theorem dX13_mark_96 : decode cX13_mark 96 = .ok (.iconst 0, 1) := by decide +kernel
theorem dX13_mark_97 : decode cX13_mark 97 = .ok (.putfield 393, 3) := by decide +kernel
theorem dX13_mark_100 : decode cX13_mark 100 = .ok (.goto 19, 3) := by decide +kernel
theorem dX13_mark_103 : decode cX13_mark 103 = .ok (.aload_n 0, 1) := by decide +kernel
theorem dX13_mark_104 : decode cX13_mark 104 = .ok (.getfield 120, 3) := by decide +kernel
theorem dX13_mark_107 : decode cX13_mark 107 = .ok (.iconst 0, 1) := by decide +kernel
theorem dX13_mark_108 : decode cX13_mark 108 = .ok (.aload_n 0, 1) := by decide +kernel
theorem dX13_mark_109 : decode cX13_mark 109 = .ok (.getfield 129, 3) := by decide +kernel
theorem dX13_mark_112 : decode cX13_mark 112 = .ok (.bipush 23, 2) := by decide +kernel
theorem dX13_mark_114 : decode cX13_mark 114 = .ok (.iload_n 1, 1) := by decide +kernel
theorem dX13_mark_115 : decode cX13_mark 115 = .ok (.imul, 1) := by decide +kernel
theorem dX13_mark_116 : decode cX13_mark 116 = .ok (.invokestatic 452, 3) := by decide +kernel
theorem dX13_mark_119 : decode cX13_mark 119 = .ok (.iconst 1, 1) := by decide +kernel
theorem dX13_mark_120 : decode cX13_mark 120 = .ok (.ireturn, 1) := by decide +kernel
theorem dX13_count_0 : decode cX13_count 0 = .ok (.aload_n 0, 1) := by decide +kernel
theorem dX13_count_1 : decode cX13_count 1 = .ok (.iconst 0, 1) := by decide +kernel
theorem dX13_count_2 : decode cX13_count 2 = .ok (.putfield 153, 3) := by decide +kernel
theorem dX13_count_5 : decode cX13_count 5 = .ok (.iload_n 1, 1) := by decide +kernel
theorem dX13_count_6 : decode cX13_count 6 = .ok (.iconst 0, 1) := by decide +kernel
theorem dX13_count_7 : decode cX13_count 7 = .ok (.bipush 14, 2) := by decide +kernel
theorem dX13_count_9 : decode cX13_count 9 = .ok (.invokestatic 297, 3) := by decide +kernel
theorem dX13_count_12 : decode cX13_count 12 = .ok (.ifCond .ne 5, 3) := by decide +kernel
theorem dX13_count_15 : decode cX13_count 15 = .ok (.iconst (-1), 1) := by decide +kernel
theorem dX13_count_16 : decode cX13_count 16 = .ok (.ireturn, 1) := by decide +kernel
theorem dX13_count_17 : decode cX13_count 17 = .ok (.iload_n 1, 1) := by decide +kernel
theorem dX13_count_18 : decode cX13_count 18 = .ok (.iconst 4, 1) := by decide +kernel
theorem dX13_count_19 : decode cX13_count 19 = .ok (.if_icmp .ge 10, 3) := by decide +kernel
theorem dX13_count_22 : decode cX13_count 22 = .ok (.aload_n 0, 1) := by decide +kernel
theorem dX13_count_23 : decode cX13_count 23 = .ok (.getfield 13, 3) := by decide +kernel
theorem dX13_count_26 : decode cX13_count 26 = .ok (.iload_n 1, 1) := by decide +kernel
theorem dX13_count_27 : decode cX13_count 27 = .ok (.iaload, 1) := by decide +kernel
theorem dX13_count_28 : decode cX13_count 28 = .ok (.ireturn, 1) := by decide +kernel
theorem dX13_count_29 : decode cX13_count 29 = .ok (.iload_n 1, 1) := by decide +kernel
theorem dX13_count_30 : decode cX13_count 30 = .ok (.bipush 9, 2) := by decide +kernel
theorem dX13_count_32 : decode cX13_count 32 = .ok (.if_icmp .ge 68, 3) := by decide +kernel
theorem dX13_count_35 : decode cX13_count 35 = .ok (.iload_n 1, 1) := by decide +kernel
theorem dX13_count_36 : decode cX13_count 36 = .ok (.iconst 4, 1) := by decide +kernel
theorem dX13_count_37 : decode cX13_count 37 = .ok (.if_icmp .ne 12, 3) := by decide +kernel
theorem dX13_count_40 : decode cX13_count 40 = .ok (.aload_n 0, 1) := by decide +kernel
theorem dX13_count_41 : decode cX13_count 41 = .ok (.getfield 120, 3) := by decide +kernel
theorem dX13_count_44 : decode cX13_count 44 = .ok (.iconst 0, 1) := by decide +kernel
theorem dX13_count_45 : decode cX13_count 45 = .ok (.iaload, 1) := by decide +kernel
theorem dX13_count_46 : decode cX13_count 46 = .ok (.goto 53, 3) := by decide +kernel
theorem dX13_count_49 : decode cX13_count 49 = .ok (.iload_n 1, 1) := by decide +kernel
theorem dX13_count_50 : decode cX13_count 50 = .ok (.iconst 5, 1) := by decide +kernel
theorem dX13_count_51 : decode cX13_count 51 = .ok (.if_icmp .ne 12, 3) := by decide +kernel
theorem dX13_count_54 : decode cX13_count 54 = .ok (.aload_n 0, 1) := by decide +kernel
theorem dX13_count_55 : decode cX13_count 55 = .ok (.getfield 120, 3) := by decide +kernel
theorem dX13_count_58 : decode cX13_count 58 = .ok (.iconst 1, 1) := by decide +kernel
theorem dX13_count_59 : decode cX13_count 59 = .ok (.iaload, 1) := by decide +kernel
theorem dX13_count_60 : decode cX13_count 60 = .ok (.goto 39, 3) := by decide +kernel
theorem dX13_count_63 : decode cX13_count 63 = .ok (.iload_n 1, 1) := by decide +kernel
theorem dX13_count_64 : decode cX13_count 64 = .ok (.bipush 6, 2) := by decide +kernel
theorem dX13_count_66 : decode cX13_count 66 = .ok (.if_icmp .ne 12, 3) := by decide +kernel
theorem dX13_count_69 : decode cX13_count 69 = .ok (.aload_n 0, 1) := by decide +kernel
theorem dX13_count_70 : decode cX13_count 70 = .ok (.getfield 120, 3) := by decide +kernel
theorem dX13_count_73 : decode cX13_count 73 = .ok (.iconst 2, 1) := by decide +kernel
theorem dX13_count_74 : decode cX13_count 74 = .ok (.iaload, 1) := by decide +kernel
theorem dX13_count_75 : decode cX13_count 75 = .ok (.goto 24, 3) := by decide +kernel
theorem dX13_count_78 : decode cX13_count 78 = .ok (.iload_n 1, 1) := by decide +kernel
theorem dX13_count_79 : decode cX13_count 79 = .ok (.bipush 7, 2) := by decide +kernel
theorem dX13_count_81 : decode cX13_count 81 = .ok (.if_icmp .ne 12, 3) := by decide +kernel
theorem dX13_count_84 : decode cX13_count 84 = .ok (.aload_n 0, 1) := by decide +kernel
theorem dX13_count_85 : decode cX13_count 85 = .ok (.getfield 120, 3) := by decide +kernel
theorem dX13_count_88 : decode cX13_count 88 = .ok (.iconst 3, 1) := by decide +kernel
theorem dX13_count_89 : decode cX13_count 89 = .ok (.iaload, 1) := by decide +kernel
theorem dX13_count_90 : decode cX13_count 90 = .ok (.goto 9, 3) := by decide +kernel
theorem dX13_count_93 : decode cX13_count 93 = .ok (.aload_n 0, 1) := by decide +kernel
theorem dX13_count_94 : decode cX13_count 94 = .ok (.getfield 120, 3) := by decide +kernel
theorem dX13_count_97 : decode cX13_count 97 = .ok (.iconst 4, 1) := by decide +kernel
theorem dX13_count_98 : decode cX13_count 98 = .ok (.iaload, 1) := by decide +kernel
theorem dX13_count_99 : decode cX13_count 99 = .ok (.ireturn, 1) := by decide +kernel
theorem dX13_count_100 : decode cX13_count 100 = .ok (.iload_n 1, 1) := by decide +kernel
theorem dX13_count_101 : decode cX13_count 101 = .ok (.bipush 12, 2) := by decide +kernel
theorem dX13_count_103 : decode cX13_count 103 = .ok (.if_icmp .ge 38, 3) := by decide +kernel
theorem dX13_count_106 : decode cX13_count 106 = .ok (.iload_n 1, 1) := by decide +kernel
theorem dX13_count_107 : decode cX13_count 107 = .ok (.bipush 9, 2) := by decide +kernel
theorem dX13_count_109 : decode cX13_count 109 = .ok (.if_icmp .ne 10, 3) := by decide +kernel
theorem dX13_count_112 : decode cX13_count 112 = .ok (.aload_n 0, 1) := by decide +kernel
theorem dX13_count_113 : decode cX13_count 113 = .ok (.invokevirtual 437, 3) := by decide +kernel
theorem dX13_count_116 : decode cX13_count 116 = .ok (.goto 24, 3) := by decide +kernel
theorem dX13_count_119 : decode cX13_count 119 = .ok (.iload_n 1, 1) := by decide +kernel
theorem dX13_count_120 : decode cX13_count 120 = .ok (.bipush 10, 2) := by decide +kernel
theorem dX13_count_122 : decode cX13_count 122 = .ok (.if_icmp .ne 12, 3) := by decide +kernel
theorem dX13_count_125 : decode cX13_count 125 = .ok (.aload_n 0, 1) := by decide +kernel
theorem dX13_count_126 : decode cX13_count 126 = .ok (.getfield 96, 3) := by decide +kernel
theorem dX13_count_129 : decode cX13_count 129 = .ok (.iconst 0, 1) := by decide +kernel
theorem dX13_count_130 : decode cX13_count 130 = .ok (.iaload, 1) := by decide +kernel
theorem dX13_count_131 : decode cX13_count 131 = .ok (.goto 9, 3) := by decide +kernel
theorem dX13_count_134 : decode cX13_count 134 = .ok (.aload_n 0, 1) := by decide +kernel
theorem dX13_count_135 : decode cX13_count 135 = .ok (.getfield 108, 3) := by decide +kernel
theorem dX13_count_138 : decode cX13_count 138 = .ok (.iconst 0, 1) := by decide +kernel
theorem dX13_count_139 : decode cX13_count 139 = .ok (.iaload, 1) := by decide +kernel
theorem dX13_count_140 : decode cX13_count 140 = .ok (.ireturn, 1) := by decide +kernel
theorem dX13_count_141 : decode cX13_count 141 = .ok (.iload_n 1, 1) := by decide +kernel
theorem dX13_count_142 : decode cX13_count 142 = .ok (.bipush 12, 2) := by decide +kernel
theorem dX13_count_144 : decode cX13_count 144 = .ok (.if_icmp .ne 10, 3) := by decide +kernel
theorem dX13_count_147 : decode cX13_count 147 = .ok (.aload_n 0, 1) := by decide +kernel
theorem dX13_count_148 : decode cX13_count 148 = .ok (.getfield 393, 3) := by decide +kernel
theorem dX13_count_151 : decode cX13_count 151 = .ok (.goto 22, 3) := by decide +kernel
theorem dX13_count_154 : decode cX13_count 154 = .ok (.iload_n 1, 1) := by decide +kernel
theorem dX13_count_155 : decode cX13_count 155 = .ok (.bipush 13, 2) := by decide +kernel
theorem dX13_count_157 : decode cX13_count 157 = .ok (.if_icmp .ne 10, 3) := by decide +kernel
theorem dX13_count_160 : decode cX13_count 160 = .ok (.aload_n 0, 1) := by decide +kernel
theorem dX13_count_161 : decode cX13_count 161 = .ok (.getfield 159, 3) := by decide +kernel
theorem dX13_count_164 : decode cX13_count 164 = .ok (.goto 9, 3) := by decide +kernel
theorem dX13_count_167 : decode cX13_count 167 = .ok (.aload_n 0, 1) := by decide +kernel
theorem dX13_count_168 : decode cX13_count 168 = .ok (.getfield 13, 3) := by decide +kernel
theorem dX13_count_171 : decode cX13_count 171 = .ok (.iconst 4, 1) := by decide +kernel
theorem dX13_count_172 : decode cX13_count 172 = .ok (.iaload, 1) := by decide +kernel
theorem dX13_count_173 : decode cX13_count 173 = .ok (.ireturn, 1) := by decide +kernel
