theorem dX6_undo_49 : decode cX6_undo 49 = .ok (.aload_n 0, 1) := by decide +kernel
theorem dX6_undo_50 : decode cX6_undo 50 = .ok (.getfield 13, 3) := by decide +kernel
theorem dX6_undo_53 : decode cX6_undo 53 = .ok (.sipush 148, 3) := by decide +kernel
theorem dX6_undo_56 : decode cX6_undo 56 = .ok (.aload_n 0, 1) := by decide +kernel
theorem dX6_undo_57 : decode cX6_undo 57 = .ok (.getfield 32, 3) := by decide +kernel
theorem dX6_undo_60 : decode cX6_undo 60 = .ok (.imul, 1) := by decide +kernel
theorem dX6_undo_61 : decode cX6_undo 61 = .ok (.iload_n 1, 1) := by decide +kernel
theorem dX6_undo_62 : decode cX6_undo 62 = .ok (.iadd, 1) := by decide +kernel
theorem dX6_undo_63 : decode cX6_undo 63 = .ok (.iaload, 1) := by decide +kernel
theorem dX6_undo_64 : decode cX6_undo 64 = .ok (.iastore, 1) := by decide +kernel
theorem dX6_undo_65 : decode cX6_undo 65 = .ok (.iinc 1 1, 3) := by decide +kernel
theorem dX6_undo_68 : decode cX6_undo 68 = .ok (.goto (-31), 3) := by decide +kernel
theorem dX6_undo_71 : decode cX6_undo 71 = .ok (.aload_n 0, 1) := by decide +kernel
theorem dX6_undo_72 : decode cX6_undo 72 = .ok (.getfield 32, 3) := by decide +kernel
theorem dX6_undo_75 : decode cX6_undo 75 = .ok (.ireturn, 1) := by decide +kernel
theorem dX6_apart_0 : decode cX6_apart 0 = .ok (.iload_n 1, 1) := by decide +kernel
theorem dX6_apart_1 : decode cX6_apart 1 = .ok (.iload_n 0, 1) := by decide +kernel
theorem dX6_apart_2 : decode cX6_apart 2 = .ok (.isub, 1) := by decide +kernel
theorem dX6_apart_3 : decode cX6_apart 3 = .ok (.bipush 24, 2) := by decide +kernel
theorem dX6_apart_5 : decode cX6_apart 5 = .ok (.iadd, 1) := by decide +kernel
theorem dX6_apart_6 : decode cX6_apart 6 = .ok (.bipush 24, 2) := by decide +kernel
theorem dX6_apart_8 : decode cX6_apart 8 = .ok (.irem, 1) := by decide +kernel
theorem dX6_apart_9 : decode cX6_apart 9 = .ok (.istore_n 2, 1) := by decide +kernel
theorem dX6_apart_10 : decode cX6_apart 10 = .ok (.iload_n 2, 1) := by decide +kernel
theorem dX6_apart_11 : decode cX6_apart 11 = .ok (.bipush 24, 2) := by decide +kernel
theorem dX6_apart_13 : decode cX6_apart 13 = .ok (.iload_n 2, 1) := by decide +kernel
theorem dX6_apart_14 : decode cX6_apart 14 = .ok (.isub, 1) := by decide +kernel
theorem dX6_apart_15 : decode cX6_apart 15 = .ok (.if_icmp .le 10, 3) := by decide +kernel
theorem dX6_apart_18 : decode cX6_apart 18 = .ok (.bipush 24, 2) := by decide +kernel
theorem dX6_apart_20 : decode cX6_apart 20 = .ok (.iload_n 2, 1) := by decide +kernel
theorem dX6_apart_21 : decode cX6_apart 21 = .ok (.isub, 1) := by decide +kernel
theorem dX6_apart_22 : decode cX6_apart 22 = .ok (.goto 4, 3) := by decide +kernel
theorem dX6_apart_25 : decode cX6_apart 25 = .ok (.iload_n 2, 1) := by decide +kernel
theorem dX6_apart_26 : decode cX6_apart 26 = .ok (.ireturn, 1) := by decide +kernel
theorem dX6_axisNow_0 : decode cX6_axisNow 0 = .ok (.iload_n 2, 1) := by decide +kernel
theorem dX6_axisNow_1 : decode cX6_axisNow 1 = .ok (.tableswitch 59 9 11 #[27, 43, 51], 27) := by decide +kernel
theorem dX6_axisNow_28 : decode cX6_axisNow 28 = .ok (.aload_n 0, 1) := by decide +kernel
theorem dX6_axisNow_29 : decode cX6_axisNow 29 = .ok (.iload_n 1, 1) := by decide +kernel
theorem dX6_axisNow_30 : decode cX6_axisNow 30 = .ok (.iconst 0, 1) := by decide +kernel
theorem dX6_axisNow_31 : decode cX6_axisNow 31 = .ok (.invokevirtual 39, 3) := by decide +kernel
theorem dX6_axisNow_34 : decode cX6_axisNow 34 = .ok (.aload_n 0, 1) := by decide +kernel
theorem dX6_axisNow_35 : decode cX6_axisNow 35 = .ok (.iload_n 1, 1) := by decide +kernel
theorem dX6_axisNow_36 : decode cX6_axisNow 36 = .ok (.iconst 1, 1) := by decide +kernel
theorem dX6_axisNow_37 : decode cX6_axisNow 37 = .ok (.invokevirtual 39, 3) := by decide +kernel
theorem dX6_axisNow_40 : decode cX6_axisNow 40 = .ok (.invokestatic 161, 3) := by decide +kernel
theorem dX6_axisNow_43 : decode cX6_axisNow 43 = .ok (.ireturn, 1) := by decide +kernel
theorem dX6_axisNow_44 : decode cX6_axisNow 44 = .ok (.aload_n 0, 1) := by decide +kernel
theorem dX6_axisNow_45 : decode cX6_axisNow 45 = .ok (.iload_n 1, 1) := by decide +kernel
theorem dX6_axisNow_46 : decode cX6_axisNow 46 = .ok (.bipush 9, 2) := by decide +kernel
theorem dX6_axisNow_48 : decode cX6_axisNow 48 = .ok (.invokevirtual 39, 3) := by decide +kernel
theorem dX6_axisNow_51 : decode cX6_axisNow 51 = .ok (.ireturn, 1) := by decide +kernel
theorem dX6_axisNow_52 : decode cX6_axisNow 52 = .ok (.aload_n 0, 1) := by decide +kernel
theorem dX6_axisNow_53 : decode cX6_axisNow 53 = .ok (.iload_n 1, 1) := by decide +kernel
theorem dX6_axisNow_54 : decode cX6_axisNow 54 = .ok (.bipush 10, 2) := by decide +kernel
theorem dX6_axisNow_56 : decode cX6_axisNow 56 = .ok (.invokevirtual 39, 3) := by decide +kernel
theorem dX6_axisNow_59 : decode cX6_axisNow 59 = .ok (.ireturn, 1) := by decide +kernel
theorem dX6_axisNow_60 : decode cX6_axisNow 60 = .ok (.aload_n 0, 1) := by decide +kernel
theorem dX6_axisNow_61 : decode cX6_axisNow 61 = .ok (.iload_n 1, 1) := by decide +kernel
theorem dX6_axisNow_62 : decode cX6_axisNow 62 = .ok (.iload_n 2, 1) := by decide +kernel
theorem dX6_axisNow_63 : decode cX6_axisNow 63 = .ok (.invokevirtual 39, 3) := by decide +kernel
theorem dX6_axisNow_66 : decode cX6_axisNow 66 = .ok (.ireturn, 1) := by decide +kernel
theorem dX6_axis_0 : decode cX6_axis 0 = .ok (.aload_n 0, 1) := by decide +kernel
theorem dX6_axis_1 : decode cX6_axis 1 = .ok (.iload_n 1, 1) := by decide +kernel
theorem dX6_axis_2 : decode cX6_axis 2 = .ok (.invokestatic 74, 3) := by decide +kernel
theorem dX6_axis_5 : decode cX6_axis 5 = .ok (.ifCond .ne 7, 3) := by decide +kernel
theorem dX6_axis_8 : decode cX6_axis 8 = .ok (.iconst 1, 1) := by decide +kernel
theorem dX6_axis_9 : decode cX6_axis 9 = .ok (.goto 18, 3) := by decide +kernel
theorem dX6_axis_12 : decode cX6_axis 12 = .ok (.iload_n 2, 1) := by decide +kernel
theorem dX6_axis_13 : decode cX6_axis 13 = .ok (.iconst 0, 1) := by decide +kernel
theorem dX6_axis_14 : decode cX6_axis 14 = .ok (.bipush 11, 2) := by decide +kernel
theorem dX6_axis_16 : decode cX6_axis 16 = .ok (.invokestatic 35, 3) := by decide +kernel
theorem dX6_axis_19 : decode cX6_axis 19 = .ok (.ifCond .eq 7, 3) := by decide +kernel
theorem dX6_axis_22 : decode cX6_axis 22 = .ok (.iconst 0, 1) := by decide +kernel
theorem dX6_axis_23 : decode cX6_axis 23 = .ok (.goto 4, 3) := by decide +kernel
theorem dX6_axis_26 : decode cX6_axis 26 = .ok (.iconst 2, 1) := by decide +kernel
theorem dX6_axis_27 : decode cX6_axis 27 = .ok (.putfield 29, 3) := by decide +kernel
theorem dX6_axis_30 : decode cX6_axis 30 = .ok (.aload_n 0, 1) := by decide +kernel
theorem dX6_axis_31 : decode cX6_axis 31 = .ok (.getfield 29, 3) := by decide +kernel
theorem dX6_axis_34 : decode cX6_axis 34 = .ok (.ifCond .le 7, 3) := by decide +kernel
theorem dX6_axis_37 : decode cX6_axis 37 = .ok (.iconst 0, 1) := by decide +kernel
theorem dX6_axis_38 : decode cX6_axis 38 = .ok (.goto 9, 3) := by decide +kernel
theorem dX6_axis_41 : decode cX6_axis 41 = .ok (.aload_n 0, 1) := by decide +kernel
theorem dX6_axis_42 : decode cX6_axis 42 = .ok (.iload_n 1, 1) := by decide +kernel
theorem dX6_axis_43 : decode cX6_axis 43 = .ok (.iload_n 2, 1) := by decide +kernel
theorem dX6_axis_44 : decode cX6_axis 44 = .ok (.invokevirtual 164, 3) := by decide +kernel
theorem dX6_axis_47 : decode cX6_axis 47 = .ok (.ireturn, 1) := by decide +kernel
theorem dX6_wear_0 : decode cX6_wear 0 = .ok (.aload_n 0, 1) := by decide +kernel
theorem dX6_wear_1 : decode cX6_wear 1 = .ok (.iload_n 1, 1) := by decide +kernel
theorem dX6_wear_2 : decode cX6_wear 2 = .ok (.invokestatic 74, 3) := by decide +kernel
theorem dX6_wear_5 : decode cX6_wear 5 = .ok (.ifCond .eq 14, 3) := by decide +kernel
theorem dX6_wear_8 : decode cX6_wear 8 = .ok (.iload_n 2, 1) := by decide +kernel
theorem dX6_wear_9 : decode cX6_wear 9 = .ok (.invokestatic 103, 3) := by decide +kernel
theorem dX6_wear_12 : decode cX6_wear 12 = .ok (.ifCond .eq 7, 3) := by decide +kernel
theorem dX6_wear_15 : decode cX6_wear 15 = .ok (.iconst 0, 1) := by decide +kernel
theorem dX6_wear_16 : decode cX6_wear 16 = .ok (.goto 4, 3) := by decide +kernel
theorem dX6_wear_19 : decode cX6_wear 19 = .ok (.iconst 1, 1) := by decide +kernel
theorem dX6_wear_20 : decode cX6_wear 20 = .ok (.putfield 29, 3) := by decide +kernel
theorem dX6_wear_23 : decode cX6_wear 23 = .ok (.aload_n 0, 1) := by decide +kernel
theorem dX6_wear_24 : decode cX6_wear 24 = .ok (.getfield 29, 3) := by decide +kernel
theorem dX6_wear_27 : decode cX6_wear 27 = .ok (.ifCond .le 7, 3) := by decide +kernel
theorem dX6_wear_30 : decode cX6_wear 30 = .ok (.iconst 0, 1) := by decide +kernel
theorem dX6_wear_31 : decode cX6_wear 31 = .ok (.goto 12, 3) := by decide +kernel
theorem dX6_wear_34 : decode cX6_wear 34 = .ok (.aload_n 0, 1) := by decide +kernel
theorem dX6_wear_35 : decode cX6_wear 35 = .ok (.iload_n 1, 1) := by decide +kernel
theorem dX6_wear_36 : decode cX6_wear 36 = .ok (.bipush 11, 2) := by decide +kernel
theorem dX6_wear_38 : decode cX6_wear 38 = .ok (.iload_n 2, 1) := by decide +kernel
theorem dX6_wear_39 : decode cX6_wear 39 = .ok (.iadd, 1) := by decide +kernel
theorem dX6_wear_40 : decode cX6_wear 40 = .ok (.invokevirtual 39, 3) := by decide +kernel
theorem dX6_wear_43 : decode cX6_wear 43 = .ok (.ireturn, 1) := by decide +kernel
theorem dX6_sumOf_0 : decode cX6_sumOf 0 = .ok (.iconst 0, 1) := by decide +kernel
theorem dX6_sumOf_1 : decode cX6_sumOf 1 = .ok (.istore_n 2, 1) := by decide +kernel
theorem dX6_sumOf_2 : decode cX6_sumOf 2 = .ok (.iconst 0, 1) := by decide +kernel
theorem dX6_sumOf_3 : decode cX6_sumOf 3 = .ok (.istore_n 3, 1) := by decide +kernel
theorem dX6_sumOf_4 : decode cX6_sumOf 4 = .ok (.iload_n 3, 1) := by decide +kernel
theorem dX6_sumOf_5 : decode cX6_sumOf 5 = .ok (.iconst 4, 1) := by decide +kernel
theorem dX6_sumOf_6 : decode cX6_sumOf 6 = .ok (.if_icmp .ge 18, 3) := by decide +kernel
theorem dX6_sumOf_9 : decode cX6_sumOf 9 = .ok (.iload_n 2, 1) := by decide +kernel
theorem dX6_sumOf_10 : decode cX6_sumOf 10 = .ok (.aload_n 0, 1) := by decide +kernel
theorem dX6_sumOf_11 : decode cX6_sumOf 11 = .ok (.iload_n 3, 1) := by decide +kernel
theorem dX6_sumOf_12 : decode cX6_sumOf 12 = .ok (.iload_n 1, 1) := by decide +kernel
theorem dX6_sumOf_13 : decode cX6_sumOf 13 = .ok (.invokevirtual 39, 3) := by decide +kernel
theorem dX6_sumOf_16 : decode cX6_sumOf 16 = .ok (.iadd, 1) := by decide +kernel
theorem dX6_sumOf_17 : decode cX6_sumOf 17 = .ok (.istore_n 2, 1) := by decide +kernel
theorem dX6_sumOf_18 : decode cX6_sumOf 18 = .ok (.iinc 3 1, 3) := by decide +kernel
theorem dX6_sumOf_21 : decode cX6_sumOf 21 = .ok (.goto (-17), 3) := by decide +kernel
theorem dX6_sumOf_24 : decode cX6_sumOf 24 = .ok (.iload_n 2, 1) := by decide +kernel
theorem dX6_sumOf_25 : decode cX6_sumOf 25 = .ok (.ireturn, 1) := by decide +kernel
theorem dX6_wearOf_0 : decode cX6_wearOf 0 = .ok (.iconst 0, 1) := by decide +kernel
theorem dX6_wearOf_1 : decode cX6_wearOf 1 = .ok (.istore_n 2, 1) := by decide +kernel
theorem dX6_wearOf_2 : decode cX6_wearOf 2 = .ok (.iconst 0, 1) := by decide +kernel
theorem dX6_wearOf_3 : decode cX6_wearOf 3 = .ok (.istore_n 3, 1) := by decide +kernel
theorem dX6_wearOf_4 : decode cX6_wearOf 4 = .ok (.iload_n 3, 1) := by decide +kernel
theorem dX6_wearOf_5 : decode cX6_wearOf 5 = .ok (.bipush 96, 2) := by decide +kernel
theorem dX6_wearOf_7 : decode cX6_wearOf 7 = .ok (.if_icmp .ge 54, 3) := by decide +kernel
theorem dX6_wearOf_10 : decode cX6_wearOf 10 = .ok (.aload_n 0, 1) := by decide +kernel
theorem dX6_wearOf_11 : decode cX6_wearOf 11 = .ok (.iload_n 3, 1) := by decide +kernel
theorem dX6_wearOf_12 : decode cX6_wearOf 12 = .ok (.bipush 24, 2) := by decide +kernel
theorem dX6_wearOf_14 : decode cX6_wearOf 14 = .ok (.idiv, 1) := by decide +kernel
theorem dX6_wearOf_15 : decode cX6_wearOf 15 = .ok (.bipush 11, 2) := by decide +kernel
theorem dX6_wearOf_17 : decode cX6_wearOf 17 = .ok (.iload_n 3, 1) := by decide +kernel
theorem dX6_wearOf_18 : decode cX6_wearOf 18 = .ok (.bipush 24, 2) := by decide +kernel
theorem dX6_wearOf_20 : decode cX6_wearOf 20 = .ok (.irem, 1) := by decide +kernel
theorem dX6_wearOf_21 : decode cX6_wearOf 21 = .ok (.iadd, 1) := by decide +kernel
theorem dX6_wearOf_22 : decode cX6_wearOf 22 = .ok (.invokevirtual 39, 3) := by decide +kernel
theorem dX6_wearOf_25 : decode cX6_wearOf 25 = .ok (.istore 4, 2) := by decide +kernel
theorem dX6_wearOf_27 : decode cX6_wearOf 27 = .ok (.iload_n 2, 1) := by decide +kernel
theorem dX6_wearOf_28 : decode cX6_wearOf 28 = .ok (.iload_n 1, 1) := by decide +kernel
theorem dX6_wearOf_29 : decode cX6_wearOf 29 = .ok (.ifCond .ne 8, 3) := by decide +kernel
theorem dX6_wearOf_32 : decode cX6_wearOf 32 = .ok (.iload 4, 2) := by decide +kernel
theorem dX6_wearOf_34 : decode cX6_wearOf 34 = .ok (.goto 19, 3) := by decide +kernel
theorem dX6_wearOf_37 : decode cX6_wearOf 37 = .ok (.iload 4, 2) := by decide +kernel
theorem dX6_wearOf_39 : decode cX6_wearOf 39 = .ok (.aload_n 0, 1) := by decide +kernel
theorem dX6_wearOf_40 : decode cX6_wearOf 40 = .ok (.getfield 7, 3) := by decide +kernel
theorem dX6_wearOf_43 : decode cX6_wearOf 43 = .ok (.iconst 2, 1) := by decide +kernel
theorem dX6_wearOf_44 : decode cX6_wearOf 44 = .ok (.iaload, 1) := by decide +kernel
theorem dX6_wearOf_45 : decode cX6_wearOf 45 = .ok (.if_icmp .lt 7, 3) := by decide +kernel
theorem dX6_wearOf_48 : decode cX6_wearOf 48 = .ok (.iconst 1, 1) := by decide +kernel
theorem dX6_wearOf_49 : decode cX6_wearOf 49 = .ok (.goto 4, 3) := by decide +kernel
theorem dX6_wearOf_52 : decode cX6_wearOf 52 = .ok (.iconst 0, 1) := by decide +kernel
theorem dX6_wearOf_53 : decode cX6_wearOf 53 = .ok (.iadd, 1) := by decide +kernel
theorem dX6_wearOf_54 : decode cX6_wearOf 54 = .ok (.istore_n 2, 1) := by decide +kernel
theorem dX6_wearOf_55 : decode cX6_wearOf 55 = .ok (.iinc 3 1, 3) := by decide +kernel
theorem dX6_wearOf_58 : decode cX6_wearOf 58 = .ok (.goto (-54), 3) := by decide +kernel
theorem dX6_wearOf_61 : decode cX6_wearOf 61 = .ok (.iload_n 2, 1) := by decide +kernel
theorem dX6_wearOf_62 : decode cX6_wearOf 62 = .ok (.ireturn, 1) := by decide +kernel
theorem dX6_rightAxes_0 : decode cX6_rightAxes 0 = .ok (.iconst 0, 1) := by decide +kernel
theorem dX6_rightAxes_1 : decode cX6_rightAxes 1 = .ok (.istore_n 1, 1) := by decide +kernel
theorem dX6_rightAxes_2 : decode cX6_rightAxes 2 = .ok (.iconst 0, 1) := by decide +kernel
theorem dX6_rightAxes_3 : decode cX6_rightAxes 3 = .ok (.istore_n 2, 1) := by decide +kernel
theorem dX6_rightAxes_4 : decode cX6_rightAxes 4 = .ok (.iload_n 2, 1) := by decide +kernel
theorem dX6_rightAxes_5 : decode cX6_rightAxes 5 = .ok (.iconst 4, 1) := by decide +kernel
theorem dX6_rightAxes_6 : decode cX6_rightAxes 6 = .ok (.if_icmp .ge 32, 3) := by decide +kernel
theorem dX6_rightAxes_9 : decode cX6_rightAxes 9 = .ok (.iload_n 1, 1) := by decide +kernel
theorem dX6_rightAxes_10 : decode cX6_rightAxes 10 = .ok (.aload_n 0, 1) := by decide +kernel
theorem dX6_rightAxes_11 : decode cX6_rightAxes 11 = .ok (.iload_n 2, 1) := by decide +kernel
theorem dX6_rightAxes_12 : decode cX6_rightAxes 12 = .ok (.iconst 0, 1) := by decide +kernel
theorem dX6_rightAxes_13 : decode cX6_rightAxes 13 = .ok (.invokevirtual 39, 3) := by decide +kernel
theorem dX6_rightAxes_16 : decode cX6_rightAxes 16 = .ok (.aload_n 0, 1) := by decide +kernel
theorem dX6_rightAxes_17 : decode cX6_rightAxes 17 = .ok (.iload_n 2, 1) := by decide +kernel
theorem dX6_rightAxes_18 : decode cX6_rightAxes 18 = .ok (.iconst 1, 1) := by decide +kernel
theorem dX6_rightAxes_19 : decode cX6_rightAxes 19 = .ok (.invokevirtual 39, 3) := by decide +kernel
theorem dX6_rightAxes_22 : decode cX6_rightAxes 22 = .ok (.if_icmp .ne 7, 3) := by decide +kernel
theorem dX6_rightAxes_25 : decode cX6_rightAxes 25 = .ok (.iconst 1, 1) := by decide +kernel
theorem dX6_rightAxes_26 : decode cX6_rightAxes 26 = .ok (.goto 4, 3) := by decide +kernel
theorem dX6_rightAxes_29 : decode cX6_rightAxes 29 = .ok (.iconst 0, 1) := by decide +kernel
theorem dX6_rightAxes_30 : decode cX6_rightAxes 30 = .ok (.iadd, 1) := by decide +kernel
theorem dX6_rightAxes_31 : decode cX6_rightAxes 31 = .ok (.istore_n 1, 1) := by decide +kernel
theorem dX6_rightAxes_32 : decode cX6_rightAxes 32 = .ok (.iinc 2 1, 3) := by decide +kernel
theorem dX6_rightAxes_35 : decode cX6_rightAxes 35 = .ok (.goto (-31), 3) := by decide +kernel
theorem dX6_rightAxes_38 : decode cX6_rightAxes 38 = .ok (.iload_n 1, 1) := by decide +kernel
theorem dX6_rightAxes_39 : decode cX6_rightAxes 39 = .ok (.ireturn, 1) := by decide +kernel
theorem dX6_counted_0 : decode cX6_counted 0 = .ok (.iload_n 1, 1) := by decide +kernel
theorem dX6_counted_1 : decode cX6_counted 1 = .ok (.tableswitch 101 0 7 #[47, 55, 62, 69, 76, 84, 90, 96], 47) := by decide +kernel
theorem dX6_counted_48 : decode cX6_counted 48 = .ok (.aload_n 0, 1) := by decide +kernel
theorem dX6_counted_49 : decode cX6_counted 49 = .ok (.getfield 7, 3) := by decide +kernel
theorem dX6_counted_52 : decode cX6_counted 52 = .ok (.bipush 6, 2) := by decide +kernel
theorem dX6_counted_54 : decode cX6_counted 54 = .ok (.iaload, 1) := by decide +kernel
theorem dX6_counted_55 : decode cX6_counted 55 = .ok (.ireturn, 1) := by decide +kernel
theorem dX6_counted_56 : decode cX6_counted 56 = .ok (.aload_n 0, 1) := by decide +kernel
theorem dX6_counted_57 : decode cX6_counted 57 = .ok (.bipush 6, 2) := by decide +kernel
theorem dX6_counted_59 : decode cX6_counted 59 = .ok (.invokevirtual 167, 3) := by decide +kernel
theorem dX6_counted_62 : decode cX6_counted 62 = .ok (.ireturn, 1) := by decide +kernel
theorem dX6_counted_63 : decode cX6_counted 63 = .ok (.aload_n 0, 1) := by decide +kernel
theorem dX6_counted_64 : decode cX6_counted 64 = .ok (.bipush 8, 2) := by decide +kernel
theorem dX6_counted_66 : decode cX6_counted 66 = .ok (.invokevirtual 167, 3) := by decide +kernel
theorem dX6_counted_69 : decode cX6_counted 69 = .ok (.ireturn, 1) := by decide +kernel
theorem dX6_counted_70 : decode cX6_counted 70 = .ok (.aload_n 0, 1) := by decide +kernel
theorem dX6_counted_71 : decode cX6_counted 71 = .ok (.bipush 7, 2) := by decide +kernel
theorem dX6_counted_73 : decode cX6_counted 73 = .ok (.invokevirtual 167, 3) := by decide +kernel
theorem dX6_counted_76 : decode cX6_counted 76 = .ok (.ireturn, 1) := by decide +kernel
theorem dX6_counted_77 : decode cX6_counted 77 = .ok (.aload_n 0, 1) := by decide +kernel
theorem dX6_counted_78 : decode cX6_counted 78 = .ok (.getfield 7, 3) := by decide +kernel
theorem dX6_counted_81 : decode cX6_counted 81 = .ok (.bipush 7, 2) := by decide +kernel
theorem dX6_counted_83 : decode cX6_counted 83 = .ok (.iaload, 1) := by decide +kernel
theorem dX6_counted_84 : decode cX6_counted 84 = .ok (.ireturn, 1) := by decide +kernel
theorem dX6_counted_85 : decode cX6_counted 85 = .ok (.aload_n 0, 1) := by decide +kernel
theorem dX6_counted_86 : decode cX6_counted 86 = .ok (.iconst 0, 1) := by decide +kernel
theorem dX6_counted_87 : decode cX6_counted 87 = .ok (.invokevirtual 170, 3) := by decide +kernel
theorem dX6_counted_90 : decode cX6_counted 90 = .ok (.ireturn, 1) := by decide +kernel
theorem dX6_counted_91 : decode cX6_counted 91 = .ok (.aload_n 0, 1) := by decide +kernel
theorem dX6_counted_92 : decode cX6_counted 92 = .ok (.iconst 1, 1) := by decide +kernel
theorem dX6_counted_93 : decode cX6_counted 93 = .ok (.invokevirtual 170, 3) := by decide +kernel
theorem dX6_counted_96 : decode cX6_counted 96 = .ok (.ireturn, 1) := by decide +kernel
theorem dX6_counted_97 : decode cX6_counted 97 = .ok (.aload_n 0, 1) := by decide +kernel
theorem dX6_counted_98 : decode cX6_counted 98 = .ok (.invokevirtual 174, 3) := by decide +kernel
theorem dX6_counted_101 : decode cX6_counted 101 = .ok (.ireturn, 1) := by decide +kernel
theorem dX6_counted_102 : decode cX6_counted 102 = .ok (.aload_n 0, 1) := by decide +kernel
theorem dX6_counted_103 : decode cX6_counted 103 = .ok (.getfield 32, 3) := by decide +kernel
theorem dX6_counted_106 : decode cX6_counted 106 = .ok (.ireturn, 1) := by decide +kernel
theorem dX6_count_0 : decode cX6_count 0 = .ok (.aload_n 0, 1) := by decide +kernel
theorem dX6_count_1 : decode cX6_count 1 = .ok (.iload_n 1, 1) := by decide +kernel
theorem dX6_count_2 : decode cX6_count 2 = .ok (.iconst 0, 1) := by decide +kernel
theorem dX6_count_3 : decode cX6_count 3 = .ok (.bipush 8, 2) := by decide +kernel
theorem dX6_count_5 : decode cX6_count 5 = .ok (.invokestatic 35, 3) := by decide +kernel
theorem dX6_count_8 : decode cX6_count 8 = .ok (.ifCond .eq 7, 3) := by decide +kernel
theorem dX6_count_11 : decode cX6_count 11 = .ok (.iconst 0, 1) := by decide +kernel
theorem dX6_count_12 : decode cX6_count 12 = .ok (.goto 4, 3) := by decide +kernel
theorem dX6_count_15 : decode cX6_count 15 = .ok (.iconst 1, 1) := by decide +kernel
theorem dX6_count_16 : decode cX6_count 16 = .ok (.putfield 29, 3) := by decide +kernel
theorem dX6_count_19 : decode cX6_count 19 = .ok (.aload_n 0, 1) := by decide +kernel
theorem dX6_count_20 : decode cX6_count 20 = .ok (.getfield 29, 3) := by decide +kernel
theorem dX6_count_23 : decode cX6_count 23 = .ok (.ifCond .le 7, 3) := by decide +kernel
theorem dX6_count_26 : decode cX6_count 26 = .ok (.iconst 0, 1) := by decide +kernel
theorem dX6_count_27 : decode cX6_count 27 = .ok (.goto 8, 3) := by decide +kernel
theorem dX6_count_30 : decode cX6_count 30 = .ok (.aload_n 0, 1) := by decide +kernel
theorem dX6_count_31 : decode cX6_count 31 = .ok (.iload_n 1, 1) := by decide +kernel
theorem dX6_count_32 : decode cX6_count 32 = .ok (.invokevirtual 177, 3) := by decide +kernel
theorem dX6_count_35 : decode cX6_count 35 = .ok (.ireturn, 1) := by decide +kernel
theorem dX6_setting_0 : decode cX6_setting 0 = .ok (.aload_n 0, 1) := by decide +kernel
theorem dX6_setting_1 : decode cX6_setting 1 = .ok (.iload_n 1, 1) := by decide +kernel
theorem dX6_setting_2 : decode cX6_setting 2 = .ok (.invokestatic 78, 3) := by decide +kernel
theorem dX6_setting_5 : decode cX6_setting 5 = .ok (.ifCond .eq 7, 3) := by decide +kernel
theorem dX6_setting_8 : decode cX6_setting 8 = .ok (.iconst 0, 1) := by decide +kernel
theorem dX6_setting_9 : decode cX6_setting 9 = .ok (.goto 4, 3) := by decide +kernel
theorem dX6_setting_12 : decode cX6_setting 12 = .ok (.iconst 1, 1) := by decide +kernel
theorem dX6_setting_13 : decode cX6_setting 13 = .ok (.putfield 29, 3) := by decide +kernel
theorem dX6_setting_16 : decode cX6_setting 16 = .ok (.aload_n 0, 1) := by decide +kernel
theorem dX6_setting_17 : decode cX6_setting 17 = .ok (.getfield 29, 3) := by decide +kernel
theorem dX6_setting_20 : decode cX6_setting 20 = .ok (.ifCond .le 7, 3) := by decide +kernel
theorem dX6_setting_23 : decode cX6_setting 23 = .ok (.iconst 0, 1) := by decide +kernel
theorem dX6_setting_24 : decode cX6_setting 24 = .ok (.goto 11, 3) := by decide +kernel
theorem dX6_setting_27 : decode cX6_setting 27 = .ok (.aload_n 0, 1) := by decide +kernel
theorem dX6_setting_28 : decode cX6_setting 28 = .ok (.getfield 7, 3) := by decide +kernel
theorem dX6_setting_31 : decode cX6_setting 31 = .ok (.iconst 0, 1) := by decide +kernel
theorem dX6_setting_32 : decode cX6_setting 32 = .ok (.iload_n 1, 1) := by decide +kernel
theorem dX6_setting_33 : decode cX6_setting 33 = .ok (.iadd, 1) := by decide +kernel
theorem dX6_setting_34 : decode cX6_setting 34 = .ok (.iaload, 1) := by decide +kernel
theorem dX6_setting_35 : decode cX6_setting 35 = .ok (.ireturn, 1) := by decide +kernel
theorem dX6_toll_0 : decode cX6_toll 0 = .ok (.aload_n 0, 1) := by decide +kernel
theorem dX6_toll_1 : decode cX6_toll 1 = .ok (.iload_n 1, 1) := by decide +kernel
theorem dX6_toll_2 : decode cX6_toll 2 = .ok (.invokestatic 74, 3) := by decide +kernel
theorem dX6_toll_5 : decode cX6_toll 5 = .ok (.ifCond .eq 7, 3) := by decide +kernel
theorem dX6_toll_8 : decode cX6_toll 8 = .ok (.iconst 0, 1) := by decide +kernel
theorem dX6_toll_9 : decode cX6_toll 9 = .ok (.goto 4, 3) := by decide +kernel
theorem dX6_toll_12 : decode cX6_toll 12 = .ok (.iconst 1, 1) := by decide +kernel
theorem dX6_toll_13 : decode cX6_toll 13 = .ok (.putfield 29, 3) := by decide +kernel
theorem dX6_toll_16 : decode cX6_toll 16 = .ok (.aload_n 0, 1) := by decide +kernel
theorem dX6_toll_17 : decode cX6_toll 17 = .ok (.getfield 29, 3) := by decide +kernel
theorem dX6_toll_20 : decode cX6_toll 20 = .ok (.ifCond .le 7, 3) := by decide +kernel
theorem dX6_toll_23 : decode cX6_toll 23 = .ok (.iconst 0, 1) := by decide +kernel
theorem dX6_toll_24 : decode cX6_toll 24 = .ok (.goto 9, 3) := by decide +kernel
theorem dX6_toll_27 : decode cX6_toll 27 = .ok (.aload_n 0, 1) := by decide +kernel
theorem dX6_toll_28 : decode cX6_toll 28 = .ok (.iload_n 1, 1) := by decide +kernel
theorem dX6_toll_29 : decode cX6_toll 29 = .ok (.iload_n 2, 1) := by decide +kernel
theorem dX6_toll_30 : decode cX6_toll 30 = .ok (.invokevirtual 54, 3) := by decide +kernel
theorem dX6_toll_33 : decode cX6_toll 33 = .ok (.ireturn, 1) := by decide +kernel
theorem dX6_slips_0 : decode cX6_slips 0 = .ok (.aload_n 0, 1) := by decide +kernel
theorem dX6_slips_1 : decode cX6_slips 1 = .ok (.iload_n 1, 1) := by decide +kernel
theorem dX6_slips_2 : decode cX6_slips 2 = .ok (.invokestatic 74, 3) := by decide +kernel
theorem dX6_slips_5 : decode cX6_slips 5 = .ok (.ifCond .eq 7, 3) := by decide +kernel
theorem dX6_slips_8 : decode cX6_slips 8 = .ok (.iconst 0, 1) := by decide +kernel
theorem dX6_slips_9 : decode cX6_slips 9 = .ok (.goto 4, 3) := by decide +kernel
theorem dX6_slips_12 : decode cX6_slips 12 = .ok (.iconst 1, 1) := by decide +kernel
theorem dX6_slips_13 : decode cX6_slips 13 = .ok (.putfield 29, 3) := by decide +kernel
theorem dX6_slips_16 : decode cX6_slips 16 = .ok (.aload_n 0, 1) := by decide +kernel
theorem dX6_slips_17 : decode cX6_slips 17 = .ok (.getfield 29, 3) := by decide +kernel
theorem dX6_slips_20 : decode cX6_slips 20 = .ok (.ifCond .le 7, 3) := by decide +kernel
theorem dX6_slips_23 : decode cX6_slips 23 = .ok (.iconst 0, 1) := by decide +kernel
theorem dX6_slips_24 : decode cX6_slips 24 = .ok (.goto 9, 3) := by decide +kernel
theorem dX6_slips_27 : decode cX6_slips 27 = .ok (.aload_n 0, 1) := by decide +kernel
theorem dX6_slips_28 : decode cX6_slips 28 = .ok (.iload_n 1, 1) := by decide +kernel
theorem dX6_slips_29 : decode cX6_slips 29 = .ok (.iload_n 2, 1) := by decide +kernel
theorem dX6_slips_30 : decode cX6_slips 30 = .ok (.invokevirtual 57, 3) := by decide +kernel
theorem dX6_slips_33 : decode cX6_slips 33 = .ok (.ireturn, 1) := by decide +kernel
theorem dX6_cost_0 : decode cX6_cost 0 = .ok (.aload_n 0, 1) := by decide +kernel
theorem dX6_cost_1 : decode cX6_cost 1 = .ok (.iload_n 1, 1) := by decide +kernel
theorem dX6_cost_2 : decode cX6_cost 2 = .ok (.invokestatic 74, 3) := by decide +kernel
theorem dX6_cost_5 : decode cX6_cost 5 = .ok (.ifCond .ne 7, 3) := by decide +kernel
theorem dX6_cost_8 : decode cX6_cost 8 = .ok (.iconst 1, 1) := by decide +kernel
theorem dX6_cost_9 : decode cX6_cost 9 = .ok (.goto 15, 3) := by decide +kernel
theorem dX6_cost_12 : decode cX6_cost 12 = .ok (.iload_n 2, 1) := by decide +kernel
theorem dX6_cost_13 : decode cX6_cost 13 = .ok (.invokestatic 103, 3) := by decide +kernel
theorem dX6_cost_16 : decode cX6_cost 16 = .ok (.ifCond .eq 7, 3) := by decide +kernel
theorem dX6_cost_19 : decode cX6_cost 19 = .ok (.iconst 0, 1) := by decide +kernel
theorem dX6_cost_20 : decode cX6_cost 20 = .ok (.goto 4, 3) := by decide +kernel
theorem dX6_cost_23 : decode cX6_cost 23 = .ok (.iconst 2, 1) := by decide +kernel
theorem dX6_cost_24 : decode cX6_cost 24 = .ok (.putfield 29, 3) := by decide +kernel
theorem dX6_cost_27 : decode cX6_cost 27 = .ok (.aload_n 0, 1) := by decide +kernel
theorem dX6_cost_28 : decode cX6_cost 28 = .ok (.getfield 29, 3) := by decide +kernel
theorem dX6_cost_31 : decode cX6_cost 31 = .ok (.ifCond .le 7, 3) := by decide +kernel
theorem dX6_cost_34 : decode cX6_cost 34 = .ok (.iconst 0, 1) := by decide +kernel
theorem dX6_cost_35 : decode cX6_cost 35 = .ok (.goto 10, 3) := by decide +kernel
theorem dX6_cost_38 : decode cX6_cost 38 = .ok (.aload_n 0, 1) := by decide +kernel
theorem dX6_cost_39 : decode cX6_cost 39 = .ok (.iload_n 1, 1) := by decide +kernel
theorem dX6_cost_40 : decode cX6_cost 40 = .ok (.iload_n 2, 1) := by decide +kernel
theorem dX6_cost_41 : decode cX6_cost 41 = .ok (.iload_n 3, 1) := by decide +kernel
theorem dX6_cost_42 : decode cX6_cost 42 = .ok (.invokevirtual 96, 3) := by decide +kernel
theorem dX6_cost_45 : decode cX6_cost 45 = .ok (.ireturn, 1) := by decide +kernel
theorem dX6_keep_0 : decode cX6_keep 0 = .ok (.iconst 0, 1) := by decide +kernel
theorem dX6_keep_1 : decode cX6_keep 1 = .ok (.istore_n 1, 1) := by decide +kernel
theorem dX6_keep_2 : decode cX6_keep 2 = .ok (.iload_n 1, 1) := by decide +kernel
theorem dX6_keep_3 : decode cX6_keep 3 = .ok (.sipush 148, 3) := by decide +kernel
theorem dX6_keep_6 : decode cX6_keep 6 = .ok (.if_icmp .ge 21, 3) := by decide +kernel
theorem dX6_keep_9 : decode cX6_keep 9 = .ok (.aload_n 0, 1) := by decide +kernel
theorem dX6_keep_10 : decode cX6_keep 10 = .ok (.getfield 26, 3) := by decide +kernel
theorem dX6_keep_13 : decode cX6_keep 13 = .ok (.iload_n 1, 1) := by decide +kernel
theorem dX6_keep_14 : decode cX6_keep 14 = .ok (.aload_n 0, 1) := by decide +kernel
theorem dX6_keep_15 : decode cX6_keep 15 = .ok (.getfield 7, 3) := by decide +kernel
theorem dX6_keep_18 : decode cX6_keep 18 = .ok (.iload_n 1, 1) := by decide +kernel
theorem dX6_keep_19 : decode cX6_keep 19 = .ok (.iaload, 1) := by decide +kernel
theorem dX6_keep_20 : decode cX6_keep 20 = .ok (.iastore, 1) := by decide +kernel
theorem dX6_keep_21 : decode cX6_keep 21 = .ok (.iinc 1 1, 3) := by decide +kernel
theorem dX6_keep_24 : decode cX6_keep 24 = .ok (.goto (-22), 3) := by decide +kernel
theorem dX6_keep_27 : decode cX6_keep 27 = .ok (.return_, 1) := by decide +kernel
theorem dX6_layBack_0 : decode cX6_layBack 0 = .ok (.iconst 0, 1) := by decide +kernel
theorem dX6_layBack_1 : decode cX6_layBack 1 = .ok (.istore_n 1, 1) := by decide +kernel
theorem dX6_layBack_2 : decode cX6_layBack 2 = .ok (.iload_n 1, 1) := by decide +kernel
theorem dX6_layBack_3 : decode cX6_layBack 3 = .ok (.sipush 148, 3) := by decide +kernel
theorem dX6_layBack_6 : decode cX6_layBack 6 = .ok (.if_icmp .ge 21, 3) := by decide +kernel
theorem dX6_layBack_9 : decode cX6_layBack 9 = .ok (.aload_n 0, 1) := by decide +kernel
theorem dX6_layBack_10 : decode cX6_layBack 10 = .ok (.getfield 7, 3) := by decide +kernel
theorem dX6_layBack_13 : decode cX6_layBack 13 = .ok (.iload_n 1, 1) := by decide +kernel
theorem dX6_layBack_14 : decode cX6_layBack 14 = .ok (.aload_n 0, 1) := by decide +kernel
theorem dX6_layBack_15 : decode cX6_layBack 15 = .ok (.getfield 26, 3) := by decide +kernel
theorem dX6_layBack_18 : decode cX6_layBack 18 = .ok (.iload_n 1, 1) := by decide +kernel
theorem dX6_layBack_19 : decode cX6_layBack 19 = .ok (.iaload, 1) := by decide +kernel
theorem dX6_layBack_20 : decode cX6_layBack 20 = .ok (.iastore, 1) := by decide +kernel
theorem dX6_layBack_21 : decode cX6_layBack 21 = .ok (.iinc 1 1, 3) := by decide +kernel
theorem dX6_layBack_24 : decode cX6_layBack 24 = .ok (.goto (-22), 3) := by decide +kernel
theorem dX6_layBack_27 : decode cX6_layBack 27 = .ok (.return_, 1) := by decide +kernel
theorem dX6_homedThen_0 : decode cX6_homedThen 0 = .ok (.aload_n 0, 1) := by decide +kernel
theorem dX6_homedThen_1 : decode cX6_homedThen 1 = .ok (.invokevirtual 180, 3) := by decide +kernel
theorem dX6_homedThen_4 : decode cX6_homedThen 4 = .ok (.aload_n 0, 1) := by decide +kernel
theorem dX6_homedThen_5 : decode cX6_homedThen 5 = .ok (.iload_n 1, 1) := by decide +kernel
theorem dX6_homedThen_6 : decode cX6_homedThen 6 = .ok (.bipush 6, 2) := by decide +kernel
theorem dX6_homedThen_8 : decode cX6_homedThen 8 = .ok (.invokevirtual 39, 3) := by decide +kernel
theorem dX6_homedThen_11 : decode cX6_homedThen 11 = .ok (.istore_n 3, 1) := by decide +kernel
theorem dX6_homedThen_12 : decode cX6_homedThen 12 = .ok (.aload_n 0, 1) := by decide +kernel
theorem dX6_homedThen_13 : decode cX6_homedThen 13 = .ok (.iload_n 1, 1) := by decide +kernel
theorem dX6_homedThen_14 : decode cX6_homedThen 14 = .ok (.bipush 8, 2) := by decide +kernel
theorem dX6_homedThen_16 : decode cX6_homedThen 16 = .ok (.invokevirtual 39, 3) := by decide +kernel
theorem dX6_homedThen_19 : decode cX6_homedThen 19 = .ok (.istore 4, 2) := by decide +kernel
theorem dX6_homedThen_21 : decode cX6_homedThen 21 = .ok (.aload_n 0, 1) := by decide +kernel
theorem dX6_homedThen_22 : decode cX6_homedThen 22 = .ok (.iload_n 1, 1) := by decide +kernel
theorem dX6_homedThen_23 : decode cX6_homedThen 23 = .ok (.invokevirtual 112, 3) := by decide +kernel
theorem dX6_homedThen_26 : decode cX6_homedThen 26 = .ok (.istore 5, 2) := by decide +kernel
theorem dX6_homedThen_28 : decode cX6_homedThen 28 = .ok (.iload_n 2, 1) := by decide +kernel
theorem dX6_homedThen_29 : decode cX6_homedThen 29 = .ok (.ifCond .ne 15, 3) := by decide +kernel
theorem dX6_homedThen_32 : decode cX6_homedThen 32 = .ok (.aload_n 0, 1) := by decide +kernel
theorem dX6_homedThen_33 : decode cX6_homedThen 33 = .ok (.iload_n 1, 1) := by decide +kernel
theorem dX6_homedThen_34 : decode cX6_homedThen 34 = .ok (.bipush 6, 2) := by decide +kernel
theorem dX6_homedThen_36 : decode cX6_homedThen 36 = .ok (.invokevirtual 39, 3) := by decide +kernel
theorem dX6_homedThen_39 : decode cX6_homedThen 39 = .ok (.iload_n 3, 1) := by decide +kernel
theorem dX6_homedThen_40 : decode cX6_homedThen 40 = .ok (.isub, 1) := by decide +kernel
theorem dX6_homedThen_41 : decode cX6_homedThen 41 = .ok (.goto 32, 3) := by decide +kernel
theorem dX6_homedThen_44 : decode cX6_homedThen 44 = .ok (.iload_n 2, 1) := by decide +kernel
theorem dX6_homedThen_45 : decode cX6_homedThen 45 = .ok (.iconst 1, 1) := by decide +kernel
theorem dX6_homedThen_46 : decode cX6_homedThen 46 = .ok (.if_icmp .ne 16, 3) := by decide +kernel
theorem dX6_homedThen_49 : decode cX6_homedThen 49 = .ok (.aload_n 0, 1) := by decide +kernel
theorem dX6_homedThen_50 : decode cX6_homedThen 50 = .ok (.iload_n 1, 1) := by decide +kernel
theorem dX6_homedThen_51 : decode cX6_homedThen 51 = .ok (.bipush 8, 2) := by decide +kernel
theorem dX6_homedThen_53 : decode cX6_homedThen 53 = .ok (.invokevirtual 39, 3) := by decide +kernel
theorem dX6_homedThen_56 : decode cX6_homedThen 56 = .ok (.iload 4, 2) := by decide +kernel
theorem dX6_homedThen_58 : decode cX6_homedThen 58 = .ok (.isub, 1) := by decide +kernel
theorem dX6_homedThen_59 : decode cX6_homedThen 59 = .ok (.goto 14, 3) := by decide +kernel
theorem dX6_homedThen_62 : decode cX6_homedThen 62 = .ok (.iload 5, 2) := by decide +kernel
theorem dX6_homedThen_64 : decode cX6_homedThen 64 = .ok (.iconst (-1), 1) := by decide +kernel
theorem dX6_homedThen_65 : decode cX6_homedThen 65 = .ok (.if_icmp .ne 7, 3) := by decide +kernel
theorem dX6_homedThen_68 : decode cX6_homedThen 68 = .ok (.iconst 0, 1) := by decide +kernel
theorem dX6_homedThen_69 : decode cX6_homedThen 69 = .ok (.goto 4, 3) := by decide +kernel
theorem dX6_homedThen_72 : decode cX6_homedThen 72 = .ok (.iconst 1, 1) := by decide +kernel
theorem dX6_homedThen_73 : decode cX6_homedThen 73 = .ok (.istore 6, 2) := by decide +kernel
theorem dX6_homedThen_75 : decode cX6_homedThen 75 = .ok (.aload_n 0, 1) := by decide +kernel
theorem dX6_homedThen_76 : decode cX6_homedThen 76 = .ok (.invokevirtual 183, 3) := by decide +kernel
theorem dX6_homedThen_79 : decode cX6_homedThen 79 = .ok (.iload 6, 2) := by decide +kernel
theorem dX6_homedThen_81 : decode cX6_homedThen 81 = .ok (.ireturn, 1) := by decide +kernel
theorem dX6_ifHomed_0 : decode cX6_ifHomed 0 = .ok (.aload_n 0, 1) := by decide +kernel
theorem dX6_ifHomed_1 : decode cX6_ifHomed 1 = .ok (.iload_n 1, 1) := by decide +kernel
theorem dX6_ifHomed_2 : decode cX6_ifHomed 2 = .ok (.invokestatic 74, 3) := by decide +kernel
theorem dX6_ifHomed_5 : decode cX6_ifHomed 5 = .ok (.ifCond .ne 7, 3) := by decide +kernel
theorem dX6_ifHomed_8 : decode cX6_ifHomed 8 = .ok (.iconst 1, 1) := by decide +kernel
theorem dX6_ifHomed_9 : decode cX6_ifHomed 9 = .ok (.goto 17, 3) := by decide +kernel
theorem dX6_ifHomed_12 : decode cX6_ifHomed 12 = .ok (.iload_n 2, 1) := by decide +kernel
theorem dX6_ifHomed_13 : decode cX6_ifHomed 13 = .ok (.iconst 0, 1) := by decide +kernel
theorem dX6_ifHomed_14 : decode cX6_ifHomed 14 = .ok (.iconst 2, 1) := by decide +kernel
theorem dX6_ifHomed_15 : decode cX6_ifHomed 15 = .ok (.invokestatic 35, 3) := by decide +kernel
theorem dX6_ifHomed_18 : decode cX6_ifHomed 18 = .ok (.ifCond .eq 7, 3) := by decide +kernel
theorem dX6_ifHomed_21 : decode cX6_ifHomed 21 = .ok (.iconst 0, 1) := by decide +kernel
theorem dX6_ifHomed_22 : decode cX6_ifHomed 22 = .ok (.goto 4, 3) := by decide +kernel
theorem dX6_ifHomed_25 : decode cX6_ifHomed 25 = .ok (.iconst 2, 1) := by decide +kernel
theorem dX6_ifHomed_26 : decode cX6_ifHomed 26 = .ok (.putfield 29, 3) := by decide +kernel
theorem dX6_ifHomed_29 : decode cX6_ifHomed 29 = .ok (.aload_n 0, 1) := by decide +kernel
theorem dX6_ifHomed_30 : decode cX6_ifHomed 30 = .ok (.getfield 29, 3) := by decide +kernel
theorem dX6_ifHomed_33 : decode cX6_ifHomed 33 = .ok (.ifCond .le 7, 3) := by decide +kernel
theorem dX6_ifHomed_36 : decode cX6_ifHomed 36 = .ok (.iconst 0, 1) := by decide +kernel
theorem dX6_ifHomed_37 : decode cX6_ifHomed 37 = .ok (.goto 9, 3) := by decide +kernel
theorem dX6_ifHomed_40 : decode cX6_ifHomed 40 = .ok (.aload_n 0, 1) := by decide +kernel
theorem dX6_ifHomed_41 : decode cX6_ifHomed 41 = .ok (.iload_n 1, 1) := by decide +kernel
theorem dX6_ifHomed_42 : decode cX6_ifHomed 42 = .ok (.iload_n 2, 1) := by decide +kernel
theorem dX6_ifHomed_43 : decode cX6_ifHomed 43 = .ok (.invokevirtual 186, 3) := by decide +kernel
theorem dX6_ifHomed_46 : decode cX6_ifHomed 46 = .ok (.ireturn, 1) := by decide +kernel
theorem dX6_reachNow_0 : decode cX6_reachNow 0 = .ok (.aload_n 0, 1) := by decide +kernel
theorem dX6_reachNow_1 : decode cX6_reachNow 1 = .ok (.invokevirtual 180, 3) := by decide +kernel
theorem dX6_reachNow_4 : decode cX6_reachNow 4 = .ok (.aload_n 0, 1) := by decide +kernel
theorem dX6_reachNow_5 : decode cX6_reachNow 5 = .ok (.iload_n 1, 1) := by decide +kernel
theorem dX6_reachNow_6 : decode cX6_reachNow 6 = .ok (.iload_n 2, 1) := by decide +kernel
theorem dX6_reachNow_7 : decode cX6_reachNow 7 = .ok (.bipush 100, 2) := by decide +kernel
theorem dX6_reachNow_9 : decode cX6_reachNow 9 = .ok (.invokevirtual 92, 3) := by decide +kernel
theorem dX6_reachNow_12 : decode cX6_reachNow 12 = .ok (.istore_n 3, 1) := by decide +kernel
theorem dX6_reachNow_13 : decode cX6_reachNow 13 = .ok (.aload_n 0, 1) := by decide +kernel
theorem dX6_reachNow_14 : decode cX6_reachNow 14 = .ok (.invokevirtual 183, 3) := by decide +kernel
theorem dX6_reachNow_17 : decode cX6_reachNow 17 = .ok (.iload_n 3, 1) := by decide +kernel
theorem dX6_reachNow_18 : decode cX6_reachNow 18 = .ok (.ireturn, 1) := by decide +kernel
theorem dX6_reach_0 : decode cX6_reach 0 = .ok (.aload_n 0, 1) := by decide +kernel
theorem dX6_reach_1 : decode cX6_reach 1 = .ok (.iload_n 1, 1) := by decide +kernel
theorem dX6_reach_2 : decode cX6_reach 2 = .ok (.invokestatic 74, 3) := by decide +kernel
theorem dX6_reach_5 : decode cX6_reach 5 = .ok (.ifCond .eq 7, 3) := by decide +kernel
theorem dX6_reach_8 : decode cX6_reach 8 = .ok (.iconst 0, 1) := by decide +kernel
theorem dX6_reach_9 : decode cX6_reach 9 = .ok (.goto 4, 3) := by decide +kernel
theorem dX6_reach_12 : decode cX6_reach 12 = .ok (.iconst 1, 1) := by decide +kernel
theorem dX6_reach_13 : decode cX6_reach 13 = .ok (.putfield 29, 3) := by decide +kernel
theorem dX6_reach_16 : decode cX6_reach 16 = .ok (.aload_n 0, 1) := by decide +kernel
theorem dX6_reach_17 : decode cX6_reach 17 = .ok (.getfield 29, 3) := by decide +kernel
theorem dX6_reach_20 : decode cX6_reach 20 = .ok (.ifCond .le 7, 3) := by decide +kernel
theorem dX6_reach_23 : decode cX6_reach 23 = .ok (.iconst 0, 1) := by decide +kernel
theorem dX6_reach_24 : decode cX6_reach 24 = .ok (.goto 9, 3) := by decide +kernel
theorem dX6_reach_27 : decode cX6_reach 27 = .ok (.aload_n 0, 1) := by decide +kernel
theorem dX6_reach_28 : decode cX6_reach 28 = .ok (.iload_n 1, 1) := by decide +kernel
theorem dX6_reach_29 : decode cX6_reach 29 = .ok (.iload_n 2, 1) := by decide +kernel
theorem dX6_reach_30 : decode cX6_reach 30 = .ok (.invokevirtual 189, 3) := by decide +kernel
theorem dX6_reach_33 : decode cX6_reach 33 = .ok (.ireturn, 1) := by decide +kernel
theorem dX6_couldBeNow_0 : decode cX6_couldBeNow 0 = .ok (.iconst 0, 1) := by decide +kernel
theorem dX6_couldBeNow_1 : decode cX6_couldBeNow 1 = .ok (.istore_n 2, 1) := by decide +kernel
theorem dX6_couldBeNow_2 : decode cX6_couldBeNow 2 = .ok (.iconst 0, 1) := by decide +kernel
theorem dX6_couldBeNow_3 : decode cX6_couldBeNow 3 = .ok (.istore_n 3, 1) := by decide +kernel
theorem dX6_couldBeNow_4 : decode cX6_couldBeNow 4 = .ok (.iload_n 3, 1) := by decide +kernel
theorem dX6_couldBeNow_5 : decode cX6_couldBeNow 5 = .ok (.bipush 24, 2) := by decide +kernel
theorem dX6_couldBeNow_7 : decode cX6_couldBeNow 7 = .ok (.if_icmp .ge 38, 3) := by decide +kernel
theorem dX6_couldBeNow_10 : decode cX6_couldBeNow 10 = .ok (.iload_n 2, 1) := by decide +kernel
theorem dX6_couldBeNow_11 : decode cX6_couldBeNow 11 = .ok (.iload_n 3, 1) := by decide +kernel
theorem dX6_couldBeNow_12 : decode cX6_couldBeNow 12 = .ok (.aload_n 0, 1) := by decide +kernel
theorem dX6_couldBeNow_13 : decode cX6_couldBeNow 13 = .ok (.iload_n 1, 1) := by decide +kernel
theorem dX6_couldBeNow_14 : decode cX6_couldBeNow 14 = .ok (.iconst 1, 1) := by decide +kernel
theorem dX6_couldBeNow_15 : decode cX6_couldBeNow 15 = .ok (.invokevirtual 39, 3) := by decide +kernel
theorem dX6_couldBeNow_18 : decode cX6_couldBeNow 18 = .ok (.invokestatic 161, 3) := by decide +kernel
theorem dX6_couldBeNow_21 : decode cX6_couldBeNow 21 = .ok (.aload_n 0, 1) := by decide +kernel
theorem dX6_couldBeNow_22 : decode cX6_couldBeNow 22 = .ok (.iload_n 1, 1) := by decide +kernel
theorem dX6_couldBeNow_23 : decode cX6_couldBeNow 23 = .ok (.iconst 4, 1) := by decide +kernel
theorem dX6_couldBeNow_24 : decode cX6_couldBeNow 24 = .ok (.invokevirtual 39, 3) := by decide +kernel
theorem dX6_couldBeNow_27 : decode cX6_couldBeNow 27 = .ok (.if_icmp .gt 9, 3) := by decide +kernel
theorem dX6_couldBeNow_30 : decode cX6_couldBeNow 30 = .ok (.iconst 1, 1) := by decide +kernel
theorem dX6_couldBeNow_31 : decode cX6_couldBeNow 31 = .ok (.iload_n 3, 1) := by decide +kernel
theorem dX6_couldBeNow_32 : decode cX6_couldBeNow 32 = .ok (.ishl, 1) := by decide +kernel
theorem dX6_couldBeNow_33 : decode cX6_couldBeNow 33 = .ok (.goto 4, 3) := by decide +kernel
theorem dX6_couldBeNow_36 : decode cX6_couldBeNow 36 = .ok (.iconst 0, 1) := by decide +kernel
theorem dX6_couldBeNow_37 : decode cX6_couldBeNow 37 = .ok (.ior, 1) := by decide +kernel
theorem dX6_couldBeNow_38 : decode cX6_couldBeNow 38 = .ok (.istore_n 2, 1) := by decide +kernel
theorem dX6_couldBeNow_39 : decode cX6_couldBeNow 39 = .ok (.iinc 3 1, 3) := by decide +kernel
theorem dX6_couldBeNow_42 : decode cX6_couldBeNow 42 = .ok (.goto (-38), 3) := by decide +kernel
theorem dX6_couldBeNow_45 : decode cX6_couldBeNow 45 = .ok (.iload_n 2, 1) := by decide +kernel
theorem dX6_couldBeNow_46 : decode cX6_couldBeNow 46 = .ok (.ireturn, 1) := by decide +kernel
theorem dX6_couldBe_0 : decode cX6_couldBe 0 = .ok (.aload_n 0, 1) := by decide +kernel
theorem dX6_couldBe_1 : decode cX6_couldBe 1 = .ok (.iload_n 1, 1) := by decide +kernel
theorem dX6_couldBe_2 : decode cX6_couldBe 2 = .ok (.invokestatic 74, 3) := by decide +kernel
theorem dX6_couldBe_5 : decode cX6_couldBe 5 = .ok (.ifCond .eq 7, 3) := by decide +kernel
theorem dX6_couldBe_8 : decode cX6_couldBe 8 = .ok (.iconst 0, 1) := by decide +kernel
theorem dX6_couldBe_9 : decode cX6_couldBe 9 = .ok (.goto 4, 3) := by decide +kernel
theorem dX6_couldBe_12 : decode cX6_couldBe 12 = .ok (.iconst 1, 1) := by decide +kernel
theorem dX6_couldBe_13 : decode cX6_couldBe 13 = .ok (.putfield 29, 3) := by decide +kernel
theorem dX6_couldBe_16 : decode cX6_couldBe 16 = .ok (.aload_n 0, 1) := by decide +kernel
theorem dX6_couldBe_17 : decode cX6_couldBe 17 = .ok (.getfield 29, 3) := by decide +kernel
theorem dX6_couldBe_20 : decode cX6_couldBe 20 = .ok (.ifCond .le 7, 3) := by decide +kernel
theorem dX6_couldBe_23 : decode cX6_couldBe 23 = .ok (.iconst 0, 1) := by decide +kernel
theorem dX6_couldBe_24 : decode cX6_couldBe 24 = .ok (.goto 8, 3) := by decide +kernel
theorem dX6_couldBe_27 : decode cX6_couldBe 27 = .ok (.aload_n 0, 1) := by decide +kernel
theorem dX6_couldBe_28 : decode cX6_couldBe 28 = .ok (.iload_n 1, 1) := by decide +kernel
theorem dX6_couldBe_29 : decode cX6_couldBe 29 = .ok (.invokevirtual 192, 3) := by decide +kernel
theorem dX6_couldBe_32 : decode cX6_couldBe 32 = .ok (.ireturn, 1) := by decide +kernel
theorem dX6_lesserCost_0 : decode cX6_lesserCost 0 = .ok (.aload_n 0, 1) := by decide +kernel
theorem dX6_lesserCost_1 : decode cX6_lesserCost 1 = .ok (.iload_n 1, 1) := by decide +kernel
theorem dX6_lesserCost_2 : decode cX6_lesserCost 2 = .ok (.iload_n 2, 1) := by decide +kernel
theorem dX6_lesserCost_3 : decode cX6_lesserCost 3 = .ok (.iconst 1, 1) := by decide +kernel
theorem dX6_lesserCost_4 : decode cX6_lesserCost 4 = .ok (.invokevirtual 96, 3) := by decide +kernel
theorem dX6_lesserCost_7 : decode cX6_lesserCost 7 = .ok (.istore_n 3, 1) := by decide +kernel
theorem dX6_lesserCost_8 : decode cX6_lesserCost 8 = .ok (.aload_n 0, 1) := by decide +kernel
theorem dX6_lesserCost_9 : decode cX6_lesserCost 9 = .ok (.iload_n 1, 1) := by decide +kernel
theorem dX6_lesserCost_10 : decode cX6_lesserCost 10 = .ok (.iload_n 2, 1) := by decide +kernel
theorem dX6_lesserCost_11 : decode cX6_lesserCost 11 = .ok (.iconst 0, 1) := by decide +kernel
theorem dX6_lesserCost_12 : decode cX6_lesserCost 12 = .ok (.invokevirtual 96, 3) := by decide +kernel
theorem dX6_lesserCost_15 : decode cX6_lesserCost 15 = .ok (.istore 4, 2) := by decide +kernel
theorem dX6_lesserCost_17 : decode cX6_lesserCost 17 = .ok (.iload_n 3, 1) := by decide +kernel
theorem dX6_lesserCost_18 : decode cX6_lesserCost 18 = .ok (.iload 4, 2) := by decide +kernel
theorem dX6_lesserCost_20 : decode cX6_lesserCost 20 = .ok (.if_icmp .ge 7, 3) := by decide +kernel
theorem dX6_lesserCost_23 : decode cX6_lesserCost 23 = .ok (.iload_n 3, 1) := by decide +kernel
theorem dX6_lesserCost_24 : decode cX6_lesserCost 24 = .ok (.goto 5, 3) := by decide +kernel
theorem dX6_lesserCost_27 : decode cX6_lesserCost 27 = .ok (.iload 4, 2) := by decide +kernel
theorem dX6_lesserCost_29 : decode cX6_lesserCost 29 = .ok (.ireturn, 1) := by decide +kernel
theorem dX6_worstNow_0 : decode cX6_worstNow 0 = .ok (.iconst (-1), 1) := by decide +kernel
theorem dX6_worstNow_1 : decode cX6_worstNow 1 = .ok (.istore_n 3, 1) := by decide +kernel
theorem dX6_worstNow_2 : decode cX6_worstNow 2 = .ok (.aload_n 0, 1) := by decide +kernel
theorem dX6_worstNow_3 : decode cX6_worstNow 3 = .ok (.iload_n 1, 1) := by decide +kernel
theorem dX6_worstNow_4 : decode cX6_worstNow 4 = .ok (.iload_n 2, 1) := by decide +kernel
theorem dX6_worstNow_5 : decode cX6_worstNow 5 = .ok (.invokevirtual 195, 3) := by decide +kernel
theorem dX6_worstNow_8 : decode cX6_worstNow 8 = .ok (.istore 4, 2) := by decide +kernel
theorem dX6_worstNow_10 : decode cX6_worstNow 10 = .ok (.iconst 0, 1) := by decide +kernel
theorem dX6_worstNow_11 : decode cX6_worstNow 11 = .ok (.istore 5, 2) := by decide +kernel
theorem dX6_worstNow_13 : decode cX6_worstNow 13 = .ok (.iload 5, 2) := by decide +kernel
theorem dX6_worstNow_15 : decode cX6_worstNow 15 = .ok (.bipush 24, 2) := by decide +kernel
theorem dX6_worstNow_17 : decode cX6_worstNow 17 = .ok (.if_icmp .ge 53, 3) := by decide +kernel
theorem dX6_worstNow_20 : decode cX6_worstNow 20 = .ok (.aload_n 0, 1) := by decide +kernel
theorem dX6_worstNow_21 : decode cX6_worstNow 21 = .ok (.iload 5, 2) := by decide +kernel
theorem dX6_worstNow_23 : decode cX6_worstNow 23 = .ok (.putfield 19, 3) := by decide +kernel
theorem dX6_worstNow_26 : decode cX6_worstNow 26 = .ok (.aload_n 0, 1) := by decide +kernel
theorem dX6_worstNow_27 : decode cX6_worstNow 27 = .ok (.iload_n 1, 1) := by decide +kernel
theorem dX6_worstNow_28 : decode cX6_worstNow 28 = .ok (.iload_n 2, 1) := by decide +kernel
theorem dX6_worstNow_29 : decode cX6_worstNow 29 = .ok (.invokevirtual 195, 3) := by decide +kernel
theorem dX6_worstNow_32 : decode cX6_worstNow 32 = .ok (.istore 6, 2) := by decide +kernel
theorem dX6_worstNow_34 : decode cX6_worstNow 34 = .ok (.iload 6, 2) := by decide +kernel
theorem dX6_worstNow_36 : decode cX6_worstNow 36 = .ok (.iload 4, 2) := by decide +kernel
theorem dX6_worstNow_38 : decode cX6_worstNow 38 = .ok (.if_icmp .ge 8, 3) := by decide +kernel
theorem dX6_worstNow_41 : decode cX6_worstNow 41 = .ok (.iload 5, 2) := by decide +kernel
theorem dX6_worstNow_43 : decode cX6_worstNow 43 = .ok (.goto 4, 3) := by decide +kernel
theorem dX6_worstNow_46 : decode cX6_worstNow 46 = .ok (.iload_n 3, 1) := by decide +kernel
theorem dX6_worstNow_47 : decode cX6_worstNow 47 = .ok (.istore_n 3, 1) := by decide +kernel
theorem dX6_worstNow_48 : decode cX6_worstNow 48 = .ok (.iload 6, 2) := by decide +kernel
theorem dX6_worstNow_50 : decode cX6_worstNow 50 = .ok (.iload 4, 2) := by decide +kernel
theorem dX6_worstNow_52 : decode cX6_worstNow 52 = .ok (.if_icmp .ge 8, 3) := by decide +kernel
theorem dX6_worstNow_55 : decode cX6_worstNow 55 = .ok (.iload 6, 2) := by decide +kernel
theorem dX6_worstNow_57 : decode cX6_worstNow 57 = .ok (.goto 5, 3) := by decide +kernel
theorem dX6_worstNow_60 : decode cX6_worstNow 60 = .ok (.iload 4, 2) := by decide +kernel
theorem dX6_worstNow_62 : decode cX6_worstNow 62 = .ok (.istore 4, 2) := by decide +kernel
theorem dX6_worstNow_64 : decode cX6_worstNow 64 = .ok (.iinc 5 1, 3) := by decide +kernel
theorem dX6_worstNow_67 : decode cX6_worstNow 67 = .ok (.goto (-54), 3) := by decide +kernel
theorem dX6_worstNow_70 : decode cX6_worstNow 70 = .ok (.aload_n 0, 1) := by decide +kernel
theorem dX6_worstNow_71 : decode cX6_worstNow 71 = .ok (.iconst (-1), 1) := by decide +kernel
theorem dX6_worstNow_72 : decode cX6_worstNow 72 = .ok (.putfield 19, 3) := by decide +kernel
theorem dX6_worstNow_75 : decode cX6_worstNow 75 = .ok (.iload_n 3, 1) := by decide +kernel
theorem dX6_worstNow_76 : decode cX6_worstNow 76 = .ok (.ireturn, 1) := by decide +kernel
theorem dX6_worst_0 : decode cX6_worst 0 = .ok (.aload_n 0, 1) := by decide +kernel
theorem dX6_worst_1 : decode cX6_worst 1 = .ok (.iload_n 1, 1) := by decide +kernel
theorem dX6_worst_2 : decode cX6_worst 2 = .ok (.invokestatic 74, 3) := by decide +kernel
theorem dX6_worst_5 : decode cX6_worst 5 = .ok (.ifCond .ne 7, 3) := by decide +kernel
theorem dX6_worst_8 : decode cX6_worst 8 = .ok (.iconst 1, 1) := by decide +kernel
theorem dX6_worst_9 : decode cX6_worst 9 = .ok (.goto 15, 3) := by decide +kernel
theorem dX6_worst_12 : decode cX6_worst 12 = .ok (.iload_n 2, 1) := by decide +kernel
theorem dX6_worst_13 : decode cX6_worst 13 = .ok (.invokestatic 103, 3) := by decide +kernel
theorem dX6_worst_16 : decode cX6_worst 16 = .ok (.ifCond .eq 7, 3) := by decide +kernel
theorem dX6_worst_19 : decode cX6_worst 19 = .ok (.iconst 0, 1) := by decide +kernel
theorem dX6_worst_20 : decode cX6_worst 20 = .ok (.goto 4, 3) := by decide +kernel
theorem dX6_worst_23 : decode cX6_worst 23 = .ok (.iconst 2, 1) := by decide +kernel
theorem dX6_worst_24 : decode cX6_worst 24 = .ok (.putfield 29, 3) := by decide +kernel
theorem dX6_worst_27 : decode cX6_worst 27 = .ok (.aload_n 0, 1) := by decide +kernel
theorem dX6_worst_28 : decode cX6_worst 28 = .ok (.getfield 29, 3) := by decide +kernel
theorem dX6_worst_31 : decode cX6_worst 31 = .ok (.ifCond .le 7, 3) := by decide +kernel
theorem dX6_worst_34 : decode cX6_worst 34 = .ok (.iconst 0, 1) := by decide +kernel
theorem dX6_worst_35 : decode cX6_worst 35 = .ok (.goto 9, 3) := by decide +kernel
theorem dX6_worst_38 : decode cX6_worst 38 = .ok (.aload_n 0, 1) := by decide +kernel
theorem dX6_worst_39 : decode cX6_worst 39 = .ok (.iload_n 1, 1) := by decide +kernel
theorem dX6_worst_40 : decode cX6_worst 40 = .ok (.iload_n 2, 1) := by decide +kernel
theorem dX6_worst_41 : decode cX6_worst 41 = .ok (.invokevirtual 198, 3) := by decide +kernel
theorem dX6_worst_44 : decode cX6_worst 44 = .ok (.ireturn, 1) := by decide +kernel
theorem dX6_mean_0 : decode cX6_mean 0 = .ok (.aload_n 0, 1) := by decide +kernel
theorem dX6_mean_1 : decode cX6_mean 1 = .ok (.bipush 6, 2) := by decide +kernel
theorem dX6_mean_3 : decode cX6_mean 3 = .ok (.invokevirtual 167, 3) := by decide +kernel
theorem dX6_mean_6 : decode cX6_mean 6 = .ok (.istore_n 1, 1) := by decide +kernel
theorem dX6_mean_7 : decode cX6_mean 7 = .ok (.iload_n 1, 1) := by decide +kernel
theorem dX6_mean_8 : decode cX6_mean 8 = .ok (.ifCond .ne 7, 3) := by decide +kernel
theorem dX6_mean_11 : decode cX6_mean 11 = .ok (.dconst 0, 1) := by decide +kernel
theorem dX6_mean_12 : decode cX6_mean 12 = .ok (.goto 13, 3) := by decide +kernel
theorem dX6_mean_15 : decode cX6_mean 15 = .ok (.aload_n 0, 1) := by decide +kernel
theorem dX6_mean_16 : decode cX6_mean 16 = .ok (.bipush 8, 2) := by decide +kernel
theorem dX6_mean_18 : decode cX6_mean 18 = .ok (.invokevirtual 167, 3) := by decide +kernel
theorem dX6_mean_21 : decode cX6_mean 21 = .ok (.i2d, 1) := by decide +kernel
theorem dX6_mean_22 : decode cX6_mean 22 = .ok (.iload_n 1, 1) := by decide +kernel
theorem dX6_mean_23 : decode cX6_mean 23 = .ok (.i2d, 1) := by decide +kernel
theorem dX6_mean_24 : decode cX6_mean 24 = .ok (.ddiv, 1) := by decide +kernel
theorem dX6_mean_25 : decode cX6_mean 25 = .ok (.dreturn, 1) := by decide +kernel
theorem dX6_meanToll_0 : decode cX6_meanToll 0 = .ok (.aload_n 0, 1) := by decide +kernel
theorem dX6_meanToll_1 : decode cX6_meanToll 1 = .ok (.iconst 0, 1) := by decide +kernel
theorem dX6_meanToll_2 : decode cX6_meanToll 2 = .ok (.putfield 29, 3) := by decide +kernel
theorem dX6_meanToll_5 : decode cX6_meanToll 5 = .ok (.aload_n 0, 1) := by decide +kernel
theorem dX6_meanToll_6 : decode cX6_meanToll 6 = .ok (.invokevirtual 201, 3) := by decide +kernel
theorem dX6_meanToll_9 : decode cX6_meanToll 9 = .ok (.dreturn, 1) := by decide +kernel
theorem dX6_mix_0 : decode cX6_mix 0 = .ok (.aload_n 0, 1) := by decide +kernel
theorem dX6_mix_1 : decode cX6_mix 1 = .ok (.ldc2_w 205, 3) := by decide +kernel
theorem dX6_mix_4 : decode cX6_mix 4 = .ok (.aload_n 0, 1) := by decide +kernel
theorem dX6_mix_5 : decode cX6_mix 5 = .ok (.getfield 207, 3) := by decide +kernel
theorem dX6_mix_8 : decode cX6_mix 8 = .ok (.lmul, 1) := by decide +kernel
theorem dX6_mix_9 : decode cX6_mix 9 = .ok (.lload_n 1, 1) := by decide +kernel
theorem dX6_mix_10 : decode cX6_mix 10 = .ok (.ladd, 1) := by decide +kernel
theorem dX6_mix_11 : decode cX6_mix 11 = .ok (.putfield 207, 3) := by decide +kernel
theorem dX6_mix_14 : decode cX6_mix 14 = .ok (.return_, 1) := by decide +kernel
theorem dX6_mixAxis_0 : decode cX6_mixAxis 0 = .ok (.iconst 0, 1) := by decide +kernel
theorem dX6_mixAxis_1 : decode cX6_mixAxis 1 = .ok (.istore_n 2, 1) := by decide +kernel
theorem dX6_mixAxis_2 : decode cX6_mixAxis 2 = .ok (.iload_n 2, 1) := by decide +kernel
theorem dX6_mixAxis_3 : decode cX6_mixAxis 3 = .ok (.bipush 12, 2) := by decide +kernel
theorem dX6_mixAxis_5 : decode cX6_mixAxis 5 = .ok (.if_icmp .ge 20, 3) := by decide +kernel
theorem dX6_mixAxis_8 : decode cX6_mixAxis 8 = .ok (.aload_n 0, 1) := by decide +kernel
theorem dX6_mixAxis_9 : decode cX6_mixAxis 9 = .ok (.aload_n 0, 1) := by decide +kernel
theorem dX6_mixAxis_10 : decode cX6_mixAxis 10 = .ok (.iload_n 1, 1) := by decide +kernel
theorem dX6_mixAxis_11 : decode cX6_mixAxis 11 = .ok (.iload_n 2, 1) := by decide +kernel
theorem dX6_mixAxis_12 : decode cX6_mixAxis 12 = .ok (.invokevirtual 164, 3) := by decide +kernel
theorem dX6_mixAxis_15 : decode cX6_mixAxis 15 = .ok (.i2l, 1) := by decide +kernel
theorem dX6_mixAxis_16 : decode cX6_mixAxis 16 = .ok (.invokevirtual 211, 3) := by decide +kernel
theorem dX6_mixAxis_19 : decode cX6_mixAxis 19 = .ok (.iinc 2 1, 3) := by decide +kernel
theorem dX6_mixAxis_22 : decode cX6_mixAxis 22 = .ok (.goto (-20), 3) := by decide +kernel
theorem dX6_mixAxis_25 : decode cX6_mixAxis 25 = .ok (.iconst 0, 1) := by decide +kernel
theorem dX6_mixAxis_26 : decode cX6_mixAxis 26 = .ok (.istore_n 2, 1) := by decide +kernel
theorem dX6_mixAxis_27 : decode cX6_mixAxis 27 = .ok (.iload_n 2, 1) := by decide +kernel
theorem dX6_mixAxis_28 : decode cX6_mixAxis 28 = .ok (.bipush 24, 2) := by decide +kernel
theorem dX6_mixAxis_30 : decode cX6_mixAxis 30 = .ok (.if_icmp .ge 23, 3) := by decide +kernel
theorem dX6_mixAxis_33 : decode cX6_mixAxis 33 = .ok (.aload_n 0, 1) := by decide +kernel
theorem dX6_mixAxis_34 : decode cX6_mixAxis 34 = .ok (.aload_n 0, 1) := by decide +kernel
theorem dX6_mixAxis_35 : decode cX6_mixAxis 35 = .ok (.iload_n 1, 1) := by decide +kernel
theorem dX6_mixAxis_36 : decode cX6_mixAxis 36 = .ok (.bipush 11, 2) := by decide +kernel
theorem dX6_mixAxis_38 : decode cX6_mixAxis 38 = .ok (.iload_n 2, 1) := by decide +kernel
theorem dX6_mixAxis_39 : decode cX6_mixAxis 39 = .ok (.iadd, 1) := by decide +kernel
theorem dX6_mixAxis_40 : decode cX6_mixAxis 40 = .ok (.invokevirtual 39, 3) := by decide +kernel
theorem dX6_mixAxis_43 : decode cX6_mixAxis 43 = .ok (.i2l, 1) := by decide +kernel
theorem dX6_mixAxis_44 : decode cX6_mixAxis 44 = .ok (.invokevirtual 211, 3) := by decide +kernel
theorem dX6_mixAxis_47 : decode cX6_mixAxis 47 = .ok (.iinc 2 1, 3) := by decide +kernel
theorem dX6_mixAxis_50 : decode cX6_mixAxis 50 = .ok (.goto (-23), 3) := by decide +kernel
theorem dX6_mixAxis_53 : decode cX6_mixAxis 53 = .ok (.aload_n 0, 1) := by decide +kernel
theorem dX6_mixAxis_54 : decode cX6_mixAxis 54 = .ok (.aload_n 0, 1) := by decide +kernel
theorem dX6_mixAxis_55 : decode cX6_mixAxis 55 = .ok (.iload_n 1, 1) := by decide +kernel
theorem dX6_mixAxis_56 : decode cX6_mixAxis 56 = .ok (.iconst 1, 1) := by decide +kernel
theorem dX6_mixAxis_57 : decode cX6_mixAxis 57 = .ok (.invokevirtual 54, 3) := by decide +kernel
theorem dX6_mixAxis_60 : decode cX6_mixAxis 60 = .ok (.i2l, 1) := by decide +kernel
theorem dX6_mixAxis_61 : decode cX6_mixAxis 61 = .ok (.invokevirtual 211, 3) := by decide +kernel
theorem dX6_mixAxis_64 : decode cX6_mixAxis 64 = .ok (.aload_n 0, 1) := by decide +kernel
theorem dX6_mixAxis_65 : decode cX6_mixAxis 65 = .ok (.aload_n 0, 1) := by decide +kernel
theorem dX6_mixAxis_66 : decode cX6_mixAxis 66 = .ok (.iload_n 1, 1) := by decide +kernel
theorem dX6_mixAxis_67 : decode cX6_mixAxis 67 = .ok (.iconst 0, 1) := by decide +kernel
theorem dX6_mixAxis_68 : decode cX6_mixAxis 68 = .ok (.invokevirtual 54, 3) := by decide +kernel
theorem dX6_mixAxis_71 : decode cX6_mixAxis 71 = .ok (.i2l, 1) := by decide +kernel
theorem dX6_mixAxis_72 : decode cX6_mixAxis 72 = .ok (.invokevirtual 211, 3) := by decide +kernel
theorem dX6_mixAxis_75 : decode cX6_mixAxis 75 = .ok (.aload_n 0, 1) := by decide +kernel
theorem dX6_mixAxis_76 : decode cX6_mixAxis 76 = .ok (.aload_n 0, 1) := by decide +kernel
theorem dX6_mixAxis_77 : decode cX6_mixAxis 77 = .ok (.iload_n 1, 1) := by decide +kernel
theorem dX6_mixAxis_78 : decode cX6_mixAxis 78 = .ok (.iconst 1, 1) := by decide +kernel
theorem dX6_mixAxis_79 : decode cX6_mixAxis 79 = .ok (.invokevirtual 57, 3) := by decide +kernel
theorem dX6_mixAxis_82 : decode cX6_mixAxis 82 = .ok (.i2l, 1) := by decide +kernel
theorem dX6_mixAxis_83 : decode cX6_mixAxis 83 = .ok (.invokevirtual 211, 3) := by decide +kernel
theorem dX6_mixAxis_86 : decode cX6_mixAxis 86 = .ok (.aload_n 0, 1) := by decide +kernel
theorem dX6_mixAxis_87 : decode cX6_mixAxis 87 = .ok (.aload_n 0, 1) := by decide +kernel
theorem dX6_mixAxis_88 : decode cX6_mixAxis 88 = .ok (.iload_n 1, 1) := by decide +kernel
theorem dX6_mixAxis_89 : decode cX6_mixAxis 89 = .ok (.iconst 0, 1) := by decide +kernel
theorem dX6_mixAxis_90 : decode cX6_mixAxis 90 = .ok (.invokevirtual 57, 3) := by decide +kernel
theorem dX6_mixAxis_93 : decode cX6_mixAxis 93 = .ok (.i2l, 1) := by decide +kernel
theorem dX6_mixAxis_94 : decode cX6_mixAxis 94 = .ok (.invokevirtual 211, 3) := by decide +kernel
theorem dX6_mixAxis_97 : decode cX6_mixAxis 97 = .ok (.aload_n 0, 1) := by decide +kernel
theorem dX6_mixAxis_98 : decode cX6_mixAxis 98 = .ok (.aload_n 0, 1) := by decide +kernel
theorem dX6_mixAxis_99 : decode cX6_mixAxis 99 = .ok (.iload_n 1, 1) := by decide +kernel
theorem dX6_mixAxis_100 : decode cX6_mixAxis 100 = .ok (.bipush 12, 2) := by decide +kernel
theorem dX6_mixAxis_102 : decode cX6_mixAxis 102 = .ok (.iconst 1, 1) := by decide +kernel
theorem dX6_mixAxis_103 : decode cX6_mixAxis 103 = .ok (.invokevirtual 96, 3) := by decide +kernel
theorem dX6_mixAxis_106 : decode cX6_mixAxis 106 = .ok (.i2l, 1) := by decide +kernel
theorem dX6_mixAxis_107 : decode cX6_mixAxis 107 = .ok (.invokevirtual 211, 3) := by decide +kernel
theorem dX6_mixAxis_110 : decode cX6_mixAxis 110 = .ok (.aload_n 0, 1) := by decide +kernel
theorem dX6_mixAxis_111 : decode cX6_mixAxis 111 = .ok (.aload_n 0, 1) := by decide +kernel
theorem dX6_mixAxis_112 : decode cX6_mixAxis 112 = .ok (.iload_n 1, 1) := by decide +kernel
theorem dX6_mixAxis_113 : decode cX6_mixAxis 113 = .ok (.bipush 12, 2) := by decide +kernel
theorem dX6_mixAxis_115 : decode cX6_mixAxis 115 = .ok (.iconst 0, 1) := by decide +kernel
theorem dX6_mixAxis_116 : decode cX6_mixAxis 116 = .ok (.invokevirtual 96, 3) := by decide +kernel
theorem dX6_mixAxis_119 : decode cX6_mixAxis 119 = .ok (.i2l, 1) := by decide +kernel
theorem dX6_mixAxis_120 : decode cX6_mixAxis 120 = .ok (.invokevirtual 211, 3) := by decide +kernel
theorem dX6_mixAxis_123 : decode cX6_mixAxis 123 = .ok (.iconst 0, 1) := by decide +kernel
theorem dX6_mixAxis_124 : decode cX6_mixAxis 124 = .ok (.istore_n 2, 1) := by decide +kernel
theorem dX6_mixAxis_125 : decode cX6_mixAxis 125 = .ok (.iload_n 2, 1) := by decide +kernel
theorem dX6_mixAxis_126 : decode cX6_mixAxis 126 = .ok (.iconst 3, 1) := by decide +kernel
theorem dX6_mixAxis_127 : decode cX6_mixAxis 127 = .ok (.if_icmp .ge 20, 3) := by decide +kernel
theorem dX6_mixAxis_130 : decode cX6_mixAxis 130 = .ok (.aload_n 0, 1) := by decide +kernel
theorem dX6_mixAxis_131 : decode cX6_mixAxis 131 = .ok (.aload_n 0, 1) := by decide +kernel
theorem dX6_mixAxis_132 : decode cX6_mixAxis 132 = .ok (.iload_n 1, 1) := by decide +kernel
theorem dX6_mixAxis_133 : decode cX6_mixAxis 133 = .ok (.iload_n 2, 1) := by decide +kernel
theorem dX6_mixAxis_134 : decode cX6_mixAxis 134 = .ok (.invokevirtual 186, 3) := by decide +kernel
theorem dX6_mixAxis_137 : decode cX6_mixAxis 137 = .ok (.i2l, 1) := by decide +kernel
theorem dX6_mixAxis_138 : decode cX6_mixAxis 138 = .ok (.invokevirtual 211, 3) := by decide +kernel
theorem dX6_mixAxis_141 : decode cX6_mixAxis 141 = .ok (.iinc 2 1, 3) := by decide +kernel
theorem dX6_mixAxis_144 : decode cX6_mixAxis 144 = .ok (.goto (-19), 3) := by decide +kernel
theorem dX6_mixAxis_147 : decode cX6_mixAxis 147 = .ok (.aload_n 0, 1) := by decide +kernel
theorem dX6_mixAxis_148 : decode cX6_mixAxis 148 = .ok (.aload_n 0, 1) := by decide +kernel
theorem dX6_mixAxis_149 : decode cX6_mixAxis 149 = .ok (.iload_n 1, 1) := by decide +kernel
theorem dX6_mixAxis_150 : decode cX6_mixAxis 150 = .ok (.iconst 1, 1) := by decide +kernel
theorem dX6_mixAxis_151 : decode cX6_mixAxis 151 = .ok (.invokevirtual 189, 3) := by decide +kernel
theorem dX6_mixAxis_154 : decode cX6_mixAxis 154 = .ok (.i2l, 1) := by decide +kernel
theorem dX6_mixAxis_155 : decode cX6_mixAxis 155 = .ok (.invokevirtual 211, 3) := by decide +kernel
theorem dX6_mixAxis_158 : decode cX6_mixAxis 158 = .ok (.aload_n 0, 1) := by decide +kernel
theorem dX6_mixAxis_159 : decode cX6_mixAxis 159 = .ok (.aload_n 0, 1) := by decide +kernel
theorem dX6_mixAxis_160 : decode cX6_mixAxis 160 = .ok (.iload_n 1, 1) := by decide +kernel
theorem dX6_mixAxis_161 : decode cX6_mixAxis 161 = .ok (.iconst 0, 1) := by decide +kernel
theorem dX6_mixAxis_162 : decode cX6_mixAxis 162 = .ok (.invokevirtual 189, 3) := by decide +kernel
theorem dX6_mixAxis_165 : decode cX6_mixAxis 165 = .ok (.i2l, 1) := by decide +kernel
theorem dX6_mixAxis_166 : decode cX6_mixAxis 166 = .ok (.invokevirtual 211, 3) := by decide +kernel
theorem dX6_mixAxis_169 : decode cX6_mixAxis 169 = .ok (.aload_n 0, 1) := by decide +kernel
theorem dX6_mixAxis_170 : decode cX6_mixAxis 170 = .ok (.aload_n 0, 1) := by decide +kernel
theorem dX6_mixAxis_171 : decode cX6_mixAxis 171 = .ok (.iload_n 1, 1) := by decide +kernel
theorem dX6_mixAxis_172 : decode cX6_mixAxis 172 = .ok (.invokevirtual 192, 3) := by decide +kernel
theorem dX6_mixAxis_175 : decode cX6_mixAxis 175 = .ok (.i2l, 1) := by decide +kernel
theorem dX6_mixAxis_176 : decode cX6_mixAxis 176 = .ok (.invokevirtual 211, 3) := by decide +kernel
theorem dX6_mixAxis_179 : decode cX6_mixAxis 179 = .ok (.aload_n 0, 1) := by decide +kernel
theorem dX6_mixAxis_180 : decode cX6_mixAxis 180 = .ok (.aload_n 0, 1) := by decide +kernel
theorem dX6_mixAxis_181 : decode cX6_mixAxis 181 = .ok (.iload_n 1, 1) := by decide +kernel
theorem dX6_mixAxis_182 : decode cX6_mixAxis 182 = .ok (.bipush 12, 2) := by decide +kernel
theorem dX6_mixAxis_184 : decode cX6_mixAxis 184 = .ok (.invokevirtual 198, 3) := by decide +kernel
theorem dX6_mixAxis_187 : decode cX6_mixAxis 187 = .ok (.i2l, 1) := by decide +kernel
theorem dX6_mixAxis_188 : decode cX6_mixAxis 188 = .ok (.invokevirtual 211, 3) := by decide +kernel
theorem dX6_mixAxis_191 : decode cX6_mixAxis 191 = .ok (.return_, 1) := by decide +kernel
theorem dX6_digest_0 : decode cX6_digest 0 = .ok (.aload_n 0, 1) := by decide +kernel
theorem dX6_digest_1 : decode cX6_digest 1 = .ok (.iconst 0, 1) := by decide +kernel
theorem dX6_digest_2 : decode cX6_digest 2 = .ok (.putfield 29, 3) := by decide +kernel
theorem dX6_digest_5 : decode cX6_digest 5 = .ok (.aload_n 0, 1) := by decide +kernel
theorem dX6_digest_6 : decode cX6_digest 6 = .ok (.ldc2_w 215, 3) := by decide +kernel
theorem dX6_digest_9 : decode cX6_digest 9 = .ok (.putfield 207, 3) := by decide +kernel
theorem dX6_digest_12 : decode cX6_digest 12 = .ok (.iconst 0, 1) := by decide +kernel
theorem dX6_digest_13 : decode cX6_digest 13 = .ok (.istore_n 1, 1) := by decide +kernel
theorem dX6_digest_14 : decode cX6_digest 14 = .ok (.iload_n 1, 1) := by decide +kernel
theorem dX6_digest_15 : decode cX6_digest 15 = .ok (.bipush 9, 2) := by decide +kernel
theorem dX6_digest_17 : decode cX6_digest 17 = .ok (.if_icmp .ge 19, 3) := by decide +kernel
theorem dX6_digest_20 : decode cX6_digest 20 = .ok (.aload_n 0, 1) := by decide +kernel
theorem dX6_digest_21 : decode cX6_digest 21 = .ok (.aload_n 0, 1) := by decide +kernel
theorem dX6_digest_22 : decode cX6_digest 22 = .ok (.iload_n 1, 1) := by decide +kernel
theorem dX6_digest_23 : decode cX6_digest 23 = .ok (.invokevirtual 177, 3) := by decide +kernel
theorem dX6_digest_26 : decode cX6_digest 26 = .ok (.i2l, 1) := by decide +kernel
theorem dX6_digest_27 : decode cX6_digest 27 = .ok (.invokevirtual 211, 3) := by decide +kernel
theorem dX6_digest_30 : decode cX6_digest 30 = .ok (.iinc 1 1, 3) := by decide +kernel
theorem dX6_digest_33 : decode cX6_digest 33 = .ok (.goto (-19), 3) := by decide +kernel
theorem dX6_digest_36 : decode cX6_digest 36 = .ok (.iconst 0, 1) := by decide +kernel
theorem dX6_digest_37 : decode cX6_digest 37 = .ok (.istore_n 1, 1) := by decide +kernel
theorem dX6_digest_38 : decode cX6_digest 38 = .ok (.iload_n 1, 1) := by decide +kernel
theorem dX6_digest_39 : decode cX6_digest 39 = .ok (.bipush 6, 2) := by decide +kernel
theorem dX6_digest_41 : decode cX6_digest 41 = .ok (.if_icmp .ge 22, 3) := by decide +kernel
theorem dX6_digest_44 : decode cX6_digest 44 = .ok (.aload_n 0, 1) := by decide +kernel
theorem dX6_digest_45 : decode cX6_digest 45 = .ok (.aload_n 0, 1) := by decide +kernel
theorem dX6_digest_46 : decode cX6_digest 46 = .ok (.getfield 7, 3) := by decide +kernel
theorem dX6_digest_49 : decode cX6_digest 49 = .ok (.iconst 0, 1) := by decide +kernel
theorem dX6_digest_50 : decode cX6_digest 50 = .ok (.iload_n 1, 1) := by decide +kernel
theorem dX6_digest_51 : decode cX6_digest 51 = .ok (.iadd, 1) := by decide +kernel
theorem dX6_digest_52 : decode cX6_digest 52 = .ok (.iaload, 1) := by decide +kernel
theorem dX6_digest_53 : decode cX6_digest 53 = .ok (.i2l, 1) := by decide +kernel
theorem dX6_digest_54 : decode cX6_digest 54 = .ok (.invokevirtual 211, 3) := by decide +kernel
theorem dX6_digest_57 : decode cX6_digest 57 = .ok (.iinc 1 1, 3) := by decide +kernel
theorem dX6_digest_60 : decode cX6_digest 60 = .ok (.goto (-22), 3) := by decide +kernel
theorem dX6_digest_63 : decode cX6_digest 63 = .ok (.iconst 0, 1) := by decide +kernel
theorem dX6_digest_64 : decode cX6_digest 64 = .ok (.istore_n 1, 1) := by decide +kernel
theorem dX6_digest_65 : decode cX6_digest 65 = .ok (.iload_n 1, 1) := by decide +kernel
theorem dX6_digest_66 : decode cX6_digest 66 = .ok (.iconst 4, 1) := by decide +kernel
theorem dX6_digest_67 : decode cX6_digest 67 = .ok (.if_icmp .ge 14, 3) := by decide +kernel
theorem dX6_digest_70 : decode cX6_digest 70 = .ok (.aload_n 0, 1) := by decide +kernel
theorem dX6_digest_71 : decode cX6_digest 71 = .ok (.iload_n 1, 1) := by decide +kernel
theorem dX6_digest_72 : decode cX6_digest 72 = .ok (.invokevirtual 217, 3) := by decide +kernel
theorem dX6_digest_75 : decode cX6_digest 75 = .ok (.iinc 1 1, 3) := by decide +kernel
theorem dX6_digest_78 : decode cX6_digest 78 = .ok (.goto (-13), 3) := by decide +kernel
theorem dX6_digest_81 : decode cX6_digest 81 = .ok (.aload_n 0, 1) := by decide +kernel
theorem dX6_digest_82 : decode cX6_digest 82 = .ok (.aload_n 0, 1) := by decide +kernel
theorem dX6_digest_83 : decode cX6_digest 83 = .ok (.invokevirtual 201, 3) := by decide +kernel
theorem dX6_digest_86 : decode cX6_digest 86 = .ok (.invokestatic 220, 3) := by decide +kernel
theorem dX6_digest_89 : decode cX6_digest 89 = .ok (.invokevirtual 211, 3) := by decide +kernel
theorem dX6_digest_92 : decode cX6_digest 92 = .ok (.aload_n 0, 1) := by decide +kernel
theorem dX6_digest_93 : decode cX6_digest 93 = .ok (.aload_n 0, 1) := by decide +kernel
theorem dX6_digest_94 : decode cX6_digest 94 = .ok (.getfield 127, 3) := by decide +kernel
theorem dX6_digest_97 : decode cX6_digest 97 = .ok (.i2l, 1) := by decide +kernel
theorem dX6_digest_98 : decode cX6_digest 98 = .ok (.invokevirtual 211, 3) := by decide +kernel
theorem dX6_digest_101 : decode cX6_digest 101 = .ok (.iconst 0, 1) := by decide +kernel
theorem dX6_digest_102 : decode cX6_digest 102 = .ok (.istore_n 1, 1) := by decide +kernel
theorem dX6_digest_103 : decode cX6_digest 103 = .ok (.iload_n 1, 1) := by decide +kernel
theorem dX6_digest_104 : decode cX6_digest 104 = .ok (.aload_n 0, 1) := by decide +kernel
theorem dX6_digest_105 : decode cX6_digest 105 = .ok (.getfield 127, 3) := by decide +kernel
theorem dX6_digest_108 : decode cX6_digest 108 = .ok (.if_icmp .ge 20, 3) := by decide +kernel
theorem dX6_digest_111 : decode cX6_digest 111 = .ok (.aload_n 0, 1) := by decide +kernel
theorem dX6_digest_112 : decode cX6_digest 112 = .ok (.aload_n 0, 1) := by decide +kernel
theorem dX6_digest_113 : decode cX6_digest 113 = .ok (.getfield 16, 3) := by decide +kernel
theorem dX6_digest_116 : decode cX6_digest 116 = .ok (.iload_n 1, 1) := by decide +kernel
theorem dX6_digest_117 : decode cX6_digest 117 = .ok (.iaload, 1) := by decide +kernel
theorem dX6_digest_118 : decode cX6_digest 118 = .ok (.i2l, 1) := by decide +kernel
theorem dX6_digest_119 : decode cX6_digest 119 = .ok (.invokevirtual 211, 3) := by decide +kernel
theorem dX6_digest_122 : decode cX6_digest 122 = .ok (.iinc 1 1, 3) := by decide +kernel
theorem dX6_digest_125 : decode cX6_digest 125 = .ok (.goto (-22), 3) := by decide +kernel
theorem dX6_digest_128 : decode cX6_digest 128 = .ok (.aload_n 0, 1) := by decide +kernel
theorem dX6_digest_129 : decode cX6_digest 129 = .ok (.getfield 207, 3) := by decide +kernel
theorem dX6_digest_132 : decode cX6_digest 132 = .ok (.lreturn, 1) := by decide +kernel
theorem dJxe99ae_isNaN_b9ae7_0 : decode cJxe99ae_isNaN_b9ae7 0 = .ok (.dload_n 0, 1) := by decide +kernel
theorem dJxe99ae_isNaN_b9ae7_1 : decode cJxe99ae_isNaN_b9ae7 1 = .ok (.dload_n 0, 1) := by decide +kernel
theorem dJxe99ae_isNaN_b9ae7_2 : decode cJxe99ae_isNaN_b9ae7 2 = .ok (.dcmp .l, 1) := by decide +kernel
theorem dJxe99ae_isNaN_b9ae7_3 : decode cJxe99ae_isNaN_b9ae7 3 = .ok (.ifCond .eq 7, 3) := by decide +kernel
theorem dJxe99ae_isNaN_b9ae7_6 : decode cJxe99ae_isNaN_b9ae7 6 = .ok (.iconst 1, 1) := by decide +kernel
theorem dJxe99ae_isNaN_b9ae7_7 : decode cJxe99ae_isNaN_b9ae7 7 = .ok (.goto 4, 3) := by decide +kernel
theorem dJxe99ae_isNaN_b9ae7_10 : decode cJxe99ae_isNaN_b9ae7 10 = .ok (.iconst 0, 1) := by decide +kernel
theorem dJxe99ae_isNaN_b9ae7_11 : decode cJxe99ae_isNaN_b9ae7 11 = .ok (.ireturn, 1) := by decide +kernel
theorem dJxe99ae_doubleToLongBits_ccdee_0 : decode cJxe99ae_doubleToLongBits_ccdee 0 = .ok (.dload_n 0, 1) := by decide +kernel
theorem dJxe99ae_doubleToLongBits_ccdee_1 : decode cJxe99ae_doubleToLongBits_ccdee 1 = .ok (.invokestatic 122, 3) := by decide +kernel
theorem dJxe99ae_doubleToLongBits_ccdee_4 : decode cJxe99ae_doubleToLongBits_ccdee 4 = .ok (.ifCond .ne 8, 3) := by decide +kernel
theorem dJxe99ae_doubleToLongBits_ccdee_7 : decode cJxe99ae_doubleToLongBits_ccdee 7 = .ok (.dload_n 0, 1) := by decide +kernel
theorem dJxe99ae_doubleToLongBits_ccdee_8 : decode cJxe99ae_doubleToLongBits_ccdee 8 = .ok (.invokestatic 134, 3) := by decide +kernel
theorem dJxe99ae_doubleToLongBits_ccdee_11 : decode cJxe99ae_doubleToLongBits_ccdee 11 = .ok (.lreturn, 1) := by decide +kernel
theorem dJxe99ae_doubleToLongBits_ccdee_12 : decode cJxe99ae_doubleToLongBits_ccdee 12 = .ok (.ldc2_w 137, 3) := by decide +kernel
theorem dJxe99ae_doubleToLongBits_ccdee_15 : decode cJxe99ae_doubleToLongBits_ccdee 15 = .ok (.lreturn, 1) := by decide +kernel
theorem dJ9_floorMod_7cf53_0 : decode cJ9_floorMod_7cf53 0 = .ok (.iload_n 0, 1) := by decide +kernel
theorem dJ9_floorMod_7cf53_1 : decode cJ9_floorMod_7cf53 1 = .ok (.iload_n 1, 1) := by decide +kernel
theorem dJ9_floorMod_7cf53_2 : decode cJ9_floorMod_7cf53 2 = .ok (.irem, 1) := by decide +kernel
theorem dJ9_floorMod_7cf53_3 : decode cJ9_floorMod_7cf53 3 = .ok (.istore_n 2, 1) := by decide +kernel
theorem dJ9_floorMod_7cf53_4 : decode cJ9_floorMod_7cf53 4 = .ok (.iload_n 0, 1) := by decide +kernel
theorem dJ9_floorMod_7cf53_5 : decode cJ9_floorMod_7cf53 5 = .ok (.iload_n 1, 1) := by decide +kernel
theorem dJ9_floorMod_7cf53_6 : decode cJ9_floorMod_7cf53 6 = .ok (.ixor, 1) := by decide +kernel
theorem dJ9_floorMod_7cf53_7 : decode cJ9_floorMod_7cf53 7 = .ok (.ifCond .ge 11, 3) := by decide +kernel
theorem dJ9_floorMod_7cf53_10 : decode cJ9_floorMod_7cf53 10 = .ok (.iload_n 2, 1) := by decide +kernel
theorem dJ9_floorMod_7cf53_11 : decode cJ9_floorMod_7cf53 11 = .ok (.ifCond .eq 7, 3) := by decide +kernel
theorem dJ9_floorMod_7cf53_14 : decode cJ9_floorMod_7cf53 14 = .ok (.iload_n 2, 1) := by decide +kernel
theorem dJ9_floorMod_7cf53_15 : decode cJ9_floorMod_7cf53 15 = .ok (.iload_n 1, 1) := by decide +kernel
theorem dJ9_floorMod_7cf53_16 : decode cJ9_floorMod_7cf53 16 = .ok (.iadd, 1) := by decide +kernel
theorem dJ9_floorMod_7cf53_17 : decode cJ9_floorMod_7cf53 17 = .ok (.ireturn, 1) := by decide +kernel
theorem dJ9_floorMod_7cf53_18 : decode cJ9_floorMod_7cf53 18 = .ok (.iload_n 2, 1) := by decide +kernel
theorem dJ9_floorMod_7cf53_19 : decode cJ9_floorMod_7cf53 19 = .ok (.ireturn, 1) := by decide +kernel
theorem dJ9_max_7cf53_0 : decode cJ9_max_7cf53 0 = .ok (.iload_n 0, 1) := by decide +kernel
theorem dJ9_max_7cf53_1 : decode cJ9_max_7cf53 1 = .ok (.iload_n 1, 1) := by decide +kernel
theorem dJ9_max_7cf53_2 : decode cJ9_max_7cf53 2 = .ok (.if_icmp .lt 7, 3) := by decide +kernel
theorem dJ9_max_7cf53_5 : decode cJ9_max_7cf53 5 = .ok (.iload_n 0, 1) := by decide +kernel
theorem dJ9_max_7cf53_6 : decode cJ9_max_7cf53 6 = .ok (.goto 4, 3) := by decide +kernel
theorem dJ9_max_7cf53_9 : decode cJ9_max_7cf53 9 = .ok (.iload_n 1, 1) := by decide +kernel
theorem dJ9_max_7cf53_10 : decode cJ9_max_7cf53 10 = .ok (.ireturn, 1) := by decide +kernel
theorem dJ9_min_7cf53_0 : decode cJ9_min_7cf53 0 = .ok (.iload_n 0, 1) := by decide +kernel
theorem dJ9_min_7cf53_1 : decode cJ9_min_7cf53 1 = .ok (.iload_n 1, 1) := by decide +kernel
theorem dJ9_min_7cf53_2 : decode cJ9_min_7cf53 2 = .ok (.if_icmp .gt 7, 3) := by decide +kernel
theorem dJ9_min_7cf53_5 : decode cJ9_min_7cf53 5 = .ok (.iload_n 0, 1) := by decide +kernel
theorem dJ9_min_7cf53_6 : decode cJ9_min_7cf53 6 = .ok (.goto 4, 3) := by decide +kernel
theorem dJ9_min_7cf53_9 : decode cJ9_min_7cf53 9 = .ok (.iload_n 1, 1) := by decide +kernel
theorem dJ9_min_7cf53_10 : decode cJ9_min_7cf53 10 = .ok (.ireturn, 1) := by decide +kernel
theorem dL_earn_0 : decode cL_earn 0 = .ok (.aload_n 2, 1) := by decide +kernel
theorem dL_earn_1 : decode cL_earn 1 = .ok (.iconst 0, 1) := by decide +kernel
theorem dL_earn_2 : decode cL_earn 2 = .ok (.aload_n 0, 1) := by decide +kernel
theorem dL_earn_3 : decode cL_earn 3 = .ok (.iload_n 1, 1) := by decide +kernel
theorem dL_earn_4 : decode cL_earn 4 = .ok (.invokevirtual 7, 3) := by decide +kernel
theorem dL_earn_7 : decode cL_earn 7 = .ok (.i2l, 1) := by decide +kernel
theorem dL_earn_8 : decode cL_earn 8 = .ok (.lastore, 1) := by decide +kernel
theorem dL_earn_9 : decode cL_earn 9 = .ok (.goto 9, 3) := by decide +kernel
theorem dL_earn_12 : decode cL_earn 12 = .ok (.astore_n 3, 1) := by decide +kernel
theorem dL_earn_13 : decode cL_earn 13 = .ok (.iconst 1, 1) := by decide +kernel
theorem dL_earn_14 : decode cL_earn 14 = .ok (.ireturn, 1) := by decide +kernel
theorem dL_earn_15 : decode cL_earn 15 = .ok (.astore_n 3, 1) := by decide +kernel
theorem dL_earn_16 : decode cL_earn 16 = .ok (.iconst 2, 1) := by decide +kernel
theorem dL_earn_17 : decode cL_earn 17 = .ok (.ireturn, 1) := by decide +kernel
theorem dL_earn_18 : decode cL_earn 18 = .ok (.iconst 0, 1) := by decide +kernel
theorem dL_earn_19 : decode cL_earn 19 = .ok (.ireturn, 1) := by decide +kernel
theorem dL_load_0 : decode cL_load 0 = .ok (.aload_n 3, 1) := by decide +kernel
theorem dL_load_1 : decode cL_load 1 = .ok (.iconst 0, 1) := by decide +kernel
theorem dL_load_2 : decode cL_load 2 = .ok (.aload_n 0, 1) := by decide +kernel
theorem dL_load_3 : decode cL_load 3 = .ok (.iload_n 1, 1) := by decide +kernel
theorem dL_load_4 : decode cL_load 4 = .ok (.iload_n 2, 1) := by decide +kernel
theorem dL_load_5 : decode cL_load 5 = .ok (.invokevirtual 17, 3) := by decide +kernel
theorem dL_load_8 : decode cL_load 8 = .ok (.i2l, 1) := by decide +kernel
theorem dL_load_9 : decode cL_load 9 = .ok (.lastore, 1) := by decide +kernel
theorem dL_load_10 : decode cL_load 10 = .ok (.goto 11, 3) := by decide +kernel
theorem dL_load_13 : decode cL_load 13 = .ok (.astore 4, 2) := by decide +kernel
theorem dL_load_15 : decode cL_load 15 = .ok (.iconst 1, 1) := by decide +kernel
theorem dL_load_16 : decode cL_load 16 = .ok (.ireturn, 1) := by decide +kernel
theorem dL_load_17 : decode cL_load 17 = .ok (.astore 4, 2) := by decide +kernel
theorem dL_load_19 : decode cL_load 19 = .ok (.iconst 2, 1) := by decide +kernel
theorem dL_load_20 : decode cL_load 20 = .ok (.ireturn, 1) := by decide +kernel
theorem dL_load_21 : decode cL_load 21 = .ok (.iconst 0, 1) := by decide +kernel
theorem dL_load_22 : decode cL_load 22 = .ok (.ireturn, 1) := by decide +kernel
theorem dL_set_0 : decode cL_set 0 = .ok (.aload_n 3, 1) := by decide +kernel
theorem dL_set_1 : decode cL_set 1 = .ok (.iconst 0, 1) := by decide +kernel
theorem dL_set_2 : decode cL_set 2 = .ok (.aload_n 0, 1) := by decide +kernel
theorem dL_set_3 : decode cL_set 3 = .ok (.iload_n 1, 1) := by decide +kernel
theorem dL_set_4 : decode cL_set 4 = .ok (.iload_n 2, 1) := by decide +kernel
theorem dL_set_5 : decode cL_set 5 = .ok (.invokevirtual 23, 3) := by decide +kernel
theorem dL_set_8 : decode cL_set 8 = .ok (.i2l, 1) := by decide +kernel
theorem dL_set_9 : decode cL_set 9 = .ok (.lastore, 1) := by decide +kernel
theorem dL_set_10 : decode cL_set 10 = .ok (.goto 11, 3) := by decide +kernel
theorem dL_set_13 : decode cL_set 13 = .ok (.astore 4, 2) := by decide +kernel
theorem dL_set_15 : decode cL_set 15 = .ok (.iconst 1, 1) := by decide +kernel
theorem dL_set_16 : decode cL_set 16 = .ok (.ireturn, 1) := by decide +kernel
theorem dL_set_17 : decode cL_set 17 = .ok (.astore 4, 2) := by decide +kernel
theorem dL_set_19 : decode cL_set 19 = .ok (.iconst 2, 1) := by decide +kernel
theorem dL_set_20 : decode cL_set 20 = .ok (.ireturn, 1) := by decide +kernel
theorem dL_set_21 : decode cL_set 21 = .ok (.iconst 0, 1) := by decide +kernel
theorem dL_set_22 : decode cL_set 22 = .ok (.ireturn, 1) := by decide +kernel
theorem dL_step_0 : decode cL_step 0 = .ok (.aload_n 3, 1) := by decide +kernel
theorem dL_step_1 : decode cL_step 1 = .ok (.iconst 0, 1) := by decide +kernel
theorem dL_step_2 : decode cL_step 2 = .ok (.aload_n 0, 1) := by decide +kernel
theorem dL_step_3 : decode cL_step 3 = .ok (.iload_n 1, 1) := by decide +kernel
theorem dL_step_4 : decode cL_step 4 = .ok (.iload_n 2, 1) := by decide +kernel
theorem dL_step_5 : decode cL_step 5 = .ok (.invokevirtual 26, 3) := by decide +kernel
theorem dL_step_8 : decode cL_step 8 = .ok (.i2l, 1) := by decide +kernel
theorem dL_step_9 : decode cL_step 9 = .ok (.lastore, 1) := by decide +kernel
theorem dL_step_10 : decode cL_step 10 = .ok (.goto 15, 3) := by decide +kernel
theorem dL_step_13 : decode cL_step 13 = .ok (.astore 4, 2) := by decide +kernel
theorem dL_step_15 : decode cL_step 15 = .ok (.iconst 1, 1) := by decide +kernel
theorem dL_step_16 : decode cL_step 16 = .ok (.ireturn, 1) := by decide +kernel
theorem dL_step_17 : decode cL_step 17 = .ok (.astore 4, 2) := by decide +kernel
theorem dL_step_19 : decode cL_step 19 = .ok (.iconst 2, 1) := by decide +kernel
theorem dL_step_20 : decode cL_step 20 = .ok (.ireturn, 1) := by decide +kernel
theorem dL_step_21 : decode cL_step 21 = .ok (.astore 4, 2) := by decide +kernel
theorem dL_step_23 : decode cL_step 23 = .ok (.iconst 3, 1) := by decide +kernel
theorem dL_step_24 : decode cL_step 24 = .ok (.ireturn, 1) := by decide +kernel
theorem dL_step_25 : decode cL_step 25 = .ok (.iconst 0, 1) := by decide +kernel
theorem dL_step_26 : decode cL_step 26 = .ok (.ireturn, 1) := by decide +kernel
theorem dL_go_0 : decode cL_go 0 = .ok (.aload_n 3, 1) := by decide +kernel
theorem dL_go_1 : decode cL_go 1 = .ok (.iconst 0, 1) := by decide +kernel
theorem dL_go_2 : decode cL_go 2 = .ok (.aload_n 0, 1) := by decide +kernel
theorem dL_go_3 : decode cL_go 3 = .ok (.iload_n 1, 1) := by decide +kernel
theorem dL_go_4 : decode cL_go 4 = .ok (.iload_n 2, 1) := by decide +kernel
theorem dL_go_5 : decode cL_go 5 = .ok (.invokevirtual 29, 3) := by decide +kernel
theorem dL_go_8 : decode cL_go 8 = .ok (.i2l, 1) := by decide +kernel
theorem dL_go_9 : decode cL_go 9 = .ok (.lastore, 1) := by decide +kernel
theorem dL_go_10 : decode cL_go 10 = .ok (.goto 15, 3) := by decide +kernel
theorem dL_go_13 : decode cL_go 13 = .ok (.astore 4, 2) := by decide +kernel
theorem dL_go_15 : decode cL_go 15 = .ok (.iconst 1, 1) := by decide +kernel
theorem dL_go_16 : decode cL_go 16 = .ok (.ireturn, 1) := by decide +kernel
theorem dL_go_17 : decode cL_go 17 = .ok (.astore 4, 2) := by decide +kernel
theorem dL_go_19 : decode cL_go 19 = .ok (.iconst 2, 1) := by decide +kernel
theorem dL_go_20 : decode cL_go 20 = .ok (.ireturn, 1) := by decide +kernel
theorem dL_go_21 : decode cL_go 21 = .ok (.astore 4, 2) := by decide +kernel
theorem dL_go_23 : decode cL_go 23 = .ok (.iconst 3, 1) := by decide +kernel
theorem dL_go_24 : decode cL_go 24 = .ok (.ireturn, 1) := by decide +kernel
theorem dL_go_25 : decode cL_go 25 = .ok (.iconst 0, 1) := by decide +kernel
theorem dL_go_26 : decode cL_go 26 = .ok (.ireturn, 1) := by decide +kernel
theorem dL_home_0 : decode cL_home 0 = .ok (.aload_n 2, 1) := by decide +kernel
theorem dL_home_1 : decode cL_home 1 = .ok (.iconst 0, 1) := by decide +kernel
theorem dL_home_2 : decode cL_home 2 = .ok (.aload_n 0, 1) := by decide +kernel
theorem dL_home_3 : decode cL_home 3 = .ok (.iload_n 1, 1) := by decide +kernel
theorem dL_home_4 : decode cL_home 4 = .ok (.invokevirtual 32, 3) := by decide +kernel
theorem dL_home_7 : decode cL_home 7 = .ok (.i2l, 1) := by decide +kernel
theorem dL_home_8 : decode cL_home 8 = .ok (.lastore, 1) := by decide +kernel
theorem dL_home_9 : decode cL_home 9 = .ok (.goto 6, 3) := by decide +kernel
theorem dL_home_12 : decode cL_home 12 = .ok (.astore_n 3, 1) := by decide +kernel
theorem dL_home_13 : decode cL_home 13 = .ok (.iconst 1, 1) := by decide +kernel
theorem dL_home_14 : decode cL_home 14 = .ok (.ireturn, 1) := by decide +kernel
theorem dL_home_15 : decode cL_home 15 = .ok (.iconst 0, 1) := by decide +kernel
theorem dL_home_16 : decode cL_home 16 = .ok (.ireturn, 1) := by decide +kernel
theorem dL_grease_0 : decode cL_grease 0 = .ok (.aload_n 2, 1) := by decide +kernel
theorem dL_grease_1 : decode cL_grease 1 = .ok (.iconst 0, 1) := by decide +kernel
theorem dL_grease_2 : decode cL_grease 2 = .ok (.aload_n 0, 1) := by decide +kernel
theorem dL_grease_3 : decode cL_grease 3 = .ok (.iload_n 1, 1) := by decide +kernel
theorem dL_grease_4 : decode cL_grease 4 = .ok (.invokevirtual 35, 3) := by decide +kernel
theorem dL_grease_7 : decode cL_grease 7 = .ok (.i2l, 1) := by decide +kernel
theorem dL_grease_8 : decode cL_grease 8 = .ok (.lastore, 1) := by decide +kernel
theorem dL_grease_9 : decode cL_grease 9 = .ok (.goto 9, 3) := by decide +kernel
theorem dL_grease_12 : decode cL_grease 12 = .ok (.astore_n 3, 1) := by decide +kernel
theorem dL_grease_13 : decode cL_grease 13 = .ok (.iconst 1, 1) := by decide +kernel
theorem dL_grease_14 : decode cL_grease 14 = .ok (.ireturn, 1) := by decide +kernel
theorem dL_grease_15 : decode cL_grease 15 = .ok (.astore_n 3, 1) := by decide +kernel
theorem dL_grease_16 : decode cL_grease 16 = .ok (.iconst 2, 1) := by decide +kernel
theorem dL_grease_17 : decode cL_grease 17 = .ok (.ireturn, 1) := by decide +kernel
theorem dL_grease_18 : decode cL_grease 18 = .ok (.iconst 0, 1) := by decide +kernel
theorem dL_grease_19 : decode cL_grease 19 = .ok (.ireturn, 1) := by decide +kernel
theorem dL_mend_0 : decode cL_mend 0 = .ok (.aload_n 3, 1) := by decide +kernel
theorem dL_mend_1 : decode cL_mend 1 = .ok (.iconst 0, 1) := by decide +kernel
theorem dL_mend_2 : decode cL_mend 2 = .ok (.aload_n 0, 1) := by decide +kernel
theorem dL_mend_3 : decode cL_mend 3 = .ok (.iload_n 1, 1) := by decide +kernel
theorem dL_mend_4 : decode cL_mend 4 = .ok (.iload_n 2, 1) := by decide +kernel
theorem dL_mend_5 : decode cL_mend 5 = .ok (.invokevirtual 38, 3) := by decide +kernel
theorem dL_mend_8 : decode cL_mend 8 = .ok (.i2l, 1) := by decide +kernel
theorem dL_mend_9 : decode cL_mend 9 = .ok (.lastore, 1) := by decide +kernel
theorem dL_mend_10 : decode cL_mend 10 = .ok (.goto 11, 3) := by decide +kernel
theorem dL_mend_13 : decode cL_mend 13 = .ok (.astore 4, 2) := by decide +kernel
theorem dL_mend_15 : decode cL_mend 15 = .ok (.iconst 1, 1) := by decide +kernel
theorem dL_mend_16 : decode cL_mend 16 = .ok (.ireturn, 1) := by decide +kernel
theorem dL_mend_17 : decode cL_mend 17 = .ok (.astore 4, 2) := by decide +kernel
theorem dL_mend_19 : decode cL_mend 19 = .ok (.iconst 2, 1) := by decide +kernel
theorem dL_mend_20 : decode cL_mend 20 = .ok (.ireturn, 1) := by decide +kernel
theorem dL_mend_21 : decode cL_mend 21 = .ok (.iconst 0, 1) := by decide +kernel
theorem dL_mend_22 : decode cL_mend 22 = .ok (.ireturn, 1) := by decide +kernel
theorem dL_append_0 : decode cL_append 0 = .ok (.aload_n 2, 1) := by decide +kernel
theorem dL_append_1 : decode cL_append 1 = .ok (.iconst 0, 1) := by decide +kernel
theorem dL_append_2 : decode cL_append 2 = .ok (.aload_n 0, 1) := by decide +kernel
theorem dL_append_3 : decode cL_append 3 = .ok (.iload_n 1, 1) := by decide +kernel
theorem dL_append_4 : decode cL_append 4 = .ok (.invokevirtual 41, 3) := by decide +kernel
theorem dL_append_7 : decode cL_append 7 = .ok (.i2l, 1) := by decide +kernel
theorem dL_append_8 : decode cL_append 8 = .ok (.lastore, 1) := by decide +kernel
theorem dL_append_9 : decode cL_append 9 = .ok (.goto 9, 3) := by decide +kernel
theorem dL_append_12 : decode cL_append 12 = .ok (.astore_n 3, 1) := by decide +kernel
theorem dL_append_13 : decode cL_append 13 = .ok (.iconst 1, 1) := by decide +kernel
theorem dL_append_14 : decode cL_append 14 = .ok (.ireturn, 1) := by decide +kernel
theorem dL_append_15 : decode cL_append 15 = .ok (.astore_n 3, 1) := by decide +kernel
theorem dL_append_16 : decode cL_append 16 = .ok (.iconst 2, 1) := by decide +kernel
theorem dL_append_17 : decode cL_append 17 = .ok (.ireturn, 1) := by decide +kernel
theorem dL_append_18 : decode cL_append 18 = .ok (.iconst 0, 1) := by decide +kernel
theorem dL_append_19 : decode cL_append 19 = .ok (.ireturn, 1) := by decide +kernel
theorem dL_run_0 : decode cL_run 0 = .ok (.aload_n 1, 1) := by decide +kernel
theorem dL_run_1 : decode cL_run 1 = .ok (.iconst 0, 1) := by decide +kernel
theorem dL_run_2 : decode cL_run 2 = .ok (.aload_n 0, 1) := by decide +kernel
theorem dL_run_3 : decode cL_run 3 = .ok (.invokevirtual 44, 3) := by decide +kernel
theorem dL_run_6 : decode cL_run 6 = .ok (.i2l, 1) := by decide +kernel
theorem dL_run_7 : decode cL_run 7 = .ok (.lastore, 1) := by decide +kernel
theorem dL_run_8 : decode cL_run 8 = .ok (.goto 6, 3) := by decide +kernel
theorem dL_run_11 : decode cL_run 11 = .ok (.astore_n 2, 1) := by decide +kernel
theorem dL_run_12 : decode cL_run 12 = .ok (.iconst 1, 1) := by decide +kernel
theorem dL_run_13 : decode cL_run 13 = .ok (.ireturn, 1) := by decide +kernel
theorem dL_run_14 : decode cL_run 14 = .ok (.iconst 0, 1) := by decide +kernel
theorem dL_run_15 : decode cL_run 15 = .ok (.ireturn, 1) := by decide +kernel
theorem dL_undo_0 : decode cL_undo 0 = .ok (.aload_n 1, 1) := by decide +kernel
theorem dL_undo_1 : decode cL_undo 1 = .ok (.iconst 0, 1) := by decide +kernel
theorem dL_undo_2 : decode cL_undo 2 = .ok (.aload_n 0, 1) := by decide +kernel
theorem dL_undo_3 : decode cL_undo 3 = .ok (.invokevirtual 48, 3) := by decide +kernel
theorem dL_undo_6 : decode cL_undo 6 = .ok (.i2l, 1) := by decide +kernel
theorem dL_undo_7 : decode cL_undo 7 = .ok (.lastore, 1) := by decide +kernel
theorem dL_undo_8 : decode cL_undo 8 = .ok (.goto 6, 3) := by decide +kernel
theorem dL_undo_11 : decode cL_undo 11 = .ok (.astore_n 2, 1) := by decide +kernel
theorem dL_undo_12 : decode cL_undo 12 = .ok (.iconst 1, 1) := by decide +kernel
theorem dL_undo_13 : decode cL_undo 13 = .ok (.ireturn, 1) := by decide +kernel
theorem dL_undo_14 : decode cL_undo 14 = .ok (.iconst 0, 1) := by decide +kernel
theorem dL_undo_15 : decode cL_undo 15 = .ok (.ireturn, 1) := by decide +kernel
theorem dL_axis_0 : decode cL_axis 0 = .ok (.aload_n 3, 1) := by decide +kernel
theorem dL_axis_1 : decode cL_axis 1 = .ok (.iconst 0, 1) := by decide +kernel
theorem dL_axis_2 : decode cL_axis 2 = .ok (.aload_n 0, 1) := by decide +kernel
theorem dL_axis_3 : decode cL_axis 3 = .ok (.iload_n 1, 1) := by decide +kernel
theorem dL_axis_4 : decode cL_axis 4 = .ok (.iload_n 2, 1) := by decide +kernel
theorem dL_axis_5 : decode cL_axis 5 = .ok (.invokevirtual 51, 3) := by decide +kernel
theorem dL_axis_8 : decode cL_axis 8 = .ok (.i2l, 1) := by decide +kernel
theorem dL_axis_9 : decode cL_axis 9 = .ok (.lastore, 1) := by decide +kernel
theorem dL_axis_10 : decode cL_axis 10 = .ok (.goto 11, 3) := by decide +kernel
theorem dL_axis_13 : decode cL_axis 13 = .ok (.astore 4, 2) := by decide +kernel
theorem dL_axis_15 : decode cL_axis 15 = .ok (.iconst 1, 1) := by decide +kernel
theorem dL_axis_16 : decode cL_axis 16 = .ok (.ireturn, 1) := by decide +kernel
theorem dL_axis_17 : decode cL_axis 17 = .ok (.astore 4, 2) := by decide +kernel
theorem dL_axis_19 : decode cL_axis 19 = .ok (.iconst 2, 1) := by decide +kernel
theorem dL_axis_20 : decode cL_axis 20 = .ok (.ireturn, 1) := by decide +kernel
theorem dL_axis_21 : decode cL_axis 21 = .ok (.iconst 0, 1) := by decide +kernel
theorem dL_axis_22 : decode cL_axis 22 = .ok (.ireturn, 1) := by decide +kernel
theorem dL_wear_0 : decode cL_wear 0 = .ok (.aload_n 3, 1) := by decide +kernel
theorem dL_wear_1 : decode cL_wear 1 = .ok (.iconst 0, 1) := by decide +kernel
theorem dL_wear_2 : decode cL_wear 2 = .ok (.aload_n 0, 1) := by decide +kernel
theorem dL_wear_3 : decode cL_wear 3 = .ok (.iload_n 1, 1) := by decide +kernel
theorem dL_wear_4 : decode cL_wear 4 = .ok (.iload_n 2, 1) := by decide +kernel
theorem dL_wear_5 : decode cL_wear 5 = .ok (.invokevirtual 54, 3) := by decide +kernel
theorem dL_wear_8 : decode cL_wear 8 = .ok (.i2l, 1) := by decide +kernel
theorem dL_wear_9 : decode cL_wear 9 = .ok (.lastore, 1) := by decide +kernel
theorem dL_wear_10 : decode cL_wear 10 = .ok (.goto 7, 3) := by decide +kernel
theorem dL_wear_13 : decode cL_wear 13 = .ok (.astore 4, 2) := by decide +kernel
theorem dL_wear_15 : decode cL_wear 15 = .ok (.iconst 1, 1) := by decide +kernel
theorem dL_wear_16 : decode cL_wear 16 = .ok (.ireturn, 1) := by decide +kernel
theorem dL_wear_17 : decode cL_wear 17 = .ok (.iconst 0, 1) := by decide +kernel
theorem dL_wear_18 : decode cL_wear 18 = .ok (.ireturn, 1) := by decide +kernel
theorem dL_count_0 : decode cL_count 0 = .ok (.aload_n 2, 1) := by decide +kernel
theorem dL_count_1 : decode cL_count 1 = .ok (.iconst 0, 1) := by decide +kernel
theorem dL_count_2 : decode cL_count 2 = .ok (.aload_n 0, 1) := by decide +kernel
theorem dL_count_3 : decode cL_count 3 = .ok (.iload_n 1, 1) := by decide +kernel
theorem dL_count_4 : decode cL_count 4 = .ok (.invokevirtual 57, 3) := by decide +kernel
theorem dL_count_7 : decode cL_count 7 = .ok (.i2l, 1) := by decide +kernel
theorem dL_count_8 : decode cL_count 8 = .ok (.lastore, 1) := by decide +kernel
theorem dL_count_9 : decode cL_count 9 = .ok (.goto 6, 3) := by decide +kernel
theorem dL_count_12 : decode cL_count 12 = .ok (.astore_n 3, 1) := by decide +kernel
theorem dL_count_13 : decode cL_count 13 = .ok (.iconst 1, 1) := by decide +kernel
theorem dL_count_14 : decode cL_count 14 = .ok (.ireturn, 1) := by decide +kernel
theorem dL_count_15 : decode cL_count 15 = .ok (.iconst 0, 1) := by decide +kernel
theorem dL_count_16 : decode cL_count 16 = .ok (.ireturn, 1) := by decide +kernel
theorem dL_setting_0 : decode cL_setting 0 = .ok (.aload_n 2, 1) := by decide +kernel
theorem dL_setting_1 : decode cL_setting 1 = .ok (.iconst 0, 1) := by decide +kernel
theorem dL_setting_2 : decode cL_setting 2 = .ok (.aload_n 0, 1) := by decide +kernel
theorem dL_setting_3 : decode cL_setting 3 = .ok (.iload_n 1, 1) := by decide +kernel
theorem dL_setting_4 : decode cL_setting 4 = .ok (.invokevirtual 60, 3) := by decide +kernel
theorem dL_setting_7 : decode cL_setting 7 = .ok (.i2l, 1) := by decide +kernel
theorem dL_setting_8 : decode cL_setting 8 = .ok (.lastore, 1) := by decide +kernel
theorem dL_setting_9 : decode cL_setting 9 = .ok (.goto 6, 3) := by decide +kernel
theorem dL_setting_12 : decode cL_setting 12 = .ok (.astore_n 3, 1) := by decide +kernel
theorem dL_setting_13 : decode cL_setting 13 = .ok (.iconst 1, 1) := by decide +kernel
theorem dL_setting_14 : decode cL_setting 14 = .ok (.ireturn, 1) := by decide +kernel
theorem dL_setting_15 : decode cL_setting 15 = .ok (.iconst 0, 1) := by decide +kernel
theorem dL_setting_16 : decode cL_setting 16 = .ok (.ireturn, 1) := by decide +kernel
theorem dL_toll_0 : decode cL_toll 0 = .ok (.aload_n 3, 1) := by decide +kernel
theorem dL_toll_1 : decode cL_toll 1 = .ok (.iconst 0, 1) := by decide +kernel
theorem dL_toll_2 : decode cL_toll 2 = .ok (.aload_n 0, 1) := by decide +kernel
theorem dL_toll_3 : decode cL_toll 3 = .ok (.iload_n 1, 1) := by decide +kernel
theorem dL_toll_4 : decode cL_toll 4 = .ok (.iload_n 2, 1) := by decide +kernel
theorem dL_toll_5 : decode cL_toll 5 = .ok (.invokevirtual 63, 3) := by decide +kernel
theorem dL_toll_8 : decode cL_toll 8 = .ok (.i2l, 1) := by decide +kernel
theorem dL_toll_9 : decode cL_toll 9 = .ok (.lastore, 1) := by decide +kernel
theorem dL_toll_10 : decode cL_toll 10 = .ok (.goto 7, 3) := by decide +kernel
theorem dL_toll_13 : decode cL_toll 13 = .ok (.astore 4, 2) := by decide +kernel
theorem dL_toll_15 : decode cL_toll 15 = .ok (.iconst 1, 1) := by decide +kernel
theorem dL_toll_16 : decode cL_toll 16 = .ok (.ireturn, 1) := by decide +kernel
theorem dL_toll_17 : decode cL_toll 17 = .ok (.iconst 0, 1) := by decide +kernel
theorem dL_toll_18 : decode cL_toll 18 = .ok (.ireturn, 1) := by decide +kernel
theorem dL_slips_0 : decode cL_slips 0 = .ok (.aload_n 3, 1) := by decide +kernel
theorem dL_slips_1 : decode cL_slips 1 = .ok (.iconst 0, 1) := by decide +kernel
theorem dL_slips_2 : decode cL_slips 2 = .ok (.aload_n 0, 1) := by decide +kernel
theorem dL_slips_3 : decode cL_slips 3 = .ok (.iload_n 1, 1) := by decide +kernel
theorem dL_slips_4 : decode cL_slips 4 = .ok (.iload_n 2, 1) := by decide +kernel
theorem dL_slips_5 : decode cL_slips 5 = .ok (.invokevirtual 67, 3) := by decide +kernel
theorem dL_slips_8 : decode cL_slips 8 = .ok (.i2l, 1) := by decide +kernel
theorem dL_slips_9 : decode cL_slips 9 = .ok (.lastore, 1) := by decide +kernel
theorem dL_slips_10 : decode cL_slips 10 = .ok (.goto 7, 3) := by decide +kernel
theorem dL_slips_13 : decode cL_slips 13 = .ok (.astore 4, 2) := by decide +kernel
theorem dL_slips_15 : decode cL_slips 15 = .ok (.iconst 1, 1) := by decide +kernel
theorem dL_slips_16 : decode cL_slips 16 = .ok (.ireturn, 1) := by decide +kernel
theorem dL_slips_17 : decode cL_slips 17 = .ok (.iconst 0, 1) := by decide +kernel
theorem dL_slips_18 : decode cL_slips 18 = .ok (.ireturn, 1) := by decide +kernel
theorem dL_cost_0 : decode cL_cost 0 = .ok (.aload 4, 2) := by decide +kernel
theorem dL_cost_2 : decode cL_cost 2 = .ok (.iconst 0, 1) := by decide +kernel
theorem dL_cost_3 : decode cL_cost 3 = .ok (.aload_n 0, 1) := by decide +kernel
theorem dL_cost_4 : decode cL_cost 4 = .ok (.iload_n 1, 1) := by decide +kernel
theorem dL_cost_5 : decode cL_cost 5 = .ok (.iload_n 2, 1) := by decide +kernel
theorem dL_cost_6 : decode cL_cost 6 = .ok (.iload_n 3, 1) := by decide +kernel
theorem dL_cost_7 : decode cL_cost 7 = .ok (.invokevirtual 70, 3) := by decide +kernel
theorem dL_cost_10 : decode cL_cost 10 = .ok (.i2l, 1) := by decide +kernel
theorem dL_cost_11 : decode cL_cost 11 = .ok (.lastore, 1) := by decide +kernel
theorem dL_cost_12 : decode cL_cost 12 = .ok (.goto 11, 3) := by decide +kernel
theorem dL_cost_15 : decode cL_cost 15 = .ok (.astore 5, 2) := by decide +kernel
theorem dL_cost_17 : decode cL_cost 17 = .ok (.iconst 1, 1) := by decide +kernel
theorem dL_cost_18 : decode cL_cost 18 = .ok (.ireturn, 1) := by decide +kernel
theorem dL_cost_19 : decode cL_cost 19 = .ok (.astore 5, 2) := by decide +kernel
theorem dL_cost_21 : decode cL_cost 21 = .ok (.iconst 2, 1) := by decide +kernel
theorem dL_cost_22 : decode cL_cost 22 = .ok (.ireturn, 1) := by decide +kernel
theorem dL_cost_23 : decode cL_cost 23 = .ok (.iconst 0, 1) := by decide +kernel
theorem dL_cost_24 : decode cL_cost 24 = .ok (.ireturn, 1) := by decide +kernel
theorem dL_ifHomed_0 : decode cL_ifHomed 0 = .ok (.aload_n 3, 1) := by decide +kernel
theorem dL_ifHomed_1 : decode cL_ifHomed 1 = .ok (.iconst 0, 1) := by decide +kernel
theorem dL_ifHomed_2 : decode cL_ifHomed 2 = .ok (.aload_n 0, 1) := by decide +kernel
theorem dL_ifHomed_3 : decode cL_ifHomed 3 = .ok (.iload_n 1, 1) := by decide +kernel
theorem dL_ifHomed_4 : decode cL_ifHomed 4 = .ok (.iload_n 2, 1) := by decide +kernel
theorem dL_ifHomed_5 : decode cL_ifHomed 5 = .ok (.invokevirtual 74, 3) := by decide +kernel
theorem dL_ifHomed_8 : decode cL_ifHomed 8 = .ok (.i2l, 1) := by decide +kernel
theorem dL_ifHomed_9 : decode cL_ifHomed 9 = .ok (.lastore, 1) := by decide +kernel
theorem dL_ifHomed_10 : decode cL_ifHomed 10 = .ok (.goto 11, 3) := by decide +kernel
theorem dL_ifHomed_13 : decode cL_ifHomed 13 = .ok (.astore 4, 2) := by decide +kernel
theorem dL_ifHomed_15 : decode cL_ifHomed 15 = .ok (.iconst 1, 1) := by decide +kernel
theorem dL_ifHomed_16 : decode cL_ifHomed 16 = .ok (.ireturn, 1) := by decide +kernel
theorem dL_ifHomed_17 : decode cL_ifHomed 17 = .ok (.astore 4, 2) := by decide +kernel
theorem dL_ifHomed_19 : decode cL_ifHomed 19 = .ok (.iconst 2, 1) := by decide +kernel
theorem dL_ifHomed_20 : decode cL_ifHomed 20 = .ok (.ireturn, 1) := by decide +kernel
theorem dL_ifHomed_21 : decode cL_ifHomed 21 = .ok (.iconst 0, 1) := by decide +kernel
theorem dL_ifHomed_22 : decode cL_ifHomed 22 = .ok (.ireturn, 1) := by decide +kernel
theorem dL_reach_0 : decode cL_reach 0 = .ok (.aload_n 3, 1) := by decide +kernel
theorem dL_reach_1 : decode cL_reach 1 = .ok (.iconst 0, 1) := by decide +kernel
theorem dL_reach_2 : decode cL_reach 2 = .ok (.aload_n 0, 1) := by decide +kernel
theorem dL_reach_3 : decode cL_reach 3 = .ok (.iload_n 1, 1) := by decide +kernel
theorem dL_reach_4 : decode cL_reach 4 = .ok (.iload_n 2, 1) := by decide +kernel
theorem dL_reach_5 : decode cL_reach 5 = .ok (.invokevirtual 77, 3) := by decide +kernel
theorem dL_reach_8 : decode cL_reach 8 = .ok (.i2l, 1) := by decide +kernel
theorem dL_reach_9 : decode cL_reach 9 = .ok (.lastore, 1) := by decide +kernel
theorem dL_reach_10 : decode cL_reach 10 = .ok (.goto 7, 3) := by decide +kernel
theorem dL_reach_13 : decode cL_reach 13 = .ok (.astore 4, 2) := by decide +kernel
theorem dL_reach_15 : decode cL_reach 15 = .ok (.iconst 1, 1) := by decide +kernel
theorem dL_reach_16 : decode cL_reach 16 = .ok (.ireturn, 1) := by decide +kernel
theorem dL_reach_17 : decode cL_reach 17 = .ok (.iconst 0, 1) := by decide +kernel
theorem dL_reach_18 : decode cL_reach 18 = .ok (.ireturn, 1) := by decide +kernel
theorem dL_couldBe_0 : decode cL_couldBe 0 = .ok (.aload_n 2, 1) := by decide +kernel
theorem dL_couldBe_1 : decode cL_couldBe 1 = .ok (.iconst 0, 1) := by decide +kernel
theorem dL_couldBe_2 : decode cL_couldBe 2 = .ok (.aload_n 0, 1) := by decide +kernel
theorem dL_couldBe_3 : decode cL_couldBe 3 = .ok (.iload_n 1, 1) := by decide +kernel
theorem dL_couldBe_4 : decode cL_couldBe 4 = .ok (.invokevirtual 80, 3) := by decide +kernel
theorem dL_couldBe_7 : decode cL_couldBe 7 = .ok (.i2l, 1) := by decide +kernel
theorem dL_couldBe_8 : decode cL_couldBe 8 = .ok (.lastore, 1) := by decide +kernel
theorem dL_couldBe_9 : decode cL_couldBe 9 = .ok (.goto 6, 3) := by decide +kernel
theorem dL_couldBe_12 : decode cL_couldBe 12 = .ok (.astore_n 3, 1) := by decide +kernel
theorem dL_couldBe_13 : decode cL_couldBe 13 = .ok (.iconst 1, 1) := by decide +kernel
theorem dL_couldBe_14 : decode cL_couldBe 14 = .ok (.ireturn, 1) := by decide +kernel
theorem dL_couldBe_15 : decode cL_couldBe 15 = .ok (.iconst 0, 1) := by decide +kernel
theorem dL_couldBe_16 : decode cL_couldBe 16 = .ok (.ireturn, 1) := by decide +kernel
theorem dL_worst_0 : decode cL_worst 0 = .ok (.aload_n 3, 1) := by decide +kernel
theorem dL_worst_1 : decode cL_worst 1 = .ok (.iconst 0, 1) := by decide +kernel
theorem dL_worst_2 : decode cL_worst 2 = .ok (.aload_n 0, 1) := by decide +kernel
theorem dL_worst_3 : decode cL_worst 3 = .ok (.iload_n 1, 1) := by decide +kernel
theorem dL_worst_4 : decode cL_worst 4 = .ok (.iload_n 2, 1) := by decide +kernel
theorem dL_worst_5 : decode cL_worst 5 = .ok (.invokevirtual 83, 3) := by decide +kernel
theorem dL_worst_8 : decode cL_worst 8 = .ok (.i2l, 1) := by decide +kernel
theorem dL_worst_9 : decode cL_worst 9 = .ok (.lastore, 1) := by decide +kernel
theorem dL_worst_10 : decode cL_worst 10 = .ok (.goto 11, 3) := by decide +kernel
theorem dL_worst_13 : decode cL_worst 13 = .ok (.astore 4, 2) := by decide +kernel
theorem dL_worst_15 : decode cL_worst 15 = .ok (.iconst 1, 1) := by decide +kernel
theorem dL_worst_16 : decode cL_worst 16 = .ok (.ireturn, 1) := by decide +kernel
theorem dL_worst_17 : decode cL_worst 17 = .ok (.astore 4, 2) := by decide +kernel
theorem dL_worst_19 : decode cL_worst 19 = .ok (.iconst 2, 1) := by decide +kernel
theorem dL_worst_20 : decode cL_worst 20 = .ok (.ireturn, 1) := by decide +kernel
theorem dL_worst_21 : decode cL_worst 21 = .ok (.iconst 0, 1) := by decide +kernel
theorem dL_worst_22 : decode cL_worst 22 = .ok (.ireturn, 1) := by decide +kernel
theorem dL_law_0 : decode cL_law 0 = .ok (.new 8, 3) := by decide +kernel
theorem dL_law_3 : decode cL_law 3 = .ok (.dup, 1) := by decide +kernel
theorem dL_law_4 : decode cL_law 4 = .ok (.invokespecial 86, 3) := by decide +kernel
theorem dL_law_7 : decode cL_law 7 = .ok (.astore_n 1, 1) := by decide +kernel
theorem dL_law_8 : decode cL_law 8 = .ok (.new 87, 3) := by decide +kernel
theorem dL_law_11 : decode cL_law 11 = .ok (.dup, 1) := by decide +kernel
theorem dL_law_12 : decode cL_law 12 = .ok (.invokespecial 89, 3) := by decide +kernel
theorem dL_law_15 : decode cL_law 15 = .ok (.astore_n 2, 1) := by decide +kernel
theorem dL_law_16 : decode cL_law 16 = .ok (.iconst 1, 1) := by decide +kernel
theorem dL_law_17 : decode cL_law 17 = .ok (.newarray .long, 2) := by decide +kernel
theorem dL_law_19 : decode cL_law 19 = .ok (.astore_n 3, 1) := by decide +kernel
theorem dL_law_20 : decode cL_law 20 = .ok (.iconst 0, 1) := by decide +kernel
theorem dL_law_21 : decode cL_law 21 = .ok (.istore 4, 2) := by decide +kernel
theorem dL_law_23 : decode cL_law 23 = .ok (.iload 4, 2) := by decide +kernel
theorem dL_law_25 : decode cL_law 25 = .ok (.aload_n 0, 1) := by decide +kernel
theorem dL_law_26 : decode cL_law 26 = .ok (.arraylength, 1) := by decide +kernel
theorem dL_law_27 : decode cL_law 27 = .ok (.iconst 4, 1) := by decide +kernel
theorem dL_law_28 : decode cL_law 28 = .ok (.isub, 1) := by decide +kernel
theorem dL_law_29 : decode cL_law 29 = .ok (.if_icmp .gt 1654, 3) := by decide +kernel
theorem dL_law_32 : decode cL_law 32 = .ok (.aload_n 0, 1) := by decide +kernel
theorem dL_law_33 : decode cL_law 33 = .ok (.iload 4, 2) := by decide +kernel
theorem dL_law_35 : decode cL_law 35 = .ok (.iaload, 1) := by decide +kernel
theorem dL_law_36 : decode cL_law 36 = .ok (.bipush 31, 2) := by decide +kernel
theorem dL_law_38 : decode cL_law 38 = .ok (.iand, 1) := by decide +kernel
theorem dL_law_39 : decode cL_law 39 = .ok (.tableswitch 1638 0 25 #[117, 173, 241, 309, 377, 445, 501, 557, 625, 681, 694, 707, 751, 795, 863, 931, 987, 1043, 1127, 1211, 1307, 1375, 1459, 1515, 1583, 1624], 117) := by decide +kernel
theorem dL_law_156 : decode cL_law 156 = .ok (.aload_n 1, 1) := by decide +kernel
theorem dL_law_157 : decode cL_law 157 = .ok (.aload_n 0, 1) := by decide +kernel
theorem dL_law_158 : decode cL_law 158 = .ok (.iload 4, 2) := by decide +kernel
theorem dL_law_160 : decode cL_law 160 = .ok (.iconst 1, 1) := by decide +kernel
theorem dL_law_161 : decode cL_law 161 = .ok (.iadd, 1) := by decide +kernel
theorem dL_law_162 : decode cL_law 162 = .ok (.iaload, 1) := by decide +kernel
theorem dL_law_163 : decode cL_law 163 = .ok (.aload_n 3, 1) := by decide +kernel
theorem dL_law_164 : decode cL_law 164 = .ok (.invokestatic 90, 3) := by decide +kernel
theorem dL_law_167 : decode cL_law 167 = .ok (.istore 5, 2) := by decide +kernel
theorem dL_law_169 : decode cL_law 169 = .ok (.aload_n 2, 1) := by decide +kernel
theorem dL_law_170 : decode cL_law 170 = .ok (.aload_n 0, 1) := by decide +kernel
theorem dL_law_171 : decode cL_law 171 = .ok (.iload 4, 2) := by decide +kernel
theorem dL_law_173 : decode cL_law 173 = .ok (.iconst 1, 1) := by decide +kernel
theorem dL_law_174 : decode cL_law 174 = .ok (.iadd, 1) := by decide +kernel
theorem dL_law_175 : decode cL_law 175 = .ok (.iaload, 1) := by decide +kernel
theorem dL_law_176 : decode cL_law 176 = .ok (.invokevirtual 95, 3) := by decide +kernel
theorem dL_law_179 : decode cL_law 179 = .ok (.istore 6, 2) := by decide +kernel
theorem dL_law_181 : decode cL_law 181 = .ok (.aload_n 2, 1) := by decide +kernel
theorem dL_law_182 : decode cL_law 182 = .ok (.invokevirtual 96, 3) := by decide +kernel
theorem dL_law_185 : decode cL_law 185 = .ok (.iload 5, 2) := by decide +kernel
theorem dL_law_187 : decode cL_law 187 = .ok (.if_icmp .eq 5, 3) := by decide +kernel
theorem dL_law_190 : decode cL_law 190 = .ok (.iconst 0, 1) := by decide +kernel
theorem dL_law_191 : decode cL_law 191 = .ok (.ireturn, 1) := by decide +kernel
theorem dL_law_192 : decode cL_law 192 = .ok (.iload 5, 2) := by decide +kernel
theorem dL_law_194 : decode cL_law 194 = .ok (.ifCond .ne 15, 3) := by decide +kernel
theorem dL_law_197 : decode cL_law 197 = .ok (.aload_n 3, 1) := by decide +kernel
theorem dL_law_198 : decode cL_law 198 = .ok (.iconst 0, 1) := by decide +kernel
theorem dL_law_199 : decode cL_law 199 = .ok (.laload, 1) := by decide +kernel
theorem dL_law_200 : decode cL_law 200 = .ok (.iload 6, 2) := by decide +kernel
theorem dL_law_202 : decode cL_law 202 = .ok (.i2l, 1) := by decide +kernel
theorem dL_law_203 : decode cL_law 203 = .ok (.lcmp, 1) := by decide +kernel
theorem dL_law_204 : decode cL_law 204 = .ok (.ifCond .eq 5, 3) := by decide +kernel
theorem dL_law_207 : decode cL_law 207 = .ok (.iconst 0, 1) := by decide +kernel
theorem dL_law_208 : decode cL_law 208 = .ok (.ireturn, 1) := by decide +kernel
theorem dL_law_209 : decode cL_law 209 = .ok (.goto 1468, 3) := by decide +kernel
theorem dL_law_212 : decode cL_law 212 = .ok (.aload_n 1, 1) := by decide +kernel
theorem dL_law_213 : decode cL_law 213 = .ok (.aload_n 0, 1) := by decide +kernel
theorem dL_law_214 : decode cL_law 214 = .ok (.iload 4, 2) := by decide +kernel
theorem dL_law_216 : decode cL_law 216 = .ok (.iconst 1, 1) := by decide +kernel
theorem dL_law_217 : decode cL_law 217 = .ok (.iadd, 1) := by decide +kernel
theorem dL_law_218 : decode cL_law 218 = .ok (.iaload, 1) := by decide +kernel
theorem dL_law_219 : decode cL_law 219 = .ok (.aload_n 0, 1) := by decide +kernel
theorem dL_law_220 : decode cL_law 220 = .ok (.iload 4, 2) := by decide +kernel
theorem dL_law_222 : decode cL_law 222 = .ok (.iconst 2, 1) := by decide +kernel
theorem dL_law_223 : decode cL_law 223 = .ok (.iadd, 1) := by decide +kernel
theorem dL_law_224 : decode cL_law 224 = .ok (.iaload, 1) := by decide +kernel
theorem dL_law_225 : decode cL_law 225 = .ok (.aload_n 3, 1) := by decide +kernel
theorem dL_law_226 : decode cL_law 226 = .ok (.invokestatic 99, 3) := by decide +kernel
theorem dL_law_229 : decode cL_law 229 = .ok (.istore 5, 2) := by decide +kernel
theorem dL_law_231 : decode cL_law 231 = .ok (.aload_n 2, 1) := by decide +kernel
theorem dL_law_232 : decode cL_law 232 = .ok (.aload_n 0, 1) := by decide +kernel
theorem dL_law_233 : decode cL_law 233 = .ok (.iload 4, 2) := by decide +kernel
theorem dL_law_235 : decode cL_law 235 = .ok (.iconst 1, 1) := by decide +kernel
theorem dL_law_236 : decode cL_law 236 = .ok (.iadd, 1) := by decide +kernel
theorem dL_law_237 : decode cL_law 237 = .ok (.iaload, 1) := by decide +kernel
theorem dL_law_238 : decode cL_law 238 = .ok (.aload_n 0, 1) := by decide +kernel
theorem dL_law_239 : decode cL_law 239 = .ok (.iload 4, 2) := by decide +kernel
theorem dL_law_241 : decode cL_law 241 = .ok (.iconst 2, 1) := by decide +kernel
theorem dL_law_242 : decode cL_law 242 = .ok (.iadd, 1) := by decide +kernel
theorem dL_law_243 : decode cL_law 243 = .ok (.iaload, 1) := by decide +kernel
theorem dL_law_244 : decode cL_law 244 = .ok (.invokevirtual 102, 3) := by decide +kernel
theorem dL_law_247 : decode cL_law 247 = .ok (.istore 6, 2) := by decide +kernel
theorem dL_law_249 : decode cL_law 249 = .ok (.aload_n 2, 1) := by decide +kernel
theorem dL_law_250 : decode cL_law 250 = .ok (.invokevirtual 96, 3) := by decide +kernel
theorem dL_law_253 : decode cL_law 253 = .ok (.iload 5, 2) := by decide +kernel
theorem dL_law_255 : decode cL_law 255 = .ok (.if_icmp .eq 5, 3) := by decide +kernel
theorem dL_law_258 : decode cL_law 258 = .ok (.iconst 0, 1) := by decide +kernel
theorem dL_law_259 : decode cL_law 259 = .ok (.ireturn, 1) := by decide +kernel
theorem dL_law_260 : decode cL_law 260 = .ok (.iload 5, 2) := by decide +kernel
theorem dL_law_262 : decode cL_law 262 = .ok (.ifCond .ne 15, 3) := by decide +kernel
theorem dL_law_265 : decode cL_law 265 = .ok (.aload_n 3, 1) := by decide +kernel
theorem dL_law_266 : decode cL_law 266 = .ok (.iconst 0, 1) := by decide +kernel
theorem dL_law_267 : decode cL_law 267 = .ok (.laload, 1) := by decide +kernel
theorem dL_law_268 : decode cL_law 268 = .ok (.iload 6, 2) := by decide +kernel
theorem dL_law_270 : decode cL_law 270 = .ok (.i2l, 1) := by decide +kernel
theorem dL_law_271 : decode cL_law 271 = .ok (.lcmp, 1) := by decide +kernel
theorem dL_law_272 : decode cL_law 272 = .ok (.ifCond .eq 5, 3) := by decide +kernel
theorem dL_law_275 : decode cL_law 275 = .ok (.iconst 0, 1) := by decide +kernel
