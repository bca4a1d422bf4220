theorem dX5_grease_27 : decode cX5_grease 27 = .ok (.aload_n 0, 1) := by decide +kernel
theorem dX5_grease_28 : decode cX5_grease 28 = .ok (.getfield 10, 3) := by decide +kernel
theorem dX5_grease_31 : decode cX5_grease 31 = .ok (.invokevirtual 61, 3) := by decide +kernel
theorem dX5_grease_34 : decode cX5_grease 34 = .ok (.aload_n 0, 1) := by decide +kernel
theorem dX5_grease_35 : decode cX5_grease 35 = .ok (.aload_n 2, 1) := by decide +kernel
theorem dX5_grease_36 : decode cX5_grease 36 = .ok (.invokevirtual 137, 3) := by decide +kernel
theorem dX5_grease_39 : decode cX5_grease 39 = .ok (.aload_n 0, 1) := by decide +kernel
theorem dX5_grease_40 : decode cX5_grease 40 = .ok (.getfield 10, 3) := by decide +kernel
theorem dX5_grease_43 : decode cX5_grease 43 = .ok (.getfield 52, 3) := by decide +kernel
theorem dX5_grease_46 : decode cX5_grease 46 = .ok (.ireturn, 1) := by decide +kernel
theorem dX5_mend_0 : decode cX5_mend 0 = .ok (.aload_n 0, 1) := by decide +kernel
theorem dX5_mend_1 : decode cX5_mend 1 = .ok (.iload_n 1, 1) := by decide +kernel
theorem dX5_mend_2 : decode cX5_mend 2 = .ok (.invokevirtual 65, 3) := by decide +kernel
theorem dX5_mend_5 : decode cX5_mend 5 = .ok (.astore_n 3, 1) := by decide +kernel
theorem dX5_mend_6 : decode cX5_mend 6 = .ok (.iload_n 2, 1) := by decide +kernel
theorem dX5_mend_7 : decode cX5_mend 7 = .ok (.invokestatic 141, 3) := by decide +kernel
theorem dX5_mend_10 : decode cX5_mend 10 = .ok (.aload_n 3, 1) := by decide +kernel
theorem dX5_mend_11 : decode cX5_mend 11 = .ok (.iload_n 2, 1) := by decide +kernel
theorem dX5_mend_12 : decode cX5_mend 12 = .ok (.invokevirtual 144, 3) := by decide +kernel
theorem dX5_mend_15 : decode cX5_mend 15 = .ok (.aload_n 0, 1) := by decide +kernel
theorem dX5_mend_16 : decode cX5_mend 16 = .ok (.getfield 10, 3) := by decide +kernel
theorem dX5_mend_19 : decode cX5_mend 19 = .ok (.getfield 84, 3) := by decide +kernel
theorem dX5_mend_22 : decode cX5_mend 22 = .ok (.getfield 147, 3) := by decide +kernel
theorem dX5_mend_25 : decode cX5_mend 25 = .ok (.imul, 1) := by decide +kernel
theorem dX5_mend_26 : decode cX5_mend 26 = .ok (.istore 4, 2) := by decide +kernel
theorem dX5_mend_28 : decode cX5_mend 28 = .ok (.aload_n 0, 1) := by decide +kernel
theorem dX5_mend_29 : decode cX5_mend 29 = .ok (.getfield 10, 3) := by decide +kernel
theorem dX5_mend_32 : decode cX5_mend 32 = .ok (.getfield 52, 3) := by decide +kernel
theorem dX5_mend_35 : decode cX5_mend 35 = .ok (.iload 4, 2) := by decide +kernel
theorem dX5_mend_37 : decode cX5_mend 37 = .ok (.if_icmp .ge 13, 3) := by decide +kernel
theorem dX5_mend_40 : decode cX5_mend 40 = .ok (.new 56, 3) := by decide +kernel
theorem dX5_mend_43 : decode cX5_mend 43 = .ok (.dup, 1) := by decide +kernel
theorem dX5_mend_44 : decode cX5_mend 44 = .ok (.ldc 150, 2) := by decide +kernel
theorem dX5_mend_46 : decode cX5_mend 46 = .ok (.invokespecial 60, 3) := by decide +kernel
theorem dX5_mend_49 : decode cX5_mend 49 = .ok (.athrow, 1) := by decide +kernel
theorem dX5_mend_50 : decode cX5_mend 50 = .ok (.aload_n 0, 1) := by decide +kernel
theorem dX5_mend_51 : decode cX5_mend 51 = .ok (.getfield 19, 3) := by decide +kernel
theorem dX5_mend_54 : decode cX5_mend 54 = .ok (.aload_n 0, 1) := by decide +kernel
theorem dX5_mend_55 : decode cX5_mend 55 = .ok (.getfield 10, 3) := by decide +kernel
theorem dX5_mend_58 : decode cX5_mend 58 = .ok (.invokevirtual 61, 3) := by decide +kernel
theorem dX5_mend_61 : decode cX5_mend 61 = .ok (.aload_n 0, 1) := by decide +kernel
theorem dX5_mend_62 : decode cX5_mend 62 = .ok (.getfield 10, 3) := by decide +kernel
theorem dX5_mend_65 : decode cX5_mend 65 = .ok (.iload 4, 2) := by decide +kernel
theorem dX5_mend_67 : decode cX5_mend 67 = .ok (.invokevirtual 152, 3) := by decide +kernel
theorem dX5_mend_70 : decode cX5_mend 70 = .ok (.aload_n 3, 1) := by decide +kernel
theorem dX5_mend_71 : decode cX5_mend 71 = .ok (.iload_n 2, 1) := by decide +kernel
theorem dX5_mend_72 : decode cX5_mend 72 = .ok (.iconst 0, 1) := by decide +kernel
theorem dX5_mend_73 : decode cX5_mend 73 = .ok (.invokevirtual 155, 3) := by decide +kernel
theorem dX5_mend_76 : decode cX5_mend 76 = .ok (.iload 4, 2) := by decide +kernel
theorem dX5_mend_78 : decode cX5_mend 78 = .ok (.ireturn, 1) := by decide +kernel
theorem dX5_append_0 : decode cX5_append 0 = .ok (.iload_n 1, 1) := by decide +kernel
theorem dX5_append_1 : decode cX5_append 1 = .ok (.bipush 33, 2) := by decide +kernel
theorem dX5_append_3 : decode cX5_append 3 = .ok (.if_icmp .lt 9, 3) := by decide +kernel
theorem dX5_append_6 : decode cX5_append 6 = .ok (.iload_n 1, 1) := by decide +kernel
theorem dX5_append_7 : decode cX5_append 7 = .ok (.bipush 126, 2) := by decide +kernel
theorem dX5_append_9 : decode cX5_append 9 = .ok (.if_icmp .le 13, 3) := by decide +kernel
theorem dX5_append_12 : decode cX5_append 12 = .ok (.new 45, 3) := by decide +kernel
theorem dX5_append_15 : decode cX5_append 15 = .ok (.dup, 1) := by decide +kernel
theorem dX5_append_16 : decode cX5_append 16 = .ok (.ldc 158, 2) := by decide +kernel
theorem dX5_append_18 : decode cX5_append 18 = .ok (.invokespecial 49, 3) := by decide +kernel
theorem dX5_append_21 : decode cX5_append 21 = .ok (.athrow, 1) := by decide +kernel
theorem dX5_append_22 : decode cX5_append 22 = .ok (.aload_n 0, 1) := by decide +kernel
theorem dX5_append_23 : decode cX5_append 23 = .ok (.getfield 41, 3) := by decide +kernel
theorem dX5_append_26 : decode cX5_append 26 = .ok (.ifCond .lt 15, 3) := by decide +kernel
theorem dX5_append_29 : decode cX5_append 29 = .ok (.aload_n 0, 1) := by decide +kernel
theorem dX5_append_30 : decode cX5_append 30 = .ok (.getfield 41, 3) := by decide +kernel
theorem dX5_append_33 : decode cX5_append 33 = .ok (.aload_n 0, 1) := by decide +kernel
theorem dX5_append_34 : decode cX5_append 34 = .ok (.getfield 37, 3) := by decide +kernel
theorem dX5_append_37 : decode cX5_append 37 = .ok (.arraylength, 1) := by decide +kernel
theorem dX5_append_38 : decode cX5_append 38 = .ok (.if_icmp .lt 13, 3) := by decide +kernel
theorem dX5_append_41 : decode cX5_append 41 = .ok (.new 56, 3) := by decide +kernel
theorem dX5_append_44 : decode cX5_append 44 = .ok (.dup, 1) := by decide +kernel
theorem dX5_append_45 : decode cX5_append 45 = .ok (.ldc 160, 2) := by decide +kernel
theorem dX5_append_47 : decode cX5_append 47 = .ok (.invokespecial 60, 3) := by decide +kernel
theorem dX5_append_50 : decode cX5_append 50 = .ok (.athrow, 1) := by decide +kernel
theorem dX5_append_51 : decode cX5_append 51 = .ok (.aload_n 0, 1) := by decide +kernel
theorem dX5_append_52 : decode cX5_append 52 = .ok (.getfield 37, 3) := by decide +kernel
theorem dX5_append_55 : decode cX5_append 55 = .ok (.aload_n 0, 1) := by decide +kernel
theorem dX5_append_56 : decode cX5_append 56 = .ok (.getfield 41, 3) := by decide +kernel
theorem dX5_append_59 : decode cX5_append 59 = .ok (.iload_n 1, 1) := by decide +kernel
theorem dX5_append_60 : decode cX5_append 60 = .ok (.iastore, 1) := by decide +kernel
theorem dX5_append_61 : decode cX5_append 61 = .ok (.aload_n 0, 1) := by decide +kernel
theorem dX5_append_62 : decode cX5_append 62 = .ok (.dup, 1) := by decide +kernel
theorem dX5_append_63 : decode cX5_append 63 = .ok (.getfield 41, 3) := by decide +kernel
theorem dX5_append_66 : decode cX5_append 66 = .ok (.iconst 1, 1) := by decide +kernel
theorem dX5_append_67 : decode cX5_append 67 = .ok (.iadd, 1) := by decide +kernel
theorem dX5_append_68 : decode cX5_append 68 = .ok (.putfield 41, 3) := by decide +kernel
theorem dX5_append_71 : decode cX5_append 71 = .ok (.aload_n 0, 1) := by decide +kernel
theorem dX5_append_72 : decode cX5_append 72 = .ok (.getfield 41, 3) := by decide +kernel
theorem dX5_append_75 : decode cX5_append 75 = .ok (.ireturn, 1) := by decide +kernel
theorem dX5_clearBuffer_0 : decode cX5_clearBuffer 0 = .ok (.aload_n 0, 1) := by decide +kernel
theorem dX5_clearBuffer_1 : decode cX5_clearBuffer 1 = .ok (.getfield 41, 3) := by decide +kernel
theorem dX5_clearBuffer_4 : decode cX5_clearBuffer 4 = .ok (.istore_n 1, 1) := by decide +kernel
theorem dX5_clearBuffer_5 : decode cX5_clearBuffer 5 = .ok (.aload_n 0, 1) := by decide +kernel
theorem dX5_clearBuffer_6 : decode cX5_clearBuffer 6 = .ok (.iconst 0, 1) := by decide +kernel
theorem dX5_clearBuffer_7 : decode cX5_clearBuffer 7 = .ok (.putfield 41, 3) := by decide +kernel
theorem dX5_clearBuffer_10 : decode cX5_clearBuffer 10 = .ok (.iload_n 1, 1) := by decide +kernel
theorem dX5_clearBuffer_11 : decode cX5_clearBuffer 11 = .ok (.ireturn, 1) := by decide +kernel
theorem dX5_firstError_0 : decode cX5_firstError 0 = .ok (.aload_n 0, 1) := by decide +kernel
theorem dX5_firstError_1 : decode cX5_firstError 1 = .ok (.invokevirtual 162, 3) := by decide +kernel
theorem dX5_firstError_4 : decode cX5_firstError 4 = .ok (.ireturn, 1) := by decide +kernel
theorem dX5_run_0 : decode cX5_run 0 = .ok (.aload_n 0, 1) := by decide +kernel
theorem dX5_run_1 : decode cX5_run 1 = .ok (.invokevirtual 166, 3) := by decide +kernel
theorem dX5_run_4 : decode cX5_run 4 = .ok (.ifCond .ne 13, 3) := by decide +kernel
theorem dX5_run_7 : decode cX5_run 7 = .ok (.new 45, 3) := by decide +kernel
theorem dX5_run_10 : decode cX5_run 10 = .ok (.dup, 1) := by decide +kernel
theorem dX5_run_11 : decode cX5_run 11 = .ok (.ldc 169, 2) := by decide +kernel
theorem dX5_run_13 : decode cX5_run 13 = .ok (.invokespecial 49, 3) := by decide +kernel
theorem dX5_run_16 : decode cX5_run 16 = .ok (.athrow, 1) := by decide +kernel
theorem dX5_run_17 : decode cX5_run 17 = .ok (.aload_n 0, 1) := by decide +kernel
theorem dX5_run_18 : decode cX5_run 18 = .ok (.getfield 19, 3) := by decide +kernel
theorem dX5_run_21 : decode cX5_run 21 = .ok (.aload_n 0, 1) := by decide +kernel
theorem dX5_run_22 : decode cX5_run 22 = .ok (.getfield 10, 3) := by decide +kernel
theorem dX5_run_25 : decode cX5_run 25 = .ok (.invokevirtual 61, 3) := by decide +kernel
theorem dX5_run_28 : decode cX5_run 28 = .ok (.aload_n 0, 1) := by decide +kernel
theorem dX5_run_29 : decode cX5_run 29 = .ok (.invokevirtual 171, 3) := by decide +kernel
theorem dX5_run_32 : decode cX5_run 32 = .ok (.istore_n 1, 1) := by decide +kernel
theorem dX5_run_33 : decode cX5_run 33 = .ok (.aload_n 0, 1) := by decide +kernel
theorem dX5_run_34 : decode cX5_run 34 = .ok (.iconst 0, 1) := by decide +kernel
theorem dX5_run_35 : decode cX5_run 35 = .ok (.putfield 41, 3) := by decide +kernel
theorem dX5_run_38 : decode cX5_run 38 = .ok (.iload_n 1, 1) := by decide +kernel
theorem dX5_run_39 : decode cX5_run 39 = .ok (.ireturn, 1) := by decide +kernel
theorem dX5_undo_0 : decode cX5_undo 0 = .ok (.aload_n 0, 1) := by decide +kernel
theorem dX5_undo_1 : decode cX5_undo 1 = .ok (.getfield 19, 3) := by decide +kernel
theorem dX5_undo_4 : decode cX5_undo 4 = .ok (.getfield 174, 3) := by decide +kernel
theorem dX5_undo_7 : decode cX5_undo 7 = .ok (.ifCond .ne 13, 3) := by decide +kernel
theorem dX5_undo_10 : decode cX5_undo 10 = .ok (.new 56, 3) := by decide +kernel
theorem dX5_undo_13 : decode cX5_undo 13 = .ok (.dup, 1) := by decide +kernel
theorem dX5_undo_14 : decode cX5_undo 14 = .ok (.ldc 177, 2) := by decide +kernel
theorem dX5_undo_16 : decode cX5_undo 16 = .ok (.invokespecial 60, 3) := by decide +kernel
theorem dX5_undo_19 : decode cX5_undo 19 = .ok (.athrow, 1) := by decide +kernel
theorem dX5_undo_20 : decode cX5_undo 20 = .ok (.aload_n 0, 1) := by decide +kernel
theorem dX5_undo_21 : decode cX5_undo 21 = .ok (.getfield 19, 3) := by decide +kernel
theorem dX5_undo_24 : decode cX5_undo 24 = .ok (.aload_n 0, 1) := by decide +kernel
theorem dX5_undo_25 : decode cX5_undo 25 = .ok (.getfield 10, 3) := by decide +kernel
theorem dX5_undo_28 : decode cX5_undo 28 = .ok (.invokevirtual 179, 3) := by decide +kernel
theorem dX5_undo_31 : decode cX5_undo 31 = .ok (.aload_n 0, 1) := by decide +kernel
theorem dX5_undo_32 : decode cX5_undo 32 = .ok (.getfield 19, 3) := by decide +kernel
theorem dX5_undo_35 : decode cX5_undo 35 = .ok (.getfield 174, 3) := by decide +kernel
theorem dX5_undo_38 : decode cX5_undo 38 = .ok (.ireturn, 1) := by decide +kernel
theorem dX5_axis_0 : decode cX5_axis 0 = .ok (.aload_n 0, 1) := by decide +kernel
theorem dX5_axis_1 : decode cX5_axis 1 = .ok (.iload_n 1, 1) := by decide +kernel
theorem dX5_axis_2 : decode cX5_axis 2 = .ok (.invokevirtual 65, 3) := by decide +kernel
theorem dX5_axis_5 : decode cX5_axis 5 = .ok (.astore_n 3, 1) := by decide +kernel
theorem dX5_axis_6 : decode cX5_axis 6 = .ok (.iload_n 2, 1) := by decide +kernel
theorem dX5_axis_7 : decode cX5_axis 7 = .ok (.ifCond .lt 9, 3) := by decide +kernel
theorem dX5_axis_10 : decode cX5_axis 10 = .ok (.iload_n 2, 1) := by decide +kernel
theorem dX5_axis_11 : decode cX5_axis 11 = .ok (.bipush 12, 2) := by decide +kernel
theorem dX5_axis_13 : decode cX5_axis 13 = .ok (.if_icmp .lt 13, 3) := by decide +kernel
theorem dX5_axis_16 : decode cX5_axis 16 = .ok (.new 45, 3) := by decide +kernel
theorem dX5_axis_19 : decode cX5_axis 19 = .ok (.dup, 1) := by decide +kernel
theorem dX5_axis_20 : decode cX5_axis 20 = .ok (.ldc 182, 2) := by decide +kernel
theorem dX5_axis_22 : decode cX5_axis 22 = .ok (.invokespecial 49, 3) := by decide +kernel
theorem dX5_axis_25 : decode cX5_axis 25 = .ok (.athrow, 1) := by decide +kernel
theorem dX5_axis_26 : decode cX5_axis 26 = .ok (.aload_n 3, 1) := by decide +kernel
theorem dX5_axis_27 : decode cX5_axis 27 = .ok (.iload_n 2, 1) := by decide +kernel
theorem dX5_axis_28 : decode cX5_axis 28 = .ok (.invokevirtual 184, 3) := by decide +kernel
theorem dX5_axis_31 : decode cX5_axis 31 = .ok (.ireturn, 1) := by decide +kernel
theorem dX5_wear_0 : decode cX5_wear 0 = .ok (.aload_n 0, 1) := by decide +kernel
theorem dX5_wear_1 : decode cX5_wear 1 = .ok (.iload_n 1, 1) := by decide +kernel
theorem dX5_wear_2 : decode cX5_wear 2 = .ok (.invokevirtual 65, 3) := by decide +kernel
theorem dX5_wear_5 : decode cX5_wear 5 = .ok (.astore_n 3, 1) := by decide +kernel
theorem dX5_wear_6 : decode cX5_wear 6 = .ok (.iload_n 2, 1) := by decide +kernel
theorem dX5_wear_7 : decode cX5_wear 7 = .ok (.invokestatic 141, 3) := by decide +kernel
theorem dX5_wear_10 : decode cX5_wear 10 = .ok (.aload_n 3, 1) := by decide +kernel
theorem dX5_wear_11 : decode cX5_wear 11 = .ok (.iload_n 2, 1) := by decide +kernel
theorem dX5_wear_12 : decode cX5_wear 12 = .ok (.invokevirtual 144, 3) := by decide +kernel
theorem dX5_wear_15 : decode cX5_wear 15 = .ok (.ireturn, 1) := by decide +kernel
theorem dX5_count_0 : decode cX5_count 0 = .ok (.iload_n 1, 1) := by decide +kernel
theorem dX5_count_1 : decode cX5_count 1 = .ok (.ifCond .lt 9, 3) := by decide +kernel
theorem dX5_count_4 : decode cX5_count 4 = .ok (.iload_n 1, 1) := by decide +kernel
theorem dX5_count_5 : decode cX5_count 5 = .ok (.bipush 9, 2) := by decide +kernel
theorem dX5_count_7 : decode cX5_count 7 = .ok (.if_icmp .lt 13, 3) := by decide +kernel
theorem dX5_count_10 : decode cX5_count 10 = .ok (.new 45, 3) := by decide +kernel
theorem dX5_count_13 : decode cX5_count 13 = .ok (.dup, 1) := by decide +kernel
theorem dX5_count_14 : decode cX5_count 14 = .ok (.ldc 187, 2) := by decide +kernel
theorem dX5_count_16 : decode cX5_count 16 = .ok (.invokespecial 49, 3) := by decide +kernel
theorem dX5_count_19 : decode cX5_count 19 = .ok (.athrow, 1) := by decide +kernel
theorem dX5_count_20 : decode cX5_count 20 = .ok (.aload_n 0, 1) := by decide +kernel
theorem dX5_count_21 : decode cX5_count 21 = .ok (.iload_n 1, 1) := by decide +kernel
theorem dX5_count_22 : decode cX5_count 22 = .ok (.invokevirtual 189, 3) := by decide +kernel
theorem dX5_count_25 : decode cX5_count 25 = .ok (.ireturn, 1) := by decide +kernel
theorem dX5_setting_0 : decode cX5_setting 0 = .ok (.iload_n 1, 1) := by decide +kernel
theorem dX5_setting_1 : decode cX5_setting 1 = .ok (.invokestatic 74, 3) := by decide +kernel
theorem dX5_setting_4 : decode cX5_setting 4 = .ok (.aload_n 0, 1) := by decide +kernel
theorem dX5_setting_5 : decode cX5_setting 5 = .ok (.getfield 10, 3) := by decide +kernel
theorem dX5_setting_8 : decode cX5_setting 8 = .ok (.getfield 84, 3) := by decide +kernel
theorem dX5_setting_11 : decode cX5_setting 11 = .ok (.iload_n 1, 1) := by decide +kernel
theorem dX5_setting_12 : decode cX5_setting 12 = .ok (.invokevirtual 88, 3) := by decide +kernel
theorem dX5_setting_15 : decode cX5_setting 15 = .ok (.ireturn, 1) := by decide +kernel
theorem dX5_toll_0 : decode cX5_toll 0 = .ok (.aload_n 0, 1) := by decide +kernel
theorem dX5_toll_1 : decode cX5_toll 1 = .ok (.iload_n 1, 1) := by decide +kernel
theorem dX5_toll_2 : decode cX5_toll 2 = .ok (.invokevirtual 65, 3) := by decide +kernel
theorem dX5_toll_5 : decode cX5_toll 5 = .ok (.iload_n 2, 1) := by decide +kernel
theorem dX5_toll_6 : decode cX5_toll 6 = .ok (.invokestatic 100, 3) := by decide +kernel
theorem dX5_toll_9 : decode cX5_toll 9 = .ok (.aload_n 0, 1) := by decide +kernel
theorem dX5_toll_10 : decode cX5_toll 10 = .ok (.getfield 10, 3) := by decide +kernel
theorem dX5_toll_13 : decode cX5_toll 13 = .ok (.getfield 84, 3) := by decide +kernel
theorem dX5_toll_16 : decode cX5_toll 16 = .ok (.invokevirtual 192, 3) := by decide +kernel
theorem dX5_toll_19 : decode cX5_toll 19 = .ok (.ireturn, 1) := by decide +kernel
theorem dX5_slips_0 : decode cX5_slips 0 = .ok (.aload_n 0, 1) := by decide +kernel
theorem dX5_slips_1 : decode cX5_slips 1 = .ok (.aload_n 0, 1) := by decide +kernel
theorem dX5_slips_2 : decode cX5_slips 2 = .ok (.iload_n 1, 1) := by decide +kernel
theorem dX5_slips_3 : decode cX5_slips 3 = .ok (.invokevirtual 65, 3) := by decide +kernel
theorem dX5_slips_6 : decode cX5_slips 6 = .ok (.iload_n 2, 1) := by decide +kernel
theorem dX5_slips_7 : decode cX5_slips 7 = .ok (.invokestatic 100, 3) := by decide +kernel
theorem dX5_slips_10 : decode cX5_slips 10 = .ok (.invokevirtual 196, 3) := by decide +kernel
theorem dX5_slips_13 : decode cX5_slips 13 = .ok (.ireturn, 1) := by decide +kernel
theorem dX5_cost_0 : decode cX5_cost 0 = .ok (.aload_n 0, 1) := by decide +kernel
theorem dX5_cost_1 : decode cX5_cost 1 = .ok (.iload_n 1, 1) := by decide +kernel
theorem dX5_cost_2 : decode cX5_cost 2 = .ok (.invokevirtual 65, 3) := by decide +kernel
theorem dX5_cost_5 : decode cX5_cost 5 = .ok (.astore 4, 2) := by decide +kernel
theorem dX5_cost_7 : decode cX5_cost 7 = .ok (.iload_n 2, 1) := by decide +kernel
theorem dX5_cost_8 : decode cX5_cost 8 = .ok (.invokestatic 114, 3) := by decide +kernel
theorem dX5_cost_11 : decode cX5_cost 11 = .ok (.aload 4, 2) := by decide +kernel
theorem dX5_cost_13 : decode cX5_cost 13 = .ok (.iload_n 2, 1) := by decide +kernel
theorem dX5_cost_14 : decode cX5_cost 14 = .ok (.iload_n 3, 1) := by decide +kernel
theorem dX5_cost_15 : decode cX5_cost 15 = .ok (.invokestatic 100, 3) := by decide +kernel
theorem dX5_cost_18 : decode cX5_cost 18 = .ok (.iconst (-1), 1) := by decide +kernel
theorem dX5_cost_19 : decode cX5_cost 19 = .ok (.aload_n 0, 1) := by decide +kernel
theorem dX5_cost_20 : decode cX5_cost 20 = .ok (.getfield 10, 3) := by decide +kernel
theorem dX5_cost_23 : decode cX5_cost 23 = .ok (.getfield 84, 3) := by decide +kernel
theorem dX5_cost_26 : decode cX5_cost 26 = .ok (.invokevirtual 199, 3) := by decide +kernel
theorem dX5_cost_29 : decode cX5_cost 29 = .ok (.ireturn, 1) := by decide +kernel
theorem dX5_ifHomed_0 : decode cX5_ifHomed 0 = .ok (.aload_n 0, 1) := by decide +kernel
theorem dX5_ifHomed_1 : decode cX5_ifHomed 1 = .ok (.iload_n 1, 1) := by decide +kernel
theorem dX5_ifHomed_2 : decode cX5_ifHomed 2 = .ok (.invokevirtual 65, 3) := by decide +kernel
theorem dX5_ifHomed_5 : decode cX5_ifHomed 5 = .ok (.astore_n 3, 1) := by decide +kernel
theorem dX5_ifHomed_6 : decode cX5_ifHomed 6 = .ok (.iload_n 2, 1) := by decide +kernel
theorem dX5_ifHomed_7 : decode cX5_ifHomed 7 = .ok (.ifCond .lt 8, 3) := by decide +kernel
theorem dX5_ifHomed_10 : decode cX5_ifHomed 10 = .ok (.iload_n 2, 1) := by decide +kernel
theorem dX5_ifHomed_11 : decode cX5_ifHomed 11 = .ok (.iconst 3, 1) := by decide +kernel
theorem dX5_ifHomed_12 : decode cX5_ifHomed 12 = .ok (.if_icmp .lt 13, 3) := by decide +kernel
theorem dX5_ifHomed_15 : decode cX5_ifHomed 15 = .ok (.new 45, 3) := by decide +kernel
theorem dX5_ifHomed_18 : decode cX5_ifHomed 18 = .ok (.dup, 1) := by decide +kernel
theorem dX5_ifHomed_19 : decode cX5_ifHomed 19 = .ok (.ldc 203, 2) := by decide +kernel
theorem dX5_ifHomed_21 : decode cX5_ifHomed 21 = .ok (.invokespecial 49, 3) := by decide +kernel
theorem dX5_ifHomed_24 : decode cX5_ifHomed 24 = .ok (.athrow, 1) := by decide +kernel
theorem dX5_ifHomed_25 : decode cX5_ifHomed 25 = .ok (.aload_n 0, 1) := by decide +kernel
theorem dX5_ifHomed_26 : decode cX5_ifHomed 26 = .ok (.aload_n 3, 1) := by decide +kernel
theorem dX5_ifHomed_27 : decode cX5_ifHomed 27 = .ok (.iload_n 2, 1) := by decide +kernel
theorem dX5_ifHomed_28 : decode cX5_ifHomed 28 = .ok (.invokevirtual 205, 3) := by decide +kernel
theorem dX5_ifHomed_31 : decode cX5_ifHomed 31 = .ok (.ireturn, 1) := by decide +kernel
theorem dX5_reach_0 : decode cX5_reach 0 = .ok (.aload_n 0, 1) := by decide +kernel
theorem dX5_reach_1 : decode cX5_reach 1 = .ok (.aload_n 0, 1) := by decide +kernel
theorem dX5_reach_2 : decode cX5_reach 2 = .ok (.iload_n 1, 1) := by decide +kernel
theorem dX5_reach_3 : decode cX5_reach 3 = .ok (.invokevirtual 65, 3) := by decide +kernel
theorem dX5_reach_6 : decode cX5_reach 6 = .ok (.iload_n 2, 1) := by decide +kernel
theorem dX5_reach_7 : decode cX5_reach 7 = .ok (.invokestatic 100, 3) := by decide +kernel
theorem dX5_reach_10 : decode cX5_reach 10 = .ok (.invokevirtual 208, 3) := by decide +kernel
theorem dX5_reach_13 : decode cX5_reach 13 = .ok (.ireturn, 1) := by decide +kernel
theorem dX5_couldBe_0 : decode cX5_couldBe 0 = .ok (.aload_n 0, 1) := by decide +kernel
theorem dX5_couldBe_1 : decode cX5_couldBe 1 = .ok (.iload_n 1, 1) := by decide +kernel
theorem dX5_couldBe_2 : decode cX5_couldBe 2 = .ok (.invokevirtual 65, 3) := by decide +kernel
theorem dX5_couldBe_5 : decode cX5_couldBe 5 = .ok (.invokevirtual 211, 3) := by decide +kernel
theorem dX5_couldBe_8 : decode cX5_couldBe 8 = .ok (.ireturn, 1) := by decide +kernel
theorem dX5_worst_0 : decode cX5_worst 0 = .ok (.aload_n 0, 1) := by decide +kernel
theorem dX5_worst_1 : decode cX5_worst 1 = .ok (.iload_n 1, 1) := by decide +kernel
theorem dX5_worst_2 : decode cX5_worst 2 = .ok (.invokevirtual 65, 3) := by decide +kernel
theorem dX5_worst_5 : decode cX5_worst 5 = .ok (.astore_n 3, 1) := by decide +kernel
theorem dX5_worst_6 : decode cX5_worst 6 = .ok (.iload_n 2, 1) := by decide +kernel
theorem dX5_worst_7 : decode cX5_worst 7 = .ok (.invokestatic 114, 3) := by decide +kernel
theorem dX5_worst_10 : decode cX5_worst 10 = .ok (.aload_n 0, 1) := by decide +kernel
theorem dX5_worst_11 : decode cX5_worst 11 = .ok (.aload_n 3, 1) := by decide +kernel
theorem dX5_worst_12 : decode cX5_worst 12 = .ok (.iload_n 2, 1) := by decide +kernel
theorem dX5_worst_13 : decode cX5_worst 13 = .ok (.invokevirtual 214, 3) := by decide +kernel
theorem dX5_worst_16 : decode cX5_worst 16 = .ok (.ireturn, 1) := by decide +kernel
theorem dX5_meanToll_0 : decode cX5_meanToll 0 = .ok (.aload_n 0, 1) := by decide +kernel
theorem dX5_meanToll_1 : decode cX5_meanToll 1 = .ok (.getfield 10, 3) := by decide +kernel
theorem dX5_meanToll_4 : decode cX5_meanToll 4 = .ok (.bipush 6, 2) := by decide +kernel
theorem dX5_meanToll_6 : decode cX5_meanToll 6 = .ok (.invokevirtual 217, 3) := by decide +kernel
theorem dX5_meanToll_9 : decode cX5_meanToll 9 = .ok (.istore_n 1, 1) := by decide +kernel
theorem dX5_meanToll_10 : decode cX5_meanToll 10 = .ok (.iload_n 1, 1) := by decide +kernel
theorem dX5_meanToll_11 : decode cX5_meanToll 11 = .ok (.ifCond .gt 5, 3) := by decide +kernel
theorem dX5_meanToll_14 : decode cX5_meanToll 14 = .ok (.dconst 0, 1) := by decide +kernel
theorem dX5_meanToll_15 : decode cX5_meanToll 15 = .ok (.dreturn, 1) := by decide +kernel
theorem dX5_meanToll_16 : decode cX5_meanToll 16 = .ok (.aload_n 0, 1) := by decide +kernel
theorem dX5_meanToll_17 : decode cX5_meanToll 17 = .ok (.getfield 10, 3) := by decide +kernel
theorem dX5_meanToll_20 : decode cX5_meanToll 20 = .ok (.bipush 8, 2) := by decide +kernel
theorem dX5_meanToll_22 : decode cX5_meanToll 22 = .ok (.invokevirtual 217, 3) := by decide +kernel
theorem dX5_meanToll_25 : decode cX5_meanToll 25 = .ok (.i2d, 1) := by decide +kernel
theorem dX5_meanToll_26 : decode cX5_meanToll 26 = .ok (.iload_n 1, 1) := by decide +kernel
theorem dX5_meanToll_27 : decode cX5_meanToll 27 = .ok (.i2d, 1) := by decide +kernel
theorem dX5_meanToll_28 : decode cX5_meanToll 28 = .ok (.ddiv, 1) := by decide +kernel
theorem dX5_meanToll_29 : decode cX5_meanToll 29 = .ok (.dreturn, 1) := by decide +kernel
theorem dX5_digest_0 : decode cX5_digest 0 = .ok (.ldc2_w 220, 3) := by decide +kernel
theorem dX5_digest_3 : decode cX5_digest 3 = .ok (.lstore_n 1, 1) := by decide +kernel
theorem dX5_digest_4 : decode cX5_digest 4 = .ok (.iconst 0, 1) := by decide +kernel
theorem dX5_digest_5 : decode cX5_digest 5 = .ok (.istore_n 3, 1) := by decide +kernel
theorem dX5_digest_6 : decode cX5_digest 6 = .ok (.iload_n 3, 1) := by decide +kernel
theorem dX5_digest_7 : decode cX5_digest 7 = .ok (.bipush 9, 2) := by decide +kernel
theorem dX5_digest_9 : decode cX5_digest 9 = .ok (.if_icmp .ge 20, 3) := by decide +kernel
theorem dX5_digest_12 : decode cX5_digest 12 = .ok (.lload_n 1, 1) := by decide +kernel
theorem dX5_digest_13 : decode cX5_digest 13 = .ok (.aload_n 0, 1) := by decide +kernel
theorem dX5_digest_14 : decode cX5_digest 14 = .ok (.iload_n 3, 1) := by decide +kernel
theorem dX5_digest_15 : decode cX5_digest 15 = .ok (.invokevirtual 189, 3) := by decide +kernel
theorem dX5_digest_18 : decode cX5_digest 18 = .ok (.i2l, 1) := by decide +kernel
theorem dX5_digest_19 : decode cX5_digest 19 = .ok (.invokestatic 222, 3) := by decide +kernel
theorem dX5_digest_22 : decode cX5_digest 22 = .ok (.lstore_n 1, 1) := by decide +kernel
theorem dX5_digest_23 : decode cX5_digest 23 = .ok (.iinc 3 1, 3) := by decide +kernel
theorem dX5_digest_26 : decode cX5_digest 26 = .ok (.goto (-20), 3) := by decide +kernel
theorem dX5_digest_29 : decode cX5_digest 29 = .ok (.iconst 0, 1) := by decide +kernel
theorem dX5_digest_30 : decode cX5_digest 30 = .ok (.istore_n 3, 1) := by decide +kernel
theorem dX5_digest_31 : decode cX5_digest 31 = .ok (.iload_n 3, 1) := by decide +kernel
theorem dX5_digest_32 : decode cX5_digest 32 = .ok (.bipush 6, 2) := by decide +kernel
theorem dX5_digest_34 : decode cX5_digest 34 = .ok (.if_icmp .ge 26, 3) := by decide +kernel
theorem dX5_digest_37 : decode cX5_digest 37 = .ok (.lload_n 1, 1) := by decide +kernel
theorem dX5_digest_38 : decode cX5_digest 38 = .ok (.aload_n 0, 1) := by decide +kernel
theorem dX5_digest_39 : decode cX5_digest 39 = .ok (.getfield 10, 3) := by decide +kernel
theorem dX5_digest_42 : decode cX5_digest 42 = .ok (.getfield 84, 3) := by decide +kernel
theorem dX5_digest_45 : decode cX5_digest 45 = .ok (.iload_n 3, 1) := by decide +kernel
theorem dX5_digest_46 : decode cX5_digest 46 = .ok (.invokevirtual 88, 3) := by decide +kernel
theorem dX5_digest_49 : decode cX5_digest 49 = .ok (.i2l, 1) := by decide +kernel
theorem dX5_digest_50 : decode cX5_digest 50 = .ok (.invokestatic 222, 3) := by decide +kernel
theorem dX5_digest_53 : decode cX5_digest 53 = .ok (.lstore_n 1, 1) := by decide +kernel
theorem dX5_digest_54 : decode cX5_digest 54 = .ok (.iinc 3 1, 3) := by decide +kernel
theorem dX5_digest_57 : decode cX5_digest 57 = .ok (.goto (-26), 3) := by decide +kernel
theorem dX5_digest_60 : decode cX5_digest 60 = .ok (.iconst 0, 1) := by decide +kernel
theorem dX5_digest_61 : decode cX5_digest 61 = .ok (.istore_n 3, 1) := by decide +kernel
theorem dX5_digest_62 : decode cX5_digest 62 = .ok (.iload_n 3, 1) := by decide +kernel
theorem dX5_digest_63 : decode cX5_digest 63 = .ok (.iconst 4, 1) := by decide +kernel
theorem dX5_digest_64 : decode cX5_digest 64 = .ok (.if_icmp .ge 37, 3) := by decide +kernel
theorem dX5_digest_67 : decode cX5_digest 67 = .ok (.aload_n 0, 1) := by decide +kernel
theorem dX5_digest_68 : decode cX5_digest 68 = .ok (.getfield 10, 3) := by decide +kernel
theorem dX5_digest_71 : decode cX5_digest 71 = .ok (.iload_n 3, 1) := by decide +kernel
theorem dX5_digest_72 : decode cX5_digest 72 = .ok (.invokevirtual 226, 3) := by decide +kernel
theorem dX5_digest_75 : decode cX5_digest 75 = .ok (.astore 4, 2) := by decide +kernel
theorem dX5_digest_77 : decode cX5_digest 77 = .ok (.aload 4, 2) := by decide +kernel
theorem dX5_digest_79 : decode cX5_digest 79 = .ok (.ifnull 16, 3) := by decide +kernel
theorem dX5_digest_82 : decode cX5_digest 82 = .ok (.aload_n 0, 1) := by decide +kernel
theorem dX5_digest_83 : decode cX5_digest 83 = .ok (.lload_n 1, 1) := by decide +kernel
theorem dX5_digest_84 : decode cX5_digest 84 = .ok (.aload 4, 2) := by decide +kernel
theorem dX5_digest_86 : decode cX5_digest 86 = .ok (.invokestatic 229, 3) := by decide +kernel
theorem dX5_digest_89 : decode cX5_digest 89 = .ok (.aload 4, 2) := by decide +kernel
theorem dX5_digest_91 : decode cX5_digest 91 = .ok (.invokevirtual 233, 3) := by decide +kernel
theorem dX5_digest_94 : decode cX5_digest 94 = .ok (.lstore_n 1, 1) := by decide +kernel
theorem dX5_digest_95 : decode cX5_digest 95 = .ok (.iinc 3 1, 3) := by decide +kernel
theorem dX5_digest_98 : decode cX5_digest 98 = .ok (.goto (-36), 3) := by decide +kernel
theorem dX5_digest_101 : decode cX5_digest 101 = .ok (.lload_n 1, 1) := by decide +kernel
theorem dX5_digest_102 : decode cX5_digest 102 = .ok (.aload_n 0, 1) := by decide +kernel
theorem dX5_digest_103 : decode cX5_digest 103 = .ok (.invokevirtual 236, 3) := by decide +kernel
theorem dX5_digest_106 : decode cX5_digest 106 = .ok (.invokestatic 240, 3) := by decide +kernel
theorem dX5_digest_109 : decode cX5_digest 109 = .ok (.invokestatic 222, 3) := by decide +kernel
theorem dX5_digest_112 : decode cX5_digest 112 = .ok (.lstore_n 1, 1) := by decide +kernel
theorem dX5_digest_113 : decode cX5_digest 113 = .ok (.lload_n 1, 1) := by decide +kernel
theorem dX5_digest_114 : decode cX5_digest 114 = .ok (.aload_n 0, 1) := by decide +kernel
theorem dX5_digest_115 : decode cX5_digest 115 = .ok (.getfield 41, 3) := by decide +kernel
theorem dX5_digest_118 : decode cX5_digest 118 = .ok (.i2l, 1) := by decide +kernel
theorem dX5_digest_119 : decode cX5_digest 119 = .ok (.invokestatic 222, 3) := by decide +kernel
theorem dX5_digest_122 : decode cX5_digest 122 = .ok (.lstore_n 1, 1) := by decide +kernel
theorem dX5_digest_123 : decode cX5_digest 123 = .ok (.iconst 0, 1) := by decide +kernel
theorem dX5_digest_124 : decode cX5_digest 124 = .ok (.istore_n 3, 1) := by decide +kernel
theorem dX5_digest_125 : decode cX5_digest 125 = .ok (.iload_n 3, 1) := by decide +kernel
theorem dX5_digest_126 : decode cX5_digest 126 = .ok (.aload_n 0, 1) := by decide +kernel
theorem dX5_digest_127 : decode cX5_digest 127 = .ok (.getfield 41, 3) := by decide +kernel
theorem dX5_digest_130 : decode cX5_digest 130 = .ok (.if_icmp .ge 20, 3) := by decide +kernel
theorem dX5_digest_133 : decode cX5_digest 133 = .ok (.lload_n 1, 1) := by decide +kernel
theorem dX5_digest_134 : decode cX5_digest 134 = .ok (.aload_n 0, 1) := by decide +kernel
theorem dX5_digest_135 : decode cX5_digest 135 = .ok (.iload_n 3, 1) := by decide +kernel
theorem dX5_digest_136 : decode cX5_digest 136 = .ok (.invokevirtual 244, 3) := by decide +kernel
theorem dX5_digest_139 : decode cX5_digest 139 = .ok (.i2l, 1) := by decide +kernel
theorem dX5_digest_140 : decode cX5_digest 140 = .ok (.invokestatic 222, 3) := by decide +kernel
theorem dX5_digest_143 : decode cX5_digest 143 = .ok (.lstore_n 1, 1) := by decide +kernel
theorem dX5_digest_144 : decode cX5_digest 144 = .ok (.iinc 3 1, 3) := by decide +kernel
theorem dX5_digest_147 : decode cX5_digest 147 = .ok (.goto (-22), 3) := by decide +kernel
theorem dX5_digest_150 : decode cX5_digest 150 = .ok (.lload_n 1, 1) := by decide +kernel
theorem dX5_digest_151 : decode cX5_digest 151 = .ok (.lreturn, 1) := by decide +kernel
theorem dX5_gearOf_0 : decode cX5_gearOf 0 = .ok (.aload_n 0, 1) := by decide +kernel
theorem dX5_gearOf_1 : decode cX5_gearOf 1 = .ok (.getfield 10, 3) := by decide +kernel
theorem dX5_gearOf_4 : decode cX5_gearOf 4 = .ok (.iload_n 1, 1) := by decide +kernel
theorem dX5_gearOf_5 : decode cX5_gearOf 5 = .ok (.invokevirtual 226, 3) := by decide +kernel
theorem dX5_gearOf_8 : decode cX5_gearOf 8 = .ok (.astore_n 2, 1) := by decide +kernel
theorem dX5_gearOf_9 : decode cX5_gearOf 9 = .ok (.aload_n 2, 1) := by decide +kernel
theorem dX5_gearOf_10 : decode cX5_gearOf 10 = .ok (.ifnonnull 13, 3) := by decide +kernel
theorem dX5_gearOf_13 : decode cX5_gearOf 13 = .ok (.new 247, 3) := by decide +kernel
theorem dX5_gearOf_16 : decode cX5_gearOf 16 = .ok (.dup, 1) := by decide +kernel
theorem dX5_gearOf_17 : decode cX5_gearOf 17 = .ok (.ldc 249, 2) := by decide +kernel
theorem dX5_gearOf_19 : decode cX5_gearOf 19 = .ok (.invokespecial 251, 3) := by decide +kernel
theorem dX5_gearOf_22 : decode cX5_gearOf 22 = .ok (.athrow, 1) := by decide +kernel
theorem dX5_gearOf_23 : decode cX5_gearOf 23 = .ok (.aload_n 2, 1) := by decide +kernel
theorem dX5_gearOf_24 : decode cX5_gearOf 24 = .ok (.areturn, 1) := by decide +kernel
theorem dX5_checkSetting_0 : decode cX5_checkSetting 0 = .ok (.iload_n 0, 1) := by decide +kernel
theorem dX5_checkSetting_1 : decode cX5_checkSetting 1 = .ok (.ifCond .lt 9, 3) := by decide +kernel
theorem dX5_checkSetting_4 : decode cX5_checkSetting 4 = .ok (.iload_n 0, 1) := by decide +kernel
theorem dX5_checkSetting_5 : decode cX5_checkSetting 5 = .ok (.bipush 6, 2) := by decide +kernel
theorem dX5_checkSetting_7 : decode cX5_checkSetting 7 = .ok (.if_icmp .lt 13, 3) := by decide +kernel
theorem dX5_checkSetting_10 : decode cX5_checkSetting 10 = .ok (.new 247, 3) := by decide +kernel
theorem dX5_checkSetting_13 : decode cX5_checkSetting 13 = .ok (.dup, 1) := by decide +kernel
theorem dX5_checkSetting_14 : decode cX5_checkSetting 14 = .ok (.ldc 252, 2) := by decide +kernel
theorem dX5_checkSetting_16 : decode cX5_checkSetting 16 = .ok (.invokespecial 251, 3) := by decide +kernel
theorem dX5_checkSetting_19 : decode cX5_checkSetting 19 = .ok (.athrow, 1) := by decide +kernel
theorem dX5_checkSetting_20 : decode cX5_checkSetting 20 = .ok (.return_, 1) := by decide +kernel
theorem dX5_checkTooth_0 : decode cX5_checkTooth 0 = .ok (.iload_n 0, 1) := by decide +kernel
theorem dX5_checkTooth_1 : decode cX5_checkTooth 1 = .ok (.ifCond .lt 9, 3) := by decide +kernel
theorem dX5_checkTooth_4 : decode cX5_checkTooth 4 = .ok (.iload_n 0, 1) := by decide +kernel
theorem dX5_checkTooth_5 : decode cX5_checkTooth 5 = .ok (.bipush 24, 2) := by decide +kernel
theorem dX5_checkTooth_7 : decode cX5_checkTooth 7 = .ok (.if_icmp .lt 13, 3) := by decide +kernel
theorem dX5_checkTooth_10 : decode cX5_checkTooth 10 = .ok (.new 247, 3) := by decide +kernel
theorem dX5_checkTooth_13 : decode cX5_checkTooth 13 = .ok (.dup, 1) := by decide +kernel
theorem dX5_checkTooth_14 : decode cX5_checkTooth 14 = .ok (.ldc 254, 2) := by decide +kernel
theorem dX5_checkTooth_16 : decode cX5_checkTooth 16 = .ok (.invokespecial 251, 3) := by decide +kernel
theorem dX5_checkTooth_19 : decode cX5_checkTooth 19 = .ok (.athrow, 1) := by decide +kernel
theorem dX5_checkTooth_20 : decode cX5_checkTooth 20 = .ok (.return_, 1) := by decide +kernel
theorem dX5_checkPlace_0 : decode cX5_checkPlace 0 = .ok (.iload_n 0, 1) := by decide +kernel
theorem dX5_checkPlace_1 : decode cX5_checkPlace 1 = .ok (.ifCond .lt 9, 3) := by decide +kernel
theorem dX5_checkPlace_4 : decode cX5_checkPlace 4 = .ok (.iload_n 0, 1) := by decide +kernel
theorem dX5_checkPlace_5 : decode cX5_checkPlace 5 = .ok (.bipush 24, 2) := by decide +kernel
theorem dX5_checkPlace_7 : decode cX5_checkPlace 7 = .ok (.if_icmp .lt 14, 3) := by decide +kernel
theorem dX5_checkPlace_10 : decode cX5_checkPlace 10 = .ok (.new 45, 3) := by decide +kernel
theorem dX5_checkPlace_13 : decode cX5_checkPlace 13 = .ok (.dup, 1) := by decide +kernel
theorem dX5_checkPlace_14 : decode cX5_checkPlace 14 = .ok (.ldc_w 256, 3) := by decide +kernel
theorem dX5_checkPlace_17 : decode cX5_checkPlace 17 = .ok (.invokespecial 49, 3) := by decide +kernel
theorem dX5_checkPlace_20 : decode cX5_checkPlace 20 = .ok (.athrow, 1) := by decide +kernel
theorem dX5_checkPlace_21 : decode cX5_checkPlace 21 = .ok (.return_, 1) := by decide +kernel
theorem dX5_isValueOf_0 : decode cX5_isValueOf 0 = .ok (.iload_n 0, 1) := by decide +kernel
theorem dX5_isValueOf_1 : decode cX5_isValueOf 1 = .ok (.ifCond .lt 19, 3) := by decide +kernel
theorem dX5_isValueOf_4 : decode cX5_isValueOf 4 = .ok (.iload_n 0, 1) := by decide +kernel
theorem dX5_isValueOf_5 : decode cX5_isValueOf 5 = .ok (.getstatic 258, 3) := by decide +kernel
theorem dX5_isValueOf_8 : decode cX5_isValueOf 8 = .ok (.arraylength, 1) := by decide +kernel
theorem dX5_isValueOf_9 : decode cX5_isValueOf 9 = .ok (.if_icmp .ge 11, 3) := by decide +kernel
theorem dX5_isValueOf_12 : decode cX5_isValueOf 12 = .ok (.iload_n 0, 1) := by decide +kernel
theorem dX5_isValueOf_13 : decode cX5_isValueOf 13 = .ok (.getstatic 261, 3) := by decide +kernel
theorem dX5_isValueOf_16 : decode cX5_isValueOf 16 = .ok (.arraylength, 1) := by decide +kernel
theorem dX5_isValueOf_17 : decode cX5_isValueOf 17 = .ok (.if_icmp .lt 5, 3) := by decide +kernel
theorem dX5_isValueOf_20 : decode cX5_isValueOf 20 = .ok (.iconst 0, 1) := by decide +kernel
theorem dX5_isValueOf_21 : decode cX5_isValueOf 21 = .ok (.ireturn, 1) := by decide +kernel
theorem dX5_isValueOf_22 : decode cX5_isValueOf 22 = .ok (.iload_n 1, 1) := by decide +kernel
theorem dX5_isValueOf_23 : decode cX5_isValueOf 23 = .ok (.getstatic 258, 3) := by decide +kernel
theorem dX5_isValueOf_26 : decode cX5_isValueOf 26 = .ok (.iload_n 0, 1) := by decide +kernel
theorem dX5_isValueOf_27 : decode cX5_isValueOf 27 = .ok (.iaload, 1) := by decide +kernel
theorem dX5_isValueOf_28 : decode cX5_isValueOf 28 = .ok (.if_icmp .lt 16, 3) := by decide +kernel
theorem dX5_isValueOf_31 : decode cX5_isValueOf 31 = .ok (.iload_n 1, 1) := by decide +kernel
theorem dX5_isValueOf_32 : decode cX5_isValueOf 32 = .ok (.getstatic 261, 3) := by decide +kernel
theorem dX5_isValueOf_35 : decode cX5_isValueOf 35 = .ok (.iload_n 0, 1) := by decide +kernel
theorem dX5_isValueOf_36 : decode cX5_isValueOf 36 = .ok (.iaload, 1) := by decide +kernel
theorem dX5_isValueOf_37 : decode cX5_isValueOf 37 = .ok (.if_icmp .gt 7, 3) := by decide +kernel
theorem dX5_isValueOf_40 : decode cX5_isValueOf 40 = .ok (.iconst 1, 1) := by decide +kernel
theorem dX5_isValueOf_41 : decode cX5_isValueOf 41 = .ok (.goto 4, 3) := by decide +kernel
theorem dX5_isValueOf_44 : decode cX5_isValueOf 44 = .ok (.iconst 0, 1) := by decide +kernel
theorem dX5_isValueOf_45 : decode cX5_isValueOf 45 = .ok (.ireturn, 1) := by decide +kernel
theorem dX5_wayOf_0 : decode cX5_wayOf 0 = .ok (.iload_n 0, 1) := by decide +kernel
theorem dX5_wayOf_1 : decode cX5_wayOf 1 = .ok (.ifCond .eq 7, 3) := by decide +kernel
theorem dX5_wayOf_4 : decode cX5_wayOf 4 = .ok (.iconst 1, 1) := by decide +kernel
theorem dX5_wayOf_5 : decode cX5_wayOf 5 = .ok (.goto 4, 3) := by decide +kernel
theorem dX5_wayOf_8 : decode cX5_wayOf 8 = .ok (.iconst (-1), 1) := by decide +kernel
theorem dX5_wayOf_9 : decode cX5_wayOf 9 = .ok (.ireturn, 1) := by decide +kernel
theorem dX5_canStep_0 : decode cX5_canStep 0 = .ok (.aload_n 1, 1) := by decide +kernel
theorem dX5_canStep_1 : decode cX5_canStep 1 = .ok (.iload_n 2, 1) := by decide +kernel
theorem dX5_canStep_2 : decode cX5_canStep 2 = .ok (.aload_n 0, 1) := by decide +kernel
theorem dX5_canStep_3 : decode cX5_canStep 3 = .ok (.getfield 10, 3) := by decide +kernel
theorem dX5_canStep_6 : decode cX5_canStep 6 = .ok (.getfield 84, 3) := by decide +kernel
theorem dX5_canStep_9 : decode cX5_canStep 9 = .ok (.invokevirtual 192, 3) := by decide +kernel
theorem dX5_canStep_12 : decode cX5_canStep 12 = .ok (.aload_n 0, 1) := by decide +kernel
theorem dX5_canStep_13 : decode cX5_canStep 13 = .ok (.getfield 10, 3) := by decide +kernel
theorem dX5_canStep_16 : decode cX5_canStep 16 = .ok (.getfield 52, 3) := by decide +kernel
theorem dX5_canStep_19 : decode cX5_canStep 19 = .ok (.if_icmp .gt 7, 3) := by decide +kernel
theorem dX5_canStep_22 : decode cX5_canStep 22 = .ok (.iconst 1, 1) := by decide +kernel
theorem dX5_canStep_23 : decode cX5_canStep 23 = .ok (.goto 4, 3) := by decide +kernel
theorem dX5_canStep_26 : decode cX5_canStep 26 = .ok (.iconst 0, 1) := by decide +kernel
theorem dX5_canStep_27 : decode cX5_canStep 27 = .ok (.ireturn, 1) := by decide +kernel
theorem dX5_canGo_0 : decode cX5_canGo 0 = .ok (.aload_n 1, 1) := by decide +kernel
theorem dX5_canGo_1 : decode cX5_canGo 1 = .ok (.getfield 264, 3) := by decide +kernel
theorem dX5_canGo_4 : decode cX5_canGo 4 = .ok (.iload_n 2, 1) := by decide +kernel
theorem dX5_canGo_5 : decode cX5_canGo 5 = .ok (.if_icmp .eq 17, 3) := by decide +kernel
theorem dX5_canGo_8 : decode cX5_canGo 8 = .ok (.aload_n 0, 1) := by decide +kernel
theorem dX5_canGo_9 : decode cX5_canGo 9 = .ok (.aload_n 1, 1) := by decide +kernel
theorem dX5_canGo_10 : decode cX5_canGo 10 = .ok (.aload_n 0, 1) := by decide +kernel
theorem dX5_canGo_11 : decode cX5_canGo 11 = .ok (.aload_n 1, 1) := by decide +kernel
theorem dX5_canGo_12 : decode cX5_canGo 12 = .ok (.iload_n 2, 1) := by decide +kernel
theorem dX5_canGo_13 : decode cX5_canGo 13 = .ok (.invokevirtual 267, 3) := by decide +kernel
theorem dX5_canGo_16 : decode cX5_canGo 16 = .ok (.invokevirtual 104, 3) := by decide +kernel
theorem dX5_canGo_19 : decode cX5_canGo 19 = .ok (.ifCond .eq 7, 3) := by decide +kernel
theorem dX5_canGo_22 : decode cX5_canGo 22 = .ok (.iconst 1, 1) := by decide +kernel
theorem dX5_canGo_23 : decode cX5_canGo 23 = .ok (.goto 4, 3) := by decide +kernel
theorem dX5_canGo_26 : decode cX5_canGo 26 = .ok (.iconst 0, 1) := by decide +kernel
theorem dX5_canGo_27 : decode cX5_canGo 27 = .ok (.ireturn, 1) := by decide +kernel
theorem dX5_canGrease_0 : decode cX5_canGrease 0 = .ok (.aload_n 0, 1) := by decide +kernel
theorem dX5_canGrease_1 : decode cX5_canGrease 1 = .ok (.getfield 10, 3) := by decide +kernel
theorem dX5_canGrease_4 : decode cX5_canGrease 4 = .ok (.getfield 52, 3) := by decide +kernel
theorem dX5_canGrease_7 : decode cX5_canGrease 7 = .ok (.aload_n 0, 1) := by decide +kernel
theorem dX5_canGrease_8 : decode cX5_canGrease 8 = .ok (.getfield 10, 3) := by decide +kernel
theorem dX5_canGrease_11 : decode cX5_canGrease 11 = .ok (.getfield 84, 3) := by decide +kernel
theorem dX5_canGrease_14 : decode cX5_canGrease 14 = .ok (.getfield 270, 3) := by decide +kernel
theorem dX5_canGrease_17 : decode cX5_canGrease 17 = .ok (.if_icmp .lt 7, 3) := by decide +kernel
theorem dX5_canGrease_20 : decode cX5_canGrease 20 = .ok (.iconst 1, 1) := by decide +kernel
theorem dX5_canGrease_21 : decode cX5_canGrease 21 = .ok (.goto 4, 3) := by decide +kernel
theorem dX5_canGrease_24 : decode cX5_canGrease 24 = .ok (.iconst 0, 1) := by decide +kernel
theorem dX5_canGrease_25 : decode cX5_canGrease 25 = .ok (.ireturn, 1) := by decide +kernel
theorem dX5_makeSteps_0 : decode cX5_makeSteps 0 = .ok (.iconst 0, 1) := by decide +kernel
theorem dX5_makeSteps_1 : decode cX5_makeSteps 1 = .ok (.istore 4, 2) := by decide +kernel
theorem dX5_makeSteps_3 : decode cX5_makeSteps 3 = .ok (.iload 4, 2) := by decide +kernel
theorem dX5_makeSteps_5 : decode cX5_makeSteps 5 = .ok (.iload_n 3, 1) := by decide +kernel
theorem dX5_makeSteps_6 : decode cX5_makeSteps 6 = .ok (.if_icmp .ge 52, 3) := by decide +kernel
theorem dX5_makeSteps_9 : decode cX5_makeSteps 9 = .ok (.aload_n 1, 1) := by decide +kernel
theorem dX5_makeSteps_10 : decode cX5_makeSteps 10 = .ok (.iload_n 2, 1) := by decide +kernel
theorem dX5_makeSteps_11 : decode cX5_makeSteps 11 = .ok (.aload_n 0, 1) := by decide +kernel
theorem dX5_makeSteps_12 : decode cX5_makeSteps 12 = .ok (.getfield 10, 3) := by decide +kernel
theorem dX5_makeSteps_15 : decode cX5_makeSteps 15 = .ok (.getfield 52, 3) := by decide +kernel
theorem dX5_makeSteps_18 : decode cX5_makeSteps 18 = .ok (.aload_n 0, 1) := by decide +kernel
theorem dX5_makeSteps_19 : decode cX5_makeSteps 19 = .ok (.getfield 10, 3) := by decide +kernel
theorem dX5_makeSteps_22 : decode cX5_makeSteps 22 = .ok (.getfield 84, 3) := by decide +kernel
theorem dX5_makeSteps_25 : decode cX5_makeSteps 25 = .ok (.invokevirtual 273, 3) := by decide +kernel
theorem dX5_makeSteps_28 : decode cX5_makeSteps 28 = .ok (.istore 5, 2) := by decide +kernel
theorem dX5_makeSteps_30 : decode cX5_makeSteps 30 = .ok (.iload 5, 2) := by decide +kernel
theorem dX5_makeSteps_32 : decode cX5_makeSteps 32 = .ok (.ifCond .ne 6, 3) := by decide +kernel
theorem dX5_makeSteps_35 : decode cX5_makeSteps 35 = .ok (.goto 23, 3) := by decide +kernel
theorem dX5_makeSteps_38 : decode cX5_makeSteps 38 = .ok (.aload_n 0, 1) := by decide +kernel
theorem dX5_makeSteps_39 : decode cX5_makeSteps 39 = .ok (.getfield 10, 3) := by decide +kernel
theorem dX5_makeSteps_42 : decode cX5_makeSteps 42 = .ok (.dup, 1) := by decide +kernel
theorem dX5_makeSteps_43 : decode cX5_makeSteps 43 = .ok (.getfield 52, 3) := by decide +kernel
theorem dX5_makeSteps_46 : decode cX5_makeSteps 46 = .ok (.iload 5, 2) := by decide +kernel
theorem dX5_makeSteps_48 : decode cX5_makeSteps 48 = .ok (.isub, 1) := by decide +kernel
theorem dX5_makeSteps_49 : decode cX5_makeSteps 49 = .ok (.putfield 52, 3) := by decide +kernel
theorem dX5_makeSteps_52 : decode cX5_makeSteps 52 = .ok (.iinc 4 1, 3) := by decide +kernel
theorem dX5_makeSteps_55 : decode cX5_makeSteps 55 = .ok (.goto (-52), 3) := by decide +kernel
theorem dX5_makeSteps_58 : decode cX5_makeSteps 58 = .ok (.iload 4, 2) := by decide +kernel
theorem dX5_makeSteps_60 : decode cX5_makeSteps 60 = .ok (.ireturn, 1) := by decide +kernel
theorem dX5_goTo_0 : decode cX5_goTo 0 = .ok (.aload_n 0, 1) := by decide +kernel
theorem dX5_goTo_1 : decode cX5_goTo 1 = .ok (.aload_n 1, 1) := by decide +kernel
theorem dX5_goTo_2 : decode cX5_goTo 2 = .ok (.iload_n 2, 1) := by decide +kernel
theorem dX5_goTo_3 : decode cX5_goTo 3 = .ok (.invokevirtual 267, 3) := by decide +kernel
theorem dX5_goTo_6 : decode cX5_goTo 6 = .ok (.istore_n 3, 1) := by decide +kernel
theorem dX5_goTo_7 : decode cX5_goTo 7 = .ok (.iconst 0, 1) := by decide +kernel
theorem dX5_goTo_8 : decode cX5_goTo 8 = .ok (.istore 4, 2) := by decide +kernel
theorem dX5_goTo_10 : decode cX5_goTo 10 = .ok (.iconst 0, 1) := by decide +kernel
theorem dX5_goTo_11 : decode cX5_goTo 11 = .ok (.istore 5, 2) := by decide +kernel
theorem dX5_goTo_13 : decode cX5_goTo 13 = .ok (.iload 5, 2) := by decide +kernel
theorem dX5_goTo_15 : decode cX5_goTo 15 = .ok (.bipush 24, 2) := by decide +kernel
theorem dX5_goTo_17 : decode cX5_goTo 17 = .ok (.if_icmp .ge 67, 3) := by decide +kernel
theorem dX5_goTo_20 : decode cX5_goTo 20 = .ok (.aload_n 1, 1) := by decide +kernel
theorem dX5_goTo_21 : decode cX5_goTo 21 = .ok (.getfield 264, 3) := by decide +kernel
theorem dX5_goTo_24 : decode cX5_goTo 24 = .ok (.iload_n 2, 1) := by decide +kernel
theorem dX5_goTo_25 : decode cX5_goTo 25 = .ok (.if_icmp .eq 59, 3) := by decide +kernel
theorem dX5_goTo_28 : decode cX5_goTo 28 = .ok (.aload_n 1, 1) := by decide +kernel
theorem dX5_goTo_29 : decode cX5_goTo 29 = .ok (.iload_n 3, 1) := by decide +kernel
theorem dX5_goTo_30 : decode cX5_goTo 30 = .ok (.aload_n 0, 1) := by decide +kernel
theorem dX5_goTo_31 : decode cX5_goTo 31 = .ok (.getfield 10, 3) := by decide +kernel
theorem dX5_goTo_34 : decode cX5_goTo 34 = .ok (.getfield 52, 3) := by decide +kernel
theorem dX5_goTo_37 : decode cX5_goTo 37 = .ok (.aload_n 0, 1) := by decide +kernel
theorem dX5_goTo_38 : decode cX5_goTo 38 = .ok (.getfield 10, 3) := by decide +kernel
theorem dX5_goTo_41 : decode cX5_goTo 41 = .ok (.getfield 84, 3) := by decide +kernel
theorem dX5_goTo_44 : decode cX5_goTo 44 = .ok (.invokevirtual 273, 3) := by decide +kernel
theorem dX5_goTo_47 : decode cX5_goTo 47 = .ok (.istore 6, 2) := by decide +kernel
theorem dX5_goTo_49 : decode cX5_goTo 49 = .ok (.iload 6, 2) := by decide +kernel
theorem dX5_goTo_51 : decode cX5_goTo 51 = .ok (.ifCond .ne 6, 3) := by decide +kernel
theorem dX5_goTo_54 : decode cX5_goTo 54 = .ok (.goto 30, 3) := by decide +kernel
theorem dX5_goTo_57 : decode cX5_goTo 57 = .ok (.aload_n 0, 1) := by decide +kernel
theorem dX5_goTo_58 : decode cX5_goTo 58 = .ok (.getfield 10, 3) := by decide +kernel
theorem dX5_goTo_61 : decode cX5_goTo 61 = .ok (.dup, 1) := by decide +kernel
theorem dX5_goTo_62 : decode cX5_goTo 62 = .ok (.getfield 52, 3) := by decide +kernel
theorem dX5_goTo_65 : decode cX5_goTo 65 = .ok (.iload 6, 2) := by decide +kernel
theorem dX5_goTo_67 : decode cX5_goTo 67 = .ok (.isub, 1) := by decide +kernel
theorem dX5_goTo_68 : decode cX5_goTo 68 = .ok (.putfield 52, 3) := by decide +kernel
theorem dX5_goTo_71 : decode cX5_goTo 71 = .ok (.iload 4, 2) := by decide +kernel
theorem dX5_goTo_73 : decode cX5_goTo 73 = .ok (.iload 6, 2) := by decide +kernel
theorem dX5_goTo_75 : decode cX5_goTo 75 = .ok (.iadd, 1) := by decide +kernel
theorem dX5_goTo_76 : decode cX5_goTo 76 = .ok (.istore 4, 2) := by decide +kernel
theorem dX5_goTo_78 : decode cX5_goTo 78 = .ok (.iinc 5 1, 3) := by decide +kernel
theorem dX5_goTo_81 : decode cX5_goTo 81 = .ok (.goto (-68), 3) := by decide +kernel
theorem dX5_goTo_84 : decode cX5_goTo 84 = .ok (.iload 4, 2) := by decide +kernel
theorem dX5_goTo_86 : decode cX5_goTo 86 = .ok (.ireturn, 1) := by decide +kernel
theorem dX5_makeHomed_0 : decode cX5_makeHomed 0 = .ok (.aload_n 1, 1) := by decide +kernel
theorem dX5_makeHomed_1 : decode cX5_makeHomed 1 = .ok (.getfield 277, 3) := by decide +kernel
theorem dX5_makeHomed_4 : decode cX5_makeHomed 4 = .ok (.istore_n 2, 1) := by decide +kernel
theorem dX5_makeHomed_5 : decode cX5_makeHomed 5 = .ok (.aload_n 0, 1) := by decide +kernel
theorem dX5_makeHomed_6 : decode cX5_makeHomed 6 = .ok (.getfield 10, 3) := by decide +kernel
theorem dX5_makeHomed_9 : decode cX5_makeHomed 9 = .ok (.dup, 1) := by decide +kernel
theorem dX5_makeHomed_10 : decode cX5_makeHomed 10 = .ok (.getfield 52, 3) := by decide +kernel
theorem dX5_makeHomed_13 : decode cX5_makeHomed 13 = .ok (.aload_n 1, 1) := by decide +kernel
theorem dX5_makeHomed_14 : decode cX5_makeHomed 14 = .ok (.aload_n 0, 1) := by decide +kernel
theorem dX5_makeHomed_15 : decode cX5_makeHomed 15 = .ok (.getfield 10, 3) := by decide +kernel
theorem dX5_makeHomed_18 : decode cX5_makeHomed 18 = .ok (.getfield 52, 3) := by decide +kernel
theorem dX5_makeHomed_21 : decode cX5_makeHomed 21 = .ok (.aload_n 0, 1) := by decide +kernel
theorem dX5_makeHomed_22 : decode cX5_makeHomed 22 = .ok (.getfield 10, 3) := by decide +kernel
theorem dX5_makeHomed_25 : decode cX5_makeHomed 25 = .ok (.getfield 84, 3) := by decide +kernel
theorem dX5_makeHomed_28 : decode cX5_makeHomed 28 = .ok (.invokevirtual 280, 3) := by decide +kernel
theorem dX5_makeHomed_31 : decode cX5_makeHomed 31 = .ok (.isub, 1) := by decide +kernel
theorem dX5_makeHomed_32 : decode cX5_makeHomed 32 = .ok (.putfield 52, 3) := by decide +kernel
theorem dX5_makeHomed_35 : decode cX5_makeHomed 35 = .ok (.aload_n 1, 1) := by decide +kernel
theorem dX5_makeHomed_36 : decode cX5_makeHomed 36 = .ok (.getfield 277, 3) := by decide +kernel
theorem dX5_makeHomed_39 : decode cX5_makeHomed 39 = .ok (.iload_n 2, 1) := by decide +kernel
theorem dX5_makeHomed_40 : decode cX5_makeHomed 40 = .ok (.if_icmp .le 7, 3) := by decide +kernel
theorem dX5_makeHomed_43 : decode cX5_makeHomed 43 = .ok (.iconst 1, 1) := by decide +kernel
theorem dX5_makeHomed_44 : decode cX5_makeHomed 44 = .ok (.goto 4, 3) := by decide +kernel
theorem dX5_makeHomed_47 : decode cX5_makeHomed 47 = .ok (.iconst 0, 1) := by decide +kernel
theorem dX5_makeHomed_48 : decode cX5_makeHomed 48 = .ok (.ireturn, 1) := by decide +kernel
theorem dX5_makeGreased_0 : decode cX5_makeGreased 0 = .ok (.aload_n 0, 1) := by decide +kernel
theorem dX5_makeGreased_1 : decode cX5_makeGreased 1 = .ok (.getfield 10, 3) := by decide +kernel
theorem dX5_makeGreased_4 : decode cX5_makeGreased 4 = .ok (.aload_n 0, 1) := by decide +kernel
theorem dX5_makeGreased_5 : decode cX5_makeGreased 5 = .ok (.getfield 10, 3) := by decide +kernel
theorem dX5_makeGreased_8 : decode cX5_makeGreased 8 = .ok (.getfield 84, 3) := by decide +kernel
theorem dX5_makeGreased_11 : decode cX5_makeGreased 11 = .ok (.getfield 270, 3) := by decide +kernel
theorem dX5_makeGreased_14 : decode cX5_makeGreased 14 = .ok (.invokevirtual 152, 3) := by decide +kernel
theorem dX5_makeGreased_17 : decode cX5_makeGreased 17 = .ok (.aload_n 1, 1) := by decide +kernel
theorem dX5_makeGreased_18 : decode cX5_makeGreased 18 = .ok (.aload_n 0, 1) := by decide +kernel
theorem dX5_makeGreased_19 : decode cX5_makeGreased 19 = .ok (.getfield 10, 3) := by decide +kernel
theorem dX5_makeGreased_22 : decode cX5_makeGreased 22 = .ok (.getfield 84, 3) := by decide +kernel
theorem dX5_makeGreased_25 : decode cX5_makeGreased 25 = .ok (.getfield 282, 3) := by decide +kernel
theorem dX5_makeGreased_28 : decode cX5_makeGreased 28 = .ok (.putfield 285, 3) := by decide +kernel
theorem dX5_makeGreased_31 : decode cX5_makeGreased 31 = .ok (.return_, 1) := by decide +kernel
theorem dX5_cheaperWay_0 : decode cX5_cheaperWay 0 = .ok (.aload_n 1, 1) := by decide +kernel
theorem dX5_cheaperWay_1 : decode cX5_cheaperWay 1 = .ok (.iload_n 2, 1) := by decide +kernel
theorem dX5_cheaperWay_2 : decode cX5_cheaperWay 2 = .ok (.iconst 1, 1) := by decide +kernel
theorem dX5_cheaperWay_3 : decode cX5_cheaperWay 3 = .ok (.iconst (-1), 1) := by decide +kernel
theorem dX5_cheaperWay_4 : decode cX5_cheaperWay 4 = .ok (.aload_n 0, 1) := by decide +kernel
theorem dX5_cheaperWay_5 : decode cX5_cheaperWay 5 = .ok (.getfield 10, 3) := by decide +kernel
theorem dX5_cheaperWay_8 : decode cX5_cheaperWay 8 = .ok (.getfield 84, 3) := by decide +kernel
theorem dX5_cheaperWay_11 : decode cX5_cheaperWay 11 = .ok (.invokevirtual 199, 3) := by decide +kernel
theorem dX5_cheaperWay_14 : decode cX5_cheaperWay 14 = .ok (.istore_n 3, 1) := by decide +kernel
theorem dX5_cheaperWay_15 : decode cX5_cheaperWay 15 = .ok (.aload_n 1, 1) := by decide +kernel
theorem dX5_cheaperWay_16 : decode cX5_cheaperWay 16 = .ok (.iload_n 2, 1) := by decide +kernel
theorem dX5_cheaperWay_17 : decode cX5_cheaperWay 17 = .ok (.iconst (-1), 1) := by decide +kernel
theorem dX5_cheaperWay_18 : decode cX5_cheaperWay 18 = .ok (.iconst (-1), 1) := by decide +kernel
theorem dX5_cheaperWay_19 : decode cX5_cheaperWay 19 = .ok (.aload_n 0, 1) := by decide +kernel
theorem dX5_cheaperWay_20 : decode cX5_cheaperWay 20 = .ok (.getfield 10, 3) := by decide +kernel
theorem dX5_cheaperWay_23 : decode cX5_cheaperWay 23 = .ok (.getfield 84, 3) := by decide +kernel
theorem dX5_cheaperWay_26 : decode cX5_cheaperWay 26 = .ok (.invokevirtual 199, 3) := by decide +kernel
theorem dX5_cheaperWay_29 : decode cX5_cheaperWay 29 = .ok (.istore 4, 2) := by decide +kernel
theorem dX5_cheaperWay_31 : decode cX5_cheaperWay 31 = .ok (.iload_n 3, 1) := by decide +kernel
theorem dX5_cheaperWay_32 : decode cX5_cheaperWay 32 = .ok (.iload 4, 2) := by decide +kernel
theorem dX5_cheaperWay_34 : decode cX5_cheaperWay 34 = .ok (.if_icmp .gt 7, 3) := by decide +kernel
theorem dX5_cheaperWay_37 : decode cX5_cheaperWay 37 = .ok (.iconst 1, 1) := by decide +kernel
theorem dX5_cheaperWay_38 : decode cX5_cheaperWay 38 = .ok (.goto 4, 3) := by decide +kernel
theorem dX5_cheaperWay_41 : decode cX5_cheaperWay 41 = .ok (.iconst (-1), 1) := by decide +kernel
theorem dX5_cheaperWay_42 : decode cX5_cheaperWay 42 = .ok (.ireturn, 1) := by decide +kernel
theorem dX5_codeAt_0 : decode cX5_codeAt 0 = .ok (.iload_n 1, 1) := by decide +kernel
theorem dX5_codeAt_1 : decode cX5_codeAt 1 = .ok (.ifCond .lt 21, 3) := by decide +kernel
theorem dX5_codeAt_4 : decode cX5_codeAt 4 = .ok (.iload_n 1, 1) := by decide +kernel
theorem dX5_codeAt_5 : decode cX5_codeAt 5 = .ok (.aload_n 0, 1) := by decide +kernel
theorem dX5_codeAt_6 : decode cX5_codeAt 6 = .ok (.getfield 37, 3) := by decide +kernel
theorem dX5_codeAt_9 : decode cX5_codeAt 9 = .ok (.arraylength, 1) := by decide +kernel
theorem dX5_codeAt_10 : decode cX5_codeAt 10 = .ok (.if_icmp .ge 12, 3) := by decide +kernel
theorem dX5_codeAt_13 : decode cX5_codeAt 13 = .ok (.aload_n 0, 1) := by decide +kernel
theorem dX5_codeAt_14 : decode cX5_codeAt 14 = .ok (.getfield 37, 3) := by decide +kernel
theorem dX5_codeAt_17 : decode cX5_codeAt 17 = .ok (.iload_n 1, 1) := by decide +kernel
theorem dX5_codeAt_18 : decode cX5_codeAt 18 = .ok (.iaload, 1) := by decide +kernel
theorem dX5_codeAt_19 : decode cX5_codeAt 19 = .ok (.goto 4, 3) := by decide +kernel
theorem dX5_codeAt_22 : decode cX5_codeAt 22 = .ok (.iconst 0, 1) := by decide +kernel
theorem dX5_codeAt_23 : decode cX5_codeAt 23 = .ok (.ireturn, 1) := by decide +kernel
theorem dX5_indexOfSyntaxError_0 : decode cX5_indexOfSyntaxError 0 = .ok (.aload_n 0, 1) := by decide +kernel
theorem dX5_indexOfSyntaxError_1 : decode cX5_indexOfSyntaxError 1 = .ok (.getfield 33, 3) := by decide +kernel
theorem dX5_indexOfSyntaxError_4 : decode cX5_indexOfSyntaxError 4 = .ok (.invokevirtual 288, 3) := by decide +kernel
theorem dX5_indexOfSyntaxError_7 : decode cX5_indexOfSyntaxError 7 = .ok (.iconst 0, 1) := by decide +kernel
theorem dX5_indexOfSyntaxError_8 : decode cX5_indexOfSyntaxError 8 = .ok (.istore_n 1, 1) := by decide +kernel
theorem dX5_indexOfSyntaxError_9 : decode cX5_indexOfSyntaxError 9 = .ok (.iload_n 1, 1) := by decide +kernel
theorem dX5_indexOfSyntaxError_10 : decode cX5_indexOfSyntaxError 10 = .ok (.aload_n 0, 1) := by decide +kernel
theorem dX5_indexOfSyntaxError_11 : decode cX5_indexOfSyntaxError 11 = .ok (.getfield 41, 3) := by decide +kernel
theorem dX5_indexOfSyntaxError_14 : decode cX5_indexOfSyntaxError 14 = .ok (.if_icmp .ge 26, 3) := by decide +kernel
theorem dX5_indexOfSyntaxError_17 : decode cX5_indexOfSyntaxError 17 = .ok (.aload_n 0, 1) := by decide +kernel
theorem dX5_indexOfSyntaxError_18 : decode cX5_indexOfSyntaxError 18 = .ok (.getfield 33, 3) := by decide +kernel
theorem dX5_indexOfSyntaxError_21 : decode cX5_indexOfSyntaxError 21 = .ok (.aload_n 0, 1) := by decide +kernel
theorem dX5_indexOfSyntaxError_22 : decode cX5_indexOfSyntaxError 22 = .ok (.iload_n 1, 1) := by decide +kernel
theorem dX5_indexOfSyntaxError_23 : decode cX5_indexOfSyntaxError 23 = .ok (.invokevirtual 244, 3) := by decide +kernel
theorem dX5_indexOfSyntaxError_26 : decode cX5_indexOfSyntaxError 26 = .ok (.invokevirtual 291, 3) := by decide +kernel
theorem dX5_indexOfSyntaxError_29 : decode cX5_indexOfSyntaxError 29 = .ok (.ifCond .ne 5, 3) := by decide +kernel
theorem dX5_indexOfSyntaxError_32 : decode cX5_indexOfSyntaxError 32 = .ok (.iload_n 1, 1) := by decide +kernel
theorem dX5_indexOfSyntaxError_33 : decode cX5_indexOfSyntaxError 33 = .ok (.ireturn, 1) := by decide +kernel
theorem dX5_indexOfSyntaxError_34 : decode cX5_indexOfSyntaxError 34 = .ok (.iinc 1 1, 3) := by decide +kernel
theorem dX5_indexOfSyntaxError_37 : decode cX5_indexOfSyntaxError 37 = .ok (.goto (-28), 3) := by decide +kernel
theorem dX5_indexOfSyntaxError_40 : decode cX5_indexOfSyntaxError 40 = .ok (.aload_n 0, 1) := by decide +kernel
theorem dX5_indexOfSyntaxError_41 : decode cX5_indexOfSyntaxError 41 = .ok (.getfield 41, 3) := by decide +kernel
theorem dX5_indexOfSyntaxError_44 : decode cX5_indexOfSyntaxError 44 = .ok (.ireturn, 1) := by decide +kernel
theorem dX5_isProgram_0 : decode cX5_isProgram 0 = .ok (.aload_n 0, 1) := by decide +kernel
theorem dX5_isProgram_1 : decode cX5_isProgram 1 = .ok (.invokevirtual 162, 3) := by decide +kernel
theorem dX5_isProgram_4 : decode cX5_isProgram 4 = .ok (.aload_n 0, 1) := by decide +kernel
theorem dX5_isProgram_5 : decode cX5_isProgram 5 = .ok (.getfield 41, 3) := by decide +kernel
theorem dX5_isProgram_8 : decode cX5_isProgram 8 = .ok (.if_icmp .ne 17, 3) := by decide +kernel
theorem dX5_isProgram_11 : decode cX5_isProgram 11 = .ok (.aload_n 0, 1) := by decide +kernel
theorem dX5_isProgram_12 : decode cX5_isProgram 12 = .ok (.getfield 33, 3) := by decide +kernel
theorem dX5_isProgram_15 : decode cX5_isProgram 15 = .ok (.invokevirtual 295, 3) := by decide +kernel
theorem dX5_isProgram_18 : decode cX5_isProgram 18 = .ok (.ifCond .eq 7, 3) := by decide +kernel
theorem dX5_isProgram_21 : decode cX5_isProgram 21 = .ok (.iconst 1, 1) := by decide +kernel
theorem dX5_isProgram_22 : decode cX5_isProgram 22 = .ok (.goto 4, 3) := by decide +kernel
theorem dX5_isProgram_25 : decode cX5_isProgram 25 = .ok (.iconst 0, 1) := by decide +kernel
theorem dX5_isProgram_26 : decode cX5_isProgram 26 = .ok (.ireturn, 1) := by decide +kernel
theorem dX5_carryOutBuffer_0 : decode cX5_carryOutBuffer 0 = .ok (.aload_n 0, 1) := by decide +kernel
theorem dX5_carryOutBuffer_1 : decode cX5_carryOutBuffer 1 = .ok (.getfield 33, 3) := by decide +kernel
theorem dX5_carryOutBuffer_4 : decode cX5_carryOutBuffer 4 = .ok (.invokevirtual 288, 3) := by decide +kernel
theorem dX5_carryOutBuffer_7 : decode cX5_carryOutBuffer 7 = .ok (.iconst 0, 1) := by decide +kernel
theorem dX5_carryOutBuffer_8 : decode cX5_carryOutBuffer 8 = .ok (.istore_n 1, 1) := by decide +kernel
theorem dX5_carryOutBuffer_9 : decode cX5_carryOutBuffer 9 = .ok (.iconst 0, 1) := by decide +kernel
theorem dX5_carryOutBuffer_10 : decode cX5_carryOutBuffer 10 = .ok (.istore_n 2, 1) := by decide +kernel
theorem dX5_carryOutBuffer_11 : decode cX5_carryOutBuffer 11 = .ok (.iload_n 2, 1) := by decide +kernel
theorem dX5_carryOutBuffer_12 : decode cX5_carryOutBuffer 12 = .ok (.aload_n 0, 1) := by decide +kernel
theorem dX5_carryOutBuffer_13 : decode cX5_carryOutBuffer 13 = .ok (.getfield 41, 3) := by decide +kernel
theorem dX5_carryOutBuffer_16 : decode cX5_carryOutBuffer 16 = .ok (.if_icmp .gt 56, 3) := by decide +kernel
theorem dX5_carryOutBuffer_19 : decode cX5_carryOutBuffer 19 = .ok (.iload_n 2, 1) := by decide +kernel
theorem dX5_carryOutBuffer_20 : decode cX5_carryOutBuffer 20 = .ok (.aload_n 0, 1) := by decide +kernel
theorem dX5_carryOutBuffer_21 : decode cX5_carryOutBuffer 21 = .ok (.getfield 41, 3) := by decide +kernel
theorem dX5_carryOutBuffer_24 : decode cX5_carryOutBuffer 24 = .ok (.if_icmp .ge 11, 3) := by decide +kernel
theorem dX5_carryOutBuffer_27 : decode cX5_carryOutBuffer 27 = .ok (.aload_n 0, 1) := by decide +kernel
theorem dX5_carryOutBuffer_28 : decode cX5_carryOutBuffer 28 = .ok (.iload_n 2, 1) := by decide +kernel
theorem dX5_carryOutBuffer_29 : decode cX5_carryOutBuffer 29 = .ok (.invokevirtual 244, 3) := by decide +kernel
theorem dX5_carryOutBuffer_32 : decode cX5_carryOutBuffer 32 = .ok (.goto 5, 3) := by decide +kernel
theorem dX5_carryOutBuffer_35 : decode cX5_carryOutBuffer 35 = .ok (.bipush 59, 2) := by decide +kernel
theorem dX5_carryOutBuffer_37 : decode cX5_carryOutBuffer 37 = .ok (.istore_n 3, 1) := by decide +kernel
theorem dX5_carryOutBuffer_38 : decode cX5_carryOutBuffer 38 = .ok (.iload_n 3, 1) := by decide +kernel
theorem dX5_carryOutBuffer_39 : decode cX5_carryOutBuffer 39 = .ok (.bipush 59, 2) := by decide +kernel
theorem dX5_carryOutBuffer_41 : decode cX5_carryOutBuffer 41 = .ok (.if_icmp .ne 16, 3) := by decide +kernel
theorem dX5_carryOutBuffer_44 : decode cX5_carryOutBuffer 44 = .ok (.aload_n 0, 1) := by decide +kernel
theorem dX5_carryOutBuffer_45 : decode cX5_carryOutBuffer 45 = .ok (.invokevirtual 298, 3) := by decide +kernel
theorem dX5_carryOutBuffer_48 : decode cX5_carryOutBuffer 48 = .ok (.ifCond .ne 6, 3) := by decide +kernel
theorem dX5_carryOutBuffer_51 : decode cX5_carryOutBuffer 51 = .ok (.goto 21, 3) := by decide +kernel
theorem dX5_carryOutBuffer_54 : decode cX5_carryOutBuffer 54 = .ok (.iinc 1 1, 3) := by decide +kernel
theorem dX5_carryOutBuffer_57 : decode cX5_carryOutBuffer 57 = .ok (.aload_n 0, 1) := by decide +kernel
theorem dX5_carryOutBuffer_58 : decode cX5_carryOutBuffer 58 = .ok (.getfield 33, 3) := by decide +kernel
theorem dX5_carryOutBuffer_61 : decode cX5_carryOutBuffer 61 = .ok (.iload_n 3, 1) := by decide +kernel
theorem dX5_carryOutBuffer_62 : decode cX5_carryOutBuffer 62 = .ok (.invokevirtual 291, 3) := by decide +kernel
theorem dX5_carryOutBuffer_65 : decode cX5_carryOutBuffer 65 = .ok (.pop, 1) := by decide +kernel
theorem dX5_carryOutBuffer_66 : decode cX5_carryOutBuffer 66 = .ok (.iinc 2 1, 3) := by decide +kernel
theorem dX5_carryOutBuffer_69 : decode cX5_carryOutBuffer 69 = .ok (.goto (-58), 3) := by decide +kernel
theorem dX5_carryOutBuffer_72 : decode cX5_carryOutBuffer 72 = .ok (.iload_n 1, 1) := by decide +kernel
theorem dX5_carryOutBuffer_73 : decode cX5_carryOutBuffer 73 = .ok (.ireturn, 1) := by decide +kernel
theorem dX5_carryOutCommand_0 : decode cX5_carryOutCommand 0 = .ok (.aload_n 0, 1) := by decide +kernel
theorem dX5_carryOutCommand_1 : decode cX5_carryOutCommand 1 = .ok (.getfield 10, 3) := by decide +kernel
theorem dX5_carryOutCommand_4 : decode cX5_carryOutCommand 4 = .ok (.aload_n 0, 1) := by decide +kernel
theorem dX5_carryOutCommand_5 : decode cX5_carryOutCommand 5 = .ok (.getfield 33, 3) := by decide +kernel
theorem dX5_carryOutCommand_8 : decode cX5_carryOutCommand 8 = .ok (.getfield 301, 3) := by decide +kernel
theorem dX5_carryOutCommand_11 : decode cX5_carryOutCommand 11 = .ok (.invokevirtual 226, 3) := by decide +kernel
theorem dX5_carryOutCommand_14 : decode cX5_carryOutCommand 14 = .ok (.astore_n 1, 1) := by decide +kernel
theorem dX5_carryOutCommand_15 : decode cX5_carryOutCommand 15 = .ok (.aload_n 1, 1) := by decide +kernel
theorem dX5_carryOutCommand_16 : decode cX5_carryOutCommand 16 = .ok (.ifnonnull 5, 3) := by decide +kernel
theorem dX5_carryOutCommand_19 : decode cX5_carryOutCommand 19 = .ok (.iconst 0, 1) := by decide +kernel
theorem dX5_carryOutCommand_20 : decode cX5_carryOutCommand 20 = .ok (.ireturn, 1) := by decide +kernel
theorem dX5_carryOutCommand_21 : decode cX5_carryOutCommand 21 = .ok (.aload_n 0, 1) := by decide +kernel
theorem dX5_carryOutCommand_22 : decode cX5_carryOutCommand 22 = .ok (.getfield 33, 3) := by decide +kernel
theorem dX5_carryOutCommand_25 : decode cX5_carryOutCommand 25 = .ok (.getfield 304, 3) := by decide +kernel
theorem dX5_carryOutCommand_28 : decode cX5_carryOutCommand 28 = .ok (.lookupswitch 136 #[(43, 44), (45, 66), (61, 88), (103, 120)], 44) := by decide +kernel
theorem dX5_carryOutCommand_72 : decode cX5_carryOutCommand 72 = .ok (.aload_n 0, 1) := by decide +kernel
theorem dX5_carryOutCommand_73 : decode cX5_carryOutCommand 73 = .ok (.aload_n 1, 1) := by decide +kernel
theorem dX5_carryOutCommand_74 : decode cX5_carryOutCommand 74 = .ok (.iconst 1, 1) := by decide +kernel
theorem dX5_carryOutCommand_75 : decode cX5_carryOutCommand 75 = .ok (.aload_n 0, 1) := by decide +kernel
theorem dX5_carryOutCommand_76 : decode cX5_carryOutCommand 76 = .ok (.getfield 33, 3) := by decide +kernel
theorem dX5_carryOutCommand_79 : decode cX5_carryOutCommand 79 = .ok (.getfield 307, 3) := by decide +kernel
theorem dX5_carryOutCommand_82 : decode cX5_carryOutCommand 82 = .ok (.invokevirtual 110, 3) := by decide +kernel
theorem dX5_carryOutCommand_85 : decode cX5_carryOutCommand 85 = .ok (.ifCond .le 7, 3) := by decide +kernel
theorem dX5_carryOutCommand_88 : decode cX5_carryOutCommand 88 = .ok (.iconst 1, 1) := by decide +kernel
theorem dX5_carryOutCommand_89 : decode cX5_carryOutCommand 89 = .ok (.goto 4, 3) := by decide +kernel
theorem dX5_carryOutCommand_92 : decode cX5_carryOutCommand 92 = .ok (.iconst 0, 1) := by decide +kernel
theorem dX5_carryOutCommand_93 : decode cX5_carryOutCommand 93 = .ok (.ireturn, 1) := by decide +kernel
theorem dX5_carryOutCommand_94 : decode cX5_carryOutCommand 94 = .ok (.aload_n 0, 1) := by decide +kernel
theorem dX5_carryOutCommand_95 : decode cX5_carryOutCommand 95 = .ok (.aload_n 1, 1) := by decide +kernel
theorem dX5_carryOutCommand_96 : decode cX5_carryOutCommand 96 = .ok (.iconst (-1), 1) := by decide +kernel
theorem dX5_carryOutCommand_97 : decode cX5_carryOutCommand 97 = .ok (.aload_n 0, 1) := by decide +kernel
theorem dX5_carryOutCommand_98 : decode cX5_carryOutCommand 98 = .ok (.getfield 33, 3) := by decide +kernel
theorem dX5_carryOutCommand_101 : decode cX5_carryOutCommand 101 = .ok (.getfield 307, 3) := by decide +kernel
theorem dX5_carryOutCommand_104 : decode cX5_carryOutCommand 104 = .ok (.invokevirtual 110, 3) := by decide +kernel
theorem dX5_carryOutCommand_107 : decode cX5_carryOutCommand 107 = .ok (.ifCond .le 7, 3) := by decide +kernel
theorem dX5_carryOutCommand_110 : decode cX5_carryOutCommand 110 = .ok (.iconst 1, 1) := by decide +kernel
theorem dX5_carryOutCommand_111 : decode cX5_carryOutCommand 111 = .ok (.goto 4, 3) := by decide +kernel
theorem dX5_carryOutCommand_114 : decode cX5_carryOutCommand 114 = .ok (.iconst 0, 1) := by decide +kernel
theorem dX5_carryOutCommand_115 : decode cX5_carryOutCommand 115 = .ok (.ireturn, 1) := by decide +kernel
theorem dX5_carryOutCommand_116 : decode cX5_carryOutCommand 116 = .ok (.aload_n 0, 1) := by decide +kernel
theorem dX5_carryOutCommand_117 : decode cX5_carryOutCommand 117 = .ok (.aload_n 1, 1) := by decide +kernel
theorem dX5_carryOutCommand_118 : decode cX5_carryOutCommand 118 = .ok (.aload_n 0, 1) := by decide +kernel
theorem dX5_carryOutCommand_119 : decode cX5_carryOutCommand 119 = .ok (.getfield 33, 3) := by decide +kernel
theorem dX5_carryOutCommand_122 : decode cX5_carryOutCommand 122 = .ok (.getfield 307, 3) := by decide +kernel
theorem dX5_carryOutCommand_125 : decode cX5_carryOutCommand 125 = .ok (.invokevirtual 117, 3) := by decide +kernel
theorem dX5_carryOutCommand_128 : decode cX5_carryOutCommand 128 = .ok (.ifCond .ne 5, 3) := by decide +kernel
theorem dX5_carryOutCommand_131 : decode cX5_carryOutCommand 131 = .ok (.iconst 0, 1) := by decide +kernel
theorem dX5_carryOutCommand_132 : decode cX5_carryOutCommand 132 = .ok (.ireturn, 1) := by decide +kernel
theorem dX5_carryOutCommand_133 : decode cX5_carryOutCommand 133 = .ok (.aload_n 0, 1) := by decide +kernel
theorem dX5_carryOutCommand_134 : decode cX5_carryOutCommand 134 = .ok (.aload_n 1, 1) := by decide +kernel
theorem dX5_carryOutCommand_135 : decode cX5_carryOutCommand 135 = .ok (.aload_n 0, 1) := by decide +kernel
theorem dX5_carryOutCommand_136 : decode cX5_carryOutCommand 136 = .ok (.getfield 33, 3) := by decide +kernel
theorem dX5_carryOutCommand_139 : decode cX5_carryOutCommand 139 = .ok (.getfield 307, 3) := by decide +kernel
theorem dX5_carryOutCommand_142 : decode cX5_carryOutCommand 142 = .ok (.invokevirtual 120, 3) := by decide +kernel
theorem dX5_carryOutCommand_145 : decode cX5_carryOutCommand 145 = .ok (.pop, 1) := by decide +kernel
theorem dX5_carryOutCommand_146 : decode cX5_carryOutCommand 146 = .ok (.iconst 1, 1) := by decide +kernel
theorem dX5_carryOutCommand_147 : decode cX5_carryOutCommand 147 = .ok (.ireturn, 1) := by decide +kernel
theorem dX5_carryOutCommand_148 : decode cX5_carryOutCommand 148 = .ok (.aload_n 0, 1) := by decide +kernel
theorem dX5_carryOutCommand_149 : decode cX5_carryOutCommand 149 = .ok (.invokevirtual 131, 3) := by decide +kernel
theorem dX5_carryOutCommand_152 : decode cX5_carryOutCommand 152 = .ok (.ifCond .ne 5, 3) := by decide +kernel
theorem dX5_carryOutCommand_155 : decode cX5_carryOutCommand 155 = .ok (.iconst 0, 1) := by decide +kernel
theorem dX5_carryOutCommand_156 : decode cX5_carryOutCommand 156 = .ok (.ireturn, 1) := by decide +kernel
theorem dX5_carryOutCommand_157 : decode cX5_carryOutCommand 157 = .ok (.aload_n 0, 1) := by decide +kernel
theorem dX5_carryOutCommand_158 : decode cX5_carryOutCommand 158 = .ok (.aload_n 1, 1) := by decide +kernel
theorem dX5_carryOutCommand_159 : decode cX5_carryOutCommand 159 = .ok (.invokevirtual 137, 3) := by decide +kernel
theorem dX5_carryOutCommand_162 : decode cX5_carryOutCommand 162 = .ok (.iconst 1, 1) := by decide +kernel
theorem dX5_carryOutCommand_163 : decode cX5_carryOutCommand 163 = .ok (.ireturn, 1) := by decide +kernel
theorem dX5_carryOutCommand_164 : decode cX5_carryOutCommand 164 = .ok (.aload_n 0, 1) := by decide +kernel
theorem dX5_carryOutCommand_165 : decode cX5_carryOutCommand 165 = .ok (.aload_n 1, 1) := by decide +kernel
theorem dX5_carryOutCommand_166 : decode cX5_carryOutCommand 166 = .ok (.invokevirtual 127, 3) := by decide +kernel
theorem dX5_carryOutCommand_169 : decode cX5_carryOutCommand 169 = .ok (.pop, 1) := by decide +kernel
theorem dX5_carryOutCommand_170 : decode cX5_carryOutCommand 170 = .ok (.iconst 1, 1) := by decide +kernel
theorem dX5_carryOutCommand_171 : decode cX5_carryOutCommand 171 = .ok (.ireturn, 1) := by decide +kernel
theorem dX5_countOf_0 : decode cX5_countOf 0 = .ok (.iload_n 1, 1) := by decide +kernel
theorem dX5_countOf_1 : decode cX5_countOf 1 = .ok (.tableswitch 127 0 7 #[47, 55, 65, 75, 85, 93, 101, 119], 47) := by decide +kernel
theorem dX5_countOf_48 : decode cX5_countOf 48 = .ok (.aload_n 0, 1) := by decide +kernel
theorem dX5_countOf_49 : decode cX5_countOf 49 = .ok (.getfield 10, 3) := by decide +kernel
theorem dX5_countOf_52 : decode cX5_countOf 52 = .ok (.getfield 52, 3) := by decide +kernel
theorem dX5_countOf_55 : decode cX5_countOf 55 = .ok (.ireturn, 1) := by decide +kernel
theorem dX5_countOf_56 : decode cX5_countOf 56 = .ok (.aload_n 0, 1) := by decide +kernel
theorem dX5_countOf_57 : decode cX5_countOf 57 = .ok (.getfield 10, 3) := by decide +kernel
theorem dX5_countOf_60 : decode cX5_countOf 60 = .ok (.bipush 6, 2) := by decide +kernel
theorem dX5_countOf_62 : decode cX5_countOf 62 = .ok (.invokevirtual 217, 3) := by decide +kernel
theorem dX5_countOf_65 : decode cX5_countOf 65 = .ok (.ireturn, 1) := by decide +kernel
theorem dX5_countOf_66 : decode cX5_countOf 66 = .ok (.aload_n 0, 1) := by decide +kernel
theorem dX5_countOf_67 : decode cX5_countOf 67 = .ok (.getfield 10, 3) := by decide +kernel
theorem dX5_countOf_70 : decode cX5_countOf 70 = .ok (.bipush 8, 2) := by decide +kernel
theorem dX5_countOf_72 : decode cX5_countOf 72 = .ok (.invokevirtual 217, 3) := by decide +kernel
theorem dX5_countOf_75 : decode cX5_countOf 75 = .ok (.ireturn, 1) := by decide +kernel
theorem dX5_countOf_76 : decode cX5_countOf 76 = .ok (.aload_n 0, 1) := by decide +kernel
theorem dX5_countOf_77 : decode cX5_countOf 77 = .ok (.getfield 10, 3) := by decide +kernel
theorem dX5_countOf_80 : decode cX5_countOf 80 = .ok (.bipush 7, 2) := by decide +kernel
theorem dX5_countOf_82 : decode cX5_countOf 82 = .ok (.invokevirtual 217, 3) := by decide +kernel
theorem dX5_countOf_85 : decode cX5_countOf 85 = .ok (.ireturn, 1) := by decide +kernel
theorem dX5_countOf_86 : decode cX5_countOf 86 = .ok (.aload_n 0, 1) := by decide +kernel
theorem dX5_countOf_87 : decode cX5_countOf 87 = .ok (.getfield 10, 3) := by decide +kernel
theorem dX5_countOf_90 : decode cX5_countOf 90 = .ok (.getfield 310, 3) := by decide +kernel
theorem dX5_countOf_93 : decode cX5_countOf 93 = .ok (.ireturn, 1) := by decide +kernel
theorem dX5_countOf_94 : decode cX5_countOf 94 = .ok (.aload_n 0, 1) := by decide +kernel
theorem dX5_countOf_95 : decode cX5_countOf 95 = .ok (.getfield 10, 3) := by decide +kernel
theorem dX5_countOf_98 : decode cX5_countOf 98 = .ok (.invokevirtual 313, 3) := by decide +kernel
theorem dX5_countOf_101 : decode cX5_countOf 101 = .ok (.ireturn, 1) := by decide +kernel
theorem dX5_countOf_102 : decode cX5_countOf 102 = .ok (.aload_n 0, 1) := by decide +kernel
theorem dX5_countOf_103 : decode cX5_countOf 103 = .ok (.getfield 10, 3) := by decide +kernel
theorem dX5_countOf_106 : decode cX5_countOf 106 = .ok (.aload_n 0, 1) := by decide +kernel
theorem dX5_countOf_107 : decode cX5_countOf 107 = .ok (.getfield 10, 3) := by decide +kernel
theorem dX5_countOf_110 : decode cX5_countOf 110 = .ok (.getfield 84, 3) := by decide +kernel
theorem dX5_countOf_113 : decode cX5_countOf 113 = .ok (.getfield 316, 3) := by decide +kernel
theorem dX5_countOf_116 : decode cX5_countOf 116 = .ok (.invokevirtual 319, 3) := by decide +kernel
theorem dX5_countOf_119 : decode cX5_countOf 119 = .ok (.ireturn, 1) := by decide +kernel
theorem dX5_countOf_120 : decode cX5_countOf 120 = .ok (.aload_n 0, 1) := by decide +kernel
theorem dX5_countOf_121 : decode cX5_countOf 121 = .ok (.getfield 10, 3) := by decide +kernel
theorem dX5_countOf_124 : decode cX5_countOf 124 = .ok (.invokevirtual 322, 3) := by decide +kernel
theorem dX5_countOf_127 : decode cX5_countOf 127 = .ok (.ireturn, 1) := by decide +kernel
theorem dX5_countOf_128 : decode cX5_countOf 128 = .ok (.aload_n 0, 1) := by decide +kernel
theorem dX5_countOf_129 : decode cX5_countOf 129 = .ok (.getfield 19, 3) := by decide +kernel
theorem dX5_countOf_132 : decode cX5_countOf 132 = .ok (.getfield 174, 3) := by decide +kernel
theorem dX5_countOf_135 : decode cX5_countOf 135 = .ok (.ireturn, 1) := by decide +kernel
theorem dX5_turnAndSlip_0 : decode cX5_turnAndSlip 0 = .ok (.aload_n 1, 1) := by decide +kernel
theorem dX5_turnAndSlip_1 : decode cX5_turnAndSlip 1 = .ok (.iload_n 2, 1) := by decide +kernel
theorem dX5_turnAndSlip_2 : decode cX5_turnAndSlip 2 = .ok (.invokevirtual 325, 3) := by decide +kernel
theorem dX5_turnAndSlip_5 : decode cX5_turnAndSlip 5 = .ok (.ifCond .ne 5, 3) := by decide +kernel
theorem dX5_turnAndSlip_8 : decode cX5_turnAndSlip 8 = .ok (.iconst 0, 1) := by decide +kernel
theorem dX5_turnAndSlip_9 : decode cX5_turnAndSlip 9 = .ok (.ireturn, 1) := by decide +kernel
theorem dX5_turnAndSlip_10 : decode cX5_turnAndSlip 10 = .ok (.aload_n 1, 1) := by decide +kernel
theorem dX5_turnAndSlip_11 : decode cX5_turnAndSlip 11 = .ok (.aload_n 1, 1) := by decide +kernel
theorem dX5_turnAndSlip_12 : decode cX5_turnAndSlip 12 = .ok (.getfield 328, 3) := by decide +kernel
theorem dX5_turnAndSlip_15 : decode cX5_turnAndSlip 15 = .ok (.iload_n 2, 1) := by decide +kernel
theorem dX5_turnAndSlip_16 : decode cX5_turnAndSlip 16 = .ok (.invokestatic 331, 3) := by decide +kernel
theorem dX5_turnAndSlip_19 : decode cX5_turnAndSlip 19 = .ok (.invokevirtual 144, 3) := by decide +kernel
theorem dX5_turnAndSlip_22 : decode cX5_turnAndSlip 22 = .ok (.istore_n 3, 1) := by decide +kernel
theorem dX5_turnAndSlip_23 : decode cX5_turnAndSlip 23 = .ok (.iload_n 3, 1) := by decide +kernel
theorem dX5_turnAndSlip_24 : decode cX5_turnAndSlip 24 = .ok (.aload_n 0, 1) := by decide +kernel
theorem dX5_turnAndSlip_25 : decode cX5_turnAndSlip 25 = .ok (.getfield 10, 3) := by decide +kernel
theorem dX5_turnAndSlip_28 : decode cX5_turnAndSlip 28 = .ok (.getfield 84, 3) := by decide +kernel
theorem dX5_turnAndSlip_31 : decode cX5_turnAndSlip 31 = .ok (.getfield 316, 3) := by decide +kernel
theorem dX5_turnAndSlip_34 : decode cX5_turnAndSlip 34 = .ok (.if_icmp .lt 7, 3) := by decide +kernel
theorem dX5_turnAndSlip_37 : decode cX5_turnAndSlip 37 = .ok (.iconst 2, 1) := by decide +kernel
theorem dX5_turnAndSlip_38 : decode cX5_turnAndSlip 38 = .ok (.goto 4, 3) := by decide +kernel
theorem dX5_turnAndSlip_41 : decode cX5_turnAndSlip 41 = .ok (.iconst 1, 1) := by decide +kernel
theorem dX5_turnAndSlip_42 : decode cX5_turnAndSlip 42 = .ok (.ireturn, 1) := by decide +kernel
theorem dX5_homingFact_0 : decode cX5_homingFact 0 = .ok (.aload_n 0, 1) := by decide +kernel
theorem dX5_homingFact_1 : decode cX5_homingFact 1 = .ok (.getfield 26, 3) := by decide +kernel
theorem dX5_homingFact_4 : decode cX5_homingFact 4 = .ok (.aload_n 1, 1) := by decide +kernel
theorem dX5_homingFact_5 : decode cX5_homingFact 5 = .ok (.invokevirtual 335, 3) := by decide +kernel
theorem dX5_homingFact_8 : decode cX5_homingFact 8 = .ok (.aload_n 0, 1) := by decide +kernel
theorem dX5_homingFact_9 : decode cX5_homingFact 9 = .ok (.getfield 26, 3) := by decide +kernel
theorem dX5_homingFact_12 : decode cX5_homingFact 12 = .ok (.aload_n 0, 1) := by decide +kernel
theorem dX5_homingFact_13 : decode cX5_homingFact 13 = .ok (.getfield 10, 3) := by decide +kernel
theorem dX5_homingFact_16 : decode cX5_homingFact 16 = .ok (.getfield 52, 3) := by decide +kernel
theorem dX5_homingFact_19 : decode cX5_homingFact 19 = .ok (.aload_n 0, 1) := by decide +kernel
theorem dX5_homingFact_20 : decode cX5_homingFact 20 = .ok (.getfield 10, 3) := by decide +kernel
theorem dX5_homingFact_23 : decode cX5_homingFact 23 = .ok (.getfield 84, 3) := by decide +kernel
theorem dX5_homingFact_26 : decode cX5_homingFact 26 = .ok (.invokevirtual 280, 3) := by decide +kernel
theorem dX5_homingFact_29 : decode cX5_homingFact 29 = .ok (.istore_n 3, 1) := by decide +kernel
theorem dX5_homingFact_30 : decode cX5_homingFact 30 = .ok (.iload_n 2, 1) := by decide +kernel
theorem dX5_homingFact_31 : decode cX5_homingFact 31 = .ok (.lookupswitch 40 #[(0, 25), (1, 38)], 25) := by decide +kernel
theorem dX5_homingFact_56 : decode cX5_homingFact 56 = .ok (.aload_n 0, 1) := by decide +kernel
theorem dX5_homingFact_57 : decode cX5_homingFact 57 = .ok (.getfield 26, 3) := by decide +kernel
theorem dX5_homingFact_60 : decode cX5_homingFact 60 = .ok (.getfield 124, 3) := by decide +kernel
theorem dX5_homingFact_63 : decode cX5_homingFact 63 = .ok (.aload_n 1, 1) := by decide +kernel
theorem dX5_homingFact_64 : decode cX5_homingFact 64 = .ok (.getfield 124, 3) := by decide +kernel
theorem dX5_homingFact_67 : decode cX5_homingFact 67 = .ok (.isub, 1) := by decide +kernel
theorem dX5_homingFact_68 : decode cX5_homingFact 68 = .ok (.ireturn, 1) := by decide +kernel
theorem dX5_homingFact_69 : decode cX5_homingFact 69 = .ok (.iload_n 3, 1) := by decide +kernel
theorem dX5_homingFact_70 : decode cX5_homingFact 70 = .ok (.ireturn, 1) := by decide +kernel
theorem dX5_homingFact_71 : decode cX5_homingFact 71 = .ok (.aload_n 0, 1) := by decide +kernel
theorem dX5_homingFact_72 : decode cX5_homingFact 72 = .ok (.getfield 26, 3) := by decide +kernel
theorem dX5_homingFact_75 : decode cX5_homingFact 75 = .ok (.getfield 277, 3) := by decide +kernel
theorem dX5_homingFact_78 : decode cX5_homingFact 78 = .ok (.aload_n 1, 1) := by decide +kernel
theorem dX5_homingFact_79 : decode cX5_homingFact 79 = .ok (.getfield 277, 3) := by decide +kernel
theorem dX5_homingFact_82 : decode cX5_homingFact 82 = .ok (.isub, 1) := by decide +kernel
theorem dX5_homingFact_83 : decode cX5_homingFact 83 = .ok (.ireturn, 1) := by decide +kernel
theorem dX5_reachOf_0 : decode cX5_reachOf 0 = .ok (.aload_n 0, 1) := by decide +kernel
theorem dX5_reachOf_1 : decode cX5_reachOf 1 = .ok (.getfield 26, 3) := by decide +kernel
theorem dX5_reachOf_4 : decode cX5_reachOf 4 = .ok (.aload_n 1, 1) := by decide +kernel
theorem dX5_reachOf_5 : decode cX5_reachOf 5 = .ok (.invokevirtual 335, 3) := by decide +kernel
theorem dX5_reachOf_8 : decode cX5_reachOf 8 = .ok (.aload_n 0, 1) := by decide +kernel
theorem dX5_reachOf_9 : decode cX5_reachOf 9 = .ok (.getfield 10, 3) := by decide +kernel
theorem dX5_reachOf_12 : decode cX5_reachOf 12 = .ok (.getfield 52, 3) := by decide +kernel
theorem dX5_reachOf_15 : decode cX5_reachOf 15 = .ok (.istore_n 3, 1) := by decide +kernel
theorem dX5_reachOf_16 : decode cX5_reachOf 16 = .ok (.iconst 0, 1) := by decide +kernel
theorem dX5_reachOf_17 : decode cX5_reachOf 17 = .ok (.istore 4, 2) := by decide +kernel
theorem dX5_reachOf_19 : decode cX5_reachOf 19 = .ok (.iload 4, 2) := by decide +kernel
theorem dX5_reachOf_21 : decode cX5_reachOf 21 = .ok (.bipush 100, 2) := by decide +kernel
theorem dX5_reachOf_23 : decode cX5_reachOf 23 = .ok (.if_icmp .ge 40, 3) := by decide +kernel
theorem dX5_reachOf_26 : decode cX5_reachOf 26 = .ok (.aload_n 0, 1) := by decide +kernel
theorem dX5_reachOf_27 : decode cX5_reachOf 27 = .ok (.getfield 26, 3) := by decide +kernel
theorem dX5_reachOf_30 : decode cX5_reachOf 30 = .ok (.iload_n 2, 1) := by decide +kernel
theorem dX5_reachOf_31 : decode cX5_reachOf 31 = .ok (.iload_n 3, 1) := by decide +kernel
theorem dX5_reachOf_32 : decode cX5_reachOf 32 = .ok (.aload_n 0, 1) := by decide +kernel
theorem dX5_reachOf_33 : decode cX5_reachOf 33 = .ok (.getfield 10, 3) := by decide +kernel
theorem dX5_reachOf_36 : decode cX5_reachOf 36 = .ok (.getfield 84, 3) := by decide +kernel
theorem dX5_reachOf_39 : decode cX5_reachOf 39 = .ok (.invokevirtual 273, 3) := by decide +kernel
theorem dX5_reachOf_42 : decode cX5_reachOf 42 = .ok (.istore 5, 2) := by decide +kernel
theorem dX5_reachOf_44 : decode cX5_reachOf 44 = .ok (.iload 5, 2) := by decide +kernel
theorem dX5_reachOf_46 : decode cX5_reachOf 46 = .ok (.ifCond .ne 6, 3) := by decide +kernel
theorem dX5_reachOf_49 : decode cX5_reachOf 49 = .ok (.goto 14, 3) := by decide +kernel
theorem dX5_reachOf_52 : decode cX5_reachOf 52 = .ok (.iload_n 3, 1) := by decide +kernel
theorem dX5_reachOf_53 : decode cX5_reachOf 53 = .ok (.iload 5, 2) := by decide +kernel
theorem dX5_reachOf_55 : decode cX5_reachOf 55 = .ok (.isub, 1) := by decide +kernel
theorem dX5_reachOf_56 : decode cX5_reachOf 56 = .ok (.istore_n 3, 1) := by decide +kernel
theorem dX5_reachOf_57 : decode cX5_reachOf 57 = .ok (.iinc 4 1, 3) := by decide +kernel
theorem dX5_reachOf_60 : decode cX5_reachOf 60 = .ok (.goto (-41), 3) := by decide +kernel
theorem dX5_reachOf_63 : decode cX5_reachOf 63 = .ok (.iload 4, 2) := by decide +kernel
theorem dX5_reachOf_65 : decode cX5_reachOf 65 = .ok (.ireturn, 1) := by decide +kernel
theorem dX5_worstTooth_0 : decode cX5_worstTooth 0 = .ok (.iconst (-1), 1) := by decide +kernel
theorem dX5_worstTooth_1 : decode cX5_worstTooth 1 = .ok (.istore_n 3, 1) := by decide +kernel
theorem dX5_worstTooth_2 : decode cX5_worstTooth 2 = .ok (.aload_n 0, 1) := by decide +kernel
theorem dX5_worstTooth_3 : decode cX5_worstTooth 3 = .ok (.aload_n 1, 1) := by decide +kernel
theorem dX5_worstTooth_4 : decode cX5_worstTooth 4 = .ok (.iload_n 2, 1) := by decide +kernel
theorem dX5_worstTooth_5 : decode cX5_worstTooth 5 = .ok (.iconst (-1), 1) := by decide +kernel
theorem dX5_worstTooth_6 : decode cX5_worstTooth 6 = .ok (.invokevirtual 338, 3) := by decide +kernel
theorem dX5_worstTooth_9 : decode cX5_worstTooth 9 = .ok (.istore 4, 2) := by decide +kernel
theorem dX5_worstTooth_11 : decode cX5_worstTooth 11 = .ok (.iconst 0, 1) := by decide +kernel
theorem dX5_worstTooth_12 : decode cX5_worstTooth 12 = .ok (.istore 5, 2) := by decide +kernel
theorem dX5_worstTooth_14 : decode cX5_worstTooth 14 = .ok (.iload 5, 2) := by decide +kernel
theorem dX5_worstTooth_16 : decode cX5_worstTooth 16 = .ok (.bipush 24, 2) := by decide +kernel
theorem dX5_worstTooth_18 : decode cX5_worstTooth 18 = .ok (.if_icmp .ge 33, 3) := by decide +kernel
theorem dX5_worstTooth_21 : decode cX5_worstTooth 21 = .ok (.aload_n 0, 1) := by decide +kernel
theorem dX5_worstTooth_22 : decode cX5_worstTooth 22 = .ok (.aload_n 1, 1) := by decide +kernel
theorem dX5_worstTooth_23 : decode cX5_worstTooth 23 = .ok (.iload_n 2, 1) := by decide +kernel
theorem dX5_worstTooth_24 : decode cX5_worstTooth 24 = .ok (.iload 5, 2) := by decide +kernel
theorem dX5_worstTooth_26 : decode cX5_worstTooth 26 = .ok (.invokevirtual 338, 3) := by decide +kernel
theorem dX5_worstTooth_29 : decode cX5_worstTooth 29 = .ok (.istore 6, 2) := by decide +kernel
theorem dX5_worstTooth_31 : decode cX5_worstTooth 31 = .ok (.iload 6, 2) := by decide +kernel
theorem dX5_worstTooth_33 : decode cX5_worstTooth 33 = .ok (.iload 4, 2) := by decide +kernel
theorem dX5_worstTooth_35 : decode cX5_worstTooth 35 = .ok (.if_icmp .ge 10, 3) := by decide +kernel
theorem dX5_worstTooth_38 : decode cX5_worstTooth 38 = .ok (.iload 6, 2) := by decide +kernel
theorem dX5_worstTooth_40 : decode cX5_worstTooth 40 = .ok (.istore 4, 2) := by decide +kernel
theorem dX5_worstTooth_42 : decode cX5_worstTooth 42 = .ok (.iload 5, 2) := by decide +kernel
theorem dX5_worstTooth_44 : decode cX5_worstTooth 44 = .ok (.istore_n 3, 1) := by decide +kernel
theorem dX5_worstTooth_45 : decode cX5_worstTooth 45 = .ok (.iinc 5 1, 3) := by decide +kernel
theorem dX5_worstTooth_48 : decode cX5_worstTooth 48 = .ok (.goto (-34), 3) := by decide +kernel
theorem dX5_worstTooth_51 : decode cX5_worstTooth 51 = .ok (.iload_n 3, 1) := by decide +kernel
theorem dX5_worstTooth_52 : decode cX5_worstTooth 52 = .ok (.ireturn, 1) := by decide +kernel
theorem dX5_lesserCost_0 : decode cX5_lesserCost 0 = .ok (.aload_n 1, 1) := by decide +kernel
theorem dX5_lesserCost_1 : decode cX5_lesserCost 1 = .ok (.iload_n 2, 1) := by decide +kernel
theorem dX5_lesserCost_2 : decode cX5_lesserCost 2 = .ok (.iconst 1, 1) := by decide +kernel
theorem dX5_lesserCost_3 : decode cX5_lesserCost 3 = .ok (.iload_n 3, 1) := by decide +kernel
theorem dX5_lesserCost_4 : decode cX5_lesserCost 4 = .ok (.aload_n 0, 1) := by decide +kernel
theorem dX5_lesserCost_5 : decode cX5_lesserCost 5 = .ok (.getfield 10, 3) := by decide +kernel
theorem dX5_lesserCost_8 : decode cX5_lesserCost 8 = .ok (.getfield 84, 3) := by decide +kernel
theorem dX5_lesserCost_11 : decode cX5_lesserCost 11 = .ok (.invokevirtual 199, 3) := by decide +kernel
theorem dX5_lesserCost_14 : decode cX5_lesserCost 14 = .ok (.istore 4, 2) := by decide +kernel
theorem dX5_lesserCost_16 : decode cX5_lesserCost 16 = .ok (.aload_n 1, 1) := by decide +kernel
theorem dX5_lesserCost_17 : decode cX5_lesserCost 17 = .ok (.iload_n 2, 1) := by decide +kernel
theorem dX5_lesserCost_18 : decode cX5_lesserCost 18 = .ok (.iconst (-1), 1) := by decide +kernel
theorem dX5_lesserCost_19 : decode cX5_lesserCost 19 = .ok (.iload_n 3, 1) := by decide +kernel
theorem dX5_lesserCost_20 : decode cX5_lesserCost 20 = .ok (.aload_n 0, 1) := by decide +kernel
theorem dX5_lesserCost_21 : decode cX5_lesserCost 21 = .ok (.getfield 10, 3) := by decide +kernel
theorem dX5_lesserCost_24 : decode cX5_lesserCost 24 = .ok (.getfield 84, 3) := by decide +kernel
theorem dX5_lesserCost_27 : decode cX5_lesserCost 27 = .ok (.invokevirtual 199, 3) := by decide +kernel
theorem dX5_lesserCost_30 : decode cX5_lesserCost 30 = .ok (.istore 5, 2) := by decide +kernel
theorem dX5_lesserCost_32 : decode cX5_lesserCost 32 = .ok (.iload 4, 2) := by decide +kernel
theorem dX5_lesserCost_34 : decode cX5_lesserCost 34 = .ok (.iload 5, 2) := by decide +kernel
theorem dX5_lesserCost_36 : decode cX5_lesserCost 36 = .ok (.invokestatic 341, 3) := by decide +kernel
theorem dX5_lesserCost_39 : decode cX5_lesserCost 39 = .ok (.ireturn, 1) := by decide +kernel
theorem dX5_mixed_0 : decode cX5_mixed 0 = .ok (.ldc2_w 346, 3) := by decide +kernel
theorem dX5_mixed_3 : decode cX5_mixed 3 = .ok (.lload_n 0, 1) := by decide +kernel
theorem dX5_mixed_4 : decode cX5_mixed 4 = .ok (.lmul, 1) := by decide +kernel
theorem dX5_mixed_5 : decode cX5_mixed 5 = .ok (.lload_n 2, 1) := by decide +kernel
theorem dX5_mixed_6 : decode cX5_mixed 6 = .ok (.ladd, 1) := by decide +kernel
theorem dX5_mixed_7 : decode cX5_mixed 7 = .ok (.lreturn, 1) := by decide +kernel
theorem dX5_mixedWithFacts_0 : decode cX5_mixedWithFacts 0 = .ok (.iconst 0, 1) := by decide +kernel
theorem dX5_mixedWithFacts_1 : decode cX5_mixedWithFacts 1 = .ok (.istore_n 3, 1) := by decide +kernel
theorem dX5_mixedWithFacts_2 : decode cX5_mixedWithFacts 2 = .ok (.iload_n 3, 1) := by decide +kernel
theorem dX5_mixedWithFacts_3 : decode cX5_mixedWithFacts 3 = .ok (.bipush 12, 2) := by decide +kernel
theorem dX5_mixedWithFacts_5 : decode cX5_mixedWithFacts 5 = .ok (.if_icmp .ge 20, 3) := by decide +kernel
theorem dX5_mixedWithFacts_8 : decode cX5_mixedWithFacts 8 = .ok (.lload_n 0, 1) := by decide +kernel
theorem dX5_mixedWithFacts_9 : decode cX5_mixedWithFacts 9 = .ok (.aload_n 2, 1) := by decide +kernel
theorem dX5_mixedWithFacts_10 : decode cX5_mixedWithFacts 10 = .ok (.iload_n 3, 1) := by decide +kernel
theorem dX5_mixedWithFacts_11 : decode cX5_mixedWithFacts 11 = .ok (.invokevirtual 184, 3) := by decide +kernel
theorem dX5_mixedWithFacts_14 : decode cX5_mixedWithFacts 14 = .ok (.i2l, 1) := by decide +kernel
theorem dX5_mixedWithFacts_15 : decode cX5_mixedWithFacts 15 = .ok (.invokestatic 222, 3) := by decide +kernel
theorem dX5_mixedWithFacts_18 : decode cX5_mixedWithFacts 18 = .ok (.lstore_n 0, 1) := by decide +kernel
theorem dX5_mixedWithFacts_19 : decode cX5_mixedWithFacts 19 = .ok (.iinc 3 1, 3) := by decide +kernel
theorem dX5_mixedWithFacts_22 : decode cX5_mixedWithFacts 22 = .ok (.goto (-20), 3) := by decide +kernel
theorem dX5_mixedWithFacts_25 : decode cX5_mixedWithFacts 25 = .ok (.iconst 0, 1) := by decide +kernel
theorem dX5_mixedWithFacts_26 : decode cX5_mixedWithFacts 26 = .ok (.istore_n 3, 1) := by decide +kernel
theorem dX5_mixedWithFacts_27 : decode cX5_mixedWithFacts 27 = .ok (.iload_n 3, 1) := by decide +kernel
theorem dX5_mixedWithFacts_28 : decode cX5_mixedWithFacts 28 = .ok (.bipush 24, 2) := by decide +kernel
theorem dX5_mixedWithFacts_30 : decode cX5_mixedWithFacts 30 = .ok (.if_icmp .ge 20, 3) := by decide +kernel
theorem dX5_mixedWithFacts_33 : decode cX5_mixedWithFacts 33 = .ok (.lload_n 0, 1) := by decide +kernel
theorem dX5_mixedWithFacts_34 : decode cX5_mixedWithFacts 34 = .ok (.aload_n 2, 1) := by decide +kernel
theorem dX5_mixedWithFacts_35 : decode cX5_mixedWithFacts 35 = .ok (.iload_n 3, 1) := by decide +kernel
theorem dX5_mixedWithFacts_36 : decode cX5_mixedWithFacts 36 = .ok (.invokevirtual 144, 3) := by decide +kernel
theorem dX5_mixedWithFacts_39 : decode cX5_mixedWithFacts 39 = .ok (.i2l, 1) := by decide +kernel
theorem dX5_mixedWithFacts_40 : decode cX5_mixedWithFacts 40 = .ok (.invokestatic 222, 3) := by decide +kernel
theorem dX5_mixedWithFacts_43 : decode cX5_mixedWithFacts 43 = .ok (.lstore_n 0, 1) := by decide +kernel
theorem dX5_mixedWithFacts_44 : decode cX5_mixedWithFacts 44 = .ok (.iinc 3 1, 3) := by decide +kernel
theorem dX5_mixedWithFacts_47 : decode cX5_mixedWithFacts 47 = .ok (.goto (-20), 3) := by decide +kernel
theorem dX5_mixedWithFacts_50 : decode cX5_mixedWithFacts 50 = .ok (.lload_n 0, 1) := by decide +kernel
theorem dX5_mixedWithFacts_51 : decode cX5_mixedWithFacts 51 = .ok (.lreturn, 1) := by decide +kernel
theorem dX5_mixedWithForecasts_0 : decode cX5_mixedWithForecasts 0 = .ok (.lload_n 1, 1) := by decide +kernel
theorem dX5_mixedWithForecasts_1 : decode cX5_mixedWithForecasts 1 = .ok (.aload_n 3, 1) := by decide +kernel
theorem dX5_mixedWithForecasts_2 : decode cX5_mixedWithForecasts 2 = .ok (.iconst 1, 1) := by decide +kernel
theorem dX5_mixedWithForecasts_3 : decode cX5_mixedWithForecasts 3 = .ok (.aload_n 0, 1) := by decide +kernel
theorem dX5_mixedWithForecasts_4 : decode cX5_mixedWithForecasts 4 = .ok (.getfield 10, 3) := by decide +kernel
theorem dX5_mixedWithForecasts_7 : decode cX5_mixedWithForecasts 7 = .ok (.getfield 84, 3) := by decide +kernel
theorem dX5_mixedWithForecasts_10 : decode cX5_mixedWithForecasts 10 = .ok (.invokevirtual 192, 3) := by decide +kernel
theorem dX5_mixedWithForecasts_13 : decode cX5_mixedWithForecasts 13 = .ok (.i2l, 1) := by decide +kernel
theorem dX5_mixedWithForecasts_14 : decode cX5_mixedWithForecasts 14 = .ok (.invokestatic 222, 3) := by decide +kernel
theorem dX5_mixedWithForecasts_17 : decode cX5_mixedWithForecasts 17 = .ok (.lstore_n 1, 1) := by decide +kernel
theorem dX5_mixedWithForecasts_18 : decode cX5_mixedWithForecasts 18 = .ok (.lload_n 1, 1) := by decide +kernel
theorem dX5_mixedWithForecasts_19 : decode cX5_mixedWithForecasts 19 = .ok (.aload_n 3, 1) := by decide +kernel
theorem dX5_mixedWithForecasts_20 : decode cX5_mixedWithForecasts 20 = .ok (.iconst (-1), 1) := by decide +kernel
theorem dX5_mixedWithForecasts_21 : decode cX5_mixedWithForecasts 21 = .ok (.aload_n 0, 1) := by decide +kernel
theorem dX5_mixedWithForecasts_22 : decode cX5_mixedWithForecasts 22 = .ok (.getfield 10, 3) := by decide +kernel
theorem dX5_mixedWithForecasts_25 : decode cX5_mixedWithForecasts 25 = .ok (.getfield 84, 3) := by decide +kernel
theorem dX5_mixedWithForecasts_28 : decode cX5_mixedWithForecasts 28 = .ok (.invokevirtual 192, 3) := by decide +kernel
theorem dX5_mixedWithForecasts_31 : decode cX5_mixedWithForecasts 31 = .ok (.i2l, 1) := by decide +kernel
theorem dX5_mixedWithForecasts_32 : decode cX5_mixedWithForecasts 32 = .ok (.invokestatic 222, 3) := by decide +kernel
theorem dX5_mixedWithForecasts_35 : decode cX5_mixedWithForecasts 35 = .ok (.lstore_n 1, 1) := by decide +kernel
theorem dX5_mixedWithForecasts_36 : decode cX5_mixedWithForecasts 36 = .ok (.lload_n 1, 1) := by decide +kernel
theorem dX5_mixedWithForecasts_37 : decode cX5_mixedWithForecasts 37 = .ok (.aload_n 0, 1) := by decide +kernel
theorem dX5_mixedWithForecasts_38 : decode cX5_mixedWithForecasts 38 = .ok (.aload_n 3, 1) := by decide +kernel
theorem dX5_mixedWithForecasts_39 : decode cX5_mixedWithForecasts 39 = .ok (.iconst 1, 1) := by decide +kernel
theorem dX5_mixedWithForecasts_40 : decode cX5_mixedWithForecasts 40 = .ok (.invokevirtual 196, 3) := by decide +kernel
theorem dX5_mixedWithForecasts_43 : decode cX5_mixedWithForecasts 43 = .ok (.i2l, 1) := by decide +kernel
theorem dX5_mixedWithForecasts_44 : decode cX5_mixedWithForecasts 44 = .ok (.invokestatic 222, 3) := by decide +kernel
theorem dX5_mixedWithForecasts_47 : decode cX5_mixedWithForecasts 47 = .ok (.lstore_n 1, 1) := by decide +kernel
theorem dX5_mixedWithForecasts_48 : decode cX5_mixedWithForecasts 48 = .ok (.lload_n 1, 1) := by decide +kernel
theorem dX5_mixedWithForecasts_49 : decode cX5_mixedWithForecasts 49 = .ok (.aload_n 0, 1) := by decide +kernel
theorem dX5_mixedWithForecasts_50 : decode cX5_mixedWithForecasts 50 = .ok (.aload_n 3, 1) := by decide +kernel
theorem dX5_mixedWithForecasts_51 : decode cX5_mixedWithForecasts 51 = .ok (.iconst (-1), 1) := by decide +kernel
theorem dX5_mixedWithForecasts_52 : decode cX5_mixedWithForecasts 52 = .ok (.invokevirtual 196, 3) := by decide +kernel
theorem dX5_mixedWithForecasts_55 : decode cX5_mixedWithForecasts 55 = .ok (.i2l, 1) := by decide +kernel
theorem dX5_mixedWithForecasts_56 : decode cX5_mixedWithForecasts 56 = .ok (.invokestatic 222, 3) := by decide +kernel
theorem dX5_mixedWithForecasts_59 : decode cX5_mixedWithForecasts 59 = .ok (.lstore_n 1, 1) := by decide +kernel
theorem dX5_mixedWithForecasts_60 : decode cX5_mixedWithForecasts 60 = .ok (.lload_n 1, 1) := by decide +kernel
theorem dX5_mixedWithForecasts_61 : decode cX5_mixedWithForecasts 61 = .ok (.aload_n 3, 1) := by decide +kernel
theorem dX5_mixedWithForecasts_62 : decode cX5_mixedWithForecasts 62 = .ok (.bipush 12, 2) := by decide +kernel
theorem dX5_mixedWithForecasts_64 : decode cX5_mixedWithForecasts 64 = .ok (.iconst 1, 1) := by decide +kernel
theorem dX5_mixedWithForecasts_65 : decode cX5_mixedWithForecasts 65 = .ok (.iconst (-1), 1) := by decide +kernel
theorem dX5_mixedWithForecasts_66 : decode cX5_mixedWithForecasts 66 = .ok (.aload_n 0, 1) := by decide +kernel
theorem dX5_mixedWithForecasts_67 : decode cX5_mixedWithForecasts 67 = .ok (.getfield 10, 3) := by decide +kernel
theorem dX5_mixedWithForecasts_70 : decode cX5_mixedWithForecasts 70 = .ok (.getfield 84, 3) := by decide +kernel
theorem dX5_mixedWithForecasts_73 : decode cX5_mixedWithForecasts 73 = .ok (.invokevirtual 199, 3) := by decide +kernel
theorem dX5_mixedWithForecasts_76 : decode cX5_mixedWithForecasts 76 = .ok (.i2l, 1) := by decide +kernel
theorem dX5_mixedWithForecasts_77 : decode cX5_mixedWithForecasts 77 = .ok (.invokestatic 222, 3) := by decide +kernel
theorem dX5_mixedWithForecasts_80 : decode cX5_mixedWithForecasts 80 = .ok (.lstore_n 1, 1) := by decide +kernel
theorem dX5_mixedWithForecasts_81 : decode cX5_mixedWithForecasts 81 = .ok (.lload_n 1, 1) := by decide +kernel
theorem dX5_mixedWithForecasts_82 : decode cX5_mixedWithForecasts 82 = .ok (.aload_n 3, 1) := by decide +kernel
theorem dX5_mixedWithForecasts_83 : decode cX5_mixedWithForecasts 83 = .ok (.bipush 12, 2) := by decide +kernel
theorem dX5_mixedWithForecasts_85 : decode cX5_mixedWithForecasts 85 = .ok (.iconst (-1), 1) := by decide +kernel
theorem dX5_mixedWithForecasts_86 : decode cX5_mixedWithForecasts 86 = .ok (.iconst (-1), 1) := by decide +kernel
theorem dX5_mixedWithForecasts_87 : decode cX5_mixedWithForecasts 87 = .ok (.aload_n 0, 1) := by decide +kernel
theorem dX5_mixedWithForecasts_88 : decode cX5_mixedWithForecasts 88 = .ok (.getfield 10, 3) := by decide +kernel
theorem dX5_mixedWithForecasts_91 : decode cX5_mixedWithForecasts 91 = .ok (.getfield 84, 3) := by decide +kernel
theorem dX5_mixedWithForecasts_94 : decode cX5_mixedWithForecasts 94 = .ok (.invokevirtual 199, 3) := by decide +kernel
theorem dX5_mixedWithForecasts_97 : decode cX5_mixedWithForecasts 97 = .ok (.i2l, 1) := by decide +kernel
theorem dX5_mixedWithForecasts_98 : decode cX5_mixedWithForecasts 98 = .ok (.invokestatic 222, 3) := by decide +kernel
theorem dX5_mixedWithForecasts_101 : decode cX5_mixedWithForecasts 101 = .ok (.lstore_n 1, 1) := by decide +kernel
theorem dX5_mixedWithForecasts_102 : decode cX5_mixedWithForecasts 102 = .ok (.iconst 0, 1) := by decide +kernel
theorem dX5_mixedWithForecasts_103 : decode cX5_mixedWithForecasts 103 = .ok (.istore 4, 2) := by decide +kernel
theorem dX5_mixedWithForecasts_105 : decode cX5_mixedWithForecasts 105 = .ok (.iload 4, 2) := by decide +kernel
theorem dX5_mixedWithForecasts_107 : decode cX5_mixedWithForecasts 107 = .ok (.iconst 3, 1) := by decide +kernel
theorem dX5_mixedWithForecasts_108 : decode cX5_mixedWithForecasts 108 = .ok (.if_icmp .ge 22, 3) := by decide +kernel
theorem dX5_mixedWithForecasts_111 : decode cX5_mixedWithForecasts 111 = .ok (.lload_n 1, 1) := by decide +kernel
theorem dX5_mixedWithForecasts_112 : decode cX5_mixedWithForecasts 112 = .ok (.aload_n 0, 1) := by decide +kernel
theorem dX5_mixedWithForecasts_113 : decode cX5_mixedWithForecasts 113 = .ok (.aload_n 3, 1) := by decide +kernel
theorem dX5_mixedWithForecasts_114 : decode cX5_mixedWithForecasts 114 = .ok (.iload 4, 2) := by decide +kernel
theorem dX5_mixedWithForecasts_116 : decode cX5_mixedWithForecasts 116 = .ok (.invokevirtual 205, 3) := by decide +kernel
theorem dX5_mixedWithForecasts_119 : decode cX5_mixedWithForecasts 119 = .ok (.i2l, 1) := by decide +kernel
theorem dX5_mixedWithForecasts_120 : decode cX5_mixedWithForecasts 120 = .ok (.invokestatic 222, 3) := by decide +kernel
theorem dX5_mixedWithForecasts_123 : decode cX5_mixedWithForecasts 123 = .ok (.lstore_n 1, 1) := by decide +kernel
theorem dX5_mixedWithForecasts_124 : decode cX5_mixedWithForecasts 124 = .ok (.iinc 4 1, 3) := by decide +kernel
theorem dX5_mixedWithForecasts_127 : decode cX5_mixedWithForecasts 127 = .ok (.goto (-22), 3) := by decide +kernel
theorem dX5_mixedWithForecasts_130 : decode cX5_mixedWithForecasts 130 = .ok (.lload_n 1, 1) := by decide +kernel
theorem dX5_mixedWithForecasts_131 : decode cX5_mixedWithForecasts 131 = .ok (.aload_n 0, 1) := by decide +kernel
theorem dX5_mixedWithForecasts_132 : decode cX5_mixedWithForecasts 132 = .ok (.aload_n 3, 1) := by decide +kernel
theorem dX5_mixedWithForecasts_133 : decode cX5_mixedWithForecasts 133 = .ok (.iconst 1, 1) := by decide +kernel
theorem dX5_mixedWithForecasts_134 : decode cX5_mixedWithForecasts 134 = .ok (.invokevirtual 208, 3) := by decide +kernel
theorem dX5_mixedWithForecasts_137 : decode cX5_mixedWithForecasts 137 = .ok (.i2l, 1) := by decide +kernel
theorem dX5_mixedWithForecasts_138 : decode cX5_mixedWithForecasts 138 = .ok (.invokestatic 222, 3) := by decide +kernel
theorem dX5_mixedWithForecasts_141 : decode cX5_mixedWithForecasts 141 = .ok (.lstore_n 1, 1) := by decide +kernel
theorem dX5_mixedWithForecasts_142 : decode cX5_mixedWithForecasts 142 = .ok (.lload_n 1, 1) := by decide +kernel
theorem dX5_mixedWithForecasts_143 : decode cX5_mixedWithForecasts 143 = .ok (.aload_n 0, 1) := by decide +kernel
theorem dX5_mixedWithForecasts_144 : decode cX5_mixedWithForecasts 144 = .ok (.aload_n 3, 1) := by decide +kernel
theorem dX5_mixedWithForecasts_145 : decode cX5_mixedWithForecasts 145 = .ok (.iconst (-1), 1) := by decide +kernel
theorem dX5_mixedWithForecasts_146 : decode cX5_mixedWithForecasts 146 = .ok (.invokevirtual 208, 3) := by decide +kernel
theorem dX5_mixedWithForecasts_149 : decode cX5_mixedWithForecasts 149 = .ok (.i2l, 1) := by decide +kernel
theorem dX5_mixedWithForecasts_150 : decode cX5_mixedWithForecasts 150 = .ok (.invokestatic 222, 3) := by decide +kernel
theorem dX5_mixedWithForecasts_153 : decode cX5_mixedWithForecasts 153 = .ok (.lstore_n 1, 1) := by decide +kernel
theorem dX5_mixedWithForecasts_154 : decode cX5_mixedWithForecasts 154 = .ok (.lload_n 1, 1) := by decide +kernel
theorem dX5_mixedWithForecasts_155 : decode cX5_mixedWithForecasts 155 = .ok (.aload_n 3, 1) := by decide +kernel
theorem dX5_mixedWithForecasts_156 : decode cX5_mixedWithForecasts 156 = .ok (.invokevirtual 211, 3) := by decide +kernel
theorem dX5_mixedWithForecasts_159 : decode cX5_mixedWithForecasts 159 = .ok (.i2l, 1) := by decide +kernel
theorem dX5_mixedWithForecasts_160 : decode cX5_mixedWithForecasts 160 = .ok (.invokestatic 222, 3) := by decide +kernel
theorem dX5_mixedWithForecasts_163 : decode cX5_mixedWithForecasts 163 = .ok (.lstore_n 1, 1) := by decide +kernel
theorem dX5_mixedWithForecasts_164 : decode cX5_mixedWithForecasts 164 = .ok (.lload_n 1, 1) := by decide +kernel
theorem dX5_mixedWithForecasts_165 : decode cX5_mixedWithForecasts 165 = .ok (.aload_n 0, 1) := by decide +kernel
theorem dX5_mixedWithForecasts_166 : decode cX5_mixedWithForecasts 166 = .ok (.aload_n 3, 1) := by decide +kernel
theorem dX5_mixedWithForecasts_167 : decode cX5_mixedWithForecasts 167 = .ok (.bipush 12, 2) := by decide +kernel
theorem dX5_mixedWithForecasts_169 : decode cX5_mixedWithForecasts 169 = .ok (.invokevirtual 214, 3) := by decide +kernel
theorem dX5_mixedWithForecasts_172 : decode cX5_mixedWithForecasts 172 = .ok (.i2l, 1) := by decide +kernel
theorem dX5_mixedWithForecasts_173 : decode cX5_mixedWithForecasts 173 = .ok (.invokestatic 222, 3) := by decide +kernel
theorem dX5_mixedWithForecasts_176 : decode cX5_mixedWithForecasts 176 = .ok (.lreturn, 1) := by decide +kernel
theorem dX5_bitsOf_0 : decode cX5_bitsOf 0 = .ok (.dload_n 0, 1) := by decide +kernel
theorem dX5_bitsOf_1 : decode cX5_bitsOf 1 = .ok (.dconst 1, 1) := by decide +kernel
theorem dX5_bitsOf_2 : decode cX5_bitsOf 2 = .ok (.dcmp .g, 1) := by decide +kernel
theorem dX5_bitsOf_3 : decode cX5_bitsOf 3 = .ok (.ifCond .ge 5, 3) := by decide +kernel
theorem dX5_bitsOf_6 : decode cX5_bitsOf 6 = .ok (.lconst 0, 1) := by decide +kernel
theorem dX5_bitsOf_7 : decode cX5_bitsOf 7 = .ok (.lreturn, 1) := by decide +kernel
theorem dX5_bitsOf_8 : decode cX5_bitsOf 8 = .ok (.dload_n 0, 1) := by decide +kernel
theorem dX5_bitsOf_9 : decode cX5_bitsOf 9 = .ok (.dstore_n 2, 1) := by decide +kernel
theorem dX5_bitsOf_10 : decode cX5_bitsOf 10 = .ok (.lconst 0, 1) := by decide +kernel
theorem dX5_bitsOf_11 : decode cX5_bitsOf 11 = .ok (.lstore 4, 2) := by decide +kernel
theorem dX5_bitsOf_13 : decode cX5_bitsOf 13 = .ok (.dload_n 2, 1) := by decide +kernel
theorem dX5_bitsOf_14 : decode cX5_bitsOf 14 = .ok (.ldc2_w 348, 3) := by decide +kernel
theorem dX5_bitsOf_17 : decode cX5_bitsOf 17 = .ok (.dcmp .l, 1) := by decide +kernel
theorem dX5_bitsOf_18 : decode cX5_bitsOf 18 = .ok (.ifCond .lt 27, 3) := by decide +kernel
theorem dX5_bitsOf_21 : decode cX5_bitsOf 21 = .ok (.lload 4, 2) := by decide +kernel
theorem dX5_bitsOf_23 : decode cX5_bitsOf 23 = .ok (.ldc2_w 350, 3) := by decide +kernel
theorem dX5_bitsOf_26 : decode cX5_bitsOf 26 = .ok (.lcmp, 1) := by decide +kernel
theorem dX5_bitsOf_27 : decode cX5_bitsOf 27 = .ok (.ifCond .ge 18, 3) := by decide +kernel
theorem dX5_bitsOf_30 : decode cX5_bitsOf 30 = .ok (.dload_n 2, 1) := by decide +kernel
theorem dX5_bitsOf_31 : decode cX5_bitsOf 31 = .ok (.ldc2_w 348, 3) := by decide +kernel
theorem dX5_bitsOf_34 : decode cX5_bitsOf 34 = .ok (.ddiv, 1) := by decide +kernel
theorem dX5_bitsOf_35 : decode cX5_bitsOf 35 = .ok (.dstore_n 2, 1) := by decide +kernel
theorem dX5_bitsOf_36 : decode cX5_bitsOf 36 = .ok (.lload 4, 2) := by decide +kernel
theorem dX5_bitsOf_38 : decode cX5_bitsOf 38 = .ok (.lconst 1, 1) := by decide +kernel
theorem dX5_bitsOf_39 : decode cX5_bitsOf 39 = .ok (.ladd, 1) := by decide +kernel
theorem dX5_bitsOf_40 : decode cX5_bitsOf 40 = .ok (.lstore 4, 2) := by decide +kernel
theorem dX5_bitsOf_42 : decode cX5_bitsOf 42 = .ok (.goto (-29), 3) := by decide +kernel
theorem dX5_bitsOf_45 : decode cX5_bitsOf 45 = .ok (.dload_n 2, 1) := by decide +kernel
theorem dX5_bitsOf_46 : decode cX5_bitsOf 46 = .ok (.dconst 1, 1) := by decide +kernel
theorem dX5_bitsOf_47 : decode cX5_bitsOf 47 = .ok (.dsub, 1) := by decide +kernel
theorem dX5_bitsOf_48 : decode cX5_bitsOf 48 = .ok (.ldc2_w 352, 3) := by decide +kernel
theorem dX5_bitsOf_51 : decode cX5_bitsOf 51 = .ok (.dmul, 1) := by decide +kernel
theorem dX5_bitsOf_52 : decode cX5_bitsOf 52 = .ok (.d2l, 1) := by decide +kernel
theorem dX5_bitsOf_53 : decode cX5_bitsOf 53 = .ok (.lstore 6, 2) := by decide +kernel
theorem dX5_bitsOf_55 : decode cX5_bitsOf 55 = .ok (.lload 4, 2) := by decide +kernel
theorem dX5_bitsOf_57 : decode cX5_bitsOf 57 = .ok (.ldc2_w 350, 3) := by decide +kernel
theorem dX5_bitsOf_60 : decode cX5_bitsOf 60 = .ok (.ladd, 1) := by decide +kernel
theorem dX5_bitsOf_61 : decode cX5_bitsOf 61 = .ok (.bipush 52, 2) := by decide +kernel
theorem dX5_bitsOf_63 : decode cX5_bitsOf 63 = .ok (.lshl, 1) := by decide +kernel
theorem dX5_bitsOf_64 : decode cX5_bitsOf 64 = .ok (.lload 6, 2) := by decide +kernel
theorem dX5_bitsOf_66 : decode cX5_bitsOf 66 = .ok (.lor, 1) := by decide +kernel
theorem dX5_bitsOf_67 : decode cX5_bitsOf 67 = .ok (.lreturn, 1) := by decide +kernel
theorem dX6_init_0 : decode cX6_init 0 = .ok (.aload_n 0, 1) := by decide +kernel
theorem dX6_init_1 : decode cX6_init 1 = .ok (.invokespecial 1, 3) := by decide +kernel
theorem dX6_init_4 : decode cX6_init 4 = .ok (.aload_n 0, 1) := by decide +kernel
theorem dX6_init_5 : decode cX6_init 5 = .ok (.sipush 148, 3) := by decide +kernel
theorem dX6_init_8 : decode cX6_init 8 = .ok (.newarray .int, 2) := by decide +kernel
theorem dX6_init_10 : decode cX6_init 10 = .ok (.putfield 7, 3) := by decide +kernel
theorem dX6_init_13 : decode cX6_init 13 = .ok (.aload_n 0, 1) := by decide +kernel
theorem dX6_init_14 : decode cX6_init 14 = .ok (.sipush 888, 3) := by decide +kernel
theorem dX6_init_17 : decode cX6_init 17 = .ok (.newarray .int, 2) := by decide +kernel
theorem dX6_init_19 : decode cX6_init 19 = .ok (.putfield 13, 3) := by decide +kernel
theorem dX6_init_22 : decode cX6_init 22 = .ok (.aload_n 0, 1) := by decide +kernel
theorem dX6_init_23 : decode cX6_init 23 = .ok (.bipush 60, 2) := by decide +kernel
theorem dX6_init_25 : decode cX6_init 25 = .ok (.newarray .int, 2) := by decide +kernel
theorem dX6_init_27 : decode cX6_init 27 = .ok (.putfield 16, 3) := by decide +kernel
theorem dX6_init_30 : decode cX6_init 30 = .ok (.aload_n 0, 1) := by decide +kernel
theorem dX6_init_31 : decode cX6_init 31 = .ok (.iconst (-1), 1) := by decide +kernel
theorem dX6_init_32 : decode cX6_init 32 = .ok (.putfield 19, 3) := by decide +kernel
theorem dX6_init_35 : decode cX6_init 35 = .ok (.aload_n 0, 1) := by decide +kernel
theorem dX6_init_36 : decode cX6_init 36 = .ok (.bipush 72, 2) := by decide +kernel
theorem dX6_init_38 : decode cX6_init 38 = .ok (.newarray .int, 2) := by decide +kernel
theorem dX6_init_40 : decode cX6_init 40 = .ok (.putfield 23, 3) := by decide +kernel
theorem dX6_init_43 : decode cX6_init 43 = .ok (.aload_n 0, 1) := by decide +kernel
theorem dX6_init_44 : decode cX6_init 44 = .ok (.sipush 148, 3) := by decide +kernel
theorem dX6_init_47 : decode cX6_init 47 = .ok (.newarray .int, 2) := by decide +kernel
theorem dX6_init_49 : decode cX6_init 49 = .ok (.putfield 26, 3) := by decide +kernel
theorem dX6_init_52 : decode cX6_init 52 = .ok (.aload_n 0, 1) := by decide +kernel
theorem dX6_init_53 : decode cX6_init 53 = .ok (.getfield 7, 3) := by decide +kernel
theorem dX6_init_56 : decode cX6_init 56 = .ok (.iconst 0, 1) := by decide +kernel
theorem dX6_init_57 : decode cX6_init 57 = .ok (.iconst 3, 1) := by decide +kernel
theorem dX6_init_58 : decode cX6_init 58 = .ok (.iastore, 1) := by decide +kernel
theorem dX6_init_59 : decode cX6_init 59 = .ok (.aload_n 0, 1) := by decide +kernel
theorem dX6_init_60 : decode cX6_init 60 = .ok (.getfield 7, 3) := by decide +kernel
theorem dX6_init_63 : decode cX6_init 63 = .ok (.iconst 1, 1) := by decide +kernel
theorem dX6_init_64 : decode cX6_init 64 = .ok (.bipush 10, 2) := by decide +kernel
theorem dX6_init_66 : decode cX6_init 66 = .ok (.iastore, 1) := by decide +kernel
theorem dX6_init_67 : decode cX6_init 67 = .ok (.aload_n 0, 1) := by decide +kernel
theorem dX6_init_68 : decode cX6_init 68 = .ok (.getfield 7, 3) := by decide +kernel
theorem dX6_init_71 : decode cX6_init 71 = .ok (.iconst 2, 1) := by decide +kernel
theorem dX6_init_72 : decode cX6_init 72 = .ok (.bipush 40, 2) := by decide +kernel
theorem dX6_init_74 : decode cX6_init 74 = .ok (.iastore, 1) := by decide +kernel
theorem dX6_init_75 : decode cX6_init 75 = .ok (.aload_n 0, 1) := by decide +kernel
theorem dX6_init_76 : decode cX6_init 76 = .ok (.getfield 7, 3) := by decide +kernel
theorem dX6_init_79 : decode cX6_init 79 = .ok (.iconst 3, 1) := by decide +kernel
theorem dX6_init_80 : decode cX6_init 80 = .ok (.iconst 1, 1) := by decide +kernel
theorem dX6_init_81 : decode cX6_init 81 = .ok (.iastore, 1) := by decide +kernel
theorem dX6_init_82 : decode cX6_init 82 = .ok (.aload_n 0, 1) := by decide +kernel
theorem dX6_init_83 : decode cX6_init 83 = .ok (.getfield 7, 3) := by decide +kernel
theorem dX6_init_86 : decode cX6_init 86 = .ok (.iconst 4, 1) := by decide +kernel
theorem dX6_init_87 : decode cX6_init 87 = .ok (.bipush 12, 2) := by decide +kernel
theorem dX6_init_89 : decode cX6_init 89 = .ok (.iastore, 1) := by decide +kernel
theorem dX6_init_90 : decode cX6_init 90 = .ok (.aload_n 0, 1) := by decide +kernel
theorem dX6_init_91 : decode cX6_init 91 = .ok (.getfield 7, 3) := by decide +kernel
theorem dX6_init_94 : decode cX6_init 94 = .ok (.iconst 5, 1) := by decide +kernel
theorem dX6_init_95 : decode cX6_init 95 = .ok (.bipush 15, 2) := by decide +kernel
theorem dX6_init_97 : decode cX6_init 97 = .ok (.iastore, 1) := by decide +kernel
theorem dX6_init_98 : decode cX6_init 98 = .ok (.aload_n 0, 1) := by decide +kernel
theorem dX6_init_99 : decode cX6_init 99 = .ok (.getfield 7, 3) := by decide +kernel
theorem dX6_init_102 : decode cX6_init 102 = .ok (.bipush 6, 2) := by decide +kernel
theorem dX6_init_104 : decode cX6_init 104 = .ok (.sipush 1000, 3) := by decide +kernel
theorem dX6_init_107 : decode cX6_init 107 = .ok (.iastore, 1) := by decide +kernel
theorem dX6_init_108 : decode cX6_init 108 = .ok (.return_, 1) := by decide +kernel
theorem dX6_thrown_0 : decode cX6_thrown 0 = .ok (.aload_n 0, 1) := by decide +kernel
theorem dX6_thrown_1 : decode cX6_thrown 1 = .ok (.getfield 29, 3) := by decide +kernel
theorem dX6_thrown_4 : decode cX6_thrown 4 = .ok (.ireturn, 1) := by decide +kernel
theorem dX6_within_0 : decode cX6_within 0 = .ok (.iload_n 0, 1) := by decide +kernel
theorem dX6_within_1 : decode cX6_within 1 = .ok (.iload_n 1, 1) := by decide +kernel
theorem dX6_within_2 : decode cX6_within 2 = .ok (.if_icmp .lt 12, 3) := by decide +kernel
theorem dX6_within_5 : decode cX6_within 5 = .ok (.iload_n 0, 1) := by decide +kernel
theorem dX6_within_6 : decode cX6_within 6 = .ok (.iload_n 2, 1) := by decide +kernel
theorem dX6_within_7 : decode cX6_within 7 = .ok (.if_icmp .gt 7, 3) := by decide +kernel
theorem dX6_within_10 : decode cX6_within 10 = .ok (.iconst 1, 1) := by decide +kernel
theorem dX6_within_11 : decode cX6_within 11 = .ok (.goto 4, 3) := by decide +kernel
theorem dX6_within_14 : decode cX6_within 14 = .ok (.iconst 0, 1) := by decide +kernel
theorem dX6_within_15 : decode cX6_within 15 = .ok (.ireturn, 1) := by decide +kernel
theorem dX6_save_0 : decode cX6_save 0 = .ok (.aload_n 0, 1) := by decide +kernel
theorem dX6_save_1 : decode cX6_save 1 = .ok (.getfield 32, 3) := by decide +kernel
theorem dX6_save_4 : decode cX6_save 4 = .ok (.bipush 6, 2) := by decide +kernel
theorem dX6_save_6 : decode cX6_save 6 = .ok (.if_icmp .ne 46, 3) := by decide +kernel
theorem dX6_save_9 : decode cX6_save 9 = .ok (.sipush 148, 3) := by decide +kernel
theorem dX6_save_12 : decode cX6_save 12 = .ok (.istore_n 1, 1) := by decide +kernel
theorem dX6_save_13 : decode cX6_save 13 = .ok (.iload_n 1, 1) := by decide +kernel
theorem dX6_save_14 : decode cX6_save 14 = .ok (.sipush 888, 3) := by decide +kernel
theorem dX6_save_17 : decode cX6_save 17 = .ok (.if_icmp .ge 25, 3) := by decide +kernel
theorem dX6_save_20 : decode cX6_save 20 = .ok (.aload_n 0, 1) := by decide +kernel
theorem dX6_save_21 : decode cX6_save 21 = .ok (.getfield 13, 3) := by decide +kernel
theorem dX6_save_24 : decode cX6_save 24 = .ok (.iload_n 1, 1) := by decide +kernel
theorem dX6_save_25 : decode cX6_save 25 = .ok (.sipush 148, 3) := by decide +kernel
theorem dX6_save_28 : decode cX6_save 28 = .ok (.isub, 1) := by decide +kernel
theorem dX6_save_29 : decode cX6_save 29 = .ok (.aload_n 0, 1) := by decide +kernel
theorem dX6_save_30 : decode cX6_save 30 = .ok (.getfield 13, 3) := by decide +kernel
theorem dX6_save_33 : decode cX6_save 33 = .ok (.iload_n 1, 1) := by decide +kernel
theorem dX6_save_34 : decode cX6_save 34 = .ok (.iaload, 1) := by decide +kernel
theorem dX6_save_35 : decode cX6_save 35 = .ok (.iastore, 1) := by decide +kernel
theorem dX6_save_36 : decode cX6_save 36 = .ok (.iinc 1 1, 3) := by decide +kernel
theorem dX6_save_39 : decode cX6_save 39 = .ok (.goto (-26), 3) := by decide +kernel
theorem dX6_save_42 : decode cX6_save 42 = .ok (.aload_n 0, 1) := by decide +kernel
theorem dX6_save_43 : decode cX6_save 43 = .ok (.dup, 1) := by decide +kernel
theorem dX6_save_44 : decode cX6_save 44 = .ok (.getfield 32, 3) := by decide +kernel
theorem dX6_save_47 : decode cX6_save 47 = .ok (.iconst 1, 1) := by decide +kernel
theorem dX6_save_48 : decode cX6_save 48 = .ok (.isub, 1) := by decide +kernel
theorem dX6_save_49 : decode cX6_save 49 = .ok (.putfield 32, 3) := by decide +kernel
theorem dX6_save_52 : decode cX6_save 52 = .ok (.iconst 0, 1) := by decide +kernel
theorem dX6_save_53 : decode cX6_save 53 = .ok (.istore_n 1, 1) := by decide +kernel
theorem dX6_save_54 : decode cX6_save 54 = .ok (.iload_n 1, 1) := by decide +kernel
theorem dX6_save_55 : decode cX6_save 55 = .ok (.sipush 148, 3) := by decide +kernel
theorem dX6_save_58 : decode cX6_save 58 = .ok (.if_icmp .ge 30, 3) := by decide +kernel
theorem dX6_save_61 : decode cX6_save 61 = .ok (.aload_n 0, 1) := by decide +kernel
theorem dX6_save_62 : decode cX6_save 62 = .ok (.getfield 13, 3) := by decide +kernel
theorem dX6_save_65 : decode cX6_save 65 = .ok (.sipush 148, 3) := by decide +kernel
theorem dX6_save_68 : decode cX6_save 68 = .ok (.aload_n 0, 1) := by decide +kernel
theorem dX6_save_69 : decode cX6_save 69 = .ok (.getfield 32, 3) := by decide +kernel
theorem dX6_save_72 : decode cX6_save 72 = .ok (.imul, 1) := by decide +kernel
theorem dX6_save_73 : decode cX6_save 73 = .ok (.iload_n 1, 1) := by decide +kernel
theorem dX6_save_74 : decode cX6_save 74 = .ok (.iadd, 1) := by decide +kernel
theorem dX6_save_75 : decode cX6_save 75 = .ok (.aload_n 0, 1) := by decide +kernel
theorem dX6_save_76 : decode cX6_save 76 = .ok (.getfield 7, 3) := by decide +kernel
theorem dX6_save_79 : decode cX6_save 79 = .ok (.iload_n 1, 1) := by decide +kernel
theorem dX6_save_80 : decode cX6_save 80 = .ok (.iaload, 1) := by decide +kernel
theorem dX6_save_81 : decode cX6_save 81 = .ok (.iastore, 1) := by decide +kernel
theorem dX6_save_82 : decode cX6_save 82 = .ok (.iinc 1 1, 3) := by decide +kernel
theorem dX6_save_85 : decode cX6_save 85 = .ok (.goto (-31), 3) := by decide +kernel
theorem dX6_save_88 : decode cX6_save 88 = .ok (.aload_n 0, 1) := by decide +kernel
theorem dX6_save_89 : decode cX6_save 89 = .ok (.dup, 1) := by decide +kernel
theorem dX6_save_90 : decode cX6_save 90 = .ok (.getfield 32, 3) := by decide +kernel
theorem dX6_save_93 : decode cX6_save 93 = .ok (.iconst 1, 1) := by decide +kernel
theorem dX6_save_94 : decode cX6_save 94 = .ok (.iadd, 1) := by decide +kernel
theorem dX6_save_95 : decode cX6_save 95 = .ok (.putfield 32, 3) := by decide +kernel
theorem dX6_save_98 : decode cX6_save 98 = .ok (.return_, 1) := by decide +kernel
theorem dX6_isAxis_0 : decode cX6_isAxis 0 = .ok (.iload_n 0, 1) := by decide +kernel
theorem dX6_isAxis_1 : decode cX6_isAxis 1 = .ok (.iconst 0, 1) := by decide +kernel
theorem dX6_isAxis_2 : decode cX6_isAxis 2 = .ok (.iconst 3, 1) := by decide +kernel
theorem dX6_isAxis_3 : decode cX6_isAxis 3 = .ok (.invokestatic 35, 3) := by decide +kernel
theorem dX6_isAxis_6 : decode cX6_isAxis 6 = .ok (.ireturn, 1) := by decide +kernel
theorem dX6_isPlace_0 : decode cX6_isPlace 0 = .ok (.iload_n 0, 1) := by decide +kernel
theorem dX6_isPlace_1 : decode cX6_isPlace 1 = .ok (.iconst 0, 1) := by decide +kernel
theorem dX6_isPlace_2 : decode cX6_isPlace 2 = .ok (.bipush 23, 2) := by decide +kernel
theorem dX6_isPlace_4 : decode cX6_isPlace 4 = .ok (.invokestatic 35, 3) := by decide +kernel
theorem dX6_isPlace_7 : decode cX6_isPlace 7 = .ok (.ireturn, 1) := by decide +kernel
theorem dX6_of_0 : decode cX6_of 0 = .ok (.aload_n 0, 1) := by decide +kernel
theorem dX6_of_1 : decode cX6_of 1 = .ok (.getfield 7, 3) := by decide +kernel
theorem dX6_of_4 : decode cX6_of 4 = .ok (.bipush 8, 2) := by decide +kernel
theorem dX6_of_6 : decode cX6_of 6 = .ok (.bipush 35, 2) := by decide +kernel
theorem dX6_of_8 : decode cX6_of 8 = .ok (.iload_n 1, 1) := by decide +kernel
theorem dX6_of_9 : decode cX6_of 9 = .ok (.imul, 1) := by decide +kernel
theorem dX6_of_10 : decode cX6_of 10 = .ok (.iadd, 1) := by decide +kernel
theorem dX6_of_11 : decode cX6_of 11 = .ok (.iload_n 2, 1) := by decide +kernel
