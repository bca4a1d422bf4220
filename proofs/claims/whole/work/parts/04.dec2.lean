theorem dX6_of_12 : decode cX6_of 12 = .ok (.iadd, 1) := by decide +kernel
theorem dX6_of_13 : decode cX6_of 13 = .ok (.iaload, 1) := by decide +kernel
theorem dX6_of_14 : decode cX6_of 14 = .ok (.ireturn, 1) := by decide +kernel
theorem dX6_put_0 : decode cX6_put 0 = .ok (.aload_n 0, 1) := by decide +kernel
theorem dX6_put_1 : decode cX6_put 1 = .ok (.getfield 7, 3) := by decide +kernel
theorem dX6_put_4 : decode cX6_put 4 = .ok (.bipush 8, 2) := by decide +kernel
theorem dX6_put_6 : decode cX6_put 6 = .ok (.bipush 35, 2) := by decide +kernel
theorem dX6_put_8 : decode cX6_put 8 = .ok (.iload_n 1, 1) := by decide +kernel
theorem dX6_put_9 : decode cX6_put 9 = .ok (.imul, 1) := by decide +kernel
theorem dX6_put_10 : decode cX6_put 10 = .ok (.iadd, 1) := by decide +kernel
theorem dX6_put_11 : decode cX6_put 11 = .ok (.iload_n 2, 1) := by decide +kernel
theorem dX6_put_12 : decode cX6_put 12 = .ok (.iadd, 1) := by decide +kernel
theorem dX6_put_13 : decode cX6_put 13 = .ok (.iload_n 3, 1) := by decide +kernel
theorem dX6_put_14 : decode cX6_put 14 = .ok (.iastore, 1) := by decide +kernel
theorem dX6_put_15 : decode cX6_put 15 = .ok (.return_, 1) := by decide +kernel
theorem dX6_add_0 : decode cX6_add 0 = .ok (.aload_n 0, 1) := by decide +kernel
theorem dX6_add_1 : decode cX6_add 1 = .ok (.getfield 7, 3) := by decide +kernel
theorem dX6_add_4 : decode cX6_add 4 = .ok (.bipush 8, 2) := by decide +kernel
theorem dX6_add_6 : decode cX6_add 6 = .ok (.bipush 35, 2) := by decide +kernel
theorem dX6_add_8 : decode cX6_add 8 = .ok (.iload_n 1, 1) := by decide +kernel
theorem dX6_add_9 : decode cX6_add 9 = .ok (.imul, 1) := by decide +kernel
theorem dX6_add_10 : decode cX6_add 10 = .ok (.iadd, 1) := by decide +kernel
theorem dX6_add_11 : decode cX6_add 11 = .ok (.iload_n 2, 1) := by decide +kernel
theorem dX6_add_12 : decode cX6_add 12 = .ok (.iadd, 1) := by decide +kernel
theorem dX6_add_13 : decode cX6_add 13 = .ok (.dup2, 1) := by decide +kernel
theorem dX6_add_14 : decode cX6_add 14 = .ok (.iaload, 1) := by decide +kernel
theorem dX6_add_15 : decode cX6_add 15 = .ok (.iload_n 3, 1) := by decide +kernel
theorem dX6_add_16 : decode cX6_add 16 = .ok (.iadd, 1) := by decide +kernel
theorem dX6_add_17 : decode cX6_add 17 = .ok (.iastore, 1) := by decide +kernel
theorem dX6_add_18 : decode cX6_add 18 = .ok (.return_, 1) := by decide +kernel
theorem dX6_toothFrom_0 : decode cX6_toothFrom 0 = .ok (.iload_n 1, 1) := by decide +kernel
theorem dX6_toothFrom_1 : decode cX6_toothFrom 1 = .ok (.ifCond .eq 7, 3) := by decide +kernel
theorem dX6_toothFrom_4 : decode cX6_toothFrom 4 = .ok (.iload_n 0, 1) := by decide +kernel
theorem dX6_toothFrom_5 : decode cX6_toothFrom 5 = .ok (.goto 12, 3) := by decide +kernel
theorem dX6_toothFrom_8 : decode cX6_toothFrom 8 = .ok (.iload_n 0, 1) := by decide +kernel
theorem dX6_toothFrom_9 : decode cX6_toothFrom 9 = .ok (.bipush 24, 2) := by decide +kernel
theorem dX6_toothFrom_11 : decode cX6_toothFrom 11 = .ok (.iadd, 1) := by decide +kernel
theorem dX6_toothFrom_12 : decode cX6_toothFrom 12 = .ok (.iconst 1, 1) := by decide +kernel
theorem dX6_toothFrom_13 : decode cX6_toothFrom 13 = .ok (.isub, 1) := by decide +kernel
theorem dX6_toothFrom_14 : decode cX6_toothFrom 14 = .ok (.bipush 24, 2) := by decide +kernel
theorem dX6_toothFrom_16 : decode cX6_toothFrom 16 = .ok (.irem, 1) := by decide +kernel
theorem dX6_toothFrom_17 : decode cX6_toothFrom 17 = .ok (.ireturn, 1) := by decide +kernel
theorem dX6_next_0 : decode cX6_next 0 = .ok (.iload_n 0, 1) := by decide +kernel
theorem dX6_next_1 : decode cX6_next 1 = .ok (.iload_n 1, 1) := by decide +kernel
theorem dX6_next_2 : decode cX6_next 2 = .ok (.ifCond .eq 7, 3) := by decide +kernel
theorem dX6_next_5 : decode cX6_next 5 = .ok (.iconst 1, 1) := by decide +kernel
theorem dX6_next_6 : decode cX6_next 6 = .ok (.goto 5, 3) := by decide +kernel
theorem dX6_next_9 : decode cX6_next 9 = .ok (.bipush 23, 2) := by decide +kernel
theorem dX6_next_11 : decode cX6_next 11 = .ok (.iadd, 1) := by decide +kernel
theorem dX6_next_12 : decode cX6_next 12 = .ok (.bipush 24, 2) := by decide +kernel
theorem dX6_next_14 : decode cX6_next 14 = .ok (.irem, 1) := by decide +kernel
theorem dX6_next_15 : decode cX6_next 15 = .ok (.ireturn, 1) := by decide +kernel
theorem dX6_tollBy_0 : decode cX6_tollBy 0 = .ok (.iconst 1, 1) := by decide +kernel
theorem dX6_tollBy_1 : decode cX6_tollBy 1 = .ok (.aload_n 0, 1) := by decide +kernel
theorem dX6_tollBy_2 : decode cX6_tollBy 2 = .ok (.iload_n 1, 1) := by decide +kernel
theorem dX6_tollBy_3 : decode cX6_tollBy 3 = .ok (.iconst 2, 1) := by decide +kernel
theorem dX6_tollBy_4 : decode cX6_tollBy 4 = .ok (.invokevirtual 39, 3) := by decide +kernel
theorem dX6_tollBy_7 : decode cX6_tollBy 7 = .ok (.iadd, 1) := by decide +kernel
theorem dX6_tollBy_8 : decode cX6_tollBy 8 = .ok (.iload_n 2, 1) := by decide +kernel
theorem dX6_tollBy_9 : decode cX6_tollBy 9 = .ok (.aload_n 0, 1) := by decide +kernel
theorem dX6_tollBy_10 : decode cX6_tollBy 10 = .ok (.getfield 7, 3) := by decide +kernel
theorem dX6_tollBy_13 : decode cX6_tollBy 13 = .ok (.iconst 1, 1) := by decide +kernel
theorem dX6_tollBy_14 : decode cX6_tollBy 14 = .ok (.iaload, 1) := by decide +kernel
theorem dX6_tollBy_15 : decode cX6_tollBy 15 = .ok (.idiv, 1) := by decide +kernel
theorem dX6_tollBy_16 : decode cX6_tollBy 16 = .ok (.iadd, 1) := by decide +kernel
theorem dX6_tollBy_17 : decode cX6_tollBy 17 = .ok (.istore 4, 2) := by decide +kernel
theorem dX6_tollBy_19 : decode cX6_tollBy 19 = .ok (.iload_n 3, 1) := by decide +kernel
theorem dX6_tollBy_20 : decode cX6_tollBy 20 = .ok (.ifCond .le 12, 3) := by decide +kernel
theorem dX6_tollBy_23 : decode cX6_tollBy 23 = .ok (.iload 4, 2) := by decide +kernel
theorem dX6_tollBy_25 : decode cX6_tollBy 25 = .ok (.iconst 1, 1) := by decide +kernel
theorem dX6_tollBy_26 : decode cX6_tollBy 26 = .ok (.iadd, 1) := by decide +kernel
theorem dX6_tollBy_27 : decode cX6_tollBy 27 = .ok (.iconst 2, 1) := by decide +kernel
theorem dX6_tollBy_28 : decode cX6_tollBy 28 = .ok (.idiv, 1) := by decide +kernel
theorem dX6_tollBy_29 : decode cX6_tollBy 29 = .ok (.goto 5, 3) := by decide +kernel
theorem dX6_tollBy_32 : decode cX6_tollBy 32 = .ok (.iload 4, 2) := by decide +kernel
theorem dX6_tollBy_34 : decode cX6_tollBy 34 = .ok (.ireturn, 1) := by decide +kernel
theorem dX6_nextTooth_0 : decode cX6_nextTooth 0 = .ok (.aload_n 0, 1) := by decide +kernel
theorem dX6_nextTooth_1 : decode cX6_nextTooth 1 = .ok (.iload_n 1, 1) := by decide +kernel
theorem dX6_nextTooth_2 : decode cX6_nextTooth 2 = .ok (.iconst 0, 1) := by decide +kernel
theorem dX6_nextTooth_3 : decode cX6_nextTooth 3 = .ok (.invokevirtual 39, 3) := by decide +kernel
theorem dX6_nextTooth_6 : decode cX6_nextTooth 6 = .ok (.iload_n 2, 1) := by decide +kernel
theorem dX6_nextTooth_7 : decode cX6_nextTooth 7 = .ok (.invokestatic 43, 3) := by decide +kernel
theorem dX6_nextTooth_10 : decode cX6_nextTooth 10 = .ok (.ireturn, 1) := by decide +kernel
theorem dX6_tollNow_0 : decode cX6_tollNow 0 = .ok (.aload_n 0, 1) := by decide +kernel
theorem dX6_tollNow_1 : decode cX6_tollNow 1 = .ok (.iload_n 1, 1) := by decide +kernel
theorem dX6_tollNow_2 : decode cX6_tollNow 2 = .ok (.aload_n 0, 1) := by decide +kernel
theorem dX6_tollNow_3 : decode cX6_tollNow 3 = .ok (.iload_n 1, 1) := by decide +kernel
theorem dX6_tollNow_4 : decode cX6_tollNow 4 = .ok (.bipush 11, 2) := by decide +kernel
theorem dX6_tollNow_6 : decode cX6_tollNow 6 = .ok (.aload_n 0, 1) := by decide +kernel
theorem dX6_tollNow_7 : decode cX6_tollNow 7 = .ok (.iload_n 1, 1) := by decide +kernel
theorem dX6_tollNow_8 : decode cX6_tollNow 8 = .ok (.iload_n 2, 1) := by decide +kernel
theorem dX6_tollNow_9 : decode cX6_tollNow 9 = .ok (.invokevirtual 47, 3) := by decide +kernel
theorem dX6_tollNow_12 : decode cX6_tollNow 12 = .ok (.iadd, 1) := by decide +kernel
theorem dX6_tollNow_13 : decode cX6_tollNow 13 = .ok (.invokevirtual 39, 3) := by decide +kernel
theorem dX6_tollNow_16 : decode cX6_tollNow 16 = .ok (.aload_n 0, 1) := by decide +kernel
theorem dX6_tollNow_17 : decode cX6_tollNow 17 = .ok (.iload_n 1, 1) := by decide +kernel
theorem dX6_tollNow_18 : decode cX6_tollNow 18 = .ok (.iconst 5, 1) := by decide +kernel
theorem dX6_tollNow_19 : decode cX6_tollNow 19 = .ok (.invokevirtual 39, 3) := by decide +kernel
theorem dX6_tollNow_22 : decode cX6_tollNow 22 = .ok (.invokevirtual 50, 3) := by decide +kernel
theorem dX6_tollNow_25 : decode cX6_tollNow 25 = .ok (.ireturn, 1) := by decide +kernel
theorem dX6_slipNow_0 : decode cX6_slipNow 0 = .ok (.aload_n 0, 1) := by decide +kernel
theorem dX6_slipNow_1 : decode cX6_slipNow 1 = .ok (.iload_n 1, 1) := by decide +kernel
theorem dX6_slipNow_2 : decode cX6_slipNow 2 = .ok (.iconst 3, 1) := by decide +kernel
theorem dX6_slipNow_3 : decode cX6_slipNow 3 = .ok (.invokevirtual 39, 3) := by decide +kernel
theorem dX6_slipNow_6 : decode cX6_slipNow 6 = .ok (.iload_n 2, 1) := by decide +kernel
theorem dX6_slipNow_7 : decode cX6_slipNow 7 = .ok (.ifCond .eq 7, 3) := by decide +kernel
theorem dX6_slipNow_10 : decode cX6_slipNow 10 = .ok (.iconst (-1), 1) := by decide +kernel
theorem dX6_slipNow_11 : decode cX6_slipNow 11 = .ok (.goto 4, 3) := by decide +kernel
theorem dX6_slipNow_14 : decode cX6_slipNow 14 = .ok (.iconst 1, 1) := by decide +kernel
theorem dX6_slipNow_15 : decode cX6_slipNow 15 = .ok (.if_icmp .ne 7, 3) := by decide +kernel
theorem dX6_slipNow_18 : decode cX6_slipNow 18 = .ok (.iconst 1, 1) := by decide +kernel
theorem dX6_slipNow_19 : decode cX6_slipNow 19 = .ok (.goto 4, 3) := by decide +kernel
theorem dX6_slipNow_22 : decode cX6_slipNow 22 = .ok (.iconst 0, 1) := by decide +kernel
theorem dX6_slipNow_23 : decode cX6_slipNow 23 = .ok (.istore_n 3, 1) := by decide +kernel
theorem dX6_slipNow_24 : decode cX6_slipNow 24 = .ok (.iload_n 3, 1) := by decide +kernel
theorem dX6_slipNow_25 : decode cX6_slipNow 25 = .ok (.ifCond .ne 7, 3) := by decide +kernel
theorem dX6_slipNow_28 : decode cX6_slipNow 28 = .ok (.iconst 0, 1) := by decide +kernel
theorem dX6_slipNow_29 : decode cX6_slipNow 29 = .ok (.goto 31, 3) := by decide +kernel
theorem dX6_slipNow_32 : decode cX6_slipNow 32 = .ok (.aload_n 0, 1) := by decide +kernel
theorem dX6_slipNow_33 : decode cX6_slipNow 33 = .ok (.iload_n 1, 1) := by decide +kernel
theorem dX6_slipNow_34 : decode cX6_slipNow 34 = .ok (.bipush 11, 2) := by decide +kernel
theorem dX6_slipNow_36 : decode cX6_slipNow 36 = .ok (.aload_n 0, 1) := by decide +kernel
theorem dX6_slipNow_37 : decode cX6_slipNow 37 = .ok (.iload_n 1, 1) := by decide +kernel
theorem dX6_slipNow_38 : decode cX6_slipNow 38 = .ok (.iload_n 2, 1) := by decide +kernel
theorem dX6_slipNow_39 : decode cX6_slipNow 39 = .ok (.invokevirtual 47, 3) := by decide +kernel
theorem dX6_slipNow_42 : decode cX6_slipNow 42 = .ok (.iadd, 1) := by decide +kernel
theorem dX6_slipNow_43 : decode cX6_slipNow 43 = .ok (.invokevirtual 39, 3) := by decide +kernel
theorem dX6_slipNow_46 : decode cX6_slipNow 46 = .ok (.aload_n 0, 1) := by decide +kernel
theorem dX6_slipNow_47 : decode cX6_slipNow 47 = .ok (.getfield 7, 3) := by decide +kernel
theorem dX6_slipNow_50 : decode cX6_slipNow 50 = .ok (.iconst 2, 1) := by decide +kernel
theorem dX6_slipNow_51 : decode cX6_slipNow 51 = .ok (.iaload, 1) := by decide +kernel
theorem dX6_slipNow_52 : decode cX6_slipNow 52 = .ok (.if_icmp .lt 7, 3) := by decide +kernel
theorem dX6_slipNow_55 : decode cX6_slipNow 55 = .ok (.iconst 2, 1) := by decide +kernel
theorem dX6_slipNow_56 : decode cX6_slipNow 56 = .ok (.goto 4, 3) := by decide +kernel
theorem dX6_slipNow_59 : decode cX6_slipNow 59 = .ok (.iconst 1, 1) := by decide +kernel
theorem dX6_slipNow_60 : decode cX6_slipNow 60 = .ok (.ireturn, 1) := by decide +kernel
theorem dX6_canStep_0 : decode cX6_canStep 0 = .ok (.aload_n 0, 1) := by decide +kernel
theorem dX6_canStep_1 : decode cX6_canStep 1 = .ok (.getfield 7, 3) := by decide +kernel
theorem dX6_canStep_4 : decode cX6_canStep 4 = .ok (.bipush 6, 2) := by decide +kernel
theorem dX6_canStep_6 : decode cX6_canStep 6 = .ok (.iaload, 1) := by decide +kernel
theorem dX6_canStep_7 : decode cX6_canStep 7 = .ok (.aload_n 0, 1) := by decide +kernel
theorem dX6_canStep_8 : decode cX6_canStep 8 = .ok (.iload_n 1, 1) := by decide +kernel
theorem dX6_canStep_9 : decode cX6_canStep 9 = .ok (.iload_n 2, 1) := by decide +kernel
theorem dX6_canStep_10 : decode cX6_canStep 10 = .ok (.invokevirtual 54, 3) := by decide +kernel
theorem dX6_canStep_13 : decode cX6_canStep 13 = .ok (.if_icmp .lt 7, 3) := by decide +kernel
theorem dX6_canStep_16 : decode cX6_canStep 16 = .ok (.iconst 1, 1) := by decide +kernel
theorem dX6_canStep_17 : decode cX6_canStep 17 = .ok (.goto 4, 3) := by decide +kernel
theorem dX6_canStep_20 : decode cX6_canStep 20 = .ok (.iconst 0, 1) := by decide +kernel
theorem dX6_canStep_21 : decode cX6_canStep 21 = .ok (.ireturn, 1) := by decide +kernel
theorem dX6_steps_0 : decode cX6_steps 0 = .ok (.aload_n 0, 1) := by decide +kernel
theorem dX6_steps_1 : decode cX6_steps 1 = .ok (.iload_n 1, 1) := by decide +kernel
theorem dX6_steps_2 : decode cX6_steps 2 = .ok (.iload_n 2, 1) := by decide +kernel
theorem dX6_steps_3 : decode cX6_steps 3 = .ok (.invokevirtual 54, 3) := by decide +kernel
theorem dX6_steps_6 : decode cX6_steps 6 = .ok (.istore_n 3, 1) := by decide +kernel
theorem dX6_steps_7 : decode cX6_steps 7 = .ok (.aload_n 0, 1) := by decide +kernel
theorem dX6_steps_8 : decode cX6_steps 8 = .ok (.iload_n 1, 1) := by decide +kernel
theorem dX6_steps_9 : decode cX6_steps 9 = .ok (.iload_n 2, 1) := by decide +kernel
theorem dX6_steps_10 : decode cX6_steps 10 = .ok (.invokevirtual 57, 3) := by decide +kernel
theorem dX6_steps_13 : decode cX6_steps 13 = .ok (.istore 4, 2) := by decide +kernel
theorem dX6_steps_15 : decode cX6_steps 15 = .ok (.aload_n 0, 1) := by decide +kernel
theorem dX6_steps_16 : decode cX6_steps 16 = .ok (.iload_n 1, 1) := by decide +kernel
theorem dX6_steps_17 : decode cX6_steps 17 = .ok (.iload_n 2, 1) := by decide +kernel
theorem dX6_steps_18 : decode cX6_steps 18 = .ok (.invokevirtual 47, 3) := by decide +kernel
theorem dX6_steps_21 : decode cX6_steps 21 = .ok (.istore 5, 2) := by decide +kernel
theorem dX6_steps_23 : decode cX6_steps 23 = .ok (.aload_n 0, 1) := by decide +kernel
theorem dX6_steps_24 : decode cX6_steps 24 = .ok (.getfield 7, 3) := by decide +kernel
theorem dX6_steps_27 : decode cX6_steps 27 = .ok (.bipush 6, 2) := by decide +kernel
theorem dX6_steps_29 : decode cX6_steps 29 = .ok (.iaload, 1) := by decide +kernel
theorem dX6_steps_30 : decode cX6_steps 30 = .ok (.iload_n 3, 1) := by decide +kernel
theorem dX6_steps_31 : decode cX6_steps 31 = .ok (.if_icmp .ge 5, 3) := by decide +kernel
theorem dX6_steps_34 : decode cX6_steps 34 = .ok (.iconst 0, 1) := by decide +kernel
theorem dX6_steps_35 : decode cX6_steps 35 = .ok (.ireturn, 1) := by decide +kernel
theorem dX6_steps_36 : decode cX6_steps 36 = .ok (.aload_n 0, 1) := by decide +kernel
theorem dX6_steps_37 : decode cX6_steps 37 = .ok (.getfield 7, 3) := by decide +kernel
theorem dX6_steps_40 : decode cX6_steps 40 = .ok (.bipush 6, 2) := by decide +kernel
theorem dX6_steps_42 : decode cX6_steps 42 = .ok (.dup2, 1) := by decide +kernel
theorem dX6_steps_43 : decode cX6_steps 43 = .ok (.iaload, 1) := by decide +kernel
theorem dX6_steps_44 : decode cX6_steps 44 = .ok (.iload_n 3, 1) := by decide +kernel
theorem dX6_steps_45 : decode cX6_steps 45 = .ok (.isub, 1) := by decide +kernel
theorem dX6_steps_46 : decode cX6_steps 46 = .ok (.iastore, 1) := by decide +kernel
theorem dX6_steps_47 : decode cX6_steps 47 = .ok (.aload_n 0, 1) := by decide +kernel
theorem dX6_steps_48 : decode cX6_steps 48 = .ok (.iload_n 1, 1) := by decide +kernel
theorem dX6_steps_49 : decode cX6_steps 49 = .ok (.bipush 8, 2) := by decide +kernel
theorem dX6_steps_51 : decode cX6_steps 51 = .ok (.iload_n 3, 1) := by decide +kernel
theorem dX6_steps_52 : decode cX6_steps 52 = .ok (.invokevirtual 60, 3) := by decide +kernel
theorem dX6_steps_55 : decode cX6_steps 55 = .ok (.aload_n 0, 1) := by decide +kernel
theorem dX6_steps_56 : decode cX6_steps 56 = .ok (.iload_n 1, 1) := by decide +kernel
theorem dX6_steps_57 : decode cX6_steps 57 = .ok (.bipush 6, 2) := by decide +kernel
theorem dX6_steps_59 : decode cX6_steps 59 = .ok (.iconst 1, 1) := by decide +kernel
theorem dX6_steps_60 : decode cX6_steps 60 = .ok (.invokevirtual 60, 3) := by decide +kernel
theorem dX6_steps_63 : decode cX6_steps 63 = .ok (.aload_n 0, 1) := by decide +kernel
theorem dX6_steps_64 : decode cX6_steps 64 = .ok (.iload_n 1, 1) := by decide +kernel
theorem dX6_steps_65 : decode cX6_steps 65 = .ok (.iconst 5, 1) := by decide +kernel
theorem dX6_steps_66 : decode cX6_steps 66 = .ok (.aload_n 0, 1) := by decide +kernel
theorem dX6_steps_67 : decode cX6_steps 67 = .ok (.iload_n 1, 1) := by decide +kernel
theorem dX6_steps_68 : decode cX6_steps 68 = .ok (.iconst 5, 1) := by decide +kernel
theorem dX6_steps_69 : decode cX6_steps 69 = .ok (.invokevirtual 39, 3) := by decide +kernel
theorem dX6_steps_72 : decode cX6_steps 72 = .ok (.ifCond .le 7, 3) := by decide +kernel
theorem dX6_steps_75 : decode cX6_steps 75 = .ok (.iconst (-1), 1) := by decide +kernel
theorem dX6_steps_76 : decode cX6_steps 76 = .ok (.goto 4, 3) := by decide +kernel
theorem dX6_steps_79 : decode cX6_steps 79 = .ok (.iconst 0, 1) := by decide +kernel
theorem dX6_steps_80 : decode cX6_steps 80 = .ok (.invokevirtual 60, 3) := by decide +kernel
theorem dX6_steps_83 : decode cX6_steps 83 = .ok (.aload_n 0, 1) := by decide +kernel
theorem dX6_steps_84 : decode cX6_steps 84 = .ok (.iload_n 1, 1) := by decide +kernel
theorem dX6_steps_85 : decode cX6_steps 85 = .ok (.bipush 9, 2) := by decide +kernel
theorem dX6_steps_87 : decode cX6_steps 87 = .ok (.iload 4, 2) := by decide +kernel
theorem dX6_steps_89 : decode cX6_steps 89 = .ok (.ifCond .le 7, 3) := by decide +kernel
theorem dX6_steps_92 : decode cX6_steps 92 = .ok (.iconst 1, 1) := by decide +kernel
theorem dX6_steps_93 : decode cX6_steps 93 = .ok (.goto 4, 3) := by decide +kernel
theorem dX6_steps_96 : decode cX6_steps 96 = .ok (.iconst 0, 1) := by decide +kernel
theorem dX6_steps_97 : decode cX6_steps 97 = .ok (.invokevirtual 60, 3) := by decide +kernel
theorem dX6_steps_100 : decode cX6_steps 100 = .ok (.aload_n 0, 1) := by decide +kernel
theorem dX6_steps_101 : decode cX6_steps 101 = .ok (.iload_n 1, 1) := by decide +kernel
theorem dX6_steps_102 : decode cX6_steps 102 = .ok (.iconst 4, 1) := by decide +kernel
theorem dX6_steps_103 : decode cX6_steps 103 = .ok (.iload 4, 2) := by decide +kernel
theorem dX6_steps_105 : decode cX6_steps 105 = .ok (.ifCond .le 18, 3) := by decide +kernel
theorem dX6_steps_108 : decode cX6_steps 108 = .ok (.aload_n 0, 1) := by decide +kernel
theorem dX6_steps_109 : decode cX6_steps 109 = .ok (.iload_n 1, 1) := by decide +kernel
theorem dX6_steps_110 : decode cX6_steps 110 = .ok (.iconst 4, 1) := by decide +kernel
theorem dX6_steps_111 : decode cX6_steps 111 = .ok (.invokevirtual 39, 3) := by decide +kernel
theorem dX6_steps_114 : decode cX6_steps 114 = .ok (.bipush 12, 2) := by decide +kernel
theorem dX6_steps_116 : decode cX6_steps 116 = .ok (.if_icmp .ge 7, 3) := by decide +kernel
theorem dX6_steps_119 : decode cX6_steps 119 = .ok (.iconst 1, 1) := by decide +kernel
theorem dX6_steps_120 : decode cX6_steps 120 = .ok (.goto 4, 3) := by decide +kernel
theorem dX6_steps_123 : decode cX6_steps 123 = .ok (.iconst 0, 1) := by decide +kernel
theorem dX6_steps_124 : decode cX6_steps 124 = .ok (.invokevirtual 60, 3) := by decide +kernel
theorem dX6_steps_127 : decode cX6_steps 127 = .ok (.aload_n 0, 1) := by decide +kernel
theorem dX6_steps_128 : decode cX6_steps 128 = .ok (.iload_n 1, 1) := by decide +kernel
theorem dX6_steps_129 : decode cX6_steps 129 = .ok (.bipush 7, 2) := by decide +kernel
theorem dX6_steps_131 : decode cX6_steps 131 = .ok (.iload 4, 2) := by decide +kernel
theorem dX6_steps_133 : decode cX6_steps 133 = .ok (.iconst 2, 1) := by decide +kernel
theorem dX6_steps_134 : decode cX6_steps 134 = .ok (.if_icmp .ne 7, 3) := by decide +kernel
theorem dX6_steps_137 : decode cX6_steps 137 = .ok (.iconst 1, 1) := by decide +kernel
theorem dX6_steps_138 : decode cX6_steps 138 = .ok (.goto 4, 3) := by decide +kernel
theorem dX6_steps_141 : decode cX6_steps 141 = .ok (.iconst 0, 1) := by decide +kernel
theorem dX6_steps_142 : decode cX6_steps 142 = .ok (.invokevirtual 60, 3) := by decide +kernel
theorem dX6_steps_145 : decode cX6_steps 145 = .ok (.aload_n 0, 1) := by decide +kernel
theorem dX6_steps_146 : decode cX6_steps 146 = .ok (.iload_n 1, 1) := by decide +kernel
theorem dX6_steps_147 : decode cX6_steps 147 = .ok (.iconst 1, 1) := by decide +kernel
theorem dX6_steps_148 : decode cX6_steps 148 = .ok (.aload_n 0, 1) := by decide +kernel
theorem dX6_steps_149 : decode cX6_steps 149 = .ok (.iload_n 1, 1) := by decide +kernel
theorem dX6_steps_150 : decode cX6_steps 150 = .ok (.iconst 1, 1) := by decide +kernel
theorem dX6_steps_151 : decode cX6_steps 151 = .ok (.invokevirtual 39, 3) := by decide +kernel
theorem dX6_steps_154 : decode cX6_steps 154 = .ok (.iload_n 2, 1) := by decide +kernel
theorem dX6_steps_155 : decode cX6_steps 155 = .ok (.invokestatic 64, 3) := by decide +kernel
theorem dX6_steps_158 : decode cX6_steps 158 = .ok (.invokevirtual 67, 3) := by decide +kernel
theorem dX6_steps_161 : decode cX6_steps 161 = .ok (.aload_n 0, 1) := by decide +kernel
theorem dX6_steps_162 : decode cX6_steps 162 = .ok (.iload_n 1, 1) := by decide +kernel
theorem dX6_steps_163 : decode cX6_steps 163 = .ok (.iconst 0, 1) := by decide +kernel
theorem dX6_steps_164 : decode cX6_steps 164 = .ok (.iload 4, 2) := by decide +kernel
theorem dX6_steps_166 : decode cX6_steps 166 = .ok (.iconst 2, 1) := by decide +kernel
theorem dX6_steps_167 : decode cX6_steps 167 = .ok (.if_icmp .ne 12, 3) := by decide +kernel
theorem dX6_steps_170 : decode cX6_steps 170 = .ok (.aload_n 0, 1) := by decide +kernel
theorem dX6_steps_171 : decode cX6_steps 171 = .ok (.iload_n 1, 1) := by decide +kernel
theorem dX6_steps_172 : decode cX6_steps 172 = .ok (.iconst 0, 1) := by decide +kernel
theorem dX6_steps_173 : decode cX6_steps 173 = .ok (.invokevirtual 39, 3) := by decide +kernel
theorem dX6_steps_176 : decode cX6_steps 176 = .ok (.goto 13, 3) := by decide +kernel
theorem dX6_steps_179 : decode cX6_steps 179 = .ok (.aload_n 0, 1) := by decide +kernel
theorem dX6_steps_180 : decode cX6_steps 180 = .ok (.iload_n 1, 1) := by decide +kernel
theorem dX6_steps_181 : decode cX6_steps 181 = .ok (.iconst 0, 1) := by decide +kernel
theorem dX6_steps_182 : decode cX6_steps 182 = .ok (.invokevirtual 39, 3) := by decide +kernel
theorem dX6_steps_185 : decode cX6_steps 185 = .ok (.iload_n 2, 1) := by decide +kernel
theorem dX6_steps_186 : decode cX6_steps 186 = .ok (.invokestatic 64, 3) := by decide +kernel
theorem dX6_steps_189 : decode cX6_steps 189 = .ok (.invokevirtual 67, 3) := by decide +kernel
theorem dX6_steps_192 : decode cX6_steps 192 = .ok (.aload_n 0, 1) := by decide +kernel
theorem dX6_steps_193 : decode cX6_steps 193 = .ok (.iload_n 1, 1) := by decide +kernel
theorem dX6_steps_194 : decode cX6_steps 194 = .ok (.bipush 11, 2) := by decide +kernel
theorem dX6_steps_196 : decode cX6_steps 196 = .ok (.iload 5, 2) := by decide +kernel
theorem dX6_steps_198 : decode cX6_steps 198 = .ok (.iadd, 1) := by decide +kernel
theorem dX6_steps_199 : decode cX6_steps 199 = .ok (.invokevirtual 39, 3) := by decide +kernel
theorem dX6_steps_202 : decode cX6_steps 202 = .ok (.aload_n 0, 1) := by decide +kernel
theorem dX6_steps_203 : decode cX6_steps 203 = .ok (.getfield 7, 3) := by decide +kernel
theorem dX6_steps_206 : decode cX6_steps 206 = .ok (.iconst 0, 1) := by decide +kernel
theorem dX6_steps_207 : decode cX6_steps 207 = .ok (.iaload, 1) := by decide +kernel
theorem dX6_steps_208 : decode cX6_steps 208 = .ok (.iadd, 1) := by decide +kernel
theorem dX6_steps_209 : decode cX6_steps 209 = .ok (.istore 6, 2) := by decide +kernel
theorem dX6_steps_211 : decode cX6_steps 211 = .ok (.aload_n 0, 1) := by decide +kernel
theorem dX6_steps_212 : decode cX6_steps 212 = .ok (.iload_n 1, 1) := by decide +kernel
theorem dX6_steps_213 : decode cX6_steps 213 = .ok (.bipush 11, 2) := by decide +kernel
theorem dX6_steps_215 : decode cX6_steps 215 = .ok (.iload 5, 2) := by decide +kernel
theorem dX6_steps_217 : decode cX6_steps 217 = .ok (.iadd, 1) := by decide +kernel
theorem dX6_steps_218 : decode cX6_steps 218 = .ok (.iload 6, 2) := by decide +kernel
theorem dX6_steps_220 : decode cX6_steps 220 = .ok (.bipush 99, 2) := by decide +kernel
theorem dX6_steps_222 : decode cX6_steps 222 = .ok (.if_icmp .le 8, 3) := by decide +kernel
theorem dX6_steps_225 : decode cX6_steps 225 = .ok (.bipush 99, 2) := by decide +kernel
theorem dX6_steps_227 : decode cX6_steps 227 = .ok (.goto 5, 3) := by decide +kernel
theorem dX6_steps_230 : decode cX6_steps 230 = .ok (.iload 6, 2) := by decide +kernel
theorem dX6_steps_232 : decode cX6_steps 232 = .ok (.invokevirtual 67, 3) := by decide +kernel
theorem dX6_steps_235 : decode cX6_steps 235 = .ok (.aload_n 0, 1) := by decide +kernel
theorem dX6_steps_236 : decode cX6_steps 236 = .ok (.iload_n 1, 1) := by decide +kernel
theorem dX6_steps_237 : decode cX6_steps 237 = .ok (.iconst 3, 1) := by decide +kernel
theorem dX6_steps_238 : decode cX6_steps 238 = .ok (.iload_n 2, 1) := by decide +kernel
theorem dX6_steps_239 : decode cX6_steps 239 = .ok (.ifCond .eq 7, 3) := by decide +kernel
theorem dX6_steps_242 : decode cX6_steps 242 = .ok (.iconst 1, 1) := by decide +kernel
theorem dX6_steps_243 : decode cX6_steps 243 = .ok (.goto 4, 3) := by decide +kernel
theorem dX6_steps_246 : decode cX6_steps 246 = .ok (.iconst (-1), 1) := by decide +kernel
theorem dX6_steps_247 : decode cX6_steps 247 = .ok (.invokevirtual 67, 3) := by decide +kernel
theorem dX6_steps_250 : decode cX6_steps 250 = .ok (.iconst 1, 1) := by decide +kernel
theorem dX6_steps_251 : decode cX6_steps 251 = .ok (.ireturn, 1) := by decide +kernel
theorem dX6_earn_0 : decode cX6_earn 0 = .ok (.aload_n 0, 1) := by decide +kernel
theorem dX6_earn_1 : decode cX6_earn 1 = .ok (.iload_n 1, 1) := by decide +kernel
theorem dX6_earn_2 : decode cX6_earn 2 = .ok (.iconst 1, 1) := by decide +kernel
theorem dX6_earn_3 : decode cX6_earn 3 = .ok (.sipush 10000, 3) := by decide +kernel
theorem dX6_earn_6 : decode cX6_earn 6 = .ok (.invokestatic 35, 3) := by decide +kernel
theorem dX6_earn_9 : decode cX6_earn 9 = .ok (.ifCond .ne 7, 3) := by decide +kernel
theorem dX6_earn_12 : decode cX6_earn 12 = .ok (.iconst 1, 1) := by decide +kernel
theorem dX6_earn_13 : decode cX6_earn 13 = .ok (.goto 22, 3) := by decide +kernel
theorem dX6_earn_16 : decode cX6_earn 16 = .ok (.aload_n 0, 1) := by decide +kernel
theorem dX6_earn_17 : decode cX6_earn 17 = .ok (.getfield 7, 3) := by decide +kernel
theorem dX6_earn_20 : decode cX6_earn 20 = .ok (.bipush 6, 2) := by decide +kernel
theorem dX6_earn_22 : decode cX6_earn 22 = .ok (.iaload, 1) := by decide +kernel
theorem dX6_earn_23 : decode cX6_earn 23 = .ok (.iload_n 1, 1) := by decide +kernel
theorem dX6_earn_24 : decode cX6_earn 24 = .ok (.iadd, 1) := by decide +kernel
theorem dX6_earn_25 : decode cX6_earn 25 = .ok (.ldc 70, 2) := by decide +kernel
theorem dX6_earn_27 : decode cX6_earn 27 = .ok (.if_icmp .le 7, 3) := by decide +kernel
theorem dX6_earn_30 : decode cX6_earn 30 = .ok (.iconst 2, 1) := by decide +kernel
theorem dX6_earn_31 : decode cX6_earn 31 = .ok (.goto 4, 3) := by decide +kernel
theorem dX6_earn_34 : decode cX6_earn 34 = .ok (.iconst 0, 1) := by decide +kernel
theorem dX6_earn_35 : decode cX6_earn 35 = .ok (.putfield 29, 3) := by decide +kernel
theorem dX6_earn_38 : decode cX6_earn 38 = .ok (.aload_n 0, 1) := by decide +kernel
theorem dX6_earn_39 : decode cX6_earn 39 = .ok (.getfield 29, 3) := by decide +kernel
theorem dX6_earn_42 : decode cX6_earn 42 = .ok (.ifCond .le 5, 3) := by decide +kernel
theorem dX6_earn_45 : decode cX6_earn 45 = .ok (.iconst 0, 1) := by decide +kernel
theorem dX6_earn_46 : decode cX6_earn 46 = .ok (.ireturn, 1) := by decide +kernel
theorem dX6_earn_47 : decode cX6_earn 47 = .ok (.aload_n 0, 1) := by decide +kernel
theorem dX6_earn_48 : decode cX6_earn 48 = .ok (.invokevirtual 71, 3) := by decide +kernel
theorem dX6_earn_51 : decode cX6_earn 51 = .ok (.aload_n 0, 1) := by decide +kernel
theorem dX6_earn_52 : decode cX6_earn 52 = .ok (.getfield 7, 3) := by decide +kernel
theorem dX6_earn_55 : decode cX6_earn 55 = .ok (.bipush 6, 2) := by decide +kernel
theorem dX6_earn_57 : decode cX6_earn 57 = .ok (.dup2, 1) := by decide +kernel
theorem dX6_earn_58 : decode cX6_earn 58 = .ok (.iaload, 1) := by decide +kernel
theorem dX6_earn_59 : decode cX6_earn 59 = .ok (.iload_n 1, 1) := by decide +kernel
theorem dX6_earn_60 : decode cX6_earn 60 = .ok (.iadd, 1) := by decide +kernel
theorem dX6_earn_61 : decode cX6_earn 61 = .ok (.iastore, 1) := by decide +kernel
theorem dX6_earn_62 : decode cX6_earn 62 = .ok (.aload_n 0, 1) := by decide +kernel
theorem dX6_earn_63 : decode cX6_earn 63 = .ok (.getfield 7, 3) := by decide +kernel
theorem dX6_earn_66 : decode cX6_earn 66 = .ok (.bipush 6, 2) := by decide +kernel
theorem dX6_earn_68 : decode cX6_earn 68 = .ok (.iaload, 1) := by decide +kernel
theorem dX6_earn_69 : decode cX6_earn 69 = .ok (.ireturn, 1) := by decide +kernel
theorem dX6_load_0 : decode cX6_load 0 = .ok (.aload_n 0, 1) := by decide +kernel
theorem dX6_load_1 : decode cX6_load 1 = .ok (.iload_n 1, 1) := by decide +kernel
theorem dX6_load_2 : decode cX6_load 2 = .ok (.invokestatic 74, 3) := by decide +kernel
theorem dX6_load_5 : decode cX6_load 5 = .ok (.ifCond .ne 7, 3) := by decide +kernel
theorem dX6_load_8 : decode cX6_load 8 = .ok (.iconst 1, 1) := by decide +kernel
theorem dX6_load_9 : decode cX6_load 9 = .ok (.goto 17, 3) := by decide +kernel
theorem dX6_load_12 : decode cX6_load 12 = .ok (.iload_n 2, 1) := by decide +kernel
theorem dX6_load_13 : decode cX6_load 13 = .ok (.iconst 0, 1) := by decide +kernel
theorem dX6_load_14 : decode cX6_load 14 = .ok (.iconst 5, 1) := by decide +kernel
theorem dX6_load_15 : decode cX6_load 15 = .ok (.invokestatic 35, 3) := by decide +kernel
theorem dX6_load_18 : decode cX6_load 18 = .ok (.ifCond .eq 7, 3) := by decide +kernel
theorem dX6_load_21 : decode cX6_load 21 = .ok (.iconst 0, 1) := by decide +kernel
theorem dX6_load_22 : decode cX6_load 22 = .ok (.goto 4, 3) := by decide +kernel
theorem dX6_load_25 : decode cX6_load 25 = .ok (.iconst 2, 1) := by decide +kernel
theorem dX6_load_26 : decode cX6_load 26 = .ok (.putfield 29, 3) := by decide +kernel
theorem dX6_load_29 : decode cX6_load 29 = .ok (.aload_n 0, 1) := by decide +kernel
theorem dX6_load_30 : decode cX6_load 30 = .ok (.getfield 29, 3) := by decide +kernel
theorem dX6_load_33 : decode cX6_load 33 = .ok (.ifCond .le 5, 3) := by decide +kernel
theorem dX6_load_36 : decode cX6_load 36 = .ok (.iconst 0, 1) := by decide +kernel
theorem dX6_load_37 : decode cX6_load 37 = .ok (.ireturn, 1) := by decide +kernel
theorem dX6_load_38 : decode cX6_load 38 = .ok (.aload_n 0, 1) := by decide +kernel
theorem dX6_load_39 : decode cX6_load 39 = .ok (.invokevirtual 71, 3) := by decide +kernel
theorem dX6_load_42 : decode cX6_load 42 = .ok (.aload_n 0, 1) := by decide +kernel
theorem dX6_load_43 : decode cX6_load 43 = .ok (.iload_n 1, 1) := by decide +kernel
theorem dX6_load_44 : decode cX6_load 44 = .ok (.iconst 2, 1) := by decide +kernel
theorem dX6_load_45 : decode cX6_load 45 = .ok (.invokevirtual 39, 3) := by decide +kernel
theorem dX6_load_48 : decode cX6_load 48 = .ok (.istore_n 3, 1) := by decide +kernel
theorem dX6_load_49 : decode cX6_load 49 = .ok (.aload_n 0, 1) := by decide +kernel
theorem dX6_load_50 : decode cX6_load 50 = .ok (.iload_n 1, 1) := by decide +kernel
theorem dX6_load_51 : decode cX6_load 51 = .ok (.iconst 2, 1) := by decide +kernel
theorem dX6_load_52 : decode cX6_load 52 = .ok (.iload_n 2, 1) := by decide +kernel
theorem dX6_load_53 : decode cX6_load 53 = .ok (.invokevirtual 67, 3) := by decide +kernel
theorem dX6_load_56 : decode cX6_load 56 = .ok (.iload_n 3, 1) := by decide +kernel
theorem dX6_load_57 : decode cX6_load 57 = .ok (.ireturn, 1) := by decide +kernel
theorem dX6_isSetting_0 : decode cX6_isSetting 0 = .ok (.iload_n 0, 1) := by decide +kernel
theorem dX6_isSetting_1 : decode cX6_isSetting 1 = .ok (.iconst 0, 1) := by decide +kernel
theorem dX6_isSetting_2 : decode cX6_isSetting 2 = .ok (.iconst 5, 1) := by decide +kernel
theorem dX6_isSetting_3 : decode cX6_isSetting 3 = .ok (.invokestatic 35, 3) := by decide +kernel
theorem dX6_isSetting_6 : decode cX6_isSetting 6 = .ok (.ireturn, 1) := by decide +kernel
theorem dX6_isValue_0 : decode cX6_isValue 0 = .ok (.iload_n 0, 1) := by decide +kernel
theorem dX6_isValue_1 : decode cX6_isValue 1 = .ok (.tableswitch 68 1 5 #[35, 43, 68, 51, 59], 35) := by decide +kernel
theorem dX6_isValue_36 : decode cX6_isValue 36 = .ok (.iload_n 1, 1) := by decide +kernel
theorem dX6_isValue_37 : decode cX6_isValue 37 = .ok (.iconst 1, 1) := by decide +kernel
theorem dX6_isValue_38 : decode cX6_isValue 38 = .ok (.bipush 50, 2) := by decide +kernel
theorem dX6_isValue_40 : decode cX6_isValue 40 = .ok (.invokestatic 35, 3) := by decide +kernel
theorem dX6_isValue_43 : decode cX6_isValue 43 = .ok (.ireturn, 1) := by decide +kernel
theorem dX6_isValue_44 : decode cX6_isValue 44 = .ok (.iload_n 1, 1) := by decide +kernel
theorem dX6_isValue_45 : decode cX6_isValue 45 = .ok (.iconst 1, 1) := by decide +kernel
theorem dX6_isValue_46 : decode cX6_isValue 46 = .ok (.bipush 99, 2) := by decide +kernel
theorem dX6_isValue_48 : decode cX6_isValue 48 = .ok (.invokestatic 35, 3) := by decide +kernel
theorem dX6_isValue_51 : decode cX6_isValue 51 = .ok (.ireturn, 1) := by decide +kernel
theorem dX6_isValue_52 : decode cX6_isValue 52 = .ok (.iload_n 1, 1) := by decide +kernel
theorem dX6_isValue_53 : decode cX6_isValue 53 = .ok (.iconst 0, 1) := by decide +kernel
theorem dX6_isValue_54 : decode cX6_isValue 54 = .ok (.bipush 100, 2) := by decide +kernel
theorem dX6_isValue_56 : decode cX6_isValue 56 = .ok (.invokestatic 35, 3) := by decide +kernel
theorem dX6_isValue_59 : decode cX6_isValue 59 = .ok (.ireturn, 1) := by decide +kernel
theorem dX6_isValue_60 : decode cX6_isValue 60 = .ok (.iload_n 1, 1) := by decide +kernel
theorem dX6_isValue_61 : decode cX6_isValue 61 = .ok (.iconst 0, 1) := by decide +kernel
theorem dX6_isValue_62 : decode cX6_isValue 62 = .ok (.sipush 200, 3) := by decide +kernel
theorem dX6_isValue_65 : decode cX6_isValue 65 = .ok (.invokestatic 35, 3) := by decide +kernel
theorem dX6_isValue_68 : decode cX6_isValue 68 = .ok (.ireturn, 1) := by decide +kernel
theorem dX6_isValue_69 : decode cX6_isValue 69 = .ok (.iload_n 1, 1) := by decide +kernel
theorem dX6_isValue_70 : decode cX6_isValue 70 = .ok (.iconst 0, 1) := by decide +kernel
theorem dX6_isValue_71 : decode cX6_isValue 71 = .ok (.bipush 20, 2) := by decide +kernel
theorem dX6_isValue_73 : decode cX6_isValue 73 = .ok (.invokestatic 35, 3) := by decide +kernel
theorem dX6_isValue_76 : decode cX6_isValue 76 = .ok (.ireturn, 1) := by decide +kernel
theorem dX6_set_0 : decode cX6_set 0 = .ok (.aload_n 0, 1) := by decide +kernel
theorem dX6_set_1 : decode cX6_set 1 = .ok (.iload_n 1, 1) := by decide +kernel
theorem dX6_set_2 : decode cX6_set 2 = .ok (.invokestatic 78, 3) := by decide +kernel
theorem dX6_set_5 : decode cX6_set 5 = .ok (.ifCond .ne 7, 3) := by decide +kernel
theorem dX6_set_8 : decode cX6_set 8 = .ok (.iconst 1, 1) := by decide +kernel
theorem dX6_set_9 : decode cX6_set 9 = .ok (.goto 16, 3) := by decide +kernel
theorem dX6_set_12 : decode cX6_set 12 = .ok (.iload_n 1, 1) := by decide +kernel
theorem dX6_set_13 : decode cX6_set 13 = .ok (.iload_n 2, 1) := by decide +kernel
theorem dX6_set_14 : decode cX6_set 14 = .ok (.invokestatic 81, 3) := by decide +kernel
theorem dX6_set_17 : decode cX6_set 17 = .ok (.ifCond .eq 7, 3) := by decide +kernel
theorem dX6_set_20 : decode cX6_set 20 = .ok (.iconst 0, 1) := by decide +kernel
theorem dX6_set_21 : decode cX6_set 21 = .ok (.goto 4, 3) := by decide +kernel
theorem dX6_set_24 : decode cX6_set 24 = .ok (.iconst 2, 1) := by decide +kernel
theorem dX6_set_25 : decode cX6_set 25 = .ok (.putfield 29, 3) := by decide +kernel
theorem dX6_set_28 : decode cX6_set 28 = .ok (.aload_n 0, 1) := by decide +kernel
theorem dX6_set_29 : decode cX6_set 29 = .ok (.getfield 29, 3) := by decide +kernel
theorem dX6_set_32 : decode cX6_set 32 = .ok (.ifCond .le 5, 3) := by decide +kernel
theorem dX6_set_35 : decode cX6_set 35 = .ok (.iconst 0, 1) := by decide +kernel
theorem dX6_set_36 : decode cX6_set 36 = .ok (.ireturn, 1) := by decide +kernel
theorem dX6_set_37 : decode cX6_set 37 = .ok (.aload_n 0, 1) := by decide +kernel
theorem dX6_set_38 : decode cX6_set 38 = .ok (.invokevirtual 71, 3) := by decide +kernel
theorem dX6_set_41 : decode cX6_set 41 = .ok (.aload_n 0, 1) := by decide +kernel
theorem dX6_set_42 : decode cX6_set 42 = .ok (.getfield 7, 3) := by decide +kernel
theorem dX6_set_45 : decode cX6_set 45 = .ok (.iconst 0, 1) := by decide +kernel
theorem dX6_set_46 : decode cX6_set 46 = .ok (.iload_n 1, 1) := by decide +kernel
theorem dX6_set_47 : decode cX6_set 47 = .ok (.iadd, 1) := by decide +kernel
theorem dX6_set_48 : decode cX6_set 48 = .ok (.iaload, 1) := by decide +kernel
theorem dX6_set_49 : decode cX6_set 49 = .ok (.istore_n 3, 1) := by decide +kernel
theorem dX6_set_50 : decode cX6_set 50 = .ok (.aload_n 0, 1) := by decide +kernel
theorem dX6_set_51 : decode cX6_set 51 = .ok (.getfield 7, 3) := by decide +kernel
theorem dX6_set_54 : decode cX6_set 54 = .ok (.iconst 0, 1) := by decide +kernel
theorem dX6_set_55 : decode cX6_set 55 = .ok (.iload_n 1, 1) := by decide +kernel
theorem dX6_set_56 : decode cX6_set 56 = .ok (.iadd, 1) := by decide +kernel
theorem dX6_set_57 : decode cX6_set 57 = .ok (.iload_n 2, 1) := by decide +kernel
theorem dX6_set_58 : decode cX6_set 58 = .ok (.iastore, 1) := by decide +kernel
theorem dX6_set_59 : decode cX6_set 59 = .ok (.iload_n 3, 1) := by decide +kernel
theorem dX6_set_60 : decode cX6_set 60 = .ok (.ireturn, 1) := by decide +kernel
theorem dX6_makeSteps_0 : decode cX6_makeSteps 0 = .ok (.iconst 0, 1) := by decide +kernel
theorem dX6_makeSteps_1 : decode cX6_makeSteps 1 = .ok (.istore 4, 2) := by decide +kernel
theorem dX6_makeSteps_3 : decode cX6_makeSteps 3 = .ok (.iload 4, 2) := by decide +kernel
theorem dX6_makeSteps_5 : decode cX6_makeSteps 5 = .ok (.iload_n 3, 1) := by decide +kernel
theorem dX6_makeSteps_6 : decode cX6_makeSteps 6 = .ok (.if_icmp .ge 18, 3) := by decide +kernel
theorem dX6_makeSteps_9 : decode cX6_makeSteps 9 = .ok (.aload_n 0, 1) := by decide +kernel
theorem dX6_makeSteps_10 : decode cX6_makeSteps 10 = .ok (.iload_n 1, 1) := by decide +kernel
theorem dX6_makeSteps_11 : decode cX6_makeSteps 11 = .ok (.iload_n 2, 1) := by decide +kernel
theorem dX6_makeSteps_12 : decode cX6_makeSteps 12 = .ok (.invokevirtual 85, 3) := by decide +kernel
theorem dX6_makeSteps_15 : decode cX6_makeSteps 15 = .ok (.ifCond .eq 9, 3) := by decide +kernel
theorem dX6_makeSteps_18 : decode cX6_makeSteps 18 = .ok (.iinc 4 1, 3) := by decide +kernel
theorem dX6_makeSteps_21 : decode cX6_makeSteps 21 = .ok (.goto (-18), 3) := by decide +kernel
theorem dX6_makeSteps_24 : decode cX6_makeSteps 24 = .ok (.iload 4, 2) := by decide +kernel
theorem dX6_makeSteps_26 : decode cX6_makeSteps 26 = .ok (.ireturn, 1) := by decide +kernel
theorem dX6_step_0 : decode cX6_step 0 = .ok (.aload_n 0, 1) := by decide +kernel
theorem dX6_step_1 : decode cX6_step 1 = .ok (.iload_n 1, 1) := by decide +kernel
theorem dX6_step_2 : decode cX6_step 2 = .ok (.invokestatic 74, 3) := by decide +kernel
theorem dX6_step_5 : decode cX6_step 5 = .ok (.ifCond .ne 7, 3) := by decide +kernel
theorem dX6_step_8 : decode cX6_step 8 = .ok (.iconst 1, 1) := by decide +kernel
theorem dX6_step_9 : decode cX6_step 9 = .ok (.goto 44, 3) := by decide +kernel
theorem dX6_step_12 : decode cX6_step 12 = .ok (.iload_n 2, 1) := by decide +kernel
theorem dX6_step_13 : decode cX6_step 13 = .ok (.ifCond .eq 14, 3) := by decide +kernel
theorem dX6_step_16 : decode cX6_step 16 = .ok (.iload_n 2, 1) := by decide +kernel
theorem dX6_step_17 : decode cX6_step 17 = .ok (.bipush (-24), 2) := by decide +kernel
theorem dX6_step_19 : decode cX6_step 19 = .ok (.bipush 24, 2) := by decide +kernel
theorem dX6_step_21 : decode cX6_step 21 = .ok (.invokestatic 35, 3) := by decide +kernel
theorem dX6_step_24 : decode cX6_step 24 = .ok (.ifCond .ne 7, 3) := by decide +kernel
theorem dX6_step_27 : decode cX6_step 27 = .ok (.iconst 2, 1) := by decide +kernel
theorem dX6_step_28 : decode cX6_step 28 = .ok (.goto 25, 3) := by decide +kernel
theorem dX6_step_31 : decode cX6_step 31 = .ok (.aload_n 0, 1) := by decide +kernel
theorem dX6_step_32 : decode cX6_step 32 = .ok (.iload_n 1, 1) := by decide +kernel
theorem dX6_step_33 : decode cX6_step 33 = .ok (.iload_n 2, 1) := by decide +kernel
theorem dX6_step_34 : decode cX6_step 34 = .ok (.ifCond .le 7, 3) := by decide +kernel
theorem dX6_step_37 : decode cX6_step 37 = .ok (.iconst 1, 1) := by decide +kernel
theorem dX6_step_38 : decode cX6_step 38 = .ok (.goto 4, 3) := by decide +kernel
theorem dX6_step_41 : decode cX6_step 41 = .ok (.iconst 0, 1) := by decide +kernel
theorem dX6_step_42 : decode cX6_step 42 = .ok (.invokevirtual 89, 3) := by decide +kernel
theorem dX6_step_45 : decode cX6_step 45 = .ok (.ifCond .eq 7, 3) := by decide +kernel
theorem dX6_step_48 : decode cX6_step 48 = .ok (.iconst 0, 1) := by decide +kernel
theorem dX6_step_49 : decode cX6_step 49 = .ok (.goto 4, 3) := by decide +kernel
theorem dX6_step_52 : decode cX6_step 52 = .ok (.iconst 3, 1) := by decide +kernel
theorem dX6_step_53 : decode cX6_step 53 = .ok (.putfield 29, 3) := by decide +kernel
theorem dX6_step_56 : decode cX6_step 56 = .ok (.aload_n 0, 1) := by decide +kernel
theorem dX6_step_57 : decode cX6_step 57 = .ok (.getfield 29, 3) := by decide +kernel
theorem dX6_step_60 : decode cX6_step 60 = .ok (.ifCond .le 5, 3) := by decide +kernel
theorem dX6_step_63 : decode cX6_step 63 = .ok (.iconst 0, 1) := by decide +kernel
theorem dX6_step_64 : decode cX6_step 64 = .ok (.ireturn, 1) := by decide +kernel
theorem dX6_step_65 : decode cX6_step 65 = .ok (.aload_n 0, 1) := by decide +kernel
theorem dX6_step_66 : decode cX6_step 66 = .ok (.invokevirtual 71, 3) := by decide +kernel
theorem dX6_step_69 : decode cX6_step 69 = .ok (.aload_n 0, 1) := by decide +kernel
theorem dX6_step_70 : decode cX6_step 70 = .ok (.iload_n 1, 1) := by decide +kernel
theorem dX6_step_71 : decode cX6_step 71 = .ok (.iload_n 2, 1) := by decide +kernel
theorem dX6_step_72 : decode cX6_step 72 = .ok (.ifCond .le 7, 3) := by decide +kernel
theorem dX6_step_75 : decode cX6_step 75 = .ok (.iconst 1, 1) := by decide +kernel
theorem dX6_step_76 : decode cX6_step 76 = .ok (.goto 4, 3) := by decide +kernel
theorem dX6_step_79 : decode cX6_step 79 = .ok (.iconst 0, 1) := by decide +kernel
theorem dX6_step_80 : decode cX6_step 80 = .ok (.iload_n 2, 1) := by decide +kernel
theorem dX6_step_81 : decode cX6_step 81 = .ok (.ifCond .ge 8, 3) := by decide +kernel
theorem dX6_step_84 : decode cX6_step 84 = .ok (.iload_n 2, 1) := by decide +kernel
theorem dX6_step_85 : decode cX6_step 85 = .ok (.ineg, 1) := by decide +kernel
theorem dX6_step_86 : decode cX6_step 86 = .ok (.goto 4, 3) := by decide +kernel
theorem dX6_step_89 : decode cX6_step 89 = .ok (.iload_n 2, 1) := by decide +kernel
theorem dX6_step_90 : decode cX6_step 90 = .ok (.invokevirtual 92, 3) := by decide +kernel
theorem dX6_step_93 : decode cX6_step 93 = .ok (.ireturn, 1) := by decide +kernel
theorem dX6_costNow_0 : decode cX6_costNow 0 = .ok (.aload_n 0, 1) := by decide +kernel
theorem dX6_costNow_1 : decode cX6_costNow 1 = .ok (.iload_n 1, 1) := by decide +kernel
theorem dX6_costNow_2 : decode cX6_costNow 2 = .ok (.iconst 1, 1) := by decide +kernel
theorem dX6_costNow_3 : decode cX6_costNow 3 = .ok (.invokevirtual 39, 3) := by decide +kernel
theorem dX6_costNow_6 : decode cX6_costNow 6 = .ok (.istore 4, 2) := by decide +kernel
theorem dX6_costNow_8 : decode cX6_costNow 8 = .ok (.aload_n 0, 1) := by decide +kernel
theorem dX6_costNow_9 : decode cX6_costNow 9 = .ok (.iload_n 1, 1) := by decide +kernel
theorem dX6_costNow_10 : decode cX6_costNow 10 = .ok (.iconst 5, 1) := by decide +kernel
theorem dX6_costNow_11 : decode cX6_costNow 11 = .ok (.invokevirtual 39, 3) := by decide +kernel
theorem dX6_costNow_14 : decode cX6_costNow 14 = .ok (.istore 5, 2) := by decide +kernel
theorem dX6_costNow_16 : decode cX6_costNow 16 = .ok (.iconst 0, 1) := by decide +kernel
theorem dX6_costNow_17 : decode cX6_costNow 17 = .ok (.istore 6, 2) := by decide +kernel
theorem dX6_costNow_19 : decode cX6_costNow 19 = .ok (.iload 4, 2) := by decide +kernel
theorem dX6_costNow_21 : decode cX6_costNow 21 = .ok (.iload_n 2, 1) := by decide +kernel
theorem dX6_costNow_22 : decode cX6_costNow 22 = .ok (.if_icmp .eq 60, 3) := by decide +kernel
theorem dX6_costNow_25 : decode cX6_costNow 25 = .ok (.iload 4, 2) := by decide +kernel
theorem dX6_costNow_27 : decode cX6_costNow 27 = .ok (.iload_n 3, 1) := by decide +kernel
theorem dX6_costNow_28 : decode cX6_costNow 28 = .ok (.invokestatic 43, 3) := by decide +kernel
theorem dX6_costNow_31 : decode cX6_costNow 31 = .ok (.istore 7, 2) := by decide +kernel
theorem dX6_costNow_33 : decode cX6_costNow 33 = .ok (.iload 6, 2) := by decide +kernel
theorem dX6_costNow_35 : decode cX6_costNow 35 = .ok (.aload_n 0, 1) := by decide +kernel
theorem dX6_costNow_36 : decode cX6_costNow 36 = .ok (.iload_n 1, 1) := by decide +kernel
theorem dX6_costNow_37 : decode cX6_costNow 37 = .ok (.iload 7, 2) := by decide +kernel
theorem dX6_costNow_39 : decode cX6_costNow 39 = .ok (.aload_n 0, 1) := by decide +kernel
theorem dX6_costNow_40 : decode cX6_costNow 40 = .ok (.getfield 19, 3) := by decide +kernel
theorem dX6_costNow_43 : decode cX6_costNow 43 = .ok (.if_icmp .ne 7, 3) := by decide +kernel
theorem dX6_costNow_46 : decode cX6_costNow 46 = .ok (.iconst 0, 1) := by decide +kernel
theorem dX6_costNow_47 : decode cX6_costNow 47 = .ok (.goto 13, 3) := by decide +kernel
theorem dX6_costNow_50 : decode cX6_costNow 50 = .ok (.aload_n 0, 1) := by decide +kernel
theorem dX6_costNow_51 : decode cX6_costNow 51 = .ok (.iload_n 1, 1) := by decide +kernel
theorem dX6_costNow_52 : decode cX6_costNow 52 = .ok (.bipush 11, 2) := by decide +kernel
theorem dX6_costNow_54 : decode cX6_costNow 54 = .ok (.iload 7, 2) := by decide +kernel
theorem dX6_costNow_56 : decode cX6_costNow 56 = .ok (.iadd, 1) := by decide +kernel
theorem dX6_costNow_57 : decode cX6_costNow 57 = .ok (.invokevirtual 39, 3) := by decide +kernel
theorem dX6_costNow_60 : decode cX6_costNow 60 = .ok (.iload 5, 2) := by decide +kernel
theorem dX6_costNow_62 : decode cX6_costNow 62 = .ok (.invokevirtual 50, 3) := by decide +kernel
theorem dX6_costNow_65 : decode cX6_costNow 65 = .ok (.iadd, 1) := by decide +kernel
theorem dX6_costNow_66 : decode cX6_costNow 66 = .ok (.istore 6, 2) := by decide +kernel
theorem dX6_costNow_68 : decode cX6_costNow 68 = .ok (.iinc 5 (-1), 3) := by decide +kernel
theorem dX6_costNow_71 : decode cX6_costNow 71 = .ok (.iload 4, 2) := by decide +kernel
theorem dX6_costNow_73 : decode cX6_costNow 73 = .ok (.iload_n 3, 1) := by decide +kernel
theorem dX6_costNow_74 : decode cX6_costNow 74 = .ok (.invokestatic 64, 3) := by decide +kernel
theorem dX6_costNow_77 : decode cX6_costNow 77 = .ok (.istore 4, 2) := by decide +kernel
theorem dX6_costNow_79 : decode cX6_costNow 79 = .ok (.goto (-60), 3) := by decide +kernel
theorem dX6_costNow_82 : decode cX6_costNow 82 = .ok (.iload 6, 2) := by decide +kernel
theorem dX6_costNow_84 : decode cX6_costNow 84 = .ok (.ireturn, 1) := by decide +kernel
theorem dX6_goesUp_0 : decode cX6_goesUp 0 = .ok (.aload_n 0, 1) := by decide +kernel
theorem dX6_goesUp_1 : decode cX6_goesUp 1 = .ok (.iload_n 1, 1) := by decide +kernel
theorem dX6_goesUp_2 : decode cX6_goesUp 2 = .ok (.iload_n 2, 1) := by decide +kernel
theorem dX6_goesUp_3 : decode cX6_goesUp 3 = .ok (.iconst 1, 1) := by decide +kernel
theorem dX6_goesUp_4 : decode cX6_goesUp 4 = .ok (.invokevirtual 96, 3) := by decide +kernel
theorem dX6_goesUp_7 : decode cX6_goesUp 7 = .ok (.aload_n 0, 1) := by decide +kernel
theorem dX6_goesUp_8 : decode cX6_goesUp 8 = .ok (.iload_n 1, 1) := by decide +kernel
theorem dX6_goesUp_9 : decode cX6_goesUp 9 = .ok (.iload_n 2, 1) := by decide +kernel
theorem dX6_goesUp_10 : decode cX6_goesUp 10 = .ok (.iconst 0, 1) := by decide +kernel
theorem dX6_goesUp_11 : decode cX6_goesUp 11 = .ok (.invokevirtual 96, 3) := by decide +kernel
theorem dX6_goesUp_14 : decode cX6_goesUp 14 = .ok (.if_icmp .gt 7, 3) := by decide +kernel
theorem dX6_goesUp_17 : decode cX6_goesUp 17 = .ok (.iconst 1, 1) := by decide +kernel
theorem dX6_goesUp_18 : decode cX6_goesUp 18 = .ok (.goto 4, 3) := by decide +kernel
theorem dX6_goesUp_21 : decode cX6_goesUp 21 = .ok (.iconst 0, 1) := by decide +kernel
theorem dX6_goesUp_22 : decode cX6_goesUp 22 = .ok (.ireturn, 1) := by decide +kernel
theorem dX6_canGo_0 : decode cX6_canGo 0 = .ok (.aload_n 0, 1) := by decide +kernel
theorem dX6_canGo_1 : decode cX6_canGo 1 = .ok (.iload_n 1, 1) := by decide +kernel
theorem dX6_canGo_2 : decode cX6_canGo 2 = .ok (.iconst 1, 1) := by decide +kernel
theorem dX6_canGo_3 : decode cX6_canGo 3 = .ok (.invokevirtual 39, 3) := by decide +kernel
theorem dX6_canGo_6 : decode cX6_canGo 6 = .ok (.iload_n 2, 1) := by decide +kernel
theorem dX6_canGo_7 : decode cX6_canGo 7 = .ok (.if_icmp .eq 17, 3) := by decide +kernel
theorem dX6_canGo_10 : decode cX6_canGo 10 = .ok (.aload_n 0, 1) := by decide +kernel
theorem dX6_canGo_11 : decode cX6_canGo 11 = .ok (.iload_n 1, 1) := by decide +kernel
theorem dX6_canGo_12 : decode cX6_canGo 12 = .ok (.aload_n 0, 1) := by decide +kernel
theorem dX6_canGo_13 : decode cX6_canGo 13 = .ok (.iload_n 1, 1) := by decide +kernel
theorem dX6_canGo_14 : decode cX6_canGo 14 = .ok (.iload_n 2, 1) := by decide +kernel
theorem dX6_canGo_15 : decode cX6_canGo 15 = .ok (.invokevirtual 100, 3) := by decide +kernel
theorem dX6_canGo_18 : decode cX6_canGo 18 = .ok (.invokevirtual 89, 3) := by decide +kernel
theorem dX6_canGo_21 : decode cX6_canGo 21 = .ok (.ifCond .eq 7, 3) := by decide +kernel
theorem dX6_canGo_24 : decode cX6_canGo 24 = .ok (.iconst 1, 1) := by decide +kernel
theorem dX6_canGo_25 : decode cX6_canGo 25 = .ok (.goto 4, 3) := by decide +kernel
theorem dX6_canGo_28 : decode cX6_canGo 28 = .ok (.iconst 0, 1) := by decide +kernel
theorem dX6_canGo_29 : decode cX6_canGo 29 = .ok (.ireturn, 1) := by decide +kernel
theorem dX6_goes_0 : decode cX6_goes 0 = .ok (.aload_n 0, 1) := by decide +kernel
theorem dX6_goes_1 : decode cX6_goes 1 = .ok (.iload_n 1, 1) := by decide +kernel
theorem dX6_goes_2 : decode cX6_goes 2 = .ok (.bipush 8, 2) := by decide +kernel
theorem dX6_goes_4 : decode cX6_goes 4 = .ok (.invokevirtual 39, 3) := by decide +kernel
theorem dX6_goes_7 : decode cX6_goes 7 = .ok (.istore_n 3, 1) := by decide +kernel
theorem dX6_goes_8 : decode cX6_goes 8 = .ok (.aload_n 0, 1) := by decide +kernel
theorem dX6_goes_9 : decode cX6_goes 9 = .ok (.iload_n 1, 1) := by decide +kernel
theorem dX6_goes_10 : decode cX6_goes 10 = .ok (.iload_n 2, 1) := by decide +kernel
theorem dX6_goes_11 : decode cX6_goes 11 = .ok (.invokevirtual 100, 3) := by decide +kernel
theorem dX6_goes_14 : decode cX6_goes 14 = .ok (.istore 4, 2) := by decide +kernel
theorem dX6_goes_16 : decode cX6_goes 16 = .ok (.iconst 1, 1) := by decide +kernel
theorem dX6_goes_17 : decode cX6_goes 17 = .ok (.istore 5, 2) := by decide +kernel
theorem dX6_goes_19 : decode cX6_goes 19 = .ok (.iload 5, 2) := by decide +kernel
theorem dX6_goes_21 : decode cX6_goes 21 = .ok (.ifCond .eq 25, 3) := by decide +kernel
theorem dX6_goes_24 : decode cX6_goes 24 = .ok (.aload_n 0, 1) := by decide +kernel
theorem dX6_goes_25 : decode cX6_goes 25 = .ok (.iload_n 1, 1) := by decide +kernel
theorem dX6_goes_26 : decode cX6_goes 26 = .ok (.iconst 1, 1) := by decide +kernel
theorem dX6_goes_27 : decode cX6_goes 27 = .ok (.invokevirtual 39, 3) := by decide +kernel
theorem dX6_goes_30 : decode cX6_goes 30 = .ok (.iload_n 2, 1) := by decide +kernel
theorem dX6_goes_31 : decode cX6_goes 31 = .ok (.if_icmp .eq 15, 3) := by decide +kernel
theorem dX6_goes_34 : decode cX6_goes 34 = .ok (.aload_n 0, 1) := by decide +kernel
theorem dX6_goes_35 : decode cX6_goes 35 = .ok (.iload_n 1, 1) := by decide +kernel
theorem dX6_goes_36 : decode cX6_goes 36 = .ok (.iload 4, 2) := by decide +kernel
theorem dX6_goes_38 : decode cX6_goes 38 = .ok (.invokevirtual 85, 3) := by decide +kernel
theorem dX6_goes_41 : decode cX6_goes 41 = .ok (.istore 5, 2) := by decide +kernel
theorem dX6_goes_43 : decode cX6_goes 43 = .ok (.goto (-24), 3) := by decide +kernel
theorem dX6_goes_46 : decode cX6_goes 46 = .ok (.aload_n 0, 1) := by decide +kernel
theorem dX6_goes_47 : decode cX6_goes 47 = .ok (.iload_n 1, 1) := by decide +kernel
theorem dX6_goes_48 : decode cX6_goes 48 = .ok (.bipush 8, 2) := by decide +kernel
theorem dX6_goes_50 : decode cX6_goes 50 = .ok (.invokevirtual 39, 3) := by decide +kernel
theorem dX6_goes_53 : decode cX6_goes 53 = .ok (.iload_n 3, 1) := by decide +kernel
theorem dX6_goes_54 : decode cX6_goes 54 = .ok (.isub, 1) := by decide +kernel
theorem dX6_goes_55 : decode cX6_goes 55 = .ok (.ireturn, 1) := by decide +kernel
theorem dX6_go_0 : decode cX6_go 0 = .ok (.aload_n 0, 1) := by decide +kernel
theorem dX6_go_1 : decode cX6_go 1 = .ok (.iload_n 1, 1) := by decide +kernel
theorem dX6_go_2 : decode cX6_go 2 = .ok (.invokestatic 74, 3) := by decide +kernel
theorem dX6_go_5 : decode cX6_go 5 = .ok (.ifCond .ne 7, 3) := by decide +kernel
theorem dX6_go_8 : decode cX6_go 8 = .ok (.iconst 1, 1) := by decide +kernel
theorem dX6_go_9 : decode cX6_go 9 = .ok (.goto 28, 3) := by decide +kernel
theorem dX6_go_12 : decode cX6_go 12 = .ok (.iload_n 2, 1) := by decide +kernel
theorem dX6_go_13 : decode cX6_go 13 = .ok (.invokestatic 103, 3) := by decide +kernel
theorem dX6_go_16 : decode cX6_go 16 = .ok (.ifCond .ne 7, 3) := by decide +kernel
theorem dX6_go_19 : decode cX6_go 19 = .ok (.iconst 2, 1) := by decide +kernel
theorem dX6_go_20 : decode cX6_go 20 = .ok (.goto 17, 3) := by decide +kernel
theorem dX6_go_23 : decode cX6_go 23 = .ok (.aload_n 0, 1) := by decide +kernel
theorem dX6_go_24 : decode cX6_go 24 = .ok (.iload_n 1, 1) := by decide +kernel
theorem dX6_go_25 : decode cX6_go 25 = .ok (.iload_n 2, 1) := by decide +kernel
theorem dX6_go_26 : decode cX6_go 26 = .ok (.invokevirtual 106, 3) := by decide +kernel
theorem dX6_go_29 : decode cX6_go 29 = .ok (.ifCond .eq 7, 3) := by decide +kernel
theorem dX6_go_32 : decode cX6_go 32 = .ok (.iconst 0, 1) := by decide +kernel
theorem dX6_go_33 : decode cX6_go 33 = .ok (.goto 4, 3) := by decide +kernel
theorem dX6_go_36 : decode cX6_go 36 = .ok (.iconst 3, 1) := by decide +kernel
theorem dX6_go_37 : decode cX6_go 37 = .ok (.putfield 29, 3) := by decide +kernel
theorem dX6_go_40 : decode cX6_go 40 = .ok (.aload_n 0, 1) := by decide +kernel
theorem dX6_go_41 : decode cX6_go 41 = .ok (.getfield 29, 3) := by decide +kernel
theorem dX6_go_44 : decode cX6_go 44 = .ok (.ifCond .le 5, 3) := by decide +kernel
theorem dX6_go_47 : decode cX6_go 47 = .ok (.iconst 0, 1) := by decide +kernel
theorem dX6_go_48 : decode cX6_go 48 = .ok (.ireturn, 1) := by decide +kernel
theorem dX6_go_49 : decode cX6_go 49 = .ok (.aload_n 0, 1) := by decide +kernel
theorem dX6_go_50 : decode cX6_go 50 = .ok (.invokevirtual 71, 3) := by decide +kernel
theorem dX6_go_53 : decode cX6_go 53 = .ok (.aload_n 0, 1) := by decide +kernel
theorem dX6_go_54 : decode cX6_go 54 = .ok (.iload_n 1, 1) := by decide +kernel
theorem dX6_go_55 : decode cX6_go 55 = .ok (.iload_n 2, 1) := by decide +kernel
theorem dX6_go_56 : decode cX6_go 56 = .ok (.invokevirtual 109, 3) := by decide +kernel
theorem dX6_go_59 : decode cX6_go 59 = .ok (.ireturn, 1) := by decide +kernel
theorem dX6_homes_0 : decode cX6_homes 0 = .ok (.iconst 0, 1) := by decide +kernel
theorem dX6_homes_1 : decode cX6_homes 1 = .ok (.istore_n 2, 1) := by decide +kernel
theorem dX6_homes_2 : decode cX6_homes 2 = .ok (.aload_n 0, 1) := by decide +kernel
theorem dX6_homes_3 : decode cX6_homes 3 = .ok (.iload_n 1, 1) := by decide +kernel
theorem dX6_homes_4 : decode cX6_homes 4 = .ok (.iconst 0, 1) := by decide +kernel
theorem dX6_homes_5 : decode cX6_homes 5 = .ok (.invokevirtual 39, 3) := by decide +kernel
theorem dX6_homes_8 : decode cX6_homes 8 = .ok (.ifCond .eq 24, 3) := by decide +kernel
theorem dX6_homes_11 : decode cX6_homes 11 = .ok (.iload_n 2, 1) := by decide +kernel
theorem dX6_homes_12 : decode cX6_homes 12 = .ok (.bipush 40, 2) := by decide +kernel
theorem dX6_homes_14 : decode cX6_homes 14 = .ok (.if_icmp .ge 18, 3) := by decide +kernel
theorem dX6_homes_17 : decode cX6_homes 17 = .ok (.aload_n 0, 1) := by decide +kernel
theorem dX6_homes_18 : decode cX6_homes 18 = .ok (.iload_n 1, 1) := by decide +kernel
theorem dX6_homes_19 : decode cX6_homes 19 = .ok (.iconst 0, 1) := by decide +kernel
theorem dX6_homes_20 : decode cX6_homes 20 = .ok (.invokevirtual 85, 3) := by decide +kernel
theorem dX6_homes_23 : decode cX6_homes 23 = .ok (.ifCond .eq 9, 3) := by decide +kernel
theorem dX6_homes_26 : decode cX6_homes 26 = .ok (.iinc 2 1, 3) := by decide +kernel
theorem dX6_homes_29 : decode cX6_homes 29 = .ok (.goto (-27), 3) := by decide +kernel
theorem dX6_homes_32 : decode cX6_homes 32 = .ok (.aload_n 0, 1) := by decide +kernel
theorem dX6_homes_33 : decode cX6_homes 33 = .ok (.iload_n 1, 1) := by decide +kernel
theorem dX6_homes_34 : decode cX6_homes 34 = .ok (.iconst 0, 1) := by decide +kernel
theorem dX6_homes_35 : decode cX6_homes 35 = .ok (.invokevirtual 39, 3) := by decide +kernel
theorem dX6_homes_38 : decode cX6_homes 38 = .ok (.ifCond .ne 34, 3) := by decide +kernel
theorem dX6_homes_41 : decode cX6_homes 41 = .ok (.aload_n 0, 1) := by decide +kernel
theorem dX6_homes_42 : decode cX6_homes 42 = .ok (.iload_n 1, 1) := by decide +kernel
theorem dX6_homes_43 : decode cX6_homes 43 = .ok (.iconst 1, 1) := by decide +kernel
theorem dX6_homes_44 : decode cX6_homes 44 = .ok (.iconst 0, 1) := by decide +kernel
theorem dX6_homes_45 : decode cX6_homes 45 = .ok (.invokevirtual 67, 3) := by decide +kernel
theorem dX6_homes_48 : decode cX6_homes 48 = .ok (.aload_n 0, 1) := by decide +kernel
theorem dX6_homes_49 : decode cX6_homes 49 = .ok (.iload_n 1, 1) := by decide +kernel
theorem dX6_homes_50 : decode cX6_homes 50 = .ok (.iconst 4, 1) := by decide +kernel
theorem dX6_homes_51 : decode cX6_homes 51 = .ok (.iconst 0, 1) := by decide +kernel
theorem dX6_homes_52 : decode cX6_homes 52 = .ok (.invokevirtual 67, 3) := by decide +kernel
theorem dX6_homes_55 : decode cX6_homes 55 = .ok (.aload_n 0, 1) := by decide +kernel
theorem dX6_homes_56 : decode cX6_homes 56 = .ok (.iload_n 1, 1) := by decide +kernel
theorem dX6_homes_57 : decode cX6_homes 57 = .ok (.iconst 3, 1) := by decide +kernel
theorem dX6_homes_58 : decode cX6_homes 58 = .ok (.iconst 0, 1) := by decide +kernel
theorem dX6_homes_59 : decode cX6_homes 59 = .ok (.invokevirtual 67, 3) := by decide +kernel
theorem dX6_homes_62 : decode cX6_homes 62 = .ok (.aload_n 0, 1) := by decide +kernel
theorem dX6_homes_63 : decode cX6_homes 63 = .ok (.iload_n 1, 1) := by decide +kernel
theorem dX6_homes_64 : decode cX6_homes 64 = .ok (.bipush 10, 2) := by decide +kernel
theorem dX6_homes_66 : decode cX6_homes 66 = .ok (.iconst 1, 1) := by decide +kernel
theorem dX6_homes_67 : decode cX6_homes 67 = .ok (.invokevirtual 60, 3) := by decide +kernel
theorem dX6_homes_70 : decode cX6_homes 70 = .ok (.iload_n 2, 1) := by decide +kernel
theorem dX6_homes_71 : decode cX6_homes 71 = .ok (.ireturn, 1) := by decide +kernel
theorem dX6_homes_72 : decode cX6_homes 72 = .ok (.iconst (-1), 1) := by decide +kernel
theorem dX6_homes_73 : decode cX6_homes 73 = .ok (.ireturn, 1) := by decide +kernel
theorem dX6_home_0 : decode cX6_home 0 = .ok (.aload_n 0, 1) := by decide +kernel
theorem dX6_home_1 : decode cX6_home 1 = .ok (.iload_n 1, 1) := by decide +kernel
theorem dX6_home_2 : decode cX6_home 2 = .ok (.invokestatic 74, 3) := by decide +kernel
theorem dX6_home_5 : decode cX6_home 5 = .ok (.ifCond .eq 7, 3) := by decide +kernel
theorem dX6_home_8 : decode cX6_home 8 = .ok (.iconst 0, 1) := by decide +kernel
theorem dX6_home_9 : decode cX6_home 9 = .ok (.goto 4, 3) := by decide +kernel
theorem dX6_home_12 : decode cX6_home 12 = .ok (.iconst 1, 1) := by decide +kernel
theorem dX6_home_13 : decode cX6_home 13 = .ok (.putfield 29, 3) := by decide +kernel
theorem dX6_home_16 : decode cX6_home 16 = .ok (.aload_n 0, 1) := by decide +kernel
theorem dX6_home_17 : decode cX6_home 17 = .ok (.getfield 29, 3) := by decide +kernel
theorem dX6_home_20 : decode cX6_home 20 = .ok (.ifCond .le 5, 3) := by decide +kernel
theorem dX6_home_23 : decode cX6_home 23 = .ok (.iconst 0, 1) := by decide +kernel
theorem dX6_home_24 : decode cX6_home 24 = .ok (.ireturn, 1) := by decide +kernel
theorem dX6_home_25 : decode cX6_home 25 = .ok (.aload_n 0, 1) := by decide +kernel
theorem dX6_home_26 : decode cX6_home 26 = .ok (.invokevirtual 71, 3) := by decide +kernel
theorem dX6_home_29 : decode cX6_home 29 = .ok (.aload_n 0, 1) := by decide +kernel
theorem dX6_home_30 : decode cX6_home 30 = .ok (.iload_n 1, 1) := by decide +kernel
theorem dX6_home_31 : decode cX6_home 31 = .ok (.invokevirtual 112, 3) := by decide +kernel
theorem dX6_home_34 : decode cX6_home 34 = .ok (.ireturn, 1) := by decide +kernel
theorem dX6_pay_0 : decode cX6_pay 0 = .ok (.aload_n 0, 1) := by decide +kernel
theorem dX6_pay_1 : decode cX6_pay 1 = .ok (.getfield 7, 3) := by decide +kernel
theorem dX6_pay_4 : decode cX6_pay 4 = .ok (.bipush 6, 2) := by decide +kernel
theorem dX6_pay_6 : decode cX6_pay 6 = .ok (.dup2, 1) := by decide +kernel
theorem dX6_pay_7 : decode cX6_pay 7 = .ok (.iaload, 1) := by decide +kernel
theorem dX6_pay_8 : decode cX6_pay 8 = .ok (.iload_n 1, 1) := by decide +kernel
theorem dX6_pay_9 : decode cX6_pay 9 = .ok (.isub, 1) := by decide +kernel
theorem dX6_pay_10 : decode cX6_pay 10 = .ok (.iastore, 1) := by decide +kernel
theorem dX6_pay_11 : decode cX6_pay 11 = .ok (.aload_n 0, 1) := by decide +kernel
theorem dX6_pay_12 : decode cX6_pay 12 = .ok (.getfield 7, 3) := by decide +kernel
theorem dX6_pay_15 : decode cX6_pay 15 = .ok (.bipush 7, 2) := by decide +kernel
theorem dX6_pay_17 : decode cX6_pay 17 = .ok (.dup2, 1) := by decide +kernel
theorem dX6_pay_18 : decode cX6_pay 18 = .ok (.iaload, 1) := by decide +kernel
theorem dX6_pay_19 : decode cX6_pay 19 = .ok (.iload_n 1, 1) := by decide +kernel
theorem dX6_pay_20 : decode cX6_pay 20 = .ok (.iadd, 1) := by decide +kernel
theorem dX6_pay_21 : decode cX6_pay 21 = .ok (.iastore, 1) := by decide +kernel
theorem dX6_pay_22 : decode cX6_pay 22 = .ok (.return_, 1) := by decide +kernel
theorem dX6_canGrease_0 : decode cX6_canGrease 0 = .ok (.aload_n 0, 1) := by decide +kernel
theorem dX6_canGrease_1 : decode cX6_canGrease 1 = .ok (.getfield 7, 3) := by decide +kernel
theorem dX6_canGrease_4 : decode cX6_canGrease 4 = .ok (.bipush 6, 2) := by decide +kernel
theorem dX6_canGrease_6 : decode cX6_canGrease 6 = .ok (.iaload, 1) := by decide +kernel
theorem dX6_canGrease_7 : decode cX6_canGrease 7 = .ok (.aload_n 0, 1) := by decide +kernel
theorem dX6_canGrease_8 : decode cX6_canGrease 8 = .ok (.getfield 7, 3) := by decide +kernel
theorem dX6_canGrease_11 : decode cX6_canGrease 11 = .ok (.iconst 5, 1) := by decide +kernel
theorem dX6_canGrease_12 : decode cX6_canGrease 12 = .ok (.iaload, 1) := by decide +kernel
theorem dX6_canGrease_13 : decode cX6_canGrease 13 = .ok (.if_icmp .lt 7, 3) := by decide +kernel
theorem dX6_canGrease_16 : decode cX6_canGrease 16 = .ok (.iconst 1, 1) := by decide +kernel
theorem dX6_canGrease_17 : decode cX6_canGrease 17 = .ok (.goto 4, 3) := by decide +kernel
theorem dX6_canGrease_20 : decode cX6_canGrease 20 = .ok (.iconst 0, 1) := by decide +kernel
theorem dX6_canGrease_21 : decode cX6_canGrease 21 = .ok (.ireturn, 1) := by decide +kernel
theorem dX6_greases_0 : decode cX6_greases 0 = .ok (.aload_n 0, 1) := by decide +kernel
theorem dX6_greases_1 : decode cX6_greases 1 = .ok (.aload_n 0, 1) := by decide +kernel
theorem dX6_greases_2 : decode cX6_greases 2 = .ok (.getfield 7, 3) := by decide +kernel
theorem dX6_greases_5 : decode cX6_greases 5 = .ok (.iconst 5, 1) := by decide +kernel
theorem dX6_greases_6 : decode cX6_greases 6 = .ok (.iaload, 1) := by decide +kernel
theorem dX6_greases_7 : decode cX6_greases 7 = .ok (.invokevirtual 116, 3) := by decide +kernel
theorem dX6_greases_10 : decode cX6_greases 10 = .ok (.aload_n 0, 1) := by decide +kernel
theorem dX6_greases_11 : decode cX6_greases 11 = .ok (.iload_n 1, 1) := by decide +kernel
theorem dX6_greases_12 : decode cX6_greases 12 = .ok (.iconst 5, 1) := by decide +kernel
theorem dX6_greases_13 : decode cX6_greases 13 = .ok (.aload_n 0, 1) := by decide +kernel
theorem dX6_greases_14 : decode cX6_greases 14 = .ok (.getfield 7, 3) := by decide +kernel
theorem dX6_greases_17 : decode cX6_greases 17 = .ok (.iconst 4, 1) := by decide +kernel
theorem dX6_greases_18 : decode cX6_greases 18 = .ok (.iaload, 1) := by decide +kernel
theorem dX6_greases_19 : decode cX6_greases 19 = .ok (.invokevirtual 67, 3) := by decide +kernel
theorem dX6_greases_22 : decode cX6_greases 22 = .ok (.return_, 1) := by decide +kernel
theorem dX6_grease_0 : decode cX6_grease 0 = .ok (.aload_n 0, 1) := by decide +kernel
theorem dX6_grease_1 : decode cX6_grease 1 = .ok (.iload_n 1, 1) := by decide +kernel
theorem dX6_grease_2 : decode cX6_grease 2 = .ok (.invokestatic 74, 3) := by decide +kernel
theorem dX6_grease_5 : decode cX6_grease 5 = .ok (.ifCond .ne 7, 3) := by decide +kernel
theorem dX6_grease_8 : decode cX6_grease 8 = .ok (.iconst 1, 1) := by decide +kernel
theorem dX6_grease_9 : decode cX6_grease 9 = .ok (.goto 15, 3) := by decide +kernel
theorem dX6_grease_12 : decode cX6_grease 12 = .ok (.aload_n 0, 1) := by decide +kernel
theorem dX6_grease_13 : decode cX6_grease 13 = .ok (.invokevirtual 120, 3) := by decide +kernel
theorem dX6_grease_16 : decode cX6_grease 16 = .ok (.ifCond .eq 7, 3) := by decide +kernel
theorem dX6_grease_19 : decode cX6_grease 19 = .ok (.iconst 0, 1) := by decide +kernel
theorem dX6_grease_20 : decode cX6_grease 20 = .ok (.goto 4, 3) := by decide +kernel
theorem dX6_grease_23 : decode cX6_grease 23 = .ok (.iconst 2, 1) := by decide +kernel
theorem dX6_grease_24 : decode cX6_grease 24 = .ok (.putfield 29, 3) := by decide +kernel
theorem dX6_grease_27 : decode cX6_grease 27 = .ok (.aload_n 0, 1) := by decide +kernel
theorem dX6_grease_28 : decode cX6_grease 28 = .ok (.getfield 29, 3) := by decide +kernel
theorem dX6_grease_31 : decode cX6_grease 31 = .ok (.ifCond .le 5, 3) := by decide +kernel
theorem dX6_grease_34 : decode cX6_grease 34 = .ok (.iconst 0, 1) := by decide +kernel
theorem dX6_grease_35 : decode cX6_grease 35 = .ok (.ireturn, 1) := by decide +kernel
theorem dX6_grease_36 : decode cX6_grease 36 = .ok (.aload_n 0, 1) := by decide +kernel
theorem dX6_grease_37 : decode cX6_grease 37 = .ok (.invokevirtual 71, 3) := by decide +kernel
theorem dX6_grease_40 : decode cX6_grease 40 = .ok (.aload_n 0, 1) := by decide +kernel
theorem dX6_grease_41 : decode cX6_grease 41 = .ok (.iload_n 1, 1) := by decide +kernel
theorem dX6_grease_42 : decode cX6_grease 42 = .ok (.invokevirtual 124, 3) := by decide +kernel
theorem dX6_grease_45 : decode cX6_grease 45 = .ok (.aload_n 0, 1) := by decide +kernel
theorem dX6_grease_46 : decode cX6_grease 46 = .ok (.getfield 7, 3) := by decide +kernel
theorem dX6_grease_49 : decode cX6_grease 49 = .ok (.bipush 6, 2) := by decide +kernel
theorem dX6_grease_51 : decode cX6_grease 51 = .ok (.iaload, 1) := by decide +kernel
theorem dX6_grease_52 : decode cX6_grease 52 = .ok (.ireturn, 1) := by decide +kernel
theorem dX6_mend_0 : decode cX6_mend 0 = .ok (.aload_n 0, 1) := by decide +kernel
theorem dX6_mend_1 : decode cX6_mend 1 = .ok (.iload_n 1, 1) := by decide +kernel
theorem dX6_mend_2 : decode cX6_mend 2 = .ok (.invokestatic 74, 3) := by decide +kernel
theorem dX6_mend_5 : decode cX6_mend 5 = .ok (.ifCond .eq 14, 3) := by decide +kernel
theorem dX6_mend_8 : decode cX6_mend 8 = .ok (.iload_n 2, 1) := by decide +kernel
theorem dX6_mend_9 : decode cX6_mend 9 = .ok (.invokestatic 103, 3) := by decide +kernel
theorem dX6_mend_12 : decode cX6_mend 12 = .ok (.ifCond .eq 7, 3) := by decide +kernel
theorem dX6_mend_15 : decode cX6_mend 15 = .ok (.iconst 0, 1) := by decide +kernel
theorem dX6_mend_16 : decode cX6_mend 16 = .ok (.goto 4, 3) := by decide +kernel
theorem dX6_mend_19 : decode cX6_mend 19 = .ok (.iconst 1, 1) := by decide +kernel
theorem dX6_mend_20 : decode cX6_mend 20 = .ok (.putfield 29, 3) := by decide +kernel
theorem dX6_mend_23 : decode cX6_mend 23 = .ok (.aload_n 0, 1) := by decide +kernel
theorem dX6_mend_24 : decode cX6_mend 24 = .ok (.getfield 29, 3) := by decide +kernel
theorem dX6_mend_27 : decode cX6_mend 27 = .ok (.ifCond .ne 38, 3) := by decide +kernel
theorem dX6_mend_30 : decode cX6_mend 30 = .ok (.aload_n 0, 1) := by decide +kernel
theorem dX6_mend_31 : decode cX6_mend 31 = .ok (.aload_n 0, 1) := by decide +kernel
theorem dX6_mend_32 : decode cX6_mend 32 = .ok (.getfield 7, 3) := by decide +kernel
theorem dX6_mend_35 : decode cX6_mend 35 = .ok (.bipush 6, 2) := by decide +kernel
theorem dX6_mend_37 : decode cX6_mend 37 = .ok (.iaload, 1) := by decide +kernel
theorem dX6_mend_38 : decode cX6_mend 38 = .ok (.aload_n 0, 1) := by decide +kernel
theorem dX6_mend_39 : decode cX6_mend 39 = .ok (.iload_n 1, 1) := by decide +kernel
theorem dX6_mend_40 : decode cX6_mend 40 = .ok (.bipush 11, 2) := by decide +kernel
theorem dX6_mend_42 : decode cX6_mend 42 = .ok (.iload_n 2, 1) := by decide +kernel
theorem dX6_mend_43 : decode cX6_mend 43 = .ok (.iadd, 1) := by decide +kernel
theorem dX6_mend_44 : decode cX6_mend 44 = .ok (.invokevirtual 39, 3) := by decide +kernel
theorem dX6_mend_47 : decode cX6_mend 47 = .ok (.aload_n 0, 1) := by decide +kernel
theorem dX6_mend_48 : decode cX6_mend 48 = .ok (.getfield 7, 3) := by decide +kernel
theorem dX6_mend_51 : decode cX6_mend 51 = .ok (.iconst 3, 1) := by decide +kernel
theorem dX6_mend_52 : decode cX6_mend 52 = .ok (.iaload, 1) := by decide +kernel
theorem dX6_mend_53 : decode cX6_mend 53 = .ok (.imul, 1) := by decide +kernel
theorem dX6_mend_54 : decode cX6_mend 54 = .ok (.if_icmp .ge 7, 3) := by decide +kernel
theorem dX6_mend_57 : decode cX6_mend 57 = .ok (.iconst 2, 1) := by decide +kernel
theorem dX6_mend_58 : decode cX6_mend 58 = .ok (.goto 4, 3) := by decide +kernel
theorem dX6_mend_61 : decode cX6_mend 61 = .ok (.iconst 0, 1) := by decide +kernel
theorem dX6_mend_62 : decode cX6_mend 62 = .ok (.putfield 29, 3) := by decide +kernel
theorem dX6_mend_65 : decode cX6_mend 65 = .ok (.aload_n 0, 1) := by decide +kernel
theorem dX6_mend_66 : decode cX6_mend 66 = .ok (.getfield 29, 3) := by decide +kernel
theorem dX6_mend_69 : decode cX6_mend 69 = .ok (.ifCond .le 5, 3) := by decide +kernel
theorem dX6_mend_72 : decode cX6_mend 72 = .ok (.iconst 0, 1) := by decide +kernel
theorem dX6_mend_73 : decode cX6_mend 73 = .ok (.ireturn, 1) := by decide +kernel
theorem dX6_mend_74 : decode cX6_mend 74 = .ok (.aload_n 0, 1) := by decide +kernel
theorem dX6_mend_75 : decode cX6_mend 75 = .ok (.invokevirtual 71, 3) := by decide +kernel
theorem dX6_mend_78 : decode cX6_mend 78 = .ok (.aload_n 0, 1) := by decide +kernel
theorem dX6_mend_79 : decode cX6_mend 79 = .ok (.iload_n 1, 1) := by decide +kernel
theorem dX6_mend_80 : decode cX6_mend 80 = .ok (.bipush 11, 2) := by decide +kernel
theorem dX6_mend_82 : decode cX6_mend 82 = .ok (.iload_n 2, 1) := by decide +kernel
theorem dX6_mend_83 : decode cX6_mend 83 = .ok (.iadd, 1) := by decide +kernel
theorem dX6_mend_84 : decode cX6_mend 84 = .ok (.invokevirtual 39, 3) := by decide +kernel
theorem dX6_mend_87 : decode cX6_mend 87 = .ok (.aload_n 0, 1) := by decide +kernel
theorem dX6_mend_88 : decode cX6_mend 88 = .ok (.getfield 7, 3) := by decide +kernel
theorem dX6_mend_91 : decode cX6_mend 91 = .ok (.iconst 3, 1) := by decide +kernel
theorem dX6_mend_92 : decode cX6_mend 92 = .ok (.iaload, 1) := by decide +kernel
theorem dX6_mend_93 : decode cX6_mend 93 = .ok (.imul, 1) := by decide +kernel
theorem dX6_mend_94 : decode cX6_mend 94 = .ok (.istore_n 3, 1) := by decide +kernel
theorem dX6_mend_95 : decode cX6_mend 95 = .ok (.aload_n 0, 1) := by decide +kernel
theorem dX6_mend_96 : decode cX6_mend 96 = .ok (.iload_n 3, 1) := by decide +kernel
theorem dX6_mend_97 : decode cX6_mend 97 = .ok (.invokevirtual 116, 3) := by decide +kernel
theorem dX6_mend_100 : decode cX6_mend 100 = .ok (.aload_n 0, 1) := by decide +kernel
theorem dX6_mend_101 : decode cX6_mend 101 = .ok (.iload_n 1, 1) := by decide +kernel
theorem dX6_mend_102 : decode cX6_mend 102 = .ok (.bipush 11, 2) := by decide +kernel
theorem dX6_mend_104 : decode cX6_mend 104 = .ok (.iload_n 2, 1) := by decide +kernel
theorem dX6_mend_105 : decode cX6_mend 105 = .ok (.iadd, 1) := by decide +kernel
theorem dX6_mend_106 : decode cX6_mend 106 = .ok (.iconst 0, 1) := by decide +kernel
theorem dX6_mend_107 : decode cX6_mend 107 = .ok (.invokevirtual 67, 3) := by decide +kernel
theorem dX6_mend_110 : decode cX6_mend 110 = .ok (.iload_n 3, 1) := by decide +kernel
theorem dX6_mend_111 : decode cX6_mend 111 = .ok (.ireturn, 1) := by decide +kernel
theorem dX6_append_0 : decode cX6_append 0 = .ok (.aload_n 0, 1) := by decide +kernel
theorem dX6_append_1 : decode cX6_append 1 = .ok (.iload_n 1, 1) := by decide +kernel
theorem dX6_append_2 : decode cX6_append 2 = .ok (.bipush 33, 2) := by decide +kernel
theorem dX6_append_4 : decode cX6_append 4 = .ok (.bipush 126, 2) := by decide +kernel
theorem dX6_append_6 : decode cX6_append 6 = .ok (.invokestatic 35, 3) := by decide +kernel
theorem dX6_append_9 : decode cX6_append 9 = .ok (.ifCond .ne 7, 3) := by decide +kernel
theorem dX6_append_12 : decode cX6_append 12 = .ok (.iconst 1, 1) := by decide +kernel
theorem dX6_append_13 : decode cX6_append 13 = .ok (.goto 17, 3) := by decide +kernel
theorem dX6_append_16 : decode cX6_append 16 = .ok (.aload_n 0, 1) := by decide +kernel
theorem dX6_append_17 : decode cX6_append 17 = .ok (.getfield 127, 3) := by decide +kernel
theorem dX6_append_20 : decode cX6_append 20 = .ok (.bipush 60, 2) := by decide +kernel
theorem dX6_append_22 : decode cX6_append 22 = .ok (.if_icmp .ne 7, 3) := by decide +kernel
theorem dX6_append_25 : decode cX6_append 25 = .ok (.iconst 2, 1) := by decide +kernel
theorem dX6_append_26 : decode cX6_append 26 = .ok (.goto 4, 3) := by decide +kernel
theorem dX6_append_29 : decode cX6_append 29 = .ok (.iconst 0, 1) := by decide +kernel
theorem dX6_append_30 : decode cX6_append 30 = .ok (.putfield 29, 3) := by decide +kernel
theorem dX6_append_33 : decode cX6_append 33 = .ok (.aload_n 0, 1) := by decide +kernel
theorem dX6_append_34 : decode cX6_append 34 = .ok (.getfield 29, 3) := by decide +kernel
theorem dX6_append_37 : decode cX6_append 37 = .ok (.ifCond .le 5, 3) := by decide +kernel
theorem dX6_append_40 : decode cX6_append 40 = .ok (.iconst 0, 1) := by decide +kernel
theorem dX6_append_41 : decode cX6_append 41 = .ok (.ireturn, 1) := by decide +kernel
theorem dX6_append_42 : decode cX6_append 42 = .ok (.aload_n 0, 1) := by decide +kernel
theorem dX6_append_43 : decode cX6_append 43 = .ok (.getfield 16, 3) := by decide +kernel
theorem dX6_append_46 : decode cX6_append 46 = .ok (.aload_n 0, 1) := by decide +kernel
theorem dX6_append_47 : decode cX6_append 47 = .ok (.getfield 127, 3) := by decide +kernel
theorem dX6_append_50 : decode cX6_append 50 = .ok (.iload_n 1, 1) := by decide +kernel
theorem dX6_append_51 : decode cX6_append 51 = .ok (.iastore, 1) := by decide +kernel
theorem dX6_append_52 : decode cX6_append 52 = .ok (.aload_n 0, 1) := by decide +kernel
theorem dX6_append_53 : decode cX6_append 53 = .ok (.dup, 1) := by decide +kernel
theorem dX6_append_54 : decode cX6_append 54 = .ok (.getfield 127, 3) := by decide +kernel
theorem dX6_append_57 : decode cX6_append 57 = .ok (.iconst 1, 1) := by decide +kernel
theorem dX6_append_58 : decode cX6_append 58 = .ok (.iadd, 1) := by decide +kernel
theorem dX6_append_59 : decode cX6_append 59 = .ok (.putfield 127, 3) := by decide +kernel
theorem dX6_append_62 : decode cX6_append 62 = .ok (.aload_n 0, 1) := by decide +kernel
theorem dX6_append_63 : decode cX6_append 63 = .ok (.getfield 127, 3) := by decide +kernel
theorem dX6_append_66 : decode cX6_append 66 = .ok (.ireturn, 1) := by decide +kernel
theorem dX6_clearBuffer_0 : decode cX6_clearBuffer 0 = .ok (.aload_n 0, 1) := by decide +kernel
theorem dX6_clearBuffer_1 : decode cX6_clearBuffer 1 = .ok (.iconst 0, 1) := by decide +kernel
theorem dX6_clearBuffer_2 : decode cX6_clearBuffer 2 = .ok (.putfield 29, 3) := by decide +kernel
theorem dX6_clearBuffer_5 : decode cX6_clearBuffer 5 = .ok (.aload_n 0, 1) := by decide +kernel
theorem dX6_clearBuffer_6 : decode cX6_clearBuffer 6 = .ok (.getfield 127, 3) := by decide +kernel
theorem dX6_clearBuffer_9 : decode cX6_clearBuffer 9 = .ok (.istore_n 1, 1) := by decide +kernel
theorem dX6_clearBuffer_10 : decode cX6_clearBuffer 10 = .ok (.aload_n 0, 1) := by decide +kernel
theorem dX6_clearBuffer_11 : decode cX6_clearBuffer 11 = .ok (.iconst 0, 1) := by decide +kernel
theorem dX6_clearBuffer_12 : decode cX6_clearBuffer 12 = .ok (.putfield 127, 3) := by decide +kernel
theorem dX6_clearBuffer_15 : decode cX6_clearBuffer 15 = .ok (.iload_n 1, 1) := by decide +kernel
theorem dX6_clearBuffer_16 : decode cX6_clearBuffer 16 = .ok (.ireturn, 1) := by decide +kernel
theorem dX6_takesSign_0 : decode cX6_takesSign 0 = .ok (.aload_n 0, 1) := by decide +kernel
theorem dX6_takesSign_1 : decode cX6_takesSign 1 = .ok (.getfield 23, 3) := by decide +kernel
theorem dX6_takesSign_4 : decode cX6_takesSign 4 = .ok (.iconst 3, 1) := by decide +kernel
theorem dX6_takesSign_5 : decode cX6_takesSign 5 = .ok (.aload_n 0, 1) := by decide +kernel
theorem dX6_takesSign_6 : decode cX6_takesSign 6 = .ok (.getfield 130, 3) := by decide +kernel
theorem dX6_takesSign_9 : decode cX6_takesSign 9 = .ok (.imul, 1) := by decide +kernel
theorem dX6_takesSign_10 : decode cX6_takesSign 10 = .ok (.iconst 1, 1) := by decide +kernel
theorem dX6_takesSign_11 : decode cX6_takesSign 11 = .ok (.iadd, 1) := by decide +kernel
theorem dX6_takesSign_12 : decode cX6_takesSign 12 = .ok (.iload_n 1, 1) := by decide +kernel
theorem dX6_takesSign_13 : decode cX6_takesSign 13 = .ok (.iastore, 1) := by decide +kernel
theorem dX6_takesSign_14 : decode cX6_takesSign 14 = .ok (.aload_n 0, 1) := by decide +kernel
theorem dX6_takesSign_15 : decode cX6_takesSign 15 = .ok (.iload_n 1, 1) := by decide +kernel
theorem dX6_takesSign_16 : decode cX6_takesSign 16 = .ok (.bipush 104, 2) := by decide +kernel
theorem dX6_takesSign_18 : decode cX6_takesSign 18 = .ok (.if_icmp .eq 9, 3) := by decide +kernel
theorem dX6_takesSign_21 : decode cX6_takesSign 21 = .ok (.iload_n 1, 1) := by decide +kernel
theorem dX6_takesSign_22 : decode cX6_takesSign 22 = .ok (.bipush 103, 2) := by decide +kernel
theorem dX6_takesSign_24 : decode cX6_takesSign 24 = .ok (.if_icmp .ne 7, 3) := by decide +kernel
theorem dX6_takesSign_27 : decode cX6_takesSign 27 = .ok (.iconst 3, 1) := by decide +kernel
theorem dX6_takesSign_28 : decode cX6_takesSign 28 = .ok (.goto 4, 3) := by decide +kernel
theorem dX6_takesSign_31 : decode cX6_takesSign 31 = .ok (.iconst 2, 1) := by decide +kernel
theorem dX6_takesSign_32 : decode cX6_takesSign 32 = .ok (.putfield 133, 3) := by decide +kernel
theorem dX6_takesSign_35 : decode cX6_takesSign 35 = .ok (.iload_n 1, 1) := by decide +kernel
theorem dX6_takesSign_36 : decode cX6_takesSign 36 = .ok (.bipush 43, 2) := by decide +kernel
theorem dX6_takesSign_38 : decode cX6_takesSign 38 = .ok (.if_icmp .eq 27, 3) := by decide +kernel
theorem dX6_takesSign_41 : decode cX6_takesSign 41 = .ok (.iload_n 1, 1) := by decide +kernel
theorem dX6_takesSign_42 : decode cX6_takesSign 42 = .ok (.bipush 45, 2) := by decide +kernel
theorem dX6_takesSign_44 : decode cX6_takesSign 44 = .ok (.if_icmp .eq 21, 3) := by decide +kernel
theorem dX6_takesSign_47 : decode cX6_takesSign 47 = .ok (.iload_n 1, 1) := by decide +kernel
theorem dX6_takesSign_48 : decode cX6_takesSign 48 = .ok (.bipush 61, 2) := by decide +kernel
theorem dX6_takesSign_50 : decode cX6_takesSign 50 = .ok (.if_icmp .eq 15, 3) := by decide +kernel
theorem dX6_takesSign_53 : decode cX6_takesSign 53 = .ok (.iload_n 1, 1) := by decide +kernel
theorem dX6_takesSign_54 : decode cX6_takesSign 54 = .ok (.bipush 104, 2) := by decide +kernel
theorem dX6_takesSign_56 : decode cX6_takesSign 56 = .ok (.if_icmp .eq 9, 3) := by decide +kernel
theorem dX6_takesSign_59 : decode cX6_takesSign 59 = .ok (.iload_n 1, 1) := by decide +kernel
theorem dX6_takesSign_60 : decode cX6_takesSign 60 = .ok (.bipush 103, 2) := by decide +kernel
theorem dX6_takesSign_62 : decode cX6_takesSign 62 = .ok (.if_icmp .ne 7, 3) := by decide +kernel
theorem dX6_takesSign_65 : decode cX6_takesSign 65 = .ok (.iconst 1, 1) := by decide +kernel
theorem dX6_takesSign_66 : decode cX6_takesSign 66 = .ok (.goto 4, 3) := by decide +kernel
theorem dX6_takesSign_69 : decode cX6_takesSign 69 = .ok (.iconst 0, 1) := by decide +kernel
theorem dX6_takesSign_70 : decode cX6_takesSign 70 = .ok (.ireturn, 1) := by decide +kernel
theorem dX6_takesDigit_0 : decode cX6_takesDigit 0 = .ok (.aload_n 0, 1) := by decide +kernel
theorem dX6_takesDigit_1 : decode cX6_takesDigit 1 = .ok (.getfield 23, 3) := by decide +kernel
theorem dX6_takesDigit_4 : decode cX6_takesDigit 4 = .ok (.iconst 3, 1) := by decide +kernel
theorem dX6_takesDigit_5 : decode cX6_takesDigit 5 = .ok (.aload_n 0, 1) := by decide +kernel
theorem dX6_takesDigit_6 : decode cX6_takesDigit 6 = .ok (.getfield 130, 3) := by decide +kernel
theorem dX6_takesDigit_9 : decode cX6_takesDigit 9 = .ok (.imul, 1) := by decide +kernel
theorem dX6_takesDigit_10 : decode cX6_takesDigit 10 = .ok (.iconst 1, 1) := by decide +kernel
theorem dX6_takesDigit_11 : decode cX6_takesDigit 11 = .ok (.iadd, 1) := by decide +kernel
theorem dX6_takesDigit_12 : decode cX6_takesDigit 12 = .ok (.iaload, 1) := by decide +kernel
theorem dX6_takesDigit_13 : decode cX6_takesDigit 13 = .ok (.bipush 61, 2) := by decide +kernel
theorem dX6_takesDigit_15 : decode cX6_takesDigit 15 = .ok (.if_icmp .ne 7, 3) := by decide +kernel
theorem dX6_takesDigit_18 : decode cX6_takesDigit 18 = .ok (.iconst 1, 1) := by decide +kernel
theorem dX6_takesDigit_19 : decode cX6_takesDigit 19 = .ok (.goto 4, 3) := by decide +kernel
theorem dX6_takesDigit_22 : decode cX6_takesDigit 22 = .ok (.iconst 0, 1) := by decide +kernel
theorem dX6_takesDigit_23 : decode cX6_takesDigit 23 = .ok (.istore_n 2, 1) := by decide +kernel
theorem dX6_takesDigit_24 : decode cX6_takesDigit 24 = .ok (.aload_n 0, 1) := by decide +kernel
theorem dX6_takesDigit_25 : decode cX6_takesDigit 25 = .ok (.getfield 136, 3) := by decide +kernel
theorem dX6_takesDigit_28 : decode cX6_takesDigit 28 = .ok (.iconst (-1), 1) := by decide +kernel
theorem dX6_takesDigit_29 : decode cX6_takesDigit 29 = .ok (.if_icmp .ne 7, 3) := by decide +kernel
theorem dX6_takesDigit_32 : decode cX6_takesDigit 32 = .ok (.iload_n 1, 1) := by decide +kernel
theorem dX6_takesDigit_33 : decode cX6_takesDigit 33 = .ok (.goto 12, 3) := by decide +kernel
theorem dX6_takesDigit_36 : decode cX6_takesDigit 36 = .ok (.bipush 10, 2) := by decide +kernel
theorem dX6_takesDigit_38 : decode cX6_takesDigit 38 = .ok (.aload_n 0, 1) := by decide +kernel
theorem dX6_takesDigit_39 : decode cX6_takesDigit 39 = .ok (.getfield 136, 3) := by decide +kernel
theorem dX6_takesDigit_42 : decode cX6_takesDigit 42 = .ok (.imul, 1) := by decide +kernel
theorem dX6_takesDigit_43 : decode cX6_takesDigit 43 = .ok (.iload_n 1, 1) := by decide +kernel
theorem dX6_takesDigit_44 : decode cX6_takesDigit 44 = .ok (.iadd, 1) := by decide +kernel
theorem dX6_takesDigit_45 : decode cX6_takesDigit 45 = .ok (.istore_n 3, 1) := by decide +kernel
theorem dX6_takesDigit_46 : decode cX6_takesDigit 46 = .ok (.iload_n 1, 1) := by decide +kernel
theorem dX6_takesDigit_47 : decode cX6_takesDigit 47 = .ok (.iconst 0, 1) := by decide +kernel
theorem dX6_takesDigit_48 : decode cX6_takesDigit 48 = .ok (.bipush 9, 2) := by decide +kernel
theorem dX6_takesDigit_50 : decode cX6_takesDigit 50 = .ok (.invokestatic 35, 3) := by decide +kernel
theorem dX6_takesDigit_53 : decode cX6_takesDigit 53 = .ok (.ifCond .eq 41, 3) := by decide +kernel
theorem dX6_takesDigit_56 : decode cX6_takesDigit 56 = .ok (.aload_n 0, 1) := by decide +kernel
theorem dX6_takesDigit_57 : decode cX6_takesDigit 57 = .ok (.getfield 136, 3) := by decide +kernel
theorem dX6_takesDigit_60 : decode cX6_takesDigit 60 = .ok (.ifCond .eq 34, 3) := by decide +kernel
theorem dX6_takesDigit_63 : decode cX6_takesDigit 63 = .ok (.iload_n 3, 1) := by decide +kernel
theorem dX6_takesDigit_64 : decode cX6_takesDigit 64 = .ok (.iload_n 2, 1) := by decide +kernel
theorem dX6_takesDigit_65 : decode cX6_takesDigit 65 = .ok (.ifCond .eq 7, 3) := by decide +kernel
theorem dX6_takesDigit_68 : decode cX6_takesDigit 68 = .ok (.iconst 0, 1) := by decide +kernel
theorem dX6_takesDigit_69 : decode cX6_takesDigit 69 = .ok (.goto 4, 3) := by decide +kernel
theorem dX6_takesDigit_72 : decode cX6_takesDigit 72 = .ok (.iconst 1, 1) := by decide +kernel
theorem dX6_takesDigit_73 : decode cX6_takesDigit 73 = .ok (.iload_n 2, 1) := by decide +kernel
theorem dX6_takesDigit_74 : decode cX6_takesDigit 74 = .ok (.ifCond .eq 8, 3) := by decide +kernel
theorem dX6_takesDigit_77 : decode cX6_takesDigit 77 = .ok (.bipush 23, 2) := by decide +kernel
theorem dX6_takesDigit_79 : decode cX6_takesDigit 79 = .ok (.goto 5, 3) := by decide +kernel
theorem dX6_takesDigit_82 : decode cX6_takesDigit 82 = .ok (.bipush 24, 2) := by decide +kernel
theorem dX6_takesDigit_84 : decode cX6_takesDigit 84 = .ok (.invokestatic 35, 3) := by decide +kernel
theorem dX6_takesDigit_87 : decode cX6_takesDigit 87 = .ok (.ifCond .eq 7, 3) := by decide +kernel
theorem dX6_takesDigit_90 : decode cX6_takesDigit 90 = .ok (.iconst 1, 1) := by decide +kernel
theorem dX6_takesDigit_91 : decode cX6_takesDigit 91 = .ok (.goto 4, 3) := by decide +kernel
theorem dX6_takesDigit_94 : decode cX6_takesDigit 94 = .ok (.iconst 0, 1) := by decide +kernel
theorem dX6_takesDigit_95 : decode cX6_takesDigit 95 = .ok (.istore 4, 2) := by decide +kernel
theorem dX6_takesDigit_97 : decode cX6_takesDigit 97 = .ok (.aload_n 0, 1) := by decide +kernel
theorem dX6_takesDigit_98 : decode cX6_takesDigit 98 = .ok (.iload 4, 2) := by decide +kernel
theorem dX6_takesDigit_100 : decode cX6_takesDigit 100 = .ok (.ifCond .eq 7, 3) := by decide +kernel
theorem dX6_takesDigit_103 : decode cX6_takesDigit 103 = .ok (.iload_n 3, 1) := by decide +kernel
theorem dX6_takesDigit_104 : decode cX6_takesDigit 104 = .ok (.goto 7, 3) := by decide +kernel
theorem dX6_takesDigit_107 : decode cX6_takesDigit 107 = .ok (.aload_n 0, 1) := by decide +kernel
theorem dX6_takesDigit_108 : decode cX6_takesDigit 108 = .ok (.getfield 136, 3) := by decide +kernel
theorem dX6_takesDigit_111 : decode cX6_takesDigit 111 = .ok (.putfield 136, 3) := by decide +kernel
theorem dX6_takesDigit_114 : decode cX6_takesDigit 114 = .ok (.iload 4, 2) := by decide +kernel
theorem dX6_takesDigit_116 : decode cX6_takesDigit 116 = .ok (.ireturn, 1) := by decide +kernel
theorem dX6_isEnded_0 : decode cX6_isEnded 0 = .ok (.aload_n 0, 1) := by decide +kernel
theorem dX6_isEnded_1 : decode cX6_isEnded 1 = .ok (.getfield 133, 3) := by decide +kernel
theorem dX6_isEnded_4 : decode cX6_isEnded 4 = .ok (.iconst 3, 1) := by decide +kernel
theorem dX6_isEnded_5 : decode cX6_isEnded 5 = .ok (.if_icmp .eq 19, 3) := by decide +kernel
theorem dX6_isEnded_8 : decode cX6_isEnded 8 = .ok (.aload_n 0, 1) := by decide +kernel
theorem dX6_isEnded_9 : decode cX6_isEnded 9 = .ok (.getfield 133, 3) := by decide +kernel
theorem dX6_isEnded_12 : decode cX6_isEnded 12 = .ok (.iconst 2, 1) := by decide +kernel
theorem dX6_isEnded_13 : decode cX6_isEnded 13 = .ok (.if_icmp .ne 15, 3) := by decide +kernel
theorem dX6_isEnded_16 : decode cX6_isEnded 16 = .ok (.aload_n 0, 1) := by decide +kernel
theorem dX6_isEnded_17 : decode cX6_isEnded 17 = .ok (.getfield 136, 3) := by decide +kernel
theorem dX6_isEnded_20 : decode cX6_isEnded 20 = .ok (.iconst (-1), 1) := by decide +kernel
theorem dX6_isEnded_21 : decode cX6_isEnded 21 = .ok (.if_icmp .eq 7, 3) := by decide +kernel
theorem dX6_isEnded_24 : decode cX6_isEnded 24 = .ok (.iconst 1, 1) := by decide +kernel
theorem dX6_isEnded_25 : decode cX6_isEnded 25 = .ok (.goto 4, 3) := by decide +kernel
theorem dX6_isEnded_28 : decode cX6_isEnded 28 = .ok (.iconst 0, 1) := by decide +kernel
theorem dX6_isEnded_29 : decode cX6_isEnded 29 = .ok (.ireturn, 1) := by decide +kernel
theorem dX6_endCommand_0 : decode cX6_endCommand 0 = .ok (.aload_n 0, 1) := by decide +kernel
theorem dX6_endCommand_1 : decode cX6_endCommand 1 = .ok (.getfield 23, 3) := by decide +kernel
theorem dX6_endCommand_4 : decode cX6_endCommand 4 = .ok (.iconst 3, 1) := by decide +kernel
theorem dX6_endCommand_5 : decode cX6_endCommand 5 = .ok (.aload_n 0, 1) := by decide +kernel
theorem dX6_endCommand_6 : decode cX6_endCommand 6 = .ok (.getfield 130, 3) := by decide +kernel
theorem dX6_endCommand_9 : decode cX6_endCommand 9 = .ok (.imul, 1) := by decide +kernel
theorem dX6_endCommand_10 : decode cX6_endCommand 10 = .ok (.iconst 2, 1) := by decide +kernel
theorem dX6_endCommand_11 : decode cX6_endCommand 11 = .ok (.iadd, 1) := by decide +kernel
theorem dX6_endCommand_12 : decode cX6_endCommand 12 = .ok (.aload_n 0, 1) := by decide +kernel
theorem dX6_endCommand_13 : decode cX6_endCommand 13 = .ok (.getfield 136, 3) := by decide +kernel
theorem dX6_endCommand_16 : decode cX6_endCommand 16 = .ok (.iastore, 1) := by decide +kernel
theorem dX6_endCommand_17 : decode cX6_endCommand 17 = .ok (.aload_n 0, 1) := by decide +kernel
theorem dX6_endCommand_18 : decode cX6_endCommand 18 = .ok (.dup, 1) := by decide +kernel
theorem dX6_endCommand_19 : decode cX6_endCommand 19 = .ok (.getfield 130, 3) := by decide +kernel
theorem dX6_endCommand_22 : decode cX6_endCommand 22 = .ok (.iconst 1, 1) := by decide +kernel
theorem dX6_endCommand_23 : decode cX6_endCommand 23 = .ok (.iadd, 1) := by decide +kernel
theorem dX6_endCommand_24 : decode cX6_endCommand 24 = .ok (.putfield 130, 3) := by decide +kernel
theorem dX6_endCommand_27 : decode cX6_endCommand 27 = .ok (.aload_n 0, 1) := by decide +kernel
theorem dX6_endCommand_28 : decode cX6_endCommand 28 = .ok (.iconst (-1), 1) := by decide +kernel
theorem dX6_endCommand_29 : decode cX6_endCommand 29 = .ok (.putfield 136, 3) := by decide +kernel
theorem dX6_endCommand_32 : decode cX6_endCommand 32 = .ok (.aload_n 0, 1) := by decide +kernel
theorem dX6_endCommand_33 : decode cX6_endCommand 33 = .ok (.iconst 0, 1) := by decide +kernel
theorem dX6_endCommand_34 : decode cX6_endCommand 34 = .ok (.putfield 133, 3) := by decide +kernel
theorem dX6_endCommand_37 : decode cX6_endCommand 37 = .ok (.return_, 1) := by decide +kernel
theorem dX6_takes_0 : decode cX6_takes 0 = .ok (.aload_n 0, 1) := by decide +kernel
theorem dX6_takes_1 : decode cX6_takes 1 = .ok (.getfield 133, 3) := by decide +kernel
theorem dX6_takes_4 : decode cX6_takes 4 = .ok (.ifCond .ne 32, 3) := by decide +kernel
theorem dX6_takes_7 : decode cX6_takes 7 = .ok (.aload_n 0, 1) := by decide +kernel
theorem dX6_takes_8 : decode cX6_takes 8 = .ok (.getfield 23, 3) := by decide +kernel
theorem dX6_takes_11 : decode cX6_takes 11 = .ok (.iconst 3, 1) := by decide +kernel
theorem dX6_takes_12 : decode cX6_takes 12 = .ok (.aload_n 0, 1) := by decide +kernel
theorem dX6_takes_13 : decode cX6_takes 13 = .ok (.getfield 130, 3) := by decide +kernel
theorem dX6_takes_16 : decode cX6_takes 16 = .ok (.imul, 1) := by decide +kernel
theorem dX6_takes_17 : decode cX6_takes 17 = .ok (.iload_n 1, 1) := by decide +kernel
theorem dX6_takes_18 : decode cX6_takes 18 = .ok (.bipush 97, 2) := by decide +kernel
theorem dX6_takes_20 : decode cX6_takes 20 = .ok (.isub, 1) := by decide +kernel
theorem dX6_takes_21 : decode cX6_takes 21 = .ok (.iastore, 1) := by decide +kernel
theorem dX6_takes_22 : decode cX6_takes 22 = .ok (.aload_n 0, 1) := by decide +kernel
theorem dX6_takes_23 : decode cX6_takes 23 = .ok (.iconst 1, 1) := by decide +kernel
theorem dX6_takes_24 : decode cX6_takes 24 = .ok (.putfield 133, 3) := by decide +kernel
theorem dX6_takes_27 : decode cX6_takes 27 = .ok (.iload_n 1, 1) := by decide +kernel
theorem dX6_takes_28 : decode cX6_takes 28 = .ok (.bipush 97, 2) := by decide +kernel
theorem dX6_takes_30 : decode cX6_takes 30 = .ok (.bipush 100, 2) := by decide +kernel
theorem dX6_takes_32 : decode cX6_takes 32 = .ok (.invokestatic 35, 3) := by decide +kernel
theorem dX6_takes_35 : decode cX6_takes 35 = .ok (.ireturn, 1) := by decide +kernel
theorem dX6_takes_36 : decode cX6_takes 36 = .ok (.aload_n 0, 1) := by decide +kernel
theorem dX6_takes_37 : decode cX6_takes 37 = .ok (.getfield 133, 3) := by decide +kernel
theorem dX6_takes_40 : decode cX6_takes 40 = .ok (.iconst 1, 1) := by decide +kernel
theorem dX6_takes_41 : decode cX6_takes 41 = .ok (.if_icmp .ne 9, 3) := by decide +kernel
theorem dX6_takes_44 : decode cX6_takes 44 = .ok (.aload_n 0, 1) := by decide +kernel
theorem dX6_takes_45 : decode cX6_takes 45 = .ok (.iload_n 1, 1) := by decide +kernel
theorem dX6_takes_46 : decode cX6_takes 46 = .ok (.invokevirtual 139, 3) := by decide +kernel
theorem dX6_takes_49 : decode cX6_takes 49 = .ok (.ireturn, 1) := by decide +kernel
theorem dX6_takes_50 : decode cX6_takes 50 = .ok (.iload_n 1, 1) := by decide +kernel
theorem dX6_takes_51 : decode cX6_takes 51 = .ok (.bipush 59, 2) := by decide +kernel
theorem dX6_takes_53 : decode cX6_takes 53 = .ok (.if_icmp .ne 16, 3) := by decide +kernel
theorem dX6_takes_56 : decode cX6_takes 56 = .ok (.aload_n 0, 1) := by decide +kernel
theorem dX6_takes_57 : decode cX6_takes 57 = .ok (.invokevirtual 142, 3) := by decide +kernel
theorem dX6_takes_60 : decode cX6_takes 60 = .ok (.ifCond .eq 9, 3) := by decide +kernel
theorem dX6_takes_63 : decode cX6_takes 63 = .ok (.aload_n 0, 1) := by decide +kernel
theorem dX6_takes_64 : decode cX6_takes 64 = .ok (.invokevirtual 145, 3) := by decide +kernel
theorem dX6_takes_67 : decode cX6_takes 67 = .ok (.iconst 1, 1) := by decide +kernel
theorem dX6_takes_68 : decode cX6_takes 68 = .ok (.ireturn, 1) := by decide +kernel
theorem dX6_takes_69 : decode cX6_takes 69 = .ok (.aload_n 0, 1) := by decide +kernel
theorem dX6_takes_70 : decode cX6_takes 70 = .ok (.getfield 133, 3) := by decide +kernel
theorem dX6_takes_73 : decode cX6_takes 73 = .ok (.iconst 2, 1) := by decide +kernel
theorem dX6_takes_74 : decode cX6_takes 74 = .ok (.if_icmp .ne 18, 3) := by decide +kernel
theorem dX6_takes_77 : decode cX6_takes 77 = .ok (.aload_n 0, 1) := by decide +kernel
theorem dX6_takes_78 : decode cX6_takes 78 = .ok (.iload_n 1, 1) := by decide +kernel
theorem dX6_takes_79 : decode cX6_takes 79 = .ok (.bipush 48, 2) := by decide +kernel
theorem dX6_takes_81 : decode cX6_takes 81 = .ok (.isub, 1) := by decide +kernel
theorem dX6_takes_82 : decode cX6_takes 82 = .ok (.invokevirtual 148, 3) := by decide +kernel
theorem dX6_takes_85 : decode cX6_takes 85 = .ok (.ifCond .eq 7, 3) := by decide +kernel
theorem dX6_takes_88 : decode cX6_takes 88 = .ok (.iconst 1, 1) := by decide +kernel
theorem dX6_takes_89 : decode cX6_takes 89 = .ok (.goto 4, 3) := by decide +kernel
theorem dX6_takes_92 : decode cX6_takes 92 = .ok (.iconst 0, 1) := by decide +kernel
theorem dX6_takes_93 : decode cX6_takes 93 = .ok (.ireturn, 1) := by decide +kernel
theorem dX6_rightUpTo_0 : decode cX6_rightUpTo 0 = .ok (.aload_n 0, 1) := by decide +kernel
theorem dX6_rightUpTo_1 : decode cX6_rightUpTo 1 = .ok (.iconst 0, 1) := by decide +kernel
theorem dX6_rightUpTo_2 : decode cX6_rightUpTo 2 = .ok (.putfield 130, 3) := by decide +kernel
theorem dX6_rightUpTo_5 : decode cX6_rightUpTo 5 = .ok (.aload_n 0, 1) := by decide +kernel
theorem dX6_rightUpTo_6 : decode cX6_rightUpTo 6 = .ok (.iconst (-1), 1) := by decide +kernel
theorem dX6_rightUpTo_7 : decode cX6_rightUpTo 7 = .ok (.putfield 136, 3) := by decide +kernel
theorem dX6_rightUpTo_10 : decode cX6_rightUpTo 10 = .ok (.aload_n 0, 1) := by decide +kernel
theorem dX6_rightUpTo_11 : decode cX6_rightUpTo 11 = .ok (.iconst 0, 1) := by decide +kernel
theorem dX6_rightUpTo_12 : decode cX6_rightUpTo 12 = .ok (.putfield 133, 3) := by decide +kernel
theorem dX6_rightUpTo_15 : decode cX6_rightUpTo 15 = .ok (.iconst 0, 1) := by decide +kernel
theorem dX6_rightUpTo_16 : decode cX6_rightUpTo 16 = .ok (.istore_n 1, 1) := by decide +kernel
theorem dX6_rightUpTo_17 : decode cX6_rightUpTo 17 = .ok (.iload_n 1, 1) := by decide +kernel
theorem dX6_rightUpTo_18 : decode cX6_rightUpTo 18 = .ok (.aload_n 0, 1) := by decide +kernel
theorem dX6_rightUpTo_19 : decode cX6_rightUpTo 19 = .ok (.getfield 127, 3) := by decide +kernel
theorem dX6_rightUpTo_22 : decode cX6_rightUpTo 22 = .ok (.if_icmp .ge 22, 3) := by decide +kernel
theorem dX6_rightUpTo_25 : decode cX6_rightUpTo 25 = .ok (.aload_n 0, 1) := by decide +kernel
theorem dX6_rightUpTo_26 : decode cX6_rightUpTo 26 = .ok (.aload_n 0, 1) := by decide +kernel
theorem dX6_rightUpTo_27 : decode cX6_rightUpTo 27 = .ok (.getfield 16, 3) := by decide +kernel
theorem dX6_rightUpTo_30 : decode cX6_rightUpTo 30 = .ok (.iload_n 1, 1) := by decide +kernel
theorem dX6_rightUpTo_31 : decode cX6_rightUpTo 31 = .ok (.iaload, 1) := by decide +kernel
theorem dX6_rightUpTo_32 : decode cX6_rightUpTo 32 = .ok (.invokevirtual 151, 3) := by decide +kernel
theorem dX6_rightUpTo_35 : decode cX6_rightUpTo 35 = .ok (.ifCond .eq 9, 3) := by decide +kernel
theorem dX6_rightUpTo_38 : decode cX6_rightUpTo 38 = .ok (.iinc 1 1, 3) := by decide +kernel
theorem dX6_rightUpTo_41 : decode cX6_rightUpTo 41 = .ok (.goto (-24), 3) := by decide +kernel
theorem dX6_rightUpTo_44 : decode cX6_rightUpTo 44 = .ok (.iload_n 1, 1) := by decide +kernel
theorem dX6_rightUpTo_45 : decode cX6_rightUpTo 45 = .ok (.ireturn, 1) := by decide +kernel
theorem dX6_firstError_0 : decode cX6_firstError 0 = .ok (.aload_n 0, 1) := by decide +kernel
theorem dX6_firstError_1 : decode cX6_firstError 1 = .ok (.iconst 0, 1) := by decide +kernel
theorem dX6_firstError_2 : decode cX6_firstError 2 = .ok (.putfield 29, 3) := by decide +kernel
theorem dX6_firstError_5 : decode cX6_firstError 5 = .ok (.aload_n 0, 1) := by decide +kernel
theorem dX6_firstError_6 : decode cX6_firstError 6 = .ok (.invokevirtual 154, 3) := by decide +kernel
theorem dX6_firstError_9 : decode cX6_firstError 9 = .ok (.ireturn, 1) := by decide +kernel
theorem dX6_carries_0 : decode cX6_carries 0 = .ok (.aload_n 0, 1) := by decide +kernel
theorem dX6_carries_1 : decode cX6_carries 1 = .ok (.getfield 23, 3) := by decide +kernel
theorem dX6_carries_4 : decode cX6_carries 4 = .ok (.iconst 3, 1) := by decide +kernel
theorem dX6_carries_5 : decode cX6_carries 5 = .ok (.iload_n 1, 1) := by decide +kernel
theorem dX6_carries_6 : decode cX6_carries 6 = .ok (.imul, 1) := by decide +kernel
theorem dX6_carries_7 : decode cX6_carries 7 = .ok (.iaload, 1) := by decide +kernel
theorem dX6_carries_8 : decode cX6_carries 8 = .ok (.istore_n 2, 1) := by decide +kernel
theorem dX6_carries_9 : decode cX6_carries 9 = .ok (.aload_n 0, 1) := by decide +kernel
theorem dX6_carries_10 : decode cX6_carries 10 = .ok (.getfield 23, 3) := by decide +kernel
theorem dX6_carries_13 : decode cX6_carries 13 = .ok (.iconst 3, 1) := by decide +kernel
theorem dX6_carries_14 : decode cX6_carries 14 = .ok (.iload_n 1, 1) := by decide +kernel
theorem dX6_carries_15 : decode cX6_carries 15 = .ok (.imul, 1) := by decide +kernel
theorem dX6_carries_16 : decode cX6_carries 16 = .ok (.iconst 1, 1) := by decide +kernel
theorem dX6_carries_17 : decode cX6_carries 17 = .ok (.iadd, 1) := by decide +kernel
theorem dX6_carries_18 : decode cX6_carries 18 = .ok (.iaload, 1) := by decide +kernel
theorem dX6_carries_19 : decode cX6_carries 19 = .ok (.istore_n 3, 1) := by decide +kernel
theorem dX6_carries_20 : decode cX6_carries 20 = .ok (.aload_n 0, 1) := by decide +kernel
theorem dX6_carries_21 : decode cX6_carries 21 = .ok (.getfield 23, 3) := by decide +kernel
theorem dX6_carries_24 : decode cX6_carries 24 = .ok (.iconst 3, 1) := by decide +kernel
theorem dX6_carries_25 : decode cX6_carries 25 = .ok (.iload_n 1, 1) := by decide +kernel
theorem dX6_carries_26 : decode cX6_carries 26 = .ok (.imul, 1) := by decide +kernel
theorem dX6_carries_27 : decode cX6_carries 27 = .ok (.iconst 2, 1) := by decide +kernel
theorem dX6_carries_28 : decode cX6_carries 28 = .ok (.iadd, 1) := by decide +kernel
theorem dX6_carries_29 : decode cX6_carries 29 = .ok (.iaload, 1) := by decide +kernel
theorem dX6_carries_30 : decode cX6_carries 30 = .ok (.istore 4, 2) := by decide +kernel
theorem dX6_carries_32 : decode cX6_carries 32 = .ok (.iload_n 3, 1) := by decide +kernel
theorem dX6_carries_33 : decode cX6_carries 33 = .ok (.bipush 104, 2) := by decide +kernel
theorem dX6_carries_35 : decode cX6_carries 35 = .ok (.if_icmp .eq 57, 3) := by decide +kernel
theorem dX6_carries_38 : decode cX6_carries 38 = .ok (.iload_n 3, 1) := by decide +kernel
theorem dX6_carries_39 : decode cX6_carries 39 = .ok (.bipush 103, 2) := by decide +kernel
theorem dX6_carries_41 : decode cX6_carries 41 = .ok (.if_icmp .ne 13, 3) := by decide +kernel
theorem dX6_carries_44 : decode cX6_carries 44 = .ok (.aload_n 0, 1) := by decide +kernel
theorem dX6_carries_45 : decode cX6_carries 45 = .ok (.invokevirtual 120, 3) := by decide +kernel
theorem dX6_carries_48 : decode cX6_carries 48 = .ok (.ifCond .eq 48, 3) := by decide +kernel
theorem dX6_carries_51 : decode cX6_carries 51 = .ok (.goto 41, 3) := by decide +kernel
theorem dX6_carries_54 : decode cX6_carries 54 = .ok (.iload_n 3, 1) := by decide +kernel
theorem dX6_carries_55 : decode cX6_carries 55 = .ok (.bipush 61, 2) := by decide +kernel
theorem dX6_carries_57 : decode cX6_carries 57 = .ok (.if_icmp .ne 16, 3) := by decide +kernel
theorem dX6_carries_60 : decode cX6_carries 60 = .ok (.aload_n 0, 1) := by decide +kernel
theorem dX6_carries_61 : decode cX6_carries 61 = .ok (.iload_n 2, 1) := by decide +kernel
theorem dX6_carries_62 : decode cX6_carries 62 = .ok (.iload 4, 2) := by decide +kernel
theorem dX6_carries_64 : decode cX6_carries 64 = .ok (.invokevirtual 106, 3) := by decide +kernel
theorem dX6_carries_67 : decode cX6_carries 67 = .ok (.ifCond .eq 29, 3) := by decide +kernel
theorem dX6_carries_70 : decode cX6_carries 70 = .ok (.goto 22, 3) := by decide +kernel
theorem dX6_carries_73 : decode cX6_carries 73 = .ok (.aload_n 0, 1) := by decide +kernel
theorem dX6_carries_74 : decode cX6_carries 74 = .ok (.iload_n 2, 1) := by decide +kernel
theorem dX6_carries_75 : decode cX6_carries 75 = .ok (.iload_n 3, 1) := by decide +kernel
theorem dX6_carries_76 : decode cX6_carries 76 = .ok (.bipush 43, 2) := by decide +kernel
theorem dX6_carries_78 : decode cX6_carries 78 = .ok (.if_icmp .ne 7, 3) := by decide +kernel
theorem dX6_carries_81 : decode cX6_carries 81 = .ok (.iconst 1, 1) := by decide +kernel
theorem dX6_carries_82 : decode cX6_carries 82 = .ok (.goto 4, 3) := by decide +kernel
theorem dX6_carries_85 : decode cX6_carries 85 = .ok (.iconst 0, 1) := by decide +kernel
theorem dX6_carries_86 : decode cX6_carries 86 = .ok (.invokevirtual 89, 3) := by decide +kernel
theorem dX6_carries_89 : decode cX6_carries 89 = .ok (.ifCond .eq 7, 3) := by decide +kernel
theorem dX6_carries_92 : decode cX6_carries 92 = .ok (.iconst 1, 1) := by decide +kernel
theorem dX6_carries_93 : decode cX6_carries 93 = .ok (.goto 4, 3) := by decide +kernel
theorem dX6_carries_96 : decode cX6_carries 96 = .ok (.iconst 0, 1) := by decide +kernel
theorem dX6_carries_97 : decode cX6_carries 97 = .ok (.istore 5, 2) := by decide +kernel
theorem dX6_carries_99 : decode cX6_carries 99 = .ok (.iconst 0, 1) := by decide +kernel
theorem dX6_carries_100 : decode cX6_carries 100 = .ok (.istore 6, 2) := by decide +kernel
theorem dX6_carries_102 : decode cX6_carries 102 = .ok (.iload 5, 2) := by decide +kernel
theorem dX6_carries_104 : decode cX6_carries 104 = .ok (.ifCond .eq 17, 3) := by decide +kernel
theorem dX6_carries_107 : decode cX6_carries 107 = .ok (.iload_n 3, 1) := by decide +kernel
theorem dX6_carries_108 : decode cX6_carries 108 = .ok (.bipush 103, 2) := by decide +kernel
theorem dX6_carries_110 : decode cX6_carries 110 = .ok (.if_icmp .ne 11, 3) := by decide +kernel
theorem dX6_carries_113 : decode cX6_carries 113 = .ok (.aload_n 0, 1) := by decide +kernel
theorem dX6_carries_114 : decode cX6_carries 114 = .ok (.iload_n 2, 1) := by decide +kernel
theorem dX6_carries_115 : decode cX6_carries 115 = .ok (.invokevirtual 124, 3) := by decide +kernel
theorem dX6_carries_118 : decode cX6_carries 118 = .ok (.goto 58, 3) := by decide +kernel
theorem dX6_carries_121 : decode cX6_carries 121 = .ok (.iload 5, 2) := by decide +kernel
theorem dX6_carries_123 : decode cX6_carries 123 = .ok (.ifCond .eq 53, 3) := by decide +kernel
theorem dX6_carries_126 : decode cX6_carries 126 = .ok (.iload_n 3, 1) := by decide +kernel
theorem dX6_carries_127 : decode cX6_carries 127 = .ok (.bipush 104, 2) := by decide +kernel
theorem dX6_carries_129 : decode cX6_carries 129 = .ok (.if_icmp .ne 11, 3) := by decide +kernel
theorem dX6_carries_132 : decode cX6_carries 132 = .ok (.aload_n 0, 1) := by decide +kernel
theorem dX6_carries_133 : decode cX6_carries 133 = .ok (.iload_n 2, 1) := by decide +kernel
theorem dX6_carries_134 : decode cX6_carries 134 = .ok (.invokevirtual 112, 3) := by decide +kernel
theorem dX6_carries_137 : decode cX6_carries 137 = .ok (.goto 37, 3) := by decide +kernel
theorem dX6_carries_140 : decode cX6_carries 140 = .ok (.iload_n 3, 1) := by decide +kernel
theorem dX6_carries_141 : decode cX6_carries 141 = .ok (.bipush 61, 2) := by decide +kernel
theorem dX6_carries_143 : decode cX6_carries 143 = .ok (.if_icmp .ne 13, 3) := by decide +kernel
theorem dX6_carries_146 : decode cX6_carries 146 = .ok (.aload_n 0, 1) := by decide +kernel
theorem dX6_carries_147 : decode cX6_carries 147 = .ok (.iload_n 2, 1) := by decide +kernel
theorem dX6_carries_148 : decode cX6_carries 148 = .ok (.iload 4, 2) := by decide +kernel
theorem dX6_carries_150 : decode cX6_carries 150 = .ok (.invokevirtual 109, 3) := by decide +kernel
theorem dX6_carries_153 : decode cX6_carries 153 = .ok (.goto 21, 3) := by decide +kernel
theorem dX6_carries_156 : decode cX6_carries 156 = .ok (.aload_n 0, 1) := by decide +kernel
theorem dX6_carries_157 : decode cX6_carries 157 = .ok (.iload_n 2, 1) := by decide +kernel
theorem dX6_carries_158 : decode cX6_carries 158 = .ok (.iload_n 3, 1) := by decide +kernel
theorem dX6_carries_159 : decode cX6_carries 159 = .ok (.bipush 43, 2) := by decide +kernel
theorem dX6_carries_161 : decode cX6_carries 161 = .ok (.if_icmp .ne 7, 3) := by decide +kernel
theorem dX6_carries_164 : decode cX6_carries 164 = .ok (.iconst 1, 1) := by decide +kernel
theorem dX6_carries_165 : decode cX6_carries 165 = .ok (.goto 4, 3) := by decide +kernel
theorem dX6_carries_168 : decode cX6_carries 168 = .ok (.iconst 0, 1) := by decide +kernel
theorem dX6_carries_169 : decode cX6_carries 169 = .ok (.iload 4, 2) := by decide +kernel
theorem dX6_carries_171 : decode cX6_carries 171 = .ok (.invokevirtual 92, 3) := by decide +kernel
theorem dX6_carries_174 : decode cX6_carries 174 = .ok (.istore 6, 2) := by decide +kernel
theorem dX6_carries_176 : decode cX6_carries 176 = .ok (.iload 5, 2) := by decide +kernel
theorem dX6_carries_178 : decode cX6_carries 178 = .ok (.ireturn, 1) := by decide +kernel
theorem dX6_run_0 : decode cX6_run 0 = .ok (.aload_n 0, 1) := by decide +kernel
theorem dX6_run_1 : decode cX6_run 1 = .ok (.invokevirtual 154, 3) := by decide +kernel
theorem dX6_run_4 : decode cX6_run 4 = .ok (.aload_n 0, 1) := by decide +kernel
theorem dX6_run_5 : decode cX6_run 5 = .ok (.getfield 127, 3) := by decide +kernel
theorem dX6_run_8 : decode cX6_run 8 = .ok (.if_icmp .ne 14, 3) := by decide +kernel
theorem dX6_run_11 : decode cX6_run 11 = .ok (.aload_n 0, 1) := by decide +kernel
theorem dX6_run_12 : decode cX6_run 12 = .ok (.invokevirtual 142, 3) := by decide +kernel
theorem dX6_run_15 : decode cX6_run 15 = .ok (.ifCond .eq 7, 3) := by decide +kernel
theorem dX6_run_18 : decode cX6_run 18 = .ok (.iconst 1, 1) := by decide +kernel
theorem dX6_run_19 : decode cX6_run 19 = .ok (.goto 4, 3) := by decide +kernel
theorem dX6_run_22 : decode cX6_run 22 = .ok (.iconst 0, 1) := by decide +kernel
theorem dX6_run_23 : decode cX6_run 23 = .ok (.istore_n 1, 1) := by decide +kernel
theorem dX6_run_24 : decode cX6_run 24 = .ok (.aload_n 0, 1) := by decide +kernel
theorem dX6_run_25 : decode cX6_run 25 = .ok (.iload_n 1, 1) := by decide +kernel
theorem dX6_run_26 : decode cX6_run 26 = .ok (.ifCond .eq 7, 3) := by decide +kernel
theorem dX6_run_29 : decode cX6_run 29 = .ok (.iconst 0, 1) := by decide +kernel
theorem dX6_run_30 : decode cX6_run 30 = .ok (.goto 4, 3) := by decide +kernel
theorem dX6_run_33 : decode cX6_run 33 = .ok (.iconst 1, 1) := by decide +kernel
theorem dX6_run_34 : decode cX6_run 34 = .ok (.putfield 29, 3) := by decide +kernel
theorem dX6_run_37 : decode cX6_run 37 = .ok (.aload_n 0, 1) := by decide +kernel
theorem dX6_run_38 : decode cX6_run 38 = .ok (.getfield 29, 3) := by decide +kernel
theorem dX6_run_41 : decode cX6_run 41 = .ok (.ifCond .le 5, 3) := by decide +kernel
theorem dX6_run_44 : decode cX6_run 44 = .ok (.iconst 0, 1) := by decide +kernel
theorem dX6_run_45 : decode cX6_run 45 = .ok (.ireturn, 1) := by decide +kernel
theorem dX6_run_46 : decode cX6_run 46 = .ok (.aload_n 0, 1) := by decide +kernel
theorem dX6_run_47 : decode cX6_run 47 = .ok (.invokevirtual 71, 3) := by decide +kernel
theorem dX6_run_50 : decode cX6_run 50 = .ok (.aload_n 0, 1) := by decide +kernel
theorem dX6_run_51 : decode cX6_run 51 = .ok (.invokevirtual 145, 3) := by decide +kernel
theorem dX6_run_54 : decode cX6_run 54 = .ok (.aload_n 0, 1) := by decide +kernel
theorem dX6_run_55 : decode cX6_run 55 = .ok (.iconst 0, 1) := by decide +kernel
theorem dX6_run_56 : decode cX6_run 56 = .ok (.putfield 127, 3) := by decide +kernel
theorem dX6_run_59 : decode cX6_run 59 = .ok (.iconst 0, 1) := by decide +kernel
theorem dX6_run_60 : decode cX6_run 60 = .ok (.istore_n 2, 1) := by decide +kernel
theorem dX6_run_61 : decode cX6_run 61 = .ok (.iload_n 2, 1) := by decide +kernel
theorem dX6_run_62 : decode cX6_run 62 = .ok (.aload_n 0, 1) := by decide +kernel
theorem dX6_run_63 : decode cX6_run 63 = .ok (.getfield 130, 3) := by decide +kernel
theorem dX6_run_66 : decode cX6_run 66 = .ok (.if_icmp .ge 17, 3) := by decide +kernel
theorem dX6_run_69 : decode cX6_run 69 = .ok (.aload_n 0, 1) := by decide +kernel
theorem dX6_run_70 : decode cX6_run 70 = .ok (.iload_n 2, 1) := by decide +kernel
theorem dX6_run_71 : decode cX6_run 71 = .ok (.invokevirtual 158, 3) := by decide +kernel
theorem dX6_run_74 : decode cX6_run 74 = .ok (.ifCond .eq 9, 3) := by decide +kernel
theorem dX6_run_77 : decode cX6_run 77 = .ok (.iinc 2 1, 3) := by decide +kernel
theorem dX6_run_80 : decode cX6_run 80 = .ok (.goto (-19), 3) := by decide +kernel
theorem dX6_run_83 : decode cX6_run 83 = .ok (.iload_n 2, 1) := by decide +kernel
theorem dX6_run_84 : decode cX6_run 84 = .ok (.ireturn, 1) := by decide +kernel
theorem dX6_undo_0 : decode cX6_undo 0 = .ok (.aload_n 0, 1) := by decide +kernel
theorem dX6_undo_1 : decode cX6_undo 1 = .ok (.aload_n 0, 1) := by decide +kernel
theorem dX6_undo_2 : decode cX6_undo 2 = .ok (.getfield 32, 3) := by decide +kernel
theorem dX6_undo_5 : decode cX6_undo 5 = .ok (.ifCond .le 7, 3) := by decide +kernel
theorem dX6_undo_8 : decode cX6_undo 8 = .ok (.iconst 0, 1) := by decide +kernel
theorem dX6_undo_9 : decode cX6_undo 9 = .ok (.goto 4, 3) := by decide +kernel
theorem dX6_undo_12 : decode cX6_undo 12 = .ok (.iconst 1, 1) := by decide +kernel
theorem dX6_undo_13 : decode cX6_undo 13 = .ok (.putfield 29, 3) := by decide +kernel
theorem dX6_undo_16 : decode cX6_undo 16 = .ok (.aload_n 0, 1) := by decide +kernel
theorem dX6_undo_17 : decode cX6_undo 17 = .ok (.getfield 29, 3) := by decide +kernel
theorem dX6_undo_20 : decode cX6_undo 20 = .ok (.ifCond .le 5, 3) := by decide +kernel
theorem dX6_undo_23 : decode cX6_undo 23 = .ok (.iconst 0, 1) := by decide +kernel
theorem dX6_undo_24 : decode cX6_undo 24 = .ok (.ireturn, 1) := by decide +kernel
theorem dX6_undo_25 : decode cX6_undo 25 = .ok (.aload_n 0, 1) := by decide +kernel
theorem dX6_undo_26 : decode cX6_undo 26 = .ok (.dup, 1) := by decide +kernel
theorem dX6_undo_27 : decode cX6_undo 27 = .ok (.getfield 32, 3) := by decide +kernel
theorem dX6_undo_30 : decode cX6_undo 30 = .ok (.iconst 1, 1) := by decide +kernel
theorem dX6_undo_31 : decode cX6_undo 31 = .ok (.isub, 1) := by decide +kernel
theorem dX6_undo_32 : decode cX6_undo 32 = .ok (.putfield 32, 3) := by decide +kernel
theorem dX6_undo_35 : decode cX6_undo 35 = .ok (.iconst 0, 1) := by decide +kernel
theorem dX6_undo_36 : decode cX6_undo 36 = .ok (.istore_n 1, 1) := by decide +kernel
theorem dX6_undo_37 : decode cX6_undo 37 = .ok (.iload_n 1, 1) := by decide +kernel
theorem dX6_undo_38 : decode cX6_undo 38 = .ok (.sipush 148, 3) := by decide +kernel
theorem dX6_undo_41 : decode cX6_undo 41 = .ok (.if_icmp .ge 30, 3) := by decide +kernel
theorem dX6_undo_44 : decode cX6_undo 44 = .ok (.aload_n 0, 1) := by decide +kernel
theorem dX6_undo_45 : decode cX6_undo 45 = .ok (.getfield 7, 3) := by decide +kernel
theorem dX6_undo_48 : decode cX6_undo 48 = .ok (.iload_n 1, 1) := by decide +kernel
