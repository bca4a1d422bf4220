theorem dX0_init_0 : decode cX0_init 0 = .ok (.aload_n 0, 1) := by decide +kernel
theorem dX0_init_1 : decode cX0_init 1 = .ok (.invokespecial 3, 3) := by decide +kernel
theorem dX0_init_4 : decode cX0_init 4 = .ok (.aload_n 0, 1) := by decide +kernel
theorem dX0_init_5 : decode cX0_init 5 = .ok (.bipush 24, 2) := by decide +kernel
theorem dX0_init_7 : decode cX0_init 7 = .ok (.newarray .int, 2) := by decide +kernel
theorem dX0_init_9 : decode cX0_init 9 = .ok (.putfield 9, 3) := by decide +kernel
theorem dX0_init_12 : decode cX0_init 12 = .ok (.aload_n 0, 1) := by decide +kernel
theorem dX0_init_13 : decode cX0_init 13 = .ok (.iconst 0, 1) := by decide +kernel
theorem dX0_init_14 : decode cX0_init 14 = .ok (.putfield 15, 3) := by decide +kernel
theorem dX0_init_17 : decode cX0_init 17 = .ok (.aload_n 0, 1) := by decide +kernel
theorem dX0_init_18 : decode cX0_init 18 = .ok (.iconst 0, 1) := by decide +kernel
theorem dX0_init_19 : decode cX0_init 19 = .ok (.putfield 19, 3) := by decide +kernel
theorem dX0_init_22 : decode cX0_init 22 = .ok (.aload_n 0, 1) := by decide +kernel
theorem dX0_init_23 : decode cX0_init 23 = .ok (.iconst 0, 1) := by decide +kernel
theorem dX0_init_24 : decode cX0_init 24 = .ok (.putfield 22, 3) := by decide +kernel
theorem dX0_init_27 : decode cX0_init 27 = .ok (.aload_n 0, 1) := by decide +kernel
theorem dX0_init_28 : decode cX0_init 28 = .ok (.iconst 0, 1) := by decide +kernel
theorem dX0_init_29 : decode cX0_init 29 = .ok (.putfield 25, 3) := by decide +kernel
theorem dX0_init_32 : decode cX0_init 32 = .ok (.aload_n 0, 1) := by decide +kernel
theorem dX0_init_33 : decode cX0_init 33 = .ok (.iconst 0, 1) := by decide +kernel
theorem dX0_init_34 : decode cX0_init 34 = .ok (.putfield 28, 3) := by decide +kernel
theorem dX0_init_37 : decode cX0_init 37 = .ok (.aload_n 0, 1) := by decide +kernel
theorem dX0_init_38 : decode cX0_init 38 = .ok (.iconst 0, 1) := by decide +kernel
theorem dX0_init_39 : decode cX0_init 39 = .ok (.putfield 31, 3) := by decide +kernel
theorem dX0_init_42 : decode cX0_init 42 = .ok (.aload_n 0, 1) := by decide +kernel
theorem dX0_init_43 : decode cX0_init 43 = .ok (.iconst 0, 1) := by decide +kernel
theorem dX0_init_44 : decode cX0_init 44 = .ok (.putfield 34, 3) := by decide +kernel
theorem dX0_init_47 : decode cX0_init 47 = .ok (.aload_n 0, 1) := by decide +kernel
theorem dX0_init_48 : decode cX0_init 48 = .ok (.iconst 0, 1) := by decide +kernel
theorem dX0_init_49 : decode cX0_init 49 = .ok (.putfield 37, 3) := by decide +kernel
theorem dX0_init_52 : decode cX0_init 52 = .ok (.aload_n 0, 1) := by decide +kernel
theorem dX0_init_53 : decode cX0_init 53 = .ok (.iconst 0, 1) := by decide +kernel
theorem dX0_init_54 : decode cX0_init 54 = .ok (.putfield 40, 3) := by decide +kernel
theorem dX0_init_57 : decode cX0_init 57 = .ok (.aload_n 0, 1) := by decide +kernel
theorem dX0_init_58 : decode cX0_init 58 = .ok (.iconst 0, 1) := by decide +kernel
theorem dX0_init_59 : decode cX0_init 59 = .ok (.putfield 43, 3) := by decide +kernel
theorem dX0_init_62 : decode cX0_init 62 = .ok (.aload_n 0, 1) := by decide +kernel
theorem dX0_init_63 : decode cX0_init 63 = .ok (.iconst 0, 1) := by decide +kernel
theorem dX0_init_64 : decode cX0_init 64 = .ok (.putfield 46, 3) := by decide +kernel
theorem dX0_init_67 : decode cX0_init 67 = .ok (.return_, 1) := by decide +kernel
theorem dX0_nextPlace_0 : decode cX0_nextPlace 0 = .ok (.iload_n 0, 1) := by decide +kernel
theorem dX0_nextPlace_1 : decode cX0_nextPlace 1 = .ok (.iload_n 1, 1) := by decide +kernel
theorem dX0_nextPlace_2 : decode cX0_nextPlace 2 = .ok (.iadd, 1) := by decide +kernel
theorem dX0_nextPlace_3 : decode cX0_nextPlace 3 = .ok (.istore_n 2, 1) := by decide +kernel
theorem dX0_nextPlace_4 : decode cX0_nextPlace 4 = .ok (.iload_n 2, 1) := by decide +kernel
theorem dX0_nextPlace_5 : decode cX0_nextPlace 5 = .ok (.ifCond .ge 6, 3) := by decide +kernel
theorem dX0_nextPlace_8 : decode cX0_nextPlace 8 = .ok (.bipush 23, 2) := by decide +kernel
theorem dX0_nextPlace_10 : decode cX0_nextPlace 10 = .ok (.ireturn, 1) := by decide +kernel
theorem dX0_nextPlace_11 : decode cX0_nextPlace 11 = .ok (.iload_n 2, 1) := by decide +kernel
theorem dX0_nextPlace_12 : decode cX0_nextPlace 12 = .ok (.bipush 24, 2) := by decide +kernel
theorem dX0_nextPlace_14 : decode cX0_nextPlace 14 = .ok (.if_icmp .ge 7, 3) := by decide +kernel
theorem dX0_nextPlace_17 : decode cX0_nextPlace 17 = .ok (.iload_n 2, 1) := by decide +kernel
theorem dX0_nextPlace_18 : decode cX0_nextPlace 18 = .ok (.goto 4, 3) := by decide +kernel
theorem dX0_nextPlace_21 : decode cX0_nextPlace 21 = .ok (.iconst 0, 1) := by decide +kernel
theorem dX0_nextPlace_22 : decode cX0_nextPlace 22 = .ok (.ireturn, 1) := by decide +kernel
theorem dX0_toothBy_0 : decode cX0_toothBy 0 = .ok (.iload_n 1, 1) := by decide +kernel
theorem dX0_toothBy_1 : decode cX0_toothBy 1 = .ok (.iconst 1, 1) := by decide +kernel
theorem dX0_toothBy_2 : decode cX0_toothBy 2 = .ok (.if_icmp .ne 5, 3) := by decide +kernel
theorem dX0_toothBy_5 : decode cX0_toothBy 5 = .ok (.iload_n 0, 1) := by decide +kernel
theorem dX0_toothBy_6 : decode cX0_toothBy 6 = .ok (.ireturn, 1) := by decide +kernel
theorem dX0_toothBy_7 : decode cX0_toothBy 7 = .ok (.iload_n 0, 1) := by decide +kernel
theorem dX0_toothBy_8 : decode cX0_toothBy 8 = .ok (.ifCond .le 9, 3) := by decide +kernel
theorem dX0_toothBy_11 : decode cX0_toothBy 11 = .ok (.iload_n 0, 1) := by decide +kernel
theorem dX0_toothBy_12 : decode cX0_toothBy 12 = .ok (.iconst 1, 1) := by decide +kernel
theorem dX0_toothBy_13 : decode cX0_toothBy 13 = .ok (.isub, 1) := by decide +kernel
theorem dX0_toothBy_14 : decode cX0_toothBy 14 = .ok (.goto 5, 3) := by decide +kernel
theorem dX0_toothBy_17 : decode cX0_toothBy 17 = .ok (.bipush 23, 2) := by decide +kernel
theorem dX0_toothBy_19 : decode cX0_toothBy 19 = .ok (.ireturn, 1) := by decide +kernel
theorem dX0_distance_0 : decode cX0_distance 0 = .ok (.iload_n 1, 1) := by decide +kernel
theorem dX0_distance_1 : decode cX0_distance 1 = .ok (.iload_n 0, 1) := by decide +kernel
theorem dX0_distance_2 : decode cX0_distance 2 = .ok (.isub, 1) := by decide +kernel
theorem dX0_distance_3 : decode cX0_distance 3 = .ok (.bipush 24, 2) := by decide +kernel
theorem dX0_distance_5 : decode cX0_distance 5 = .ok (.invokestatic 49, 3) := by decide +kernel
theorem dX0_distance_8 : decode cX0_distance 8 = .ok (.istore_n 2, 1) := by decide +kernel
theorem dX0_distance_9 : decode cX0_distance 9 = .ok (.iload_n 2, 1) := by decide +kernel
theorem dX0_distance_10 : decode cX0_distance 10 = .ok (.bipush 24, 2) := by decide +kernel
theorem dX0_distance_12 : decode cX0_distance 12 = .ok (.iload_n 2, 1) := by decide +kernel
theorem dX0_distance_13 : decode cX0_distance 13 = .ok (.isub, 1) := by decide +kernel
theorem dX0_distance_14 : decode cX0_distance 14 = .ok (.invokestatic 55, 3) := by decide +kernel
theorem dX0_distance_17 : decode cX0_distance 17 = .ok (.ireturn, 1) := by decide +kernel
theorem dX0_wearOf_0 : decode cX0_wearOf 0 = .ok (.iload_n 1, 1) := by decide +kernel
theorem dX0_wearOf_1 : decode cX0_wearOf 1 = .ok (.ifCond .lt 21, 3) := by decide +kernel
theorem dX0_wearOf_4 : decode cX0_wearOf 4 = .ok (.iload_n 1, 1) := by decide +kernel
theorem dX0_wearOf_5 : decode cX0_wearOf 5 = .ok (.aload_n 0, 1) := by decide +kernel
theorem dX0_wearOf_6 : decode cX0_wearOf 6 = .ok (.getfield 9, 3) := by decide +kernel
theorem dX0_wearOf_9 : decode cX0_wearOf 9 = .ok (.arraylength, 1) := by decide +kernel
theorem dX0_wearOf_10 : decode cX0_wearOf 10 = .ok (.if_icmp .ge 12, 3) := by decide +kernel
theorem dX0_wearOf_13 : decode cX0_wearOf 13 = .ok (.aload_n 0, 1) := by decide +kernel
theorem dX0_wearOf_14 : decode cX0_wearOf 14 = .ok (.getfield 9, 3) := by decide +kernel
theorem dX0_wearOf_17 : decode cX0_wearOf 17 = .ok (.iload_n 1, 1) := by decide +kernel
theorem dX0_wearOf_18 : decode cX0_wearOf 18 = .ok (.iaload, 1) := by decide +kernel
theorem dX0_wearOf_19 : decode cX0_wearOf 19 = .ok (.goto 4, 3) := by decide +kernel
theorem dX0_wearOf_22 : decode cX0_wearOf 22 = .ok (.iconst 0, 1) := by decide +kernel
theorem dX0_wearOf_23 : decode cX0_wearOf 23 = .ok (.ireturn, 1) := by decide +kernel
theorem dX0_setWear_0 : decode cX0_setWear 0 = .ok (.iload_n 1, 1) := by decide +kernel
theorem dX0_setWear_1 : decode cX0_setWear 1 = .ok (.ifCond .lt 19, 3) := by decide +kernel
theorem dX0_setWear_4 : decode cX0_setWear 4 = .ok (.iload_n 1, 1) := by decide +kernel
theorem dX0_setWear_5 : decode cX0_setWear 5 = .ok (.aload_n 0, 1) := by decide +kernel
theorem dX0_setWear_6 : decode cX0_setWear 6 = .ok (.getfield 9, 3) := by decide +kernel
theorem dX0_setWear_9 : decode cX0_setWear 9 = .ok (.arraylength, 1) := by decide +kernel
theorem dX0_setWear_10 : decode cX0_setWear 10 = .ok (.if_icmp .ge 10, 3) := by decide +kernel
theorem dX0_setWear_13 : decode cX0_setWear 13 = .ok (.aload_n 0, 1) := by decide +kernel
theorem dX0_setWear_14 : decode cX0_setWear 14 = .ok (.getfield 9, 3) := by decide +kernel
theorem dX0_setWear_17 : decode cX0_setWear 17 = .ok (.iload_n 1, 1) := by decide +kernel
theorem dX0_setWear_18 : decode cX0_setWear 18 = .ok (.iload_n 2, 1) := by decide +kernel
theorem dX0_setWear_19 : decode cX0_setWear 19 = .ok (.iastore, 1) := by decide +kernel
theorem dX0_setWear_20 : decode cX0_setWear 20 = .ok (.return_, 1) := by decide +kernel
theorem dX0_tollWith_0 : decode cX0_tollWith 0 = .ok (.iconst 1, 1) := by decide +kernel
theorem dX0_tollWith_1 : decode cX0_tollWith 1 = .ok (.aload_n 0, 1) := by decide +kernel
theorem dX0_tollWith_2 : decode cX0_tollWith 2 = .ok (.getfield 22, 3) := by decide +kernel
theorem dX0_tollWith_5 : decode cX0_tollWith 5 = .ok (.iadd, 1) := by decide +kernel
theorem dX0_tollWith_6 : decode cX0_tollWith 6 = .ok (.istore 4, 2) := by decide +kernel
theorem dX0_tollWith_8 : decode cX0_tollWith 8 = .ok (.aload_n 3, 1) := by decide +kernel
theorem dX0_tollWith_9 : decode cX0_tollWith 9 = .ok (.getfield 58, 3) := by decide +kernel
theorem dX0_tollWith_12 : decode cX0_tollWith 12 = .ok (.ifCond .le 14, 3) := by decide +kernel
theorem dX0_tollWith_15 : decode cX0_tollWith 15 = .ok (.iload 4, 2) := by decide +kernel
theorem dX0_tollWith_17 : decode cX0_tollWith 17 = .ok (.iload_n 1, 1) := by decide +kernel
theorem dX0_tollWith_18 : decode cX0_tollWith 18 = .ok (.aload_n 3, 1) := by decide +kernel
theorem dX0_tollWith_19 : decode cX0_tollWith 19 = .ok (.getfield 58, 3) := by decide +kernel
theorem dX0_tollWith_22 : decode cX0_tollWith 22 = .ok (.idiv, 1) := by decide +kernel
theorem dX0_tollWith_23 : decode cX0_tollWith 23 = .ok (.iadd, 1) := by decide +kernel
theorem dX0_tollWith_24 : decode cX0_tollWith 24 = .ok (.istore 4, 2) := by decide +kernel
theorem dX0_tollWith_26 : decode cX0_tollWith 26 = .ok (.iload_n 2, 1) := by decide +kernel
theorem dX0_tollWith_27 : decode cX0_tollWith 27 = .ok (.ifCond .le 12, 3) := by decide +kernel
theorem dX0_tollWith_30 : decode cX0_tollWith 30 = .ok (.iload 4, 2) := by decide +kernel
theorem dX0_tollWith_32 : decode cX0_tollWith 32 = .ok (.iconst 1, 1) := by decide +kernel
theorem dX0_tollWith_33 : decode cX0_tollWith 33 = .ok (.iadd, 1) := by decide +kernel
theorem dX0_tollWith_34 : decode cX0_tollWith 34 = .ok (.iconst 2, 1) := by decide +kernel
theorem dX0_tollWith_35 : decode cX0_tollWith 35 = .ok (.idiv, 1) := by decide +kernel
theorem dX0_tollWith_36 : decode cX0_tollWith 36 = .ok (.goto 5, 3) := by decide +kernel
theorem dX0_tollWith_39 : decode cX0_tollWith 39 = .ok (.iload 4, 2) := by decide +kernel
theorem dX0_tollWith_41 : decode cX0_tollWith 41 = .ok (.ireturn, 1) := by decide +kernel
theorem dX0_tollOfStep_0 : decode cX0_tollOfStep 0 = .ok (.aload_n 0, 1) := by decide +kernel
theorem dX0_tollOfStep_1 : decode cX0_tollOfStep 1 = .ok (.aload_n 0, 1) := by decide +kernel
theorem dX0_tollOfStep_2 : decode cX0_tollOfStep 2 = .ok (.aload_n 0, 1) := by decide +kernel
theorem dX0_tollOfStep_3 : decode cX0_tollOfStep 3 = .ok (.getfield 15, 3) := by decide +kernel
theorem dX0_tollOfStep_6 : decode cX0_tollOfStep 6 = .ok (.iload_n 1, 1) := by decide +kernel
theorem dX0_tollOfStep_7 : decode cX0_tollOfStep 7 = .ok (.invokestatic 63, 3) := by decide +kernel
theorem dX0_tollOfStep_10 : decode cX0_tollOfStep 10 = .ok (.invokevirtual 66, 3) := by decide +kernel
theorem dX0_tollOfStep_13 : decode cX0_tollOfStep 13 = .ok (.aload_n 0, 1) := by decide +kernel
theorem dX0_tollOfStep_14 : decode cX0_tollOfStep 14 = .ok (.getfield 31, 3) := by decide +kernel
theorem dX0_tollOfStep_17 : decode cX0_tollOfStep 17 = .ok (.aload_n 2, 1) := by decide +kernel
theorem dX0_tollOfStep_18 : decode cX0_tollOfStep 18 = .ok (.invokevirtual 70, 3) := by decide +kernel
theorem dX0_tollOfStep_21 : decode cX0_tollOfStep 21 = .ok (.ireturn, 1) := by decide +kernel
theorem dX0_isTurn_0 : decode cX0_isTurn 0 = .ok (.aload_n 0, 1) := by decide +kernel
theorem dX0_isTurn_1 : decode cX0_isTurn 1 = .ok (.getfield 25, 3) := by decide +kernel
theorem dX0_isTurn_4 : decode cX0_isTurn 4 = .ok (.iload_n 1, 1) := by decide +kernel
theorem dX0_isTurn_5 : decode cX0_isTurn 5 = .ok (.ineg, 1) := by decide +kernel
theorem dX0_isTurn_6 : decode cX0_isTurn 6 = .ok (.if_icmp .ne 7, 3) := by decide +kernel
theorem dX0_isTurn_9 : decode cX0_isTurn 9 = .ok (.iconst 1, 1) := by decide +kernel
theorem dX0_isTurn_10 : decode cX0_isTurn 10 = .ok (.goto 4, 3) := by decide +kernel
theorem dX0_isTurn_13 : decode cX0_isTurn 13 = .ok (.iconst 0, 1) := by decide +kernel
theorem dX0_isTurn_14 : decode cX0_isTurn 14 = .ok (.ireturn, 1) := by decide +kernel
theorem dX0_makeStep_0 : decode cX0_makeStep 0 = .ok (.aload_n 0, 1) := by decide +kernel
theorem dX0_makeStep_1 : decode cX0_makeStep 1 = .ok (.getfield 15, 3) := by decide +kernel
theorem dX0_makeStep_4 : decode cX0_makeStep 4 = .ok (.iload_n 1, 1) := by decide +kernel
theorem dX0_makeStep_5 : decode cX0_makeStep 5 = .ok (.invokestatic 63, 3) := by decide +kernel
theorem dX0_makeStep_8 : decode cX0_makeStep 8 = .ok (.istore 4, 2) := by decide +kernel
theorem dX0_makeStep_10 : decode cX0_makeStep 10 = .ok (.aload_n 0, 1) := by decide +kernel
theorem dX0_makeStep_11 : decode cX0_makeStep 11 = .ok (.iload 4, 2) := by decide +kernel
theorem dX0_makeStep_13 : decode cX0_makeStep 13 = .ok (.invokevirtual 66, 3) := by decide +kernel
theorem dX0_makeStep_16 : decode cX0_makeStep 16 = .ok (.istore 5, 2) := by decide +kernel
theorem dX0_makeStep_18 : decode cX0_makeStep 18 = .ok (.aload_n 0, 1) := by decide +kernel
theorem dX0_makeStep_19 : decode cX0_makeStep 19 = .ok (.iload 5, 2) := by decide +kernel
theorem dX0_makeStep_21 : decode cX0_makeStep 21 = .ok (.aload_n 0, 1) := by decide +kernel
theorem dX0_makeStep_22 : decode cX0_makeStep 22 = .ok (.getfield 31, 3) := by decide +kernel
theorem dX0_makeStep_25 : decode cX0_makeStep 25 = .ok (.aload_n 3, 1) := by decide +kernel
theorem dX0_makeStep_26 : decode cX0_makeStep 26 = .ok (.invokevirtual 70, 3) := by decide +kernel
theorem dX0_makeStep_29 : decode cX0_makeStep 29 = .ok (.istore 6, 2) := by decide +kernel
theorem dX0_makeStep_31 : decode cX0_makeStep 31 = .ok (.iload 6, 2) := by decide +kernel
theorem dX0_makeStep_33 : decode cX0_makeStep 33 = .ok (.iload_n 2, 1) := by decide +kernel
theorem dX0_makeStep_34 : decode cX0_makeStep 34 = .ok (.if_icmp .le 5, 3) := by decide +kernel
theorem dX0_makeStep_37 : decode cX0_makeStep 37 = .ok (.iconst 0, 1) := by decide +kernel
theorem dX0_makeStep_38 : decode cX0_makeStep 38 = .ok (.ireturn, 1) := by decide +kernel
theorem dX0_makeStep_39 : decode cX0_makeStep 39 = .ok (.aload_n 0, 1) := by decide +kernel
theorem dX0_makeStep_40 : decode cX0_makeStep 40 = .ok (.iload_n 1, 1) := by decide +kernel
theorem dX0_makeStep_41 : decode cX0_makeStep 41 = .ok (.invokevirtual 74, 3) := by decide +kernel
theorem dX0_makeStep_44 : decode cX0_makeStep 44 = .ok (.istore 7, 2) := by decide +kernel
theorem dX0_makeStep_46 : decode cX0_makeStep 46 = .ok (.iload 7, 2) := by decide +kernel
theorem dX0_makeStep_48 : decode cX0_makeStep 48 = .ok (.ifCond .eq 28, 3) := by decide +kernel
theorem dX0_makeStep_51 : decode cX0_makeStep 51 = .ok (.aload_n 0, 1) := by decide +kernel
theorem dX0_makeStep_52 : decode cX0_makeStep 52 = .ok (.dup, 1) := by decide +kernel
theorem dX0_makeStep_53 : decode cX0_makeStep 53 = .ok (.getfield 43, 3) := by decide +kernel
theorem dX0_makeStep_56 : decode cX0_makeStep 56 = .ok (.iconst 1, 1) := by decide +kernel
theorem dX0_makeStep_57 : decode cX0_makeStep 57 = .ok (.iadd, 1) := by decide +kernel
theorem dX0_makeStep_58 : decode cX0_makeStep 58 = .ok (.putfield 43, 3) := by decide +kernel
theorem dX0_makeStep_61 : decode cX0_makeStep 61 = .ok (.aload_n 0, 1) := by decide +kernel
theorem dX0_makeStep_62 : decode cX0_makeStep 62 = .ok (.aload_n 0, 1) := by decide +kernel
theorem dX0_makeStep_63 : decode cX0_makeStep 63 = .ok (.getfield 28, 3) := by decide +kernel
theorem dX0_makeStep_66 : decode cX0_makeStep 66 = .ok (.iconst 1, 1) := by decide +kernel
theorem dX0_makeStep_67 : decode cX0_makeStep 67 = .ok (.iadd, 1) := by decide +kernel
theorem dX0_makeStep_68 : decode cX0_makeStep 68 = .ok (.bipush 12, 2) := by decide +kernel
theorem dX0_makeStep_70 : decode cX0_makeStep 70 = .ok (.invokestatic 55, 3) := by decide +kernel
theorem dX0_makeStep_73 : decode cX0_makeStep 73 = .ok (.putfield 28, 3) := by decide +kernel
theorem dX0_makeStep_76 : decode cX0_makeStep 76 = .ok (.aload_n 0, 1) := by decide +kernel
theorem dX0_makeStep_77 : decode cX0_makeStep 77 = .ok (.aload_n 0, 1) := by decide +kernel
theorem dX0_makeStep_78 : decode cX0_makeStep 78 = .ok (.getfield 19, 3) := by decide +kernel
theorem dX0_makeStep_81 : decode cX0_makeStep 81 = .ok (.iload_n 1, 1) := by decide +kernel
theorem dX0_makeStep_82 : decode cX0_makeStep 82 = .ok (.invokestatic 78, 3) := by decide +kernel
theorem dX0_makeStep_85 : decode cX0_makeStep 85 = .ok (.putfield 19, 3) := by decide +kernel
theorem dX0_makeStep_88 : decode cX0_makeStep 88 = .ok (.iload 7, 2) := by decide +kernel
theorem dX0_makeStep_90 : decode cX0_makeStep 90 = .ok (.ifCond .eq 25, 3) := by decide +kernel
theorem dX0_makeStep_93 : decode cX0_makeStep 93 = .ok (.iload 5, 2) := by decide +kernel
theorem dX0_makeStep_95 : decode cX0_makeStep 95 = .ok (.aload_n 3, 1) := by decide +kernel
theorem dX0_makeStep_96 : decode cX0_makeStep 96 = .ok (.getfield 81, 3) := by decide +kernel
theorem dX0_makeStep_99 : decode cX0_makeStep 99 = .ok (.if_icmp .lt 16, 3) := by decide +kernel
theorem dX0_makeStep_102 : decode cX0_makeStep 102 = .ok (.aload_n 0, 1) := by decide +kernel
theorem dX0_makeStep_103 : decode cX0_makeStep 103 = .ok (.dup, 1) := by decide +kernel
theorem dX0_makeStep_104 : decode cX0_makeStep 104 = .ok (.getfield 37, 3) := by decide +kernel
theorem dX0_makeStep_107 : decode cX0_makeStep 107 = .ok (.iconst 1, 1) := by decide +kernel
theorem dX0_makeStep_108 : decode cX0_makeStep 108 = .ok (.iadd, 1) := by decide +kernel
theorem dX0_makeStep_109 : decode cX0_makeStep 109 = .ok (.putfield 37, 3) := by decide +kernel
theorem dX0_makeStep_112 : decode cX0_makeStep 112 = .ok (.goto 15, 3) := by decide +kernel
theorem dX0_makeStep_115 : decode cX0_makeStep 115 = .ok (.aload_n 0, 1) := by decide +kernel
theorem dX0_makeStep_116 : decode cX0_makeStep 116 = .ok (.aload_n 0, 1) := by decide +kernel
theorem dX0_makeStep_117 : decode cX0_makeStep 117 = .ok (.getfield 15, 3) := by decide +kernel
theorem dX0_makeStep_120 : decode cX0_makeStep 120 = .ok (.iload_n 1, 1) := by decide +kernel
theorem dX0_makeStep_121 : decode cX0_makeStep 121 = .ok (.invokestatic 78, 3) := by decide +kernel
theorem dX0_makeStep_124 : decode cX0_makeStep 124 = .ok (.putfield 15, 3) := by decide +kernel
theorem dX0_makeStep_127 : decode cX0_makeStep 127 = .ok (.aload_n 0, 1) := by decide +kernel
theorem dX0_makeStep_128 : decode cX0_makeStep 128 = .ok (.iload 4, 2) := by decide +kernel
theorem dX0_makeStep_130 : decode cX0_makeStep 130 = .ok (.iload 5, 2) := by decide +kernel
theorem dX0_makeStep_132 : decode cX0_makeStep 132 = .ok (.aload_n 3, 1) := by decide +kernel
theorem dX0_makeStep_133 : decode cX0_makeStep 133 = .ok (.getfield 84, 3) := by decide +kernel
theorem dX0_makeStep_136 : decode cX0_makeStep 136 = .ok (.iadd, 1) := by decide +kernel
theorem dX0_makeStep_137 : decode cX0_makeStep 137 = .ok (.bipush 99, 2) := by decide +kernel
theorem dX0_makeStep_139 : decode cX0_makeStep 139 = .ok (.invokestatic 55, 3) := by decide +kernel
theorem dX0_makeStep_142 : decode cX0_makeStep 142 = .ok (.invokevirtual 87, 3) := by decide +kernel
theorem dX0_makeStep_145 : decode cX0_makeStep 145 = .ok (.aload_n 0, 1) := by decide +kernel
theorem dX0_makeStep_146 : decode cX0_makeStep 146 = .ok (.iload_n 1, 1) := by decide +kernel
theorem dX0_makeStep_147 : decode cX0_makeStep 147 = .ok (.putfield 25, 3) := by decide +kernel
theorem dX0_makeStep_150 : decode cX0_makeStep 150 = .ok (.aload_n 0, 1) := by decide +kernel
theorem dX0_makeStep_151 : decode cX0_makeStep 151 = .ok (.aload_n 0, 1) := by decide +kernel
theorem dX0_makeStep_152 : decode cX0_makeStep 152 = .ok (.getfield 31, 3) := by decide +kernel
theorem dX0_makeStep_155 : decode cX0_makeStep 155 = .ok (.iconst 1, 1) := by decide +kernel
theorem dX0_makeStep_156 : decode cX0_makeStep 156 = .ok (.isub, 1) := by decide +kernel
theorem dX0_makeStep_157 : decode cX0_makeStep 157 = .ok (.iconst 0, 1) := by decide +kernel
theorem dX0_makeStep_158 : decode cX0_makeStep 158 = .ok (.invokestatic 91, 3) := by decide +kernel
theorem dX0_makeStep_161 : decode cX0_makeStep 161 = .ok (.putfield 31, 3) := by decide +kernel
theorem dX0_makeStep_164 : decode cX0_makeStep 164 = .ok (.aload_n 0, 1) := by decide +kernel
theorem dX0_makeStep_165 : decode cX0_makeStep 165 = .ok (.dup, 1) := by decide +kernel
theorem dX0_makeStep_166 : decode cX0_makeStep 166 = .ok (.getfield 34, 3) := by decide +kernel
theorem dX0_makeStep_169 : decode cX0_makeStep 169 = .ok (.iconst 1, 1) := by decide +kernel
theorem dX0_makeStep_170 : decode cX0_makeStep 170 = .ok (.iadd, 1) := by decide +kernel
theorem dX0_makeStep_171 : decode cX0_makeStep 171 = .ok (.putfield 34, 3) := by decide +kernel
theorem dX0_makeStep_174 : decode cX0_makeStep 174 = .ok (.aload_n 0, 1) := by decide +kernel
theorem dX0_makeStep_175 : decode cX0_makeStep 175 = .ok (.dup, 1) := by decide +kernel
theorem dX0_makeStep_176 : decode cX0_makeStep 176 = .ok (.getfield 40, 3) := by decide +kernel
theorem dX0_makeStep_179 : decode cX0_makeStep 179 = .ok (.iload 6, 2) := by decide +kernel
theorem dX0_makeStep_181 : decode cX0_makeStep 181 = .ok (.iadd, 1) := by decide +kernel
theorem dX0_makeStep_182 : decode cX0_makeStep 182 = .ok (.putfield 40, 3) := by decide +kernel
theorem dX0_makeStep_185 : decode cX0_makeStep 185 = .ok (.iload 6, 2) := by decide +kernel
theorem dX0_makeStep_187 : decode cX0_makeStep 187 = .ok (.ireturn, 1) := by decide +kernel
theorem dX0_makeHomed_0 : decode cX0_makeHomed 0 = .ok (.iconst 0, 1) := by decide +kernel
theorem dX0_makeHomed_1 : decode cX0_makeHomed 1 = .ok (.istore_n 3, 1) := by decide +kernel
theorem dX0_makeHomed_2 : decode cX0_makeHomed 2 = .ok (.iconst 0, 1) := by decide +kernel
theorem dX0_makeHomed_3 : decode cX0_makeHomed 3 = .ok (.istore 4, 2) := by decide +kernel
theorem dX0_makeHomed_5 : decode cX0_makeHomed 5 = .ok (.iload 4, 2) := by decide +kernel
theorem dX0_makeHomed_7 : decode cX0_makeHomed 7 = .ok (.bipush 40, 2) := by decide +kernel
theorem dX0_makeHomed_9 : decode cX0_makeHomed 9 = .ok (.if_icmp .ge 40, 3) := by decide +kernel
theorem dX0_makeHomed_12 : decode cX0_makeHomed 12 = .ok (.aload_n 0, 1) := by decide +kernel
theorem dX0_makeHomed_13 : decode cX0_makeHomed 13 = .ok (.getfield 15, 3) := by decide +kernel
theorem dX0_makeHomed_16 : decode cX0_makeHomed 16 = .ok (.ifCond .eq 33, 3) := by decide +kernel
theorem dX0_makeHomed_19 : decode cX0_makeHomed 19 = .ok (.aload_n 0, 1) := by decide +kernel
theorem dX0_makeHomed_20 : decode cX0_makeHomed 20 = .ok (.iconst (-1), 1) := by decide +kernel
theorem dX0_makeHomed_21 : decode cX0_makeHomed 21 = .ok (.iload_n 1, 1) := by decide +kernel
theorem dX0_makeHomed_22 : decode cX0_makeHomed 22 = .ok (.iload_n 3, 1) := by decide +kernel
theorem dX0_makeHomed_23 : decode cX0_makeHomed 23 = .ok (.isub, 1) := by decide +kernel
theorem dX0_makeHomed_24 : decode cX0_makeHomed 24 = .ok (.aload_n 2, 1) := by decide +kernel
theorem dX0_makeHomed_25 : decode cX0_makeHomed 25 = .ok (.invokevirtual 94, 3) := by decide +kernel
theorem dX0_makeHomed_28 : decode cX0_makeHomed 28 = .ok (.istore 5, 2) := by decide +kernel
theorem dX0_makeHomed_30 : decode cX0_makeHomed 30 = .ok (.iload 5, 2) := by decide +kernel
theorem dX0_makeHomed_32 : decode cX0_makeHomed 32 = .ok (.ifCond .ne 6, 3) := by decide +kernel
theorem dX0_makeHomed_35 : decode cX0_makeHomed 35 = .ok (.goto 14, 3) := by decide +kernel
theorem dX0_makeHomed_38 : decode cX0_makeHomed 38 = .ok (.iload_n 3, 1) := by decide +kernel
theorem dX0_makeHomed_39 : decode cX0_makeHomed 39 = .ok (.iload 5, 2) := by decide +kernel
theorem dX0_makeHomed_41 : decode cX0_makeHomed 41 = .ok (.iadd, 1) := by decide +kernel
theorem dX0_makeHomed_42 : decode cX0_makeHomed 42 = .ok (.istore_n 3, 1) := by decide +kernel
theorem dX0_makeHomed_43 : decode cX0_makeHomed 43 = .ok (.iinc 4 1, 3) := by decide +kernel
theorem dX0_makeHomed_46 : decode cX0_makeHomed 46 = .ok (.goto (-41), 3) := by decide +kernel
theorem dX0_makeHomed_49 : decode cX0_makeHomed 49 = .ok (.aload_n 0, 1) := by decide +kernel
theorem dX0_makeHomed_50 : decode cX0_makeHomed 50 = .ok (.getfield 15, 3) := by decide +kernel
theorem dX0_makeHomed_53 : decode cX0_makeHomed 53 = .ok (.ifCond .ne 28, 3) := by decide +kernel
theorem dX0_makeHomed_56 : decode cX0_makeHomed 56 = .ok (.aload_n 0, 1) := by decide +kernel
theorem dX0_makeHomed_57 : decode cX0_makeHomed 57 = .ok (.iconst 0, 1) := by decide +kernel
theorem dX0_makeHomed_58 : decode cX0_makeHomed 58 = .ok (.putfield 19, 3) := by decide +kernel
theorem dX0_makeHomed_61 : decode cX0_makeHomed 61 = .ok (.aload_n 0, 1) := by decide +kernel
theorem dX0_makeHomed_62 : decode cX0_makeHomed 62 = .ok (.iconst 0, 1) := by decide +kernel
theorem dX0_makeHomed_63 : decode cX0_makeHomed 63 = .ok (.putfield 28, 3) := by decide +kernel
theorem dX0_makeHomed_66 : decode cX0_makeHomed 66 = .ok (.aload_n 0, 1) := by decide +kernel
theorem dX0_makeHomed_67 : decode cX0_makeHomed 67 = .ok (.iconst 0, 1) := by decide +kernel
theorem dX0_makeHomed_68 : decode cX0_makeHomed 68 = .ok (.putfield 25, 3) := by decide +kernel
theorem dX0_makeHomed_71 : decode cX0_makeHomed 71 = .ok (.aload_n 0, 1) := by decide +kernel
theorem dX0_makeHomed_72 : decode cX0_makeHomed 72 = .ok (.dup, 1) := by decide +kernel
theorem dX0_makeHomed_73 : decode cX0_makeHomed 73 = .ok (.getfield 46, 3) := by decide +kernel
theorem dX0_makeHomed_76 : decode cX0_makeHomed 76 = .ok (.iconst 1, 1) := by decide +kernel
theorem dX0_makeHomed_77 : decode cX0_makeHomed 77 = .ok (.iadd, 1) := by decide +kernel
theorem dX0_makeHomed_78 : decode cX0_makeHomed 78 = .ok (.putfield 46, 3) := by decide +kernel
theorem dX0_makeHomed_81 : decode cX0_makeHomed 81 = .ok (.iload_n 3, 1) := by decide +kernel
theorem dX0_makeHomed_82 : decode cX0_makeHomed 82 = .ok (.ireturn, 1) := by decide +kernel
theorem dX0_costOfWay_0 : decode cX0_costOfWay 0 = .ok (.aload_n 0, 1) := by decide +kernel
theorem dX0_costOfWay_1 : decode cX0_costOfWay 1 = .ok (.getfield 19, 3) := by decide +kernel
theorem dX0_costOfWay_4 : decode cX0_costOfWay 4 = .ok (.istore 5, 2) := by decide +kernel
theorem dX0_costOfWay_6 : decode cX0_costOfWay 6 = .ok (.iconst 0, 1) := by decide +kernel
theorem dX0_costOfWay_7 : decode cX0_costOfWay 7 = .ok (.istore 6, 2) := by decide +kernel
theorem dX0_costOfWay_9 : decode cX0_costOfWay 9 = .ok (.iconst 0, 1) := by decide +kernel
theorem dX0_costOfWay_10 : decode cX0_costOfWay 10 = .ok (.istore 7, 2) := by decide +kernel
theorem dX0_costOfWay_12 : decode cX0_costOfWay 12 = .ok (.iload 7, 2) := by decide +kernel
theorem dX0_costOfWay_14 : decode cX0_costOfWay 14 = .ok (.bipush 24, 2) := by decide +kernel
theorem dX0_costOfWay_16 : decode cX0_costOfWay 16 = .ok (.if_icmp .ge 69, 3) := by decide +kernel
theorem dX0_costOfWay_19 : decode cX0_costOfWay 19 = .ok (.iload 5, 2) := by decide +kernel
theorem dX0_costOfWay_21 : decode cX0_costOfWay 21 = .ok (.iload_n 1, 1) := by decide +kernel
theorem dX0_costOfWay_22 : decode cX0_costOfWay 22 = .ok (.if_icmp .eq 63, 3) := by decide +kernel
theorem dX0_costOfWay_25 : decode cX0_costOfWay 25 = .ok (.iload 5, 2) := by decide +kernel
theorem dX0_costOfWay_27 : decode cX0_costOfWay 27 = .ok (.iload_n 2, 1) := by decide +kernel
theorem dX0_costOfWay_28 : decode cX0_costOfWay 28 = .ok (.invokestatic 63, 3) := by decide +kernel
theorem dX0_costOfWay_31 : decode cX0_costOfWay 31 = .ok (.istore 8, 2) := by decide +kernel
theorem dX0_costOfWay_33 : decode cX0_costOfWay 33 = .ok (.iload 8, 2) := by decide +kernel
theorem dX0_costOfWay_35 : decode cX0_costOfWay 35 = .ok (.iload_n 3, 1) := by decide +kernel
theorem dX0_costOfWay_36 : decode cX0_costOfWay 36 = .ok (.if_icmp .ne 7, 3) := by decide +kernel
theorem dX0_costOfWay_39 : decode cX0_costOfWay 39 = .ok (.iconst 0, 1) := by decide +kernel
theorem dX0_costOfWay_40 : decode cX0_costOfWay 40 = .ok (.goto 9, 3) := by decide +kernel
theorem dX0_costOfWay_43 : decode cX0_costOfWay 43 = .ok (.aload_n 0, 1) := by decide +kernel
theorem dX0_costOfWay_44 : decode cX0_costOfWay 44 = .ok (.iload 8, 2) := by decide +kernel
theorem dX0_costOfWay_46 : decode cX0_costOfWay 46 = .ok (.invokevirtual 66, 3) := by decide +kernel
theorem dX0_costOfWay_49 : decode cX0_costOfWay 49 = .ok (.istore 9, 2) := by decide +kernel
theorem dX0_costOfWay_51 : decode cX0_costOfWay 51 = .ok (.iload 6, 2) := by decide +kernel
theorem dX0_costOfWay_53 : decode cX0_costOfWay 53 = .ok (.aload_n 0, 1) := by decide +kernel
theorem dX0_costOfWay_54 : decode cX0_costOfWay 54 = .ok (.iload 9, 2) := by decide +kernel
theorem dX0_costOfWay_56 : decode cX0_costOfWay 56 = .ok (.aload_n 0, 1) := by decide +kernel
theorem dX0_costOfWay_57 : decode cX0_costOfWay 57 = .ok (.getfield 31, 3) := by decide +kernel
theorem dX0_costOfWay_60 : decode cX0_costOfWay 60 = .ok (.iload 7, 2) := by decide +kernel
theorem dX0_costOfWay_62 : decode cX0_costOfWay 62 = .ok (.isub, 1) := by decide +kernel
theorem dX0_costOfWay_63 : decode cX0_costOfWay 63 = .ok (.aload 4, 2) := by decide +kernel
theorem dX0_costOfWay_65 : decode cX0_costOfWay 65 = .ok (.invokevirtual 70, 3) := by decide +kernel
theorem dX0_costOfWay_68 : decode cX0_costOfWay 68 = .ok (.iadd, 1) := by decide +kernel
theorem dX0_costOfWay_69 : decode cX0_costOfWay 69 = .ok (.istore 6, 2) := by decide +kernel
theorem dX0_costOfWay_71 : decode cX0_costOfWay 71 = .ok (.iload 5, 2) := by decide +kernel
theorem dX0_costOfWay_73 : decode cX0_costOfWay 73 = .ok (.iload_n 2, 1) := by decide +kernel
theorem dX0_costOfWay_74 : decode cX0_costOfWay 74 = .ok (.invokestatic 78, 3) := by decide +kernel
theorem dX0_costOfWay_77 : decode cX0_costOfWay 77 = .ok (.istore 5, 2) := by decide +kernel
theorem dX0_costOfWay_79 : decode cX0_costOfWay 79 = .ok (.iinc 7 1, 3) := by decide +kernel
theorem dX0_costOfWay_82 : decode cX0_costOfWay 82 = .ok (.goto (-70), 3) := by decide +kernel
theorem dX0_costOfWay_85 : decode cX0_costOfWay 85 = .ok (.iload 6, 2) := by decide +kernel
theorem dX0_costOfWay_87 : decode cX0_costOfWay 87 = .ok (.ireturn, 1) := by decide +kernel
theorem dX0_property_0 : decode cX0_property 0 = .ok (.iload_n 1, 1) := by decide +kernel
theorem dX0_property_1 : decode cX0_property 1 = .ok (.tableswitch 121 0 10 #[59, 64, 69, 74, 79, 84, 89, 94, 99, 104, 116], 59) := by decide +kernel
theorem dX0_property_60 : decode cX0_property 60 = .ok (.aload_n 0, 1) := by decide +kernel
theorem dX0_property_61 : decode cX0_property 61 = .ok (.getfield 15, 3) := by decide +kernel
theorem dX0_property_64 : decode cX0_property 64 = .ok (.ireturn, 1) := by decide +kernel
theorem dX0_property_65 : decode cX0_property 65 = .ok (.aload_n 0, 1) := by decide +kernel
theorem dX0_property_66 : decode cX0_property 66 = .ok (.getfield 19, 3) := by decide +kernel
theorem dX0_property_69 : decode cX0_property 69 = .ok (.ireturn, 1) := by decide +kernel
theorem dX0_property_70 : decode cX0_property 70 = .ok (.aload_n 0, 1) := by decide +kernel
theorem dX0_property_71 : decode cX0_property 71 = .ok (.getfield 22, 3) := by decide +kernel
theorem dX0_property_74 : decode cX0_property 74 = .ok (.ireturn, 1) := by decide +kernel
theorem dX0_property_75 : decode cX0_property 75 = .ok (.aload_n 0, 1) := by decide +kernel
theorem dX0_property_76 : decode cX0_property 76 = .ok (.getfield 25, 3) := by decide +kernel
theorem dX0_property_79 : decode cX0_property 79 = .ok (.ireturn, 1) := by decide +kernel
theorem dX0_property_80 : decode cX0_property 80 = .ok (.aload_n 0, 1) := by decide +kernel
theorem dX0_property_81 : decode cX0_property 81 = .ok (.getfield 28, 3) := by decide +kernel
theorem dX0_property_84 : decode cX0_property 84 = .ok (.ireturn, 1) := by decide +kernel
theorem dX0_property_85 : decode cX0_property 85 = .ok (.aload_n 0, 1) := by decide +kernel
theorem dX0_property_86 : decode cX0_property 86 = .ok (.getfield 31, 3) := by decide +kernel
theorem dX0_property_89 : decode cX0_property 89 = .ok (.ireturn, 1) := by decide +kernel
theorem dX0_property_90 : decode cX0_property 90 = .ok (.aload_n 0, 1) := by decide +kernel
theorem dX0_property_91 : decode cX0_property 91 = .ok (.getfield 34, 3) := by decide +kernel
theorem dX0_property_94 : decode cX0_property 94 = .ok (.ireturn, 1) := by decide +kernel
theorem dX0_property_95 : decode cX0_property 95 = .ok (.aload_n 0, 1) := by decide +kernel
theorem dX0_property_96 : decode cX0_property 96 = .ok (.getfield 37, 3) := by decide +kernel
theorem dX0_property_99 : decode cX0_property 99 = .ok (.ireturn, 1) := by decide +kernel
theorem dX0_property_100 : decode cX0_property 100 = .ok (.aload_n 0, 1) := by decide +kernel
theorem dX0_property_101 : decode cX0_property 101 = .ok (.getfield 40, 3) := by decide +kernel
theorem dX0_property_104 : decode cX0_property 104 = .ok (.ireturn, 1) := by decide +kernel
theorem dX0_property_105 : decode cX0_property 105 = .ok (.aload_n 0, 1) := by decide +kernel
theorem dX0_property_106 : decode cX0_property 106 = .ok (.getfield 15, 3) := by decide +kernel
theorem dX0_property_109 : decode cX0_property 109 = .ok (.aload_n 0, 1) := by decide +kernel
theorem dX0_property_110 : decode cX0_property 110 = .ok (.getfield 19, 3) := by decide +kernel
theorem dX0_property_113 : decode cX0_property 113 = .ok (.invokestatic 97, 3) := by decide +kernel
theorem dX0_property_116 : decode cX0_property 116 = .ok (.ireturn, 1) := by decide +kernel
theorem dX0_property_117 : decode cX0_property 117 = .ok (.aload_n 0, 1) := by decide +kernel
theorem dX0_property_118 : decode cX0_property 118 = .ok (.getfield 43, 3) := by decide +kernel
theorem dX0_property_121 : decode cX0_property 121 = .ok (.ireturn, 1) := by decide +kernel
theorem dX0_property_122 : decode cX0_property 122 = .ok (.aload_n 0, 1) := by decide +kernel
theorem dX0_property_123 : decode cX0_property 123 = .ok (.getfield 46, 3) := by decide +kernel
theorem dX0_property_126 : decode cX0_property 126 = .ok (.ireturn, 1) := by decide +kernel
theorem dX0_copyFrom_0 : decode cX0_copyFrom 0 = .ok (.aload_n 1, 1) := by decide +kernel
theorem dX0_copyFrom_1 : decode cX0_copyFrom 1 = .ok (.getfield 9, 3) := by decide +kernel
theorem dX0_copyFrom_4 : decode cX0_copyFrom 4 = .ok (.iconst 0, 1) := by decide +kernel
theorem dX0_copyFrom_5 : decode cX0_copyFrom 5 = .ok (.aload_n 0, 1) := by decide +kernel
theorem dX0_copyFrom_6 : decode cX0_copyFrom 6 = .ok (.getfield 9, 3) := by decide +kernel
theorem dX0_copyFrom_9 : decode cX0_copyFrom 9 = .ok (.iconst 0, 1) := by decide +kernel
theorem dX0_copyFrom_10 : decode cX0_copyFrom 10 = .ok (.aload_n 1, 1) := by decide +kernel
theorem dX0_copyFrom_11 : decode cX0_copyFrom 11 = .ok (.getfield 9, 3) := by decide +kernel
theorem dX0_copyFrom_14 : decode cX0_copyFrom 14 = .ok (.arraylength, 1) := by decide +kernel
theorem dX0_copyFrom_15 : decode cX0_copyFrom 15 = .ok (.aload_n 0, 1) := by decide +kernel
theorem dX0_copyFrom_16 : decode cX0_copyFrom 16 = .ok (.getfield 9, 3) := by decide +kernel
theorem dX0_copyFrom_19 : decode cX0_copyFrom 19 = .ok (.arraylength, 1) := by decide +kernel
theorem dX0_copyFrom_20 : decode cX0_copyFrom 20 = .ok (.invokestatic 55, 3) := by decide +kernel
theorem dX0_copyFrom_23 : decode cX0_copyFrom 23 = .ok (.invokestatic 100, 3) := by decide +kernel
theorem dX0_copyFrom_26 : decode cX0_copyFrom 26 = .ok (.aload_n 0, 1) := by decide +kernel
theorem dX0_copyFrom_27 : decode cX0_copyFrom 27 = .ok (.aload_n 1, 1) := by decide +kernel
theorem dX0_copyFrom_28 : decode cX0_copyFrom 28 = .ok (.getfield 15, 3) := by decide +kernel
theorem dX0_copyFrom_31 : decode cX0_copyFrom 31 = .ok (.putfield 15, 3) := by decide +kernel
theorem dX0_copyFrom_34 : decode cX0_copyFrom 34 = .ok (.aload_n 0, 1) := by decide +kernel
theorem dX0_copyFrom_35 : decode cX0_copyFrom 35 = .ok (.aload_n 1, 1) := by decide +kernel
theorem dX0_copyFrom_36 : decode cX0_copyFrom 36 = .ok (.getfield 19, 3) := by decide +kernel
theorem dX0_copyFrom_39 : decode cX0_copyFrom 39 = .ok (.putfield 19, 3) := by decide +kernel
theorem dX0_copyFrom_42 : decode cX0_copyFrom 42 = .ok (.aload_n 0, 1) := by decide +kernel
theorem dX0_copyFrom_43 : decode cX0_copyFrom 43 = .ok (.aload_n 1, 1) := by decide +kernel
theorem dX0_copyFrom_44 : decode cX0_copyFrom 44 = .ok (.getfield 22, 3) := by decide +kernel
theorem dX0_copyFrom_47 : decode cX0_copyFrom 47 = .ok (.putfield 22, 3) := by decide +kernel
theorem dX0_copyFrom_50 : decode cX0_copyFrom 50 = .ok (.aload_n 0, 1) := by decide +kernel
theorem dX0_copyFrom_51 : decode cX0_copyFrom 51 = .ok (.aload_n 1, 1) := by decide +kernel
theorem dX0_copyFrom_52 : decode cX0_copyFrom 52 = .ok (.getfield 25, 3) := by decide +kernel
theorem dX0_copyFrom_55 : decode cX0_copyFrom 55 = .ok (.putfield 25, 3) := by decide +kernel
theorem dX0_copyFrom_58 : decode cX0_copyFrom 58 = .ok (.aload_n 0, 1) := by decide +kernel
theorem dX0_copyFrom_59 : decode cX0_copyFrom 59 = .ok (.aload_n 1, 1) := by decide +kernel
theorem dX0_copyFrom_60 : decode cX0_copyFrom 60 = .ok (.getfield 28, 3) := by decide +kernel
theorem dX0_copyFrom_63 : decode cX0_copyFrom 63 = .ok (.putfield 28, 3) := by decide +kernel
theorem dX0_copyFrom_66 : decode cX0_copyFrom 66 = .ok (.aload_n 0, 1) := by decide +kernel
theorem dX0_copyFrom_67 : decode cX0_copyFrom 67 = .ok (.aload_n 1, 1) := by decide +kernel
theorem dX0_copyFrom_68 : decode cX0_copyFrom 68 = .ok (.getfield 31, 3) := by decide +kernel
theorem dX0_copyFrom_71 : decode cX0_copyFrom 71 = .ok (.putfield 31, 3) := by decide +kernel
theorem dX0_copyFrom_74 : decode cX0_copyFrom 74 = .ok (.aload_n 0, 1) := by decide +kernel
theorem dX0_copyFrom_75 : decode cX0_copyFrom 75 = .ok (.aload_n 1, 1) := by decide +kernel
theorem dX0_copyFrom_76 : decode cX0_copyFrom 76 = .ok (.getfield 34, 3) := by decide +kernel
theorem dX0_copyFrom_79 : decode cX0_copyFrom 79 = .ok (.putfield 34, 3) := by decide +kernel
theorem dX0_copyFrom_82 : decode cX0_copyFrom 82 = .ok (.aload_n 0, 1) := by decide +kernel
theorem dX0_copyFrom_83 : decode cX0_copyFrom 83 = .ok (.aload_n 1, 1) := by decide +kernel
theorem dX0_copyFrom_84 : decode cX0_copyFrom 84 = .ok (.getfield 37, 3) := by decide +kernel
theorem dX0_copyFrom_87 : decode cX0_copyFrom 87 = .ok (.putfield 37, 3) := by decide +kernel
theorem dX0_copyFrom_90 : decode cX0_copyFrom 90 = .ok (.aload_n 0, 1) := by decide +kernel
theorem dX0_copyFrom_91 : decode cX0_copyFrom 91 = .ok (.aload_n 1, 1) := by decide +kernel
theorem dX0_copyFrom_92 : decode cX0_copyFrom 92 = .ok (.getfield 40, 3) := by decide +kernel
theorem dX0_copyFrom_95 : decode cX0_copyFrom 95 = .ok (.putfield 40, 3) := by decide +kernel
theorem dX0_copyFrom_98 : decode cX0_copyFrom 98 = .ok (.aload_n 0, 1) := by decide +kernel
theorem dX0_copyFrom_99 : decode cX0_copyFrom 99 = .ok (.aload_n 1, 1) := by decide +kernel
theorem dX0_copyFrom_100 : decode cX0_copyFrom 100 = .ok (.getfield 43, 3) := by decide +kernel
theorem dX0_copyFrom_103 : decode cX0_copyFrom 103 = .ok (.putfield 43, 3) := by decide +kernel
theorem dX0_copyFrom_106 : decode cX0_copyFrom 106 = .ok (.aload_n 0, 1) := by decide +kernel
theorem dX0_copyFrom_107 : decode cX0_copyFrom 107 = .ok (.aload_n 1, 1) := by decide +kernel
theorem dX0_copyFrom_108 : decode cX0_copyFrom 108 = .ok (.getfield 46, 3) := by decide +kernel
theorem dX0_copyFrom_111 : decode cX0_copyFrom 111 = .ok (.putfield 46, 3) := by decide +kernel
theorem dX0_copyFrom_114 : decode cX0_copyFrom 114 = .ok (.return_, 1) := by decide +kernel
theorem dX1_init_0 : decode cX1_init 0 = .ok (.aload_n 0, 1) := by decide +kernel
theorem dX1_init_1 : decode cX1_init 1 = .ok (.invokespecial 3, 3) := by decide +kernel
theorem dX1_init_4 : decode cX1_init 4 = .ok (.aload_n 0, 1) := by decide +kernel
theorem dX1_init_5 : decode cX1_init 5 = .ok (.bipush 6, 2) := by decide +kernel
theorem dX1_init_7 : decode cX1_init 7 = .ok (.anewarray 9, 3) := by decide +kernel
theorem dX1_init_10 : decode cX1_init 10 = .ok (.putfield 11, 3) := by decide +kernel
theorem dX1_init_13 : decode cX1_init 13 = .ok (.aload_n 0, 1) := by decide +kernel
theorem dX1_init_14 : decode cX1_init 14 = .ok (.iconst 0, 1) := by decide +kernel
theorem dX1_init_15 : decode cX1_init 15 = .ok (.putfield 17, 3) := by decide +kernel
theorem dX1_init_18 : decode cX1_init 18 = .ok (.aload_n 0, 1) := by decide +kernel
theorem dX1_init_19 : decode cX1_init 19 = .ok (.iconst 0, 1) := by decide +kernel
theorem dX1_init_20 : decode cX1_init 20 = .ok (.putfield 21, 3) := by decide +kernel
theorem dX1_init_23 : decode cX1_init 23 = .ok (.iconst 0, 1) := by decide +kernel
theorem dX1_init_24 : decode cX1_init 24 = .ok (.istore_n 1, 1) := by decide +kernel
theorem dX1_init_25 : decode cX1_init 25 = .ok (.iload_n 1, 1) := by decide +kernel
theorem dX1_init_26 : decode cX1_init 26 = .ok (.aload_n 0, 1) := by decide +kernel
theorem dX1_init_27 : decode cX1_init 27 = .ok (.getfield 11, 3) := by decide +kernel
theorem dX1_init_30 : decode cX1_init 30 = .ok (.arraylength, 1) := by decide +kernel
theorem dX1_init_31 : decode cX1_init 31 = .ok (.if_icmp .ge 22, 3) := by decide +kernel
theorem dX1_init_34 : decode cX1_init 34 = .ok (.aload_n 0, 1) := by decide +kernel
theorem dX1_init_35 : decode cX1_init 35 = .ok (.getfield 11, 3) := by decide +kernel
theorem dX1_init_38 : decode cX1_init 38 = .ok (.iload_n 1, 1) := by decide +kernel
theorem dX1_init_39 : decode cX1_init 39 = .ok (.new 9, 3) := by decide +kernel
theorem dX1_init_42 : decode cX1_init 42 = .ok (.dup, 1) := by decide +kernel
theorem dX1_init_43 : decode cX1_init 43 = .ok (.invokespecial 24, 3) := by decide +kernel
theorem dX1_init_46 : decode cX1_init 46 = .ok (.aastore, 1) := by decide +kernel
theorem dX1_init_47 : decode cX1_init 47 = .ok (.iinc 1 1, 3) := by decide +kernel
theorem dX1_init_50 : decode cX1_init 50 = .ok (.goto (-25), 3) := by decide +kernel
theorem dX1_init_53 : decode cX1_init 53 = .ok (.return_, 1) := by decide +kernel
theorem dX1_newestRow_0 : decode cX1_newestRow 0 = .ok (.aload_n 0, 1) := by decide +kernel
theorem dX1_newestRow_1 : decode cX1_newestRow 1 = .ok (.getfield 17, 3) := by decide +kernel
theorem dX1_newestRow_4 : decode cX1_newestRow 4 = .ok (.ifCond .lt 27, 3) := by decide +kernel
theorem dX1_newestRow_7 : decode cX1_newestRow 7 = .ok (.aload_n 0, 1) := by decide +kernel
theorem dX1_newestRow_8 : decode cX1_newestRow 8 = .ok (.getfield 17, 3) := by decide +kernel
theorem dX1_newestRow_11 : decode cX1_newestRow 11 = .ok (.aload_n 0, 1) := by decide +kernel
theorem dX1_newestRow_12 : decode cX1_newestRow 12 = .ok (.getfield 11, 3) := by decide +kernel
theorem dX1_newestRow_15 : decode cX1_newestRow 15 = .ok (.arraylength, 1) := by decide +kernel
theorem dX1_newestRow_16 : decode cX1_newestRow 16 = .ok (.if_icmp .ge 15, 3) := by decide +kernel
theorem dX1_newestRow_19 : decode cX1_newestRow 19 = .ok (.aload_n 0, 1) := by decide +kernel
theorem dX1_newestRow_20 : decode cX1_newestRow 20 = .ok (.getfield 11, 3) := by decide +kernel
theorem dX1_newestRow_23 : decode cX1_newestRow 23 = .ok (.aload_n 0, 1) := by decide +kernel
theorem dX1_newestRow_24 : decode cX1_newestRow 24 = .ok (.getfield 17, 3) := by decide +kernel
theorem dX1_newestRow_27 : decode cX1_newestRow 27 = .ok (.aaload, 1) := by decide +kernel
theorem dX1_newestRow_28 : decode cX1_newestRow 28 = .ok (.goto 4, 3) := by decide +kernel
theorem dX1_newestRow_31 : decode cX1_newestRow 31 = .ok (.aconst_null, 1) := by decide +kernel
theorem dX1_newestRow_32 : decode cX1_newestRow 32 = .ok (.areturn, 1) := by decide +kernel
theorem dX1_save_0 : decode cX1_save 0 = .ok (.aload_n 0, 1) := by decide +kernel
theorem dX1_save_1 : decode cX1_save 1 = .ok (.aload_n 0, 1) := by decide +kernel
theorem dX1_save_2 : decode cX1_save 2 = .ok (.getfield 17, 3) := by decide +kernel
theorem dX1_save_5 : decode cX1_save 5 = .ok (.iconst 1, 1) := by decide +kernel
theorem dX1_save_6 : decode cX1_save 6 = .ok (.iadd, 1) := by decide +kernel
theorem dX1_save_7 : decode cX1_save 7 = .ok (.bipush 6, 2) := by decide +kernel
theorem dX1_save_9 : decode cX1_save 9 = .ok (.if_icmp .ge 12, 3) := by decide +kernel
theorem dX1_save_12 : decode cX1_save 12 = .ok (.aload_n 0, 1) := by decide +kernel
theorem dX1_save_13 : decode cX1_save 13 = .ok (.getfield 17, 3) := by decide +kernel
theorem dX1_save_16 : decode cX1_save 16 = .ok (.iconst 1, 1) := by decide +kernel
theorem dX1_save_17 : decode cX1_save 17 = .ok (.iadd, 1) := by decide +kernel
theorem dX1_save_18 : decode cX1_save 18 = .ok (.goto 4, 3) := by decide +kernel
theorem dX1_save_21 : decode cX1_save 21 = .ok (.iconst 0, 1) := by decide +kernel
theorem dX1_save_22 : decode cX1_save 22 = .ok (.putfield 17, 3) := by decide +kernel
theorem dX1_save_25 : decode cX1_save 25 = .ok (.aload_n 0, 1) := by decide +kernel
theorem dX1_save_26 : decode cX1_save 26 = .ok (.aload_n 0, 1) := by decide +kernel
theorem dX1_save_27 : decode cX1_save 27 = .ok (.getfield 21, 3) := by decide +kernel
theorem dX1_save_30 : decode cX1_save 30 = .ok (.iconst 1, 1) := by decide +kernel
theorem dX1_save_31 : decode cX1_save 31 = .ok (.iadd, 1) := by decide +kernel
theorem dX1_save_32 : decode cX1_save 32 = .ok (.bipush 6, 2) := by decide +kernel
theorem dX1_save_34 : decode cX1_save 34 = .ok (.invokestatic 25, 3) := by decide +kernel
theorem dX1_save_37 : decode cX1_save 37 = .ok (.putfield 21, 3) := by decide +kernel
theorem dX1_save_40 : decode cX1_save 40 = .ok (.aload_n 0, 1) := by decide +kernel
theorem dX1_save_41 : decode cX1_save 41 = .ok (.invokevirtual 31, 3) := by decide +kernel
theorem dX1_save_44 : decode cX1_save 44 = .ok (.astore_n 2, 1) := by decide +kernel
theorem dX1_save_45 : decode cX1_save 45 = .ok (.aload_n 2, 1) := by decide +kernel
theorem dX1_save_46 : decode cX1_save 46 = .ok (.ifnull 8, 3) := by decide +kernel
theorem dX1_save_49 : decode cX1_save 49 = .ok (.aload_n 2, 1) := by decide +kernel
theorem dX1_save_50 : decode cX1_save 50 = .ok (.aload_n 1, 1) := by decide +kernel
theorem dX1_save_51 : decode cX1_save 51 = .ok (.invokevirtual 35, 3) := by decide +kernel
theorem dX1_save_54 : decode cX1_save 54 = .ok (.return_, 1) := by decide +kernel
theorem dX2_init_0 : decode cX2_init 0 = .ok (.aload_n 0, 1) := by decide +kernel
theorem dX2_init_1 : decode cX2_init 1 = .ok (.invokespecial 3, 3) := by decide +kernel
theorem dX2_init_4 : decode cX2_init 4 = .ok (.aload_n 0, 1) := by decide +kernel
theorem dX2_init_5 : decode cX2_init 5 = .ok (.iconst 0, 1) := by decide +kernel
theorem dX2_init_6 : decode cX2_init 6 = .ok (.putfield 11, 3) := by decide +kernel
theorem dX2_init_9 : decode cX2_init 9 = .ok (.aload_n 0, 1) := by decide +kernel
theorem dX2_init_10 : decode cX2_init 10 = .ok (.iconst 0, 1) := by decide +kernel
theorem dX2_init_11 : decode cX2_init 11 = .ok (.putfield 15, 3) := by decide +kernel
theorem dX2_init_14 : decode cX2_init 14 = .ok (.aload_n 0, 1) := by decide +kernel
theorem dX2_init_15 : decode cX2_init 15 = .ok (.iconst 0, 1) := by decide +kernel
theorem dX2_init_16 : decode cX2_init 16 = .ok (.putfield 18, 3) := by decide +kernel
theorem dX2_init_19 : decode cX2_init 19 = .ok (.aload_n 0, 1) := by decide +kernel
theorem dX2_init_20 : decode cX2_init 20 = .ok (.iconst 0, 1) := by decide +kernel
theorem dX2_init_21 : decode cX2_init 21 = .ok (.putfield 21, 3) := by decide +kernel
theorem dX2_init_24 : decode cX2_init 24 = .ok (.return_, 1) := by decide +kernel
theorem dX3_init_0 : decode cX3_init 0 = .ok (.aload_n 0, 1) := by decide +kernel
theorem dX3_init_1 : decode cX3_init 1 = .ok (.invokespecial 1, 3) := by decide +kernel
theorem dX3_init_4 : decode cX3_init 4 = .ok (.aload_n 0, 1) := by decide +kernel
theorem dX3_init_5 : decode cX3_init 5 = .ok (.iconst 3, 1) := by decide +kernel
theorem dX3_init_6 : decode cX3_init 6 = .ok (.putfield 7, 3) := by decide +kernel
theorem dX3_init_9 : decode cX3_init 9 = .ok (.aload_n 0, 1) := by decide +kernel
theorem dX3_init_10 : decode cX3_init 10 = .ok (.bipush 10, 2) := by decide +kernel
theorem dX3_init_12 : decode cX3_init 12 = .ok (.putfield 13, 3) := by decide +kernel
theorem dX3_init_15 : decode cX3_init 15 = .ok (.aload_n 0, 1) := by decide +kernel
theorem dX3_init_16 : decode cX3_init 16 = .ok (.bipush 40, 2) := by decide +kernel
theorem dX3_init_18 : decode cX3_init 18 = .ok (.putfield 16, 3) := by decide +kernel
theorem dX3_init_21 : decode cX3_init 21 = .ok (.aload_n 0, 1) := by decide +kernel
theorem dX3_init_22 : decode cX3_init 22 = .ok (.iconst 1, 1) := by decide +kernel
theorem dX3_init_23 : decode cX3_init 23 = .ok (.putfield 19, 3) := by decide +kernel
theorem dX3_init_26 : decode cX3_init 26 = .ok (.aload_n 0, 1) := by decide +kernel
theorem dX3_init_27 : decode cX3_init 27 = .ok (.bipush 12, 2) := by decide +kernel
theorem dX3_init_29 : decode cX3_init 29 = .ok (.putfield 22, 3) := by decide +kernel
theorem dX3_init_32 : decode cX3_init 32 = .ok (.aload_n 0, 1) := by decide +kernel
theorem dX3_init_33 : decode cX3_init 33 = .ok (.bipush 15, 2) := by decide +kernel
theorem dX3_init_35 : decode cX3_init 35 = .ok (.putfield 25, 3) := by decide +kernel
theorem dX3_init_38 : decode cX3_init 38 = .ok (.return_, 1) := by decide +kernel
theorem dX3_valueOf_0 : decode cX3_valueOf 0 = .ok (.iload_n 1, 1) := by decide +kernel
theorem dX3_valueOf_1 : decode cX3_valueOf 1 = .ok (.tableswitch 60 0 4 #[35, 40, 45, 50, 55], 35) := by decide +kernel
theorem dX3_valueOf_36 : decode cX3_valueOf 36 = .ok (.aload_n 0, 1) := by decide +kernel
theorem dX3_valueOf_37 : decode cX3_valueOf 37 = .ok (.getfield 7, 3) := by decide +kernel
theorem dX3_valueOf_40 : decode cX3_valueOf 40 = .ok (.ireturn, 1) := by decide +kernel
theorem dX3_valueOf_41 : decode cX3_valueOf 41 = .ok (.aload_n 0, 1) := by decide +kernel
theorem dX3_valueOf_42 : decode cX3_valueOf 42 = .ok (.getfield 13, 3) := by decide +kernel
theorem dX3_valueOf_45 : decode cX3_valueOf 45 = .ok (.ireturn, 1) := by decide +kernel
theorem dX3_valueOf_46 : decode cX3_valueOf 46 = .ok (.aload_n 0, 1) := by decide +kernel
theorem dX3_valueOf_47 : decode cX3_valueOf 47 = .ok (.getfield 16, 3) := by decide +kernel
theorem dX3_valueOf_50 : decode cX3_valueOf 50 = .ok (.ireturn, 1) := by decide +kernel
theorem dX3_valueOf_51 : decode cX3_valueOf 51 = .ok (.aload_n 0, 1) := by decide +kernel
theorem dX3_valueOf_52 : decode cX3_valueOf 52 = .ok (.getfield 19, 3) := by decide +kernel
theorem dX3_valueOf_55 : decode cX3_valueOf 55 = .ok (.ireturn, 1) := by decide +kernel
theorem dX3_valueOf_56 : decode cX3_valueOf 56 = .ok (.aload_n 0, 1) := by decide +kernel
theorem dX3_valueOf_57 : decode cX3_valueOf 57 = .ok (.getfield 22, 3) := by decide +kernel
theorem dX3_valueOf_60 : decode cX3_valueOf 60 = .ok (.ireturn, 1) := by decide +kernel
theorem dX3_valueOf_61 : decode cX3_valueOf 61 = .ok (.aload_n 0, 1) := by decide +kernel
theorem dX3_valueOf_62 : decode cX3_valueOf 62 = .ok (.getfield 25, 3) := by decide +kernel
theorem dX3_valueOf_65 : decode cX3_valueOf 65 = .ok (.ireturn, 1) := by decide +kernel
theorem dX3_put_0 : decode cX3_put 0 = .ok (.iload_n 1, 1) := by decide +kernel
theorem dX3_put_1 : decode cX3_put 1 = .ok (.tableswitch 75 0 4 #[35, 43, 51, 59, 67], 35) := by decide +kernel
theorem dX3_put_36 : decode cX3_put 36 = .ok (.aload_n 0, 1) := by decide +kernel
theorem dX3_put_37 : decode cX3_put 37 = .ok (.iload_n 2, 1) := by decide +kernel
theorem dX3_put_38 : decode cX3_put 38 = .ok (.putfield 7, 3) := by decide +kernel
theorem dX3_put_41 : decode cX3_put 41 = .ok (.goto 40, 3) := by decide +kernel
theorem dX3_put_44 : decode cX3_put 44 = .ok (.aload_n 0, 1) := by decide +kernel
theorem dX3_put_45 : decode cX3_put 45 = .ok (.iload_n 2, 1) := by decide +kernel
theorem dX3_put_46 : decode cX3_put 46 = .ok (.putfield 13, 3) := by decide +kernel
theorem dX3_put_49 : decode cX3_put 49 = .ok (.goto 32, 3) := by decide +kernel
theorem dX3_put_52 : decode cX3_put 52 = .ok (.aload_n 0, 1) := by decide +kernel
theorem dX3_put_53 : decode cX3_put 53 = .ok (.iload_n 2, 1) := by decide +kernel
theorem dX3_put_54 : decode cX3_put 54 = .ok (.putfield 16, 3) := by decide +kernel
theorem dX3_put_57 : decode cX3_put 57 = .ok (.goto 24, 3) := by decide +kernel
theorem dX3_put_60 : decode cX3_put 60 = .ok (.aload_n 0, 1) := by decide +kernel
theorem dX3_put_61 : decode cX3_put 61 = .ok (.iload_n 2, 1) := by decide +kernel
theorem dX3_put_62 : decode cX3_put 62 = .ok (.putfield 19, 3) := by decide +kernel
theorem dX3_put_65 : decode cX3_put 65 = .ok (.goto 16, 3) := by decide +kernel
theorem dX3_put_68 : decode cX3_put 68 = .ok (.aload_n 0, 1) := by decide +kernel
theorem dX3_put_69 : decode cX3_put 69 = .ok (.iload_n 2, 1) := by decide +kernel
theorem dX3_put_70 : decode cX3_put 70 = .ok (.putfield 22, 3) := by decide +kernel
theorem dX3_put_73 : decode cX3_put 73 = .ok (.goto 8, 3) := by decide +kernel
theorem dX3_put_76 : decode cX3_put 76 = .ok (.aload_n 0, 1) := by decide +kernel
theorem dX3_put_77 : decode cX3_put 77 = .ok (.iload_n 2, 1) := by decide +kernel
theorem dX3_put_78 : decode cX3_put 78 = .ok (.putfield 25, 3) := by decide +kernel
theorem dX3_put_81 : decode cX3_put 81 = .ok (.return_, 1) := by decide +kernel
theorem dX3_copyFrom_0 : decode cX3_copyFrom 0 = .ok (.aload_n 0, 1) := by decide +kernel
theorem dX3_copyFrom_1 : decode cX3_copyFrom 1 = .ok (.aload_n 1, 1) := by decide +kernel
theorem dX3_copyFrom_2 : decode cX3_copyFrom 2 = .ok (.getfield 7, 3) := by decide +kernel
theorem dX3_copyFrom_5 : decode cX3_copyFrom 5 = .ok (.putfield 7, 3) := by decide +kernel
theorem dX3_copyFrom_8 : decode cX3_copyFrom 8 = .ok (.aload_n 0, 1) := by decide +kernel
theorem dX3_copyFrom_9 : decode cX3_copyFrom 9 = .ok (.aload_n 1, 1) := by decide +kernel
theorem dX3_copyFrom_10 : decode cX3_copyFrom 10 = .ok (.getfield 13, 3) := by decide +kernel
theorem dX3_copyFrom_13 : decode cX3_copyFrom 13 = .ok (.putfield 13, 3) := by decide +kernel
theorem dX3_copyFrom_16 : decode cX3_copyFrom 16 = .ok (.aload_n 0, 1) := by decide +kernel
theorem dX3_copyFrom_17 : decode cX3_copyFrom 17 = .ok (.aload_n 1, 1) := by decide +kernel
theorem dX3_copyFrom_18 : decode cX3_copyFrom 18 = .ok (.getfield 16, 3) := by decide +kernel
theorem dX3_copyFrom_21 : decode cX3_copyFrom 21 = .ok (.putfield 16, 3) := by decide +kernel
theorem dX3_copyFrom_24 : decode cX3_copyFrom 24 = .ok (.aload_n 0, 1) := by decide +kernel
theorem dX3_copyFrom_25 : decode cX3_copyFrom 25 = .ok (.aload_n 1, 1) := by decide +kernel
theorem dX3_copyFrom_26 : decode cX3_copyFrom 26 = .ok (.getfield 19, 3) := by decide +kernel
theorem dX3_copyFrom_29 : decode cX3_copyFrom 29 = .ok (.putfield 19, 3) := by decide +kernel
theorem dX3_copyFrom_32 : decode cX3_copyFrom 32 = .ok (.aload_n 0, 1) := by decide +kernel
theorem dX3_copyFrom_33 : decode cX3_copyFrom 33 = .ok (.aload_n 1, 1) := by decide +kernel
theorem dX3_copyFrom_34 : decode cX3_copyFrom 34 = .ok (.getfield 22, 3) := by decide +kernel
theorem dX3_copyFrom_37 : decode cX3_copyFrom 37 = .ok (.putfield 22, 3) := by decide +kernel
theorem dX3_copyFrom_40 : decode cX3_copyFrom 40 = .ok (.aload_n 0, 1) := by decide +kernel
theorem dX3_copyFrom_41 : decode cX3_copyFrom 41 = .ok (.aload_n 1, 1) := by decide +kernel
theorem dX3_copyFrom_42 : decode cX3_copyFrom 42 = .ok (.getfield 25, 3) := by decide +kernel
theorem dX3_copyFrom_45 : decode cX3_copyFrom 45 = .ok (.putfield 25, 3) := by decide +kernel
theorem dX3_copyFrom_48 : decode cX3_copyFrom 48 = .ok (.return_, 1) := by decide +kernel
theorem dX4_init_0 : decode cX4_init 0 = .ok (.aload_n 0, 1) := by decide +kernel
theorem dX4_init_1 : decode cX4_init 1 = .ok (.invokespecial 3, 3) := by decide +kernel
theorem dX4_init_4 : decode cX4_init 4 = .ok (.aload_n 0, 1) := by decide +kernel
theorem dX4_init_5 : decode cX4_init 5 = .ok (.new 9, 3) := by decide +kernel
theorem dX4_init_8 : decode cX4_init 8 = .ok (.dup, 1) := by decide +kernel
theorem dX4_init_9 : decode cX4_init 9 = .ok (.invokespecial 11, 3) := by decide +kernel
theorem dX4_init_12 : decode cX4_init 12 = .ok (.putfield 12, 3) := by decide +kernel
theorem dX4_init_15 : decode cX4_init 15 = .ok (.aload_n 0, 1) := by decide +kernel
theorem dX4_init_16 : decode cX4_init 16 = .ok (.iconst 4, 1) := by decide +kernel
theorem dX4_init_17 : decode cX4_init 17 = .ok (.anewarray 18, 3) := by decide +kernel
theorem dX4_init_20 : decode cX4_init 20 = .ok (.putfield 20, 3) := by decide +kernel
theorem dX4_init_23 : decode cX4_init 23 = .ok (.aload_n 0, 1) := by decide +kernel
theorem dX4_init_24 : decode cX4_init 24 = .ok (.sipush 1000, 3) := by decide +kernel
theorem dX4_init_27 : decode cX4_init 27 = .ok (.putfield 24, 3) := by decide +kernel
theorem dX4_init_30 : decode cX4_init 30 = .ok (.aload_n 0, 1) := by decide +kernel
theorem dX4_init_31 : decode cX4_init 31 = .ok (.iconst 0, 1) := by decide +kernel
theorem dX4_init_32 : decode cX4_init 32 = .ok (.putfield 28, 3) := by decide +kernel
theorem dX4_init_35 : decode cX4_init 35 = .ok (.iconst 0, 1) := by decide +kernel
theorem dX4_init_36 : decode cX4_init 36 = .ok (.istore_n 1, 1) := by decide +kernel
theorem dX4_init_37 : decode cX4_init 37 = .ok (.iload_n 1, 1) := by decide +kernel
theorem dX4_init_38 : decode cX4_init 38 = .ok (.aload_n 0, 1) := by decide +kernel
theorem dX4_init_39 : decode cX4_init 39 = .ok (.getfield 20, 3) := by decide +kernel
theorem dX4_init_42 : decode cX4_init 42 = .ok (.arraylength, 1) := by decide +kernel
theorem dX4_init_43 : decode cX4_init 43 = .ok (.if_icmp .ge 22, 3) := by decide +kernel
theorem dX4_init_46 : decode cX4_init 46 = .ok (.aload_n 0, 1) := by decide +kernel
theorem dX4_init_47 : decode cX4_init 47 = .ok (.getfield 20, 3) := by decide +kernel
theorem dX4_init_50 : decode cX4_init 50 = .ok (.iload_n 1, 1) := by decide +kernel
theorem dX4_init_51 : decode cX4_init 51 = .ok (.new 18, 3) := by decide +kernel
theorem dX4_init_54 : decode cX4_init 54 = .ok (.dup, 1) := by decide +kernel
theorem dX4_init_55 : decode cX4_init 55 = .ok (.invokespecial 31, 3) := by decide +kernel
theorem dX4_init_58 : decode cX4_init 58 = .ok (.aastore, 1) := by decide +kernel
theorem dX4_init_59 : decode cX4_init 59 = .ok (.iinc 1 1, 3) := by decide +kernel
theorem dX4_init_62 : decode cX4_init 62 = .ok (.goto (-25), 3) := by decide +kernel
theorem dX4_init_65 : decode cX4_init 65 = .ok (.return_, 1) := by decide +kernel
theorem dX4_gearAt_0 : decode cX4_gearAt 0 = .ok (.iload_n 1, 1) := by decide +kernel
theorem dX4_gearAt_1 : decode cX4_gearAt 1 = .ok (.ifCond .lt 21, 3) := by decide +kernel
theorem dX4_gearAt_4 : decode cX4_gearAt 4 = .ok (.iload_n 1, 1) := by decide +kernel
theorem dX4_gearAt_5 : decode cX4_gearAt 5 = .ok (.aload_n 0, 1) := by decide +kernel
theorem dX4_gearAt_6 : decode cX4_gearAt 6 = .ok (.getfield 20, 3) := by decide +kernel
theorem dX4_gearAt_9 : decode cX4_gearAt 9 = .ok (.arraylength, 1) := by decide +kernel
theorem dX4_gearAt_10 : decode cX4_gearAt 10 = .ok (.if_icmp .ge 12, 3) := by decide +kernel
theorem dX4_gearAt_13 : decode cX4_gearAt 13 = .ok (.aload_n 0, 1) := by decide +kernel
theorem dX4_gearAt_14 : decode cX4_gearAt 14 = .ok (.getfield 20, 3) := by decide +kernel
theorem dX4_gearAt_17 : decode cX4_gearAt 17 = .ok (.iload_n 1, 1) := by decide +kernel
theorem dX4_gearAt_18 : decode cX4_gearAt 18 = .ok (.aaload, 1) := by decide +kernel
theorem dX4_gearAt_19 : decode cX4_gearAt 19 = .ok (.goto 4, 3) := by decide +kernel
theorem dX4_gearAt_22 : decode cX4_gearAt 22 = .ok (.aconst_null, 1) := by decide +kernel
theorem dX4_gearAt_23 : decode cX4_gearAt 23 = .ok (.areturn, 1) := by decide +kernel
theorem dX4_payCare_0 : decode cX4_payCare 0 = .ok (.aload_n 0, 1) := by decide +kernel
theorem dX4_payCare_1 : decode cX4_payCare 1 = .ok (.dup, 1) := by decide +kernel
theorem dX4_payCare_2 : decode cX4_payCare 2 = .ok (.getfield 24, 3) := by decide +kernel
theorem dX4_payCare_5 : decode cX4_payCare 5 = .ok (.iload_n 1, 1) := by decide +kernel
theorem dX4_payCare_6 : decode cX4_payCare 6 = .ok (.isub, 1) := by decide +kernel
theorem dX4_payCare_7 : decode cX4_payCare 7 = .ok (.putfield 24, 3) := by decide +kernel
theorem dX4_payCare_10 : decode cX4_payCare 10 = .ok (.aload_n 0, 1) := by decide +kernel
theorem dX4_payCare_11 : decode cX4_payCare 11 = .ok (.dup, 1) := by decide +kernel
theorem dX4_payCare_12 : decode cX4_payCare 12 = .ok (.getfield 28, 3) := by decide +kernel
theorem dX4_payCare_15 : decode cX4_payCare 15 = .ok (.iload_n 1, 1) := by decide +kernel
theorem dX4_payCare_16 : decode cX4_payCare 16 = .ok (.iadd, 1) := by decide +kernel
theorem dX4_payCare_17 : decode cX4_payCare 17 = .ok (.putfield 28, 3) := by decide +kernel
theorem dX4_payCare_20 : decode cX4_payCare 20 = .ok (.return_, 1) := by decide +kernel
theorem dX4_sumOf_0 : decode cX4_sumOf 0 = .ok (.iconst 0, 1) := by decide +kernel
theorem dX4_sumOf_1 : decode cX4_sumOf 1 = .ok (.istore_n 2, 1) := by decide +kernel
theorem dX4_sumOf_2 : decode cX4_sumOf 2 = .ok (.iconst 0, 1) := by decide +kernel
theorem dX4_sumOf_3 : decode cX4_sumOf 3 = .ok (.istore_n 3, 1) := by decide +kernel
theorem dX4_sumOf_4 : decode cX4_sumOf 4 = .ok (.iload_n 3, 1) := by decide +kernel
theorem dX4_sumOf_5 : decode cX4_sumOf 5 = .ok (.iconst 4, 1) := by decide +kernel
theorem dX4_sumOf_6 : decode cX4_sumOf 6 = .ok (.if_icmp .ge 30, 3) := by decide +kernel
theorem dX4_sumOf_9 : decode cX4_sumOf 9 = .ok (.aload_n 0, 1) := by decide +kernel
theorem dX4_sumOf_10 : decode cX4_sumOf 10 = .ok (.iload_n 3, 1) := by decide +kernel
theorem dX4_sumOf_11 : decode cX4_sumOf 11 = .ok (.invokevirtual 32, 3) := by decide +kernel
theorem dX4_sumOf_14 : decode cX4_sumOf 14 = .ok (.astore 4, 2) := by decide +kernel
theorem dX4_sumOf_16 : decode cX4_sumOf 16 = .ok (.aload 4, 2) := by decide +kernel
theorem dX4_sumOf_18 : decode cX4_sumOf 18 = .ok (.ifnull 12, 3) := by decide +kernel
theorem dX4_sumOf_21 : decode cX4_sumOf 21 = .ok (.iload_n 2, 1) := by decide +kernel
theorem dX4_sumOf_22 : decode cX4_sumOf 22 = .ok (.aload 4, 2) := by decide +kernel
theorem dX4_sumOf_24 : decode cX4_sumOf 24 = .ok (.iload_n 1, 1) := by decide +kernel
theorem dX4_sumOf_25 : decode cX4_sumOf 25 = .ok (.invokevirtual 36, 3) := by decide +kernel
theorem dX4_sumOf_28 : decode cX4_sumOf 28 = .ok (.iadd, 1) := by decide +kernel
theorem dX4_sumOf_29 : decode cX4_sumOf 29 = .ok (.istore_n 2, 1) := by decide +kernel
theorem dX4_sumOf_30 : decode cX4_sumOf 30 = .ok (.iinc 3 1, 3) := by decide +kernel
theorem dX4_sumOf_33 : decode cX4_sumOf 33 = .ok (.goto (-29), 3) := by decide +kernel
theorem dX4_sumOf_36 : decode cX4_sumOf 36 = .ok (.iload_n 2, 1) := by decide +kernel
theorem dX4_sumOf_37 : decode cX4_sumOf 37 = .ok (.ireturn, 1) := by decide +kernel
theorem dX4_wearOfAll_0 : decode cX4_wearOfAll 0 = .ok (.iconst 0, 1) := by decide +kernel
theorem dX4_wearOfAll_1 : decode cX4_wearOfAll 1 = .ok (.istore_n 1, 1) := by decide +kernel
theorem dX4_wearOfAll_2 : decode cX4_wearOfAll 2 = .ok (.iconst 0, 1) := by decide +kernel
theorem dX4_wearOfAll_3 : decode cX4_wearOfAll 3 = .ok (.istore_n 2, 1) := by decide +kernel
theorem dX4_wearOfAll_4 : decode cX4_wearOfAll 4 = .ok (.iload_n 2, 1) := by decide +kernel
theorem dX4_wearOfAll_5 : decode cX4_wearOfAll 5 = .ok (.iconst 4, 1) := by decide +kernel
theorem dX4_wearOfAll_6 : decode cX4_wearOfAll 6 = .ok (.if_icmp .ge 44, 3) := by decide +kernel
theorem dX4_wearOfAll_9 : decode cX4_wearOfAll 9 = .ok (.aload_n 0, 1) := by decide +kernel
theorem dX4_wearOfAll_10 : decode cX4_wearOfAll 10 = .ok (.iload_n 2, 1) := by decide +kernel
theorem dX4_wearOfAll_11 : decode cX4_wearOfAll 11 = .ok (.invokevirtual 32, 3) := by decide +kernel
theorem dX4_wearOfAll_14 : decode cX4_wearOfAll 14 = .ok (.astore_n 3, 1) := by decide +kernel
theorem dX4_wearOfAll_15 : decode cX4_wearOfAll 15 = .ok (.iconst 0, 1) := by decide +kernel
theorem dX4_wearOfAll_16 : decode cX4_wearOfAll 16 = .ok (.istore 4, 2) := by decide +kernel
theorem dX4_wearOfAll_18 : decode cX4_wearOfAll 18 = .ok (.iload 4, 2) := by decide +kernel
theorem dX4_wearOfAll_20 : decode cX4_wearOfAll 20 = .ok (.bipush 24, 2) := by decide +kernel
theorem dX4_wearOfAll_22 : decode cX4_wearOfAll 22 = .ok (.if_icmp .ge 22, 3) := by decide +kernel
theorem dX4_wearOfAll_25 : decode cX4_wearOfAll 25 = .ok (.aload_n 3, 1) := by decide +kernel
theorem dX4_wearOfAll_26 : decode cX4_wearOfAll 26 = .ok (.ifnull 18, 3) := by decide +kernel
theorem dX4_wearOfAll_29 : decode cX4_wearOfAll 29 = .ok (.iload_n 1, 1) := by decide +kernel
theorem dX4_wearOfAll_30 : decode cX4_wearOfAll 30 = .ok (.aload_n 3, 1) := by decide +kernel
theorem dX4_wearOfAll_31 : decode cX4_wearOfAll 31 = .ok (.iload 4, 2) := by decide +kernel
theorem dX4_wearOfAll_33 : decode cX4_wearOfAll 33 = .ok (.invokevirtual 40, 3) := by decide +kernel
theorem dX4_wearOfAll_36 : decode cX4_wearOfAll 36 = .ok (.iadd, 1) := by decide +kernel
theorem dX4_wearOfAll_37 : decode cX4_wearOfAll 37 = .ok (.istore_n 1, 1) := by decide +kernel
theorem dX4_wearOfAll_38 : decode cX4_wearOfAll 38 = .ok (.iinc 4 1, 3) := by decide +kernel
theorem dX4_wearOfAll_41 : decode cX4_wearOfAll 41 = .ok (.goto (-23), 3) := by decide +kernel
theorem dX4_wearOfAll_44 : decode cX4_wearOfAll 44 = .ok (.iinc 2 1, 3) := by decide +kernel
theorem dX4_wearOfAll_47 : decode cX4_wearOfAll 47 = .ok (.goto (-43), 3) := by decide +kernel
theorem dX4_wearOfAll_50 : decode cX4_wearOfAll 50 = .ok (.iload_n 1, 1) := by decide +kernel
theorem dX4_wearOfAll_51 : decode cX4_wearOfAll 51 = .ok (.ireturn, 1) := by decide +kernel
theorem dX4_teethWornTo_0 : decode cX4_teethWornTo 0 = .ok (.iconst 0, 1) := by decide +kernel
theorem dX4_teethWornTo_1 : decode cX4_teethWornTo 1 = .ok (.istore_n 2, 1) := by decide +kernel
theorem dX4_teethWornTo_2 : decode cX4_teethWornTo 2 = .ok (.iconst 0, 1) := by decide +kernel
theorem dX4_teethWornTo_3 : decode cX4_teethWornTo 3 = .ok (.istore_n 3, 1) := by decide +kernel
theorem dX4_teethWornTo_4 : decode cX4_teethWornTo 4 = .ok (.iload_n 3, 1) := by decide +kernel
theorem dX4_teethWornTo_5 : decode cX4_teethWornTo 5 = .ok (.iconst 4, 1) := by decide +kernel
theorem dX4_teethWornTo_6 : decode cX4_teethWornTo 6 = .ok (.if_icmp .ge 51, 3) := by decide +kernel
theorem dX4_teethWornTo_9 : decode cX4_teethWornTo 9 = .ok (.aload_n 0, 1) := by decide +kernel
theorem dX4_teethWornTo_10 : decode cX4_teethWornTo 10 = .ok (.iload_n 3, 1) := by decide +kernel
theorem dX4_teethWornTo_11 : decode cX4_teethWornTo 11 = .ok (.invokevirtual 32, 3) := by decide +kernel
theorem dX4_teethWornTo_14 : decode cX4_teethWornTo 14 = .ok (.astore 4, 2) := by decide +kernel
theorem dX4_teethWornTo_16 : decode cX4_teethWornTo 16 = .ok (.iconst 0, 1) := by decide +kernel
theorem dX4_teethWornTo_17 : decode cX4_teethWornTo 17 = .ok (.istore 5, 2) := by decide +kernel
theorem dX4_teethWornTo_19 : decode cX4_teethWornTo 19 = .ok (.iload 5, 2) := by decide +kernel
theorem dX4_teethWornTo_21 : decode cX4_teethWornTo 21 = .ok (.bipush 24, 2) := by decide +kernel
theorem dX4_teethWornTo_23 : decode cX4_teethWornTo 23 = .ok (.if_icmp .ge 28, 3) := by decide +kernel
theorem dX4_teethWornTo_26 : decode cX4_teethWornTo 26 = .ok (.aload 4, 2) := by decide +kernel
theorem dX4_teethWornTo_28 : decode cX4_teethWornTo 28 = .ok (.ifnull 23, 3) := by decide +kernel
theorem dX4_teethWornTo_31 : decode cX4_teethWornTo 31 = .ok (.aload 4, 2) := by decide +kernel
theorem dX4_teethWornTo_33 : decode cX4_teethWornTo 33 = .ok (.iload 5, 2) := by decide +kernel
theorem dX4_teethWornTo_35 : decode cX4_teethWornTo 35 = .ok (.invokevirtual 40, 3) := by decide +kernel
theorem dX4_teethWornTo_38 : decode cX4_teethWornTo 38 = .ok (.iload_n 1, 1) := by decide +kernel
theorem dX4_teethWornTo_39 : decode cX4_teethWornTo 39 = .ok (.if_icmp .lt 6, 3) := by decide +kernel
theorem dX4_teethWornTo_42 : decode cX4_teethWornTo 42 = .ok (.iinc 2 1, 3) := by decide +kernel
theorem dX4_teethWornTo_45 : decode cX4_teethWornTo 45 = .ok (.iinc 5 1, 3) := by decide +kernel
theorem dX4_teethWornTo_48 : decode cX4_teethWornTo 48 = .ok (.goto (-29), 3) := by decide +kernel
theorem dX4_teethWornTo_51 : decode cX4_teethWornTo 51 = .ok (.iinc 3 1, 3) := by decide +kernel
theorem dX4_teethWornTo_54 : decode cX4_teethWornTo 54 = .ok (.goto (-50), 3) := by decide +kernel
theorem dX4_teethWornTo_57 : decode cX4_teethWornTo 57 = .ok (.iload_n 2, 1) := by decide +kernel
theorem dX4_teethWornTo_58 : decode cX4_teethWornTo 58 = .ok (.ireturn, 1) := by decide +kernel
theorem dX4_axesWhereBelieved_0 : decode cX4_axesWhereBelieved 0 = .ok (.iconst 0, 1) := by decide +kernel
theorem dX4_axesWhereBelieved_1 : decode cX4_axesWhereBelieved 1 = .ok (.istore_n 1, 1) := by decide +kernel
theorem dX4_axesWhereBelieved_2 : decode cX4_axesWhereBelieved 2 = .ok (.iconst 0, 1) := by decide +kernel
theorem dX4_axesWhereBelieved_3 : decode cX4_axesWhereBelieved 3 = .ok (.istore_n 2, 1) := by decide +kernel
theorem dX4_axesWhereBelieved_4 : decode cX4_axesWhereBelieved 4 = .ok (.iload_n 2, 1) := by decide +kernel
theorem dX4_axesWhereBelieved_5 : decode cX4_axesWhereBelieved 5 = .ok (.iconst 4, 1) := by decide +kernel
theorem dX4_axesWhereBelieved_6 : decode cX4_axesWhereBelieved 6 = .ok (.if_icmp .ge 33, 3) := by decide +kernel
theorem dX4_axesWhereBelieved_9 : decode cX4_axesWhereBelieved 9 = .ok (.aload_n 0, 1) := by decide +kernel
theorem dX4_axesWhereBelieved_10 : decode cX4_axesWhereBelieved 10 = .ok (.iload_n 2, 1) := by decide +kernel
theorem dX4_axesWhereBelieved_11 : decode cX4_axesWhereBelieved 11 = .ok (.invokevirtual 32, 3) := by decide +kernel
theorem dX4_axesWhereBelieved_14 : decode cX4_axesWhereBelieved 14 = .ok (.astore_n 3, 1) := by decide +kernel
theorem dX4_axesWhereBelieved_15 : decode cX4_axesWhereBelieved 15 = .ok (.aload_n 3, 1) := by decide +kernel
theorem dX4_axesWhereBelieved_16 : decode cX4_axesWhereBelieved 16 = .ok (.ifnull 17, 3) := by decide +kernel
theorem dX4_axesWhereBelieved_19 : decode cX4_axesWhereBelieved 19 = .ok (.aload_n 3, 1) := by decide +kernel
theorem dX4_axesWhereBelieved_20 : decode cX4_axesWhereBelieved 20 = .ok (.getfield 43, 3) := by decide +kernel
theorem dX4_axesWhereBelieved_23 : decode cX4_axesWhereBelieved 23 = .ok (.aload_n 3, 1) := by decide +kernel
theorem dX4_axesWhereBelieved_24 : decode cX4_axesWhereBelieved 24 = .ok (.getfield 46, 3) := by decide +kernel
theorem dX4_axesWhereBelieved_27 : decode cX4_axesWhereBelieved 27 = .ok (.if_icmp .ne 6, 3) := by decide +kernel
theorem dX4_axesWhereBelieved_30 : decode cX4_axesWhereBelieved 30 = .ok (.iinc 1 1, 3) := by decide +kernel
theorem dX4_axesWhereBelieved_33 : decode cX4_axesWhereBelieved 33 = .ok (.iinc 2 1, 3) := by decide +kernel
theorem dX4_axesWhereBelieved_36 : decode cX4_axesWhereBelieved 36 = .ok (.goto (-32), 3) := by decide +kernel
theorem dX4_axesWhereBelieved_39 : decode cX4_axesWhereBelieved 39 = .ok (.iload_n 1, 1) := by decide +kernel
theorem dX4_axesWhereBelieved_40 : decode cX4_axesWhereBelieved 40 = .ok (.ireturn, 1) := by decide +kernel
theorem dX4_copyFrom_0 : decode cX4_copyFrom 0 = .ok (.aload_n 0, 1) := by decide +kernel
theorem dX4_copyFrom_1 : decode cX4_copyFrom 1 = .ok (.getfield 12, 3) := by decide +kernel
theorem dX4_copyFrom_4 : decode cX4_copyFrom 4 = .ok (.aload_n 1, 1) := by decide +kernel
theorem dX4_copyFrom_5 : decode cX4_copyFrom 5 = .ok (.getfield 12, 3) := by decide +kernel
theorem dX4_copyFrom_8 : decode cX4_copyFrom 8 = .ok (.invokevirtual 49, 3) := by decide +kernel
theorem dX4_copyFrom_11 : decode cX4_copyFrom 11 = .ok (.aload_n 0, 1) := by decide +kernel
theorem dX4_copyFrom_12 : decode cX4_copyFrom 12 = .ok (.aload_n 1, 1) := by decide +kernel
theorem dX4_copyFrom_13 : decode cX4_copyFrom 13 = .ok (.getfield 24, 3) := by decide +kernel
theorem dX4_copyFrom_16 : decode cX4_copyFrom 16 = .ok (.putfield 24, 3) := by decide +kernel
theorem dX4_copyFrom_19 : decode cX4_copyFrom 19 = .ok (.aload_n 0, 1) := by decide +kernel
theorem dX4_copyFrom_20 : decode cX4_copyFrom 20 = .ok (.aload_n 1, 1) := by decide +kernel
theorem dX4_copyFrom_21 : decode cX4_copyFrom 21 = .ok (.getfield 28, 3) := by decide +kernel
theorem dX4_copyFrom_24 : decode cX4_copyFrom 24 = .ok (.putfield 28, 3) := by decide +kernel
theorem dX4_copyFrom_27 : decode cX4_copyFrom 27 = .ok (.iconst 0, 1) := by decide +kernel
theorem dX4_copyFrom_28 : decode cX4_copyFrom 28 = .ok (.istore_n 2, 1) := by decide +kernel
theorem dX4_copyFrom_29 : decode cX4_copyFrom 29 = .ok (.iload_n 2, 1) := by decide +kernel
theorem dX4_copyFrom_30 : decode cX4_copyFrom 30 = .ok (.iconst 4, 1) := by decide +kernel
theorem dX4_copyFrom_31 : decode cX4_copyFrom 31 = .ok (.if_icmp .ge 37, 3) := by decide +kernel
theorem dX4_copyFrom_34 : decode cX4_copyFrom 34 = .ok (.aload_n 0, 1) := by decide +kernel
theorem dX4_copyFrom_35 : decode cX4_copyFrom 35 = .ok (.iload_n 2, 1) := by decide +kernel
theorem dX4_copyFrom_36 : decode cX4_copyFrom 36 = .ok (.invokevirtual 32, 3) := by decide +kernel
theorem dX4_copyFrom_39 : decode cX4_copyFrom 39 = .ok (.astore_n 3, 1) := by decide +kernel
theorem dX4_copyFrom_40 : decode cX4_copyFrom 40 = .ok (.aload_n 1, 1) := by decide +kernel
theorem dX4_copyFrom_41 : decode cX4_copyFrom 41 = .ok (.iload_n 2, 1) := by decide +kernel
theorem dX4_copyFrom_42 : decode cX4_copyFrom 42 = .ok (.invokevirtual 32, 3) := by decide +kernel
theorem dX4_copyFrom_45 : decode cX4_copyFrom 45 = .ok (.astore 4, 2) := by decide +kernel
theorem dX4_copyFrom_47 : decode cX4_copyFrom 47 = .ok (.aload_n 3, 1) := by decide +kernel
theorem dX4_copyFrom_48 : decode cX4_copyFrom 48 = .ok (.ifnull 14, 3) := by decide +kernel
theorem dX4_copyFrom_51 : decode cX4_copyFrom 51 = .ok (.aload 4, 2) := by decide +kernel
theorem dX4_copyFrom_53 : decode cX4_copyFrom 53 = .ok (.ifnull 9, 3) := by decide +kernel
theorem dX4_copyFrom_56 : decode cX4_copyFrom 56 = .ok (.aload_n 3, 1) := by decide +kernel
theorem dX4_copyFrom_57 : decode cX4_copyFrom 57 = .ok (.aload 4, 2) := by decide +kernel
theorem dX4_copyFrom_59 : decode cX4_copyFrom 59 = .ok (.invokevirtual 53, 3) := by decide +kernel
theorem dX4_copyFrom_62 : decode cX4_copyFrom 62 = .ok (.iinc 2 1, 3) := by decide +kernel
theorem dX4_copyFrom_65 : decode cX4_copyFrom 65 = .ok (.goto (-36), 3) := by decide +kernel
theorem dX4_copyFrom_68 : decode cX4_copyFrom 68 = .ok (.return_, 1) := by decide +kernel
theorem dX5_init_0 : decode cX5_init 0 = .ok (.aload_n 0, 1) := by decide +kernel
theorem dX5_init_1 : decode cX5_init 1 = .ok (.invokespecial 1, 3) := by decide +kernel
theorem dX5_init_4 : decode cX5_init 4 = .ok (.aload_n 0, 1) := by decide +kernel
theorem dX5_init_5 : decode cX5_init 5 = .ok (.new 7, 3) := by decide +kernel
theorem dX5_init_8 : decode cX5_init 8 = .ok (.dup, 1) := by decide +kernel
theorem dX5_init_9 : decode cX5_init 9 = .ok (.invokespecial 9, 3) := by decide +kernel
theorem dX5_init_12 : decode cX5_init 12 = .ok (.putfield 10, 3) := by decide +kernel
theorem dX5_init_15 : decode cX5_init 15 = .ok (.aload_n 0, 1) := by decide +kernel
theorem dX5_init_16 : decode cX5_init 16 = .ok (.new 16, 3) := by decide +kernel
theorem dX5_init_19 : decode cX5_init 19 = .ok (.dup, 1) := by decide +kernel
theorem dX5_init_20 : decode cX5_init 20 = .ok (.invokespecial 18, 3) := by decide +kernel
theorem dX5_init_23 : decode cX5_init 23 = .ok (.putfield 19, 3) := by decide +kernel
theorem dX5_init_26 : decode cX5_init 26 = .ok (.aload_n 0, 1) := by decide +kernel
theorem dX5_init_27 : decode cX5_init 27 = .ok (.new 23, 3) := by decide +kernel
theorem dX5_init_30 : decode cX5_init 30 = .ok (.dup, 1) := by decide +kernel
theorem dX5_init_31 : decode cX5_init 31 = .ok (.invokespecial 25, 3) := by decide +kernel
theorem dX5_init_34 : decode cX5_init 34 = .ok (.putfield 26, 3) := by decide +kernel
theorem dX5_init_37 : decode cX5_init 37 = .ok (.aload_n 0, 1) := by decide +kernel
theorem dX5_init_38 : decode cX5_init 38 = .ok (.new 30, 3) := by decide +kernel
theorem dX5_init_41 : decode cX5_init 41 = .ok (.dup, 1) := by decide +kernel
theorem dX5_init_42 : decode cX5_init 42 = .ok (.invokespecial 32, 3) := by decide +kernel
theorem dX5_init_45 : decode cX5_init 45 = .ok (.putfield 33, 3) := by decide +kernel
theorem dX5_init_48 : decode cX5_init 48 = .ok (.aload_n 0, 1) := by decide +kernel
theorem dX5_init_49 : decode cX5_init 49 = .ok (.bipush 60, 2) := by decide +kernel
theorem dX5_init_51 : decode cX5_init 51 = .ok (.newarray .int, 2) := by decide +kernel
theorem dX5_init_53 : decode cX5_init 53 = .ok (.putfield 37, 3) := by decide +kernel
theorem dX5_init_56 : decode cX5_init 56 = .ok (.aload_n 0, 1) := by decide +kernel
theorem dX5_init_57 : decode cX5_init 57 = .ok (.iconst 0, 1) := by decide +kernel
theorem dX5_init_58 : decode cX5_init 58 = .ok (.putfield 41, 3) := by decide +kernel
theorem dX5_init_61 : decode cX5_init 61 = .ok (.return_, 1) := by decide +kernel
theorem dX5_earn_0 : decode cX5_earn 0 = .ok (.iload_n 1, 1) := by decide +kernel
theorem dX5_earn_1 : decode cX5_earn 1 = .ok (.iconst 1, 1) := by decide +kernel
theorem dX5_earn_2 : decode cX5_earn 2 = .ok (.if_icmp .lt 10, 3) := by decide +kernel
theorem dX5_earn_5 : decode cX5_earn 5 = .ok (.iload_n 1, 1) := by decide +kernel
theorem dX5_earn_6 : decode cX5_earn 6 = .ok (.sipush 10000, 3) := by decide +kernel
theorem dX5_earn_9 : decode cX5_earn 9 = .ok (.if_icmp .le 13, 3) := by decide +kernel
theorem dX5_earn_12 : decode cX5_earn 12 = .ok (.new 45, 3) := by decide +kernel
theorem dX5_earn_15 : decode cX5_earn 15 = .ok (.dup, 1) := by decide +kernel
theorem dX5_earn_16 : decode cX5_earn 16 = .ok (.ldc 47, 2) := by decide +kernel
theorem dX5_earn_18 : decode cX5_earn 18 = .ok (.invokespecial 49, 3) := by decide +kernel
theorem dX5_earn_21 : decode cX5_earn 21 = .ok (.athrow, 1) := by decide +kernel
theorem dX5_earn_22 : decode cX5_earn 22 = .ok (.aload_n 0, 1) := by decide +kernel
theorem dX5_earn_23 : decode cX5_earn 23 = .ok (.getfield 10, 3) := by decide +kernel
theorem dX5_earn_26 : decode cX5_earn 26 = .ok (.getfield 52, 3) := by decide +kernel
theorem dX5_earn_29 : decode cX5_earn 29 = .ok (.iload_n 1, 1) := by decide +kernel
theorem dX5_earn_30 : decode cX5_earn 30 = .ok (.iadd, 1) := by decide +kernel
theorem dX5_earn_31 : decode cX5_earn 31 = .ok (.ldc 55, 2) := by decide +kernel
theorem dX5_earn_33 : decode cX5_earn 33 = .ok (.if_icmp .le 13, 3) := by decide +kernel
theorem dX5_earn_36 : decode cX5_earn 36 = .ok (.new 56, 3) := by decide +kernel
theorem dX5_earn_39 : decode cX5_earn 39 = .ok (.dup, 1) := by decide +kernel
theorem dX5_earn_40 : decode cX5_earn 40 = .ok (.ldc 58, 2) := by decide +kernel
theorem dX5_earn_42 : decode cX5_earn 42 = .ok (.invokespecial 60, 3) := by decide +kernel
theorem dX5_earn_45 : decode cX5_earn 45 = .ok (.athrow, 1) := by decide +kernel
theorem dX5_earn_46 : decode cX5_earn 46 = .ok (.aload_n 0, 1) := by decide +kernel
theorem dX5_earn_47 : decode cX5_earn 47 = .ok (.getfield 19, 3) := by decide +kernel
theorem dX5_earn_50 : decode cX5_earn 50 = .ok (.aload_n 0, 1) := by decide +kernel
theorem dX5_earn_51 : decode cX5_earn 51 = .ok (.getfield 10, 3) := by decide +kernel
theorem dX5_earn_54 : decode cX5_earn 54 = .ok (.invokevirtual 61, 3) := by decide +kernel
theorem dX5_earn_57 : decode cX5_earn 57 = .ok (.aload_n 0, 1) := by decide +kernel
theorem dX5_earn_58 : decode cX5_earn 58 = .ok (.getfield 10, 3) := by decide +kernel
theorem dX5_earn_61 : decode cX5_earn 61 = .ok (.dup, 1) := by decide +kernel
theorem dX5_earn_62 : decode cX5_earn 62 = .ok (.getfield 52, 3) := by decide +kernel
theorem dX5_earn_65 : decode cX5_earn 65 = .ok (.iload_n 1, 1) := by decide +kernel
theorem dX5_earn_66 : decode cX5_earn 66 = .ok (.iadd, 1) := by decide +kernel
theorem dX5_earn_67 : decode cX5_earn 67 = .ok (.putfield 52, 3) := by decide +kernel
theorem dX5_earn_70 : decode cX5_earn 70 = .ok (.aload_n 0, 1) := by decide +kernel
theorem dX5_earn_71 : decode cX5_earn 71 = .ok (.getfield 10, 3) := by decide +kernel
theorem dX5_earn_74 : decode cX5_earn 74 = .ok (.getfield 52, 3) := by decide +kernel
theorem dX5_earn_77 : decode cX5_earn 77 = .ok (.ireturn, 1) := by decide +kernel
theorem dX5_load_0 : decode cX5_load 0 = .ok (.aload_n 0, 1) := by decide +kernel
theorem dX5_load_1 : decode cX5_load 1 = .ok (.iload_n 1, 1) := by decide +kernel
theorem dX5_load_2 : decode cX5_load 2 = .ok (.invokevirtual 65, 3) := by decide +kernel
theorem dX5_load_5 : decode cX5_load 5 = .ok (.astore_n 3, 1) := by decide +kernel
theorem dX5_load_6 : decode cX5_load 6 = .ok (.iload_n 2, 1) := by decide +kernel
theorem dX5_load_7 : decode cX5_load 7 = .ok (.ifCond .lt 8, 3) := by decide +kernel
theorem dX5_load_10 : decode cX5_load 10 = .ok (.iload_n 2, 1) := by decide +kernel
theorem dX5_load_11 : decode cX5_load 11 = .ok (.iconst 5, 1) := by decide +kernel
theorem dX5_load_12 : decode cX5_load 12 = .ok (.if_icmp .le 13, 3) := by decide +kernel
theorem dX5_load_15 : decode cX5_load 15 = .ok (.new 45, 3) := by decide +kernel
theorem dX5_load_18 : decode cX5_load 18 = .ok (.dup, 1) := by decide +kernel
theorem dX5_load_19 : decode cX5_load 19 = .ok (.ldc 69, 2) := by decide +kernel
theorem dX5_load_21 : decode cX5_load 21 = .ok (.invokespecial 49, 3) := by decide +kernel
theorem dX5_load_24 : decode cX5_load 24 = .ok (.athrow, 1) := by decide +kernel
theorem dX5_load_25 : decode cX5_load 25 = .ok (.aload_n 0, 1) := by decide +kernel
theorem dX5_load_26 : decode cX5_load 26 = .ok (.getfield 19, 3) := by decide +kernel
theorem dX5_load_29 : decode cX5_load 29 = .ok (.aload_n 0, 1) := by decide +kernel
theorem dX5_load_30 : decode cX5_load 30 = .ok (.getfield 10, 3) := by decide +kernel
theorem dX5_load_33 : decode cX5_load 33 = .ok (.invokevirtual 61, 3) := by decide +kernel
theorem dX5_load_36 : decode cX5_load 36 = .ok (.aload_n 3, 1) := by decide +kernel
theorem dX5_load_37 : decode cX5_load 37 = .ok (.getfield 71, 3) := by decide +kernel
theorem dX5_load_40 : decode cX5_load 40 = .ok (.istore 4, 2) := by decide +kernel
theorem dX5_load_42 : decode cX5_load 42 = .ok (.aload_n 3, 1) := by decide +kernel
theorem dX5_load_43 : decode cX5_load 43 = .ok (.iload_n 2, 1) := by decide +kernel
theorem dX5_load_44 : decode cX5_load 44 = .ok (.putfield 71, 3) := by decide +kernel
theorem dX5_load_47 : decode cX5_load 47 = .ok (.iload 4, 2) := by decide +kernel
theorem dX5_load_49 : decode cX5_load 49 = .ok (.ireturn, 1) := by decide +kernel
theorem dX5_set_0 : decode cX5_set 0 = .ok (.iload_n 1, 1) := by decide +kernel
theorem dX5_set_1 : decode cX5_set 1 = .ok (.invokestatic 74, 3) := by decide +kernel
theorem dX5_set_4 : decode cX5_set 4 = .ok (.iload_n 1, 1) := by decide +kernel
theorem dX5_set_5 : decode cX5_set 5 = .ok (.iload_n 2, 1) := by decide +kernel
theorem dX5_set_6 : decode cX5_set 6 = .ok (.invokestatic 78, 3) := by decide +kernel
theorem dX5_set_9 : decode cX5_set 9 = .ok (.ifCond .ne 13, 3) := by decide +kernel
theorem dX5_set_12 : decode cX5_set 12 = .ok (.new 45, 3) := by decide +kernel
theorem dX5_set_15 : decode cX5_set 15 = .ok (.dup, 1) := by decide +kernel
theorem dX5_set_16 : decode cX5_set 16 = .ok (.ldc 82, 2) := by decide +kernel
theorem dX5_set_18 : decode cX5_set 18 = .ok (.invokespecial 49, 3) := by decide +kernel
theorem dX5_set_21 : decode cX5_set 21 = .ok (.athrow, 1) := by decide +kernel
theorem dX5_set_22 : decode cX5_set 22 = .ok (.aload_n 0, 1) := by decide +kernel
theorem dX5_set_23 : decode cX5_set 23 = .ok (.getfield 19, 3) := by decide +kernel
theorem dX5_set_26 : decode cX5_set 26 = .ok (.aload_n 0, 1) := by decide +kernel
theorem dX5_set_27 : decode cX5_set 27 = .ok (.getfield 10, 3) := by decide +kernel
theorem dX5_set_30 : decode cX5_set 30 = .ok (.invokevirtual 61, 3) := by decide +kernel
theorem dX5_set_33 : decode cX5_set 33 = .ok (.aload_n 0, 1) := by decide +kernel
theorem dX5_set_34 : decode cX5_set 34 = .ok (.getfield 10, 3) := by decide +kernel
theorem dX5_set_37 : decode cX5_set 37 = .ok (.getfield 84, 3) := by decide +kernel
theorem dX5_set_40 : decode cX5_set 40 = .ok (.iload_n 1, 1) := by decide +kernel
theorem dX5_set_41 : decode cX5_set 41 = .ok (.invokevirtual 88, 3) := by decide +kernel
theorem dX5_set_44 : decode cX5_set 44 = .ok (.istore_n 3, 1) := by decide +kernel
theorem dX5_set_45 : decode cX5_set 45 = .ok (.aload_n 0, 1) := by decide +kernel
theorem dX5_set_46 : decode cX5_set 46 = .ok (.getfield 10, 3) := by decide +kernel
theorem dX5_set_49 : decode cX5_set 49 = .ok (.getfield 84, 3) := by decide +kernel
theorem dX5_set_52 : decode cX5_set 52 = .ok (.iload_n 1, 1) := by decide +kernel
theorem dX5_set_53 : decode cX5_set 53 = .ok (.iload_n 2, 1) := by decide +kernel
theorem dX5_set_54 : decode cX5_set 54 = .ok (.invokevirtual 94, 3) := by decide +kernel
theorem dX5_set_57 : decode cX5_set 57 = .ok (.iload_n 3, 1) := by decide +kernel
theorem dX5_set_58 : decode cX5_set 58 = .ok (.ireturn, 1) := by decide +kernel
theorem dX5_step_0 : decode cX5_step 0 = .ok (.aload_n 0, 1) := by decide +kernel
theorem dX5_step_1 : decode cX5_step 1 = .ok (.iload_n 1, 1) := by decide +kernel
theorem dX5_step_2 : decode cX5_step 2 = .ok (.invokevirtual 65, 3) := by decide +kernel
theorem dX5_step_5 : decode cX5_step 5 = .ok (.astore_n 3, 1) := by decide +kernel
theorem dX5_step_6 : decode cX5_step 6 = .ok (.iload_n 2, 1) := by decide +kernel
theorem dX5_step_7 : decode cX5_step 7 = .ok (.bipush (-24), 2) := by decide +kernel
theorem dX5_step_9 : decode cX5_step 9 = .ok (.if_icmp .lt 13, 3) := by decide +kernel
theorem dX5_step_12 : decode cX5_step 12 = .ok (.iload_n 2, 1) := by decide +kernel
theorem dX5_step_13 : decode cX5_step 13 = .ok (.bipush 24, 2) := by decide +kernel
theorem dX5_step_15 : decode cX5_step 15 = .ok (.if_icmp .gt 7, 3) := by decide +kernel
theorem dX5_step_18 : decode cX5_step 18 = .ok (.iload_n 2, 1) := by decide +kernel
theorem dX5_step_19 : decode cX5_step 19 = .ok (.ifCond .ne 13, 3) := by decide +kernel
theorem dX5_step_22 : decode cX5_step 22 = .ok (.new 45, 3) := by decide +kernel
theorem dX5_step_25 : decode cX5_step 25 = .ok (.dup, 1) := by decide +kernel
theorem dX5_step_26 : decode cX5_step 26 = .ok (.ldc 98, 2) := by decide +kernel
theorem dX5_step_28 : decode cX5_step 28 = .ok (.invokespecial 49, 3) := by decide +kernel
theorem dX5_step_31 : decode cX5_step 31 = .ok (.athrow, 1) := by decide +kernel
theorem dX5_step_32 : decode cX5_step 32 = .ok (.iload_n 2, 1) := by decide +kernel
theorem dX5_step_33 : decode cX5_step 33 = .ok (.ifCond .le 7, 3) := by decide +kernel
theorem dX5_step_36 : decode cX5_step 36 = .ok (.iconst 1, 1) := by decide +kernel
theorem dX5_step_37 : decode cX5_step 37 = .ok (.goto 4, 3) := by decide +kernel
theorem dX5_step_40 : decode cX5_step 40 = .ok (.iconst 0, 1) := by decide +kernel
theorem dX5_step_41 : decode cX5_step 41 = .ok (.invokestatic 100, 3) := by decide +kernel
theorem dX5_step_44 : decode cX5_step 44 = .ok (.istore 4, 2) := by decide +kernel
theorem dX5_step_46 : decode cX5_step 46 = .ok (.aload_n 0, 1) := by decide +kernel
theorem dX5_step_47 : decode cX5_step 47 = .ok (.aload_n 3, 1) := by decide +kernel
theorem dX5_step_48 : decode cX5_step 48 = .ok (.iload 4, 2) := by decide +kernel
theorem dX5_step_50 : decode cX5_step 50 = .ok (.invokevirtual 104, 3) := by decide +kernel
theorem dX5_step_53 : decode cX5_step 53 = .ok (.ifCond .ne 13, 3) := by decide +kernel
theorem dX5_step_56 : decode cX5_step 56 = .ok (.new 56, 3) := by decide +kernel
theorem dX5_step_59 : decode cX5_step 59 = .ok (.dup, 1) := by decide +kernel
theorem dX5_step_60 : decode cX5_step 60 = .ok (.ldc 108, 2) := by decide +kernel
theorem dX5_step_62 : decode cX5_step 62 = .ok (.invokespecial 60, 3) := by decide +kernel
theorem dX5_step_65 : decode cX5_step 65 = .ok (.athrow, 1) := by decide +kernel
theorem dX5_step_66 : decode cX5_step 66 = .ok (.aload_n 0, 1) := by decide +kernel
theorem dX5_step_67 : decode cX5_step 67 = .ok (.getfield 19, 3) := by decide +kernel
theorem dX5_step_70 : decode cX5_step 70 = .ok (.aload_n 0, 1) := by decide +kernel
theorem dX5_step_71 : decode cX5_step 71 = .ok (.getfield 10, 3) := by decide +kernel
theorem dX5_step_74 : decode cX5_step 74 = .ok (.invokevirtual 61, 3) := by decide +kernel
theorem dX5_step_77 : decode cX5_step 77 = .ok (.aload_n 0, 1) := by decide +kernel
theorem dX5_step_78 : decode cX5_step 78 = .ok (.aload_n 3, 1) := by decide +kernel
theorem dX5_step_79 : decode cX5_step 79 = .ok (.iload 4, 2) := by decide +kernel
theorem dX5_step_81 : decode cX5_step 81 = .ok (.iload_n 2, 1) := by decide +kernel
theorem dX5_step_82 : decode cX5_step 82 = .ok (.ifCond .le 7, 3) := by decide +kernel
theorem dX5_step_85 : decode cX5_step 85 = .ok (.iload_n 2, 1) := by decide +kernel
theorem dX5_step_86 : decode cX5_step 86 = .ok (.goto 5, 3) := by decide +kernel
theorem dX5_step_89 : decode cX5_step 89 = .ok (.iload_n 2, 1) := by decide +kernel
theorem dX5_step_90 : decode cX5_step 90 = .ok (.ineg, 1) := by decide +kernel
theorem dX5_step_91 : decode cX5_step 91 = .ok (.invokevirtual 110, 3) := by decide +kernel
theorem dX5_step_94 : decode cX5_step 94 = .ok (.ireturn, 1) := by decide +kernel
theorem dX5_go_0 : decode cX5_go 0 = .ok (.aload_n 0, 1) := by decide +kernel
theorem dX5_go_1 : decode cX5_go 1 = .ok (.iload_n 1, 1) := by decide +kernel
theorem dX5_go_2 : decode cX5_go 2 = .ok (.invokevirtual 65, 3) := by decide +kernel
theorem dX5_go_5 : decode cX5_go 5 = .ok (.astore_n 3, 1) := by decide +kernel
theorem dX5_go_6 : decode cX5_go 6 = .ok (.iload_n 2, 1) := by decide +kernel
theorem dX5_go_7 : decode cX5_go 7 = .ok (.invokestatic 114, 3) := by decide +kernel
theorem dX5_go_10 : decode cX5_go 10 = .ok (.aload_n 0, 1) := by decide +kernel
theorem dX5_go_11 : decode cX5_go 11 = .ok (.aload_n 3, 1) := by decide +kernel
theorem dX5_go_12 : decode cX5_go 12 = .ok (.iload_n 2, 1) := by decide +kernel
theorem dX5_go_13 : decode cX5_go 13 = .ok (.invokevirtual 117, 3) := by decide +kernel
theorem dX5_go_16 : decode cX5_go 16 = .ok (.ifCond .ne 13, 3) := by decide +kernel
theorem dX5_go_19 : decode cX5_go 19 = .ok (.new 56, 3) := by decide +kernel
theorem dX5_go_22 : decode cX5_go 22 = .ok (.dup, 1) := by decide +kernel
theorem dX5_go_23 : decode cX5_go 23 = .ok (.ldc 108, 2) := by decide +kernel
theorem dX5_go_25 : decode cX5_go 25 = .ok (.invokespecial 60, 3) := by decide +kernel
theorem dX5_go_28 : decode cX5_go 28 = .ok (.athrow, 1) := by decide +kernel
theorem dX5_go_29 : decode cX5_go 29 = .ok (.aload_n 0, 1) := by decide +kernel
theorem dX5_go_30 : decode cX5_go 30 = .ok (.getfield 19, 3) := by decide +kernel
theorem dX5_go_33 : decode cX5_go 33 = .ok (.aload_n 0, 1) := by decide +kernel
theorem dX5_go_34 : decode cX5_go 34 = .ok (.getfield 10, 3) := by decide +kernel
theorem dX5_go_37 : decode cX5_go 37 = .ok (.invokevirtual 61, 3) := by decide +kernel
theorem dX5_go_40 : decode cX5_go 40 = .ok (.aload_n 0, 1) := by decide +kernel
theorem dX5_go_41 : decode cX5_go 41 = .ok (.aload_n 3, 1) := by decide +kernel
theorem dX5_go_42 : decode cX5_go 42 = .ok (.iload_n 2, 1) := by decide +kernel
theorem dX5_go_43 : decode cX5_go 43 = .ok (.invokevirtual 120, 3) := by decide +kernel
theorem dX5_go_46 : decode cX5_go 46 = .ok (.ireturn, 1) := by decide +kernel
theorem dX5_home_0 : decode cX5_home 0 = .ok (.aload_n 0, 1) := by decide +kernel
theorem dX5_home_1 : decode cX5_home 1 = .ok (.iload_n 1, 1) := by decide +kernel
theorem dX5_home_2 : decode cX5_home 2 = .ok (.invokevirtual 65, 3) := by decide +kernel
theorem dX5_home_5 : decode cX5_home 5 = .ok (.astore_n 2, 1) := by decide +kernel
theorem dX5_home_6 : decode cX5_home 6 = .ok (.aload_n 0, 1) := by decide +kernel
theorem dX5_home_7 : decode cX5_home 7 = .ok (.getfield 19, 3) := by decide +kernel
theorem dX5_home_10 : decode cX5_home 10 = .ok (.aload_n 0, 1) := by decide +kernel
theorem dX5_home_11 : decode cX5_home 11 = .ok (.getfield 10, 3) := by decide +kernel
theorem dX5_home_14 : decode cX5_home 14 = .ok (.invokevirtual 61, 3) := by decide +kernel
theorem dX5_home_17 : decode cX5_home 17 = .ok (.aload_n 2, 1) := by decide +kernel
theorem dX5_home_18 : decode cX5_home 18 = .ok (.getfield 124, 3) := by decide +kernel
theorem dX5_home_21 : decode cX5_home 21 = .ok (.istore_n 3, 1) := by decide +kernel
theorem dX5_home_22 : decode cX5_home 22 = .ok (.aload_n 0, 1) := by decide +kernel
theorem dX5_home_23 : decode cX5_home 23 = .ok (.aload_n 2, 1) := by decide +kernel
theorem dX5_home_24 : decode cX5_home 24 = .ok (.invokevirtual 127, 3) := by decide +kernel
theorem dX5_home_27 : decode cX5_home 27 = .ok (.istore 4, 2) := by decide +kernel
theorem dX5_home_29 : decode cX5_home 29 = .ok (.iload 4, 2) := by decide +kernel
theorem dX5_home_31 : decode cX5_home 31 = .ok (.ifCond .eq 12, 3) := by decide +kernel
theorem dX5_home_34 : decode cX5_home 34 = .ok (.aload_n 2, 1) := by decide +kernel
theorem dX5_home_35 : decode cX5_home 35 = .ok (.getfield 124, 3) := by decide +kernel
theorem dX5_home_38 : decode cX5_home 38 = .ok (.iload_n 3, 1) := by decide +kernel
theorem dX5_home_39 : decode cX5_home 39 = .ok (.isub, 1) := by decide +kernel
theorem dX5_home_40 : decode cX5_home 40 = .ok (.goto 4, 3) := by decide +kernel
theorem dX5_home_43 : decode cX5_home 43 = .ok (.iconst (-1), 1) := by decide +kernel
theorem dX5_home_44 : decode cX5_home 44 = .ok (.ireturn, 1) := by decide +kernel
theorem dX5_grease_0 : decode cX5_grease 0 = .ok (.aload_n 0, 1) := by decide +kernel
theorem dX5_grease_1 : decode cX5_grease 1 = .ok (.iload_n 1, 1) := by decide +kernel
theorem dX5_grease_2 : decode cX5_grease 2 = .ok (.invokevirtual 65, 3) := by decide +kernel
theorem dX5_grease_5 : decode cX5_grease 5 = .ok (.astore_n 2, 1) := by decide +kernel
theorem dX5_grease_6 : decode cX5_grease 6 = .ok (.aload_n 0, 1) := by decide +kernel
theorem dX5_grease_7 : decode cX5_grease 7 = .ok (.invokevirtual 131, 3) := by decide +kernel
theorem dX5_grease_10 : decode cX5_grease 10 = .ok (.ifCond .ne 13, 3) := by decide +kernel
theorem dX5_grease_13 : decode cX5_grease 13 = .ok (.new 56, 3) := by decide +kernel
theorem dX5_grease_16 : decode cX5_grease 16 = .ok (.dup, 1) := by decide +kernel
theorem dX5_grease_17 : decode cX5_grease 17 = .ok (.ldc 135, 2) := by decide +kernel
theorem dX5_grease_19 : decode cX5_grease 19 = .ok (.invokespecial 60, 3) := by decide +kernel
theorem dX5_grease_22 : decode cX5_grease 22 = .ok (.athrow, 1) := by decide +kernel
theorem dX5_grease_23 : decode cX5_grease 23 = .ok (.aload_n 0, 1) := by decide +kernel
theorem dX5_grease_24 : decode cX5_grease 24 = .ok (.getfield 19, 3) := by decide +kernel
theorem dX5_grease_27 : decode cX5_grease 27 = .ok (.aload_n 0, 1) := by decide +kernel
theorem dX5_grease_28 : decode cX5_grease 28 = .ok (.getfield 10, 3) := by decide +kernel
theorem dX5_grease_31 : decode cX5_grease 31 = .ok (.invokevirtual 61, 3) := by decide +kernel
theorem dX5_grease_34 : decode cX5_grease 34 = .ok (.aload_n 0, 1) := by decide +kernel
theorem dX5_grease_35 : decode cX5_grease 35 = .ok (.aload_n 2, 1) := by decide +kernel
theorem dX5_grease_36 : decode cX5_grease 36 = .ok (.invokevirtual 137, 3) := by decide +kernel
theorem dX5_grease_39 : decode cX5_grease 39 = .ok (.aload_n 0, 1) := by decide +kernel
theorem dX5_grease_40 : decode cX5_grease 40 = .ok (.getfield 10, 3) := by decide +kernel
theorem dX5_grease_43 : decode cX5_grease 43 = .ok (.getfield 52, 3) := by decide +kernel
theorem dX5_grease_46 : decode cX5_grease 46 = .ok (.ireturn, 1) := by decide +kernel
theorem dX5_mend_0 : decode cX5_mend 0 = .ok (.aload_n 0, 1) := by decide +kernel
theorem dX5_mend_1 : decode cX5_mend 1 = .ok (.iload_n 1, 1) := by decide +kernel
theorem dX5_mend_2 : decode cX5_mend 2 = .ok (.invokevirtual 65, 3) := by decide +kernel
theorem dX5_mend_5 : decode cX5_mend 5 = .ok (.astore_n 3, 1) := by decide +kernel
theorem dX5_mend_6 : decode cX5_mend 6 = .ok (.iload_n 2, 1) := by decide +kernel
theorem dX5_mend_7 : decode cX5_mend 7 = .ok (.invokestatic 141, 3) := by decide +kernel
theorem dX5_mend_10 : decode cX5_mend 10 = .ok (.aload_n 3, 1) := by decide +kernel
theorem dX5_mend_11 : decode cX5_mend 11 = .ok (.iload_n 2, 1) := by decide +kernel
theorem dX5_mend_12 : decode cX5_mend 12 = .ok (.invokevirtual 144, 3) := by decide +kernel
theorem dX5_mend_15 : decode cX5_mend 15 = .ok (.aload_n 0, 1) := by decide +kernel
theorem dX5_mend_16 : decode cX5_mend 16 = .ok (.getfield 10, 3) := by decide +kernel
theorem dX5_mend_19 : decode cX5_mend 19 = .ok (.getfield 84, 3) := by decide +kernel
theorem dX5_mend_22 : decode cX5_mend 22 = .ok (.getfield 147, 3) := by decide +kernel
theorem dX5_mend_25 : decode cX5_mend 25 = .ok (.imul, 1) := by decide +kernel
theorem dX5_mend_26 : decode cX5_mend 26 = .ok (.istore 4, 2) := by decide +kernel
theorem dX5_mend_28 : decode cX5_mend 28 = .ok (.aload_n 0, 1) := by decide +kernel
theorem dX5_mend_29 : decode cX5_mend 29 = .ok (.getfield 10, 3) := by decide +kernel
theorem dX5_mend_32 : decode cX5_mend 32 = .ok (.getfield 52, 3) := by decide +kernel
theorem dX5_mend_35 : decode cX5_mend 35 = .ok (.iload 4, 2) := by decide +kernel
theorem dX5_mend_37 : decode cX5_mend 37 = .ok (.if_icmp .ge 13, 3) := by decide +kernel
theorem dX5_mend_40 : decode cX5_mend 40 = .ok (.new 56, 3) := by decide +kernel
theorem dX5_mend_43 : decode cX5_mend 43 = .ok (.dup, 1) := by decide +kernel
theorem dX5_mend_44 : decode cX5_mend 44 = .ok (.ldc 150, 2) := by decide +kernel
theorem dX5_mend_46 : decode cX5_mend 46 = .ok (.invokespecial 60, 3) := by decide +kernel
theorem dX5_mend_49 : decode cX5_mend 49 = .ok (.athrow, 1) := by decide +kernel
theorem dX5_mend_50 : decode cX5_mend 50 = .ok (.aload_n 0, 1) := by decide +kernel
theorem dX5_mend_51 : decode cX5_mend 51 = .ok (.getfield 19, 3) := by decide +kernel
theorem dX5_mend_54 : decode cX5_mend 54 = .ok (.aload_n 0, 1) := by decide +kernel
theorem dX5_mend_55 : decode cX5_mend 55 = .ok (.getfield 10, 3) := by decide +kernel
theorem dX5_mend_58 : decode cX5_mend 58 = .ok (.invokevirtual 61, 3) := by decide +kernel
theorem dX5_mend_61 : decode cX5_mend 61 = .ok (.aload_n 0, 1) := by decide +kernel
theorem dX5_mend_62 : decode cX5_mend 62 = .ok (.getfield 10, 3) := by decide +kernel
theorem dX5_mend_65 : decode cX5_mend 65 = .ok (.iload 4, 2) := by decide +kernel
theorem dX5_mend_67 : decode cX5_mend 67 = .ok (.invokevirtual 152, 3) := by decide +kernel
theorem dX5_mend_70 : decode cX5_mend 70 = .ok (.aload_n 3, 1) := by decide +kernel
theorem dX5_mend_71 : decode cX5_mend 71 = .ok (.iload_n 2, 1) := by decide +kernel
theorem dX5_mend_72 : decode cX5_mend 72 = .ok (.iconst 0, 1) := by decide +kernel
theorem dX5_mend_73 : decode cX5_mend 73 = .ok (.invokevirtual 155, 3) := by decide +kernel
theorem dX5_mend_76 : decode cX5_mend 76 = .ok (.iload 4, 2) := by decide +kernel
theorem dX5_mend_78 : decode cX5_mend 78 = .ok (.ireturn, 1) := by decide +kernel
theorem dX5_axis_0 : decode cX5_axis 0 = .ok (.aload_n 0, 1) := by decide +kernel
theorem dX5_axis_1 : decode cX5_axis 1 = .ok (.iload_n 1, 1) := by decide +kernel
theorem dX5_axis_2 : decode cX5_axis 2 = .ok (.invokevirtual 65, 3) := by decide +kernel
theorem dX5_axis_5 : decode cX5_axis 5 = .ok (.astore_n 3, 1) := by decide +kernel
theorem dX5_axis_6 : decode cX5_axis 6 = .ok (.iload_n 2, 1) := by decide +kernel
theorem dX5_axis_7 : decode cX5_axis 7 = .ok (.ifCond .lt 9, 3) := by decide +kernel
theorem dX5_axis_10 : decode cX5_axis 10 = .ok (.iload_n 2, 1) := by decide +kernel
theorem dX5_axis_11 : decode cX5_axis 11 = .ok (.bipush 12, 2) := by decide +kernel
theorem dX5_axis_13 : decode cX5_axis 13 = .ok (.if_icmp .lt 13, 3) := by decide +kernel
theorem dX5_axis_16 : decode cX5_axis 16 = .ok (.new 45, 3) := by decide +kernel
theorem dX5_axis_19 : decode cX5_axis 19 = .ok (.dup, 1) := by decide +kernel
theorem dX5_axis_20 : decode cX5_axis 20 = .ok (.ldc 182, 2) := by decide +kernel
theorem dX5_axis_22 : decode cX5_axis 22 = .ok (.invokespecial 49, 3) := by decide +kernel
theorem dX5_axis_25 : decode cX5_axis 25 = .ok (.athrow, 1) := by decide +kernel
theorem dX5_axis_26 : decode cX5_axis 26 = .ok (.aload_n 3, 1) := by decide +kernel
theorem dX5_axis_27 : decode cX5_axis 27 = .ok (.iload_n 2, 1) := by decide +kernel
theorem dX5_axis_28 : decode cX5_axis 28 = .ok (.invokevirtual 184, 3) := by decide +kernel
theorem dX5_axis_31 : decode cX5_axis 31 = .ok (.ireturn, 1) := by decide +kernel
theorem dX5_wear_0 : decode cX5_wear 0 = .ok (.aload_n 0, 1) := by decide +kernel
theorem dX5_wear_1 : decode cX5_wear 1 = .ok (.iload_n 1, 1) := by decide +kernel
theorem dX5_wear_2 : decode cX5_wear 2 = .ok (.invokevirtual 65, 3) := by decide +kernel
theorem dX5_wear_5 : decode cX5_wear 5 = .ok (.astore_n 3, 1) := by decide +kernel
theorem dX5_wear_6 : decode cX5_wear 6 = .ok (.iload_n 2, 1) := by decide +kernel
theorem dX5_wear_7 : decode cX5_wear 7 = .ok (.invokestatic 141, 3) := by decide +kernel
theorem dX5_wear_10 : decode cX5_wear 10 = .ok (.aload_n 3, 1) := by decide +kernel
theorem dX5_wear_11 : decode cX5_wear 11 = .ok (.iload_n 2, 1) := by decide +kernel
theorem dX5_wear_12 : decode cX5_wear 12 = .ok (.invokevirtual 144, 3) := by decide +kernel
theorem dX5_wear_15 : decode cX5_wear 15 = .ok (.ireturn, 1) := by decide +kernel
theorem dX5_count_0 : decode cX5_count 0 = .ok (.iload_n 1, 1) := by decide +kernel
theorem dX5_count_1 : decode cX5_count 1 = .ok (.ifCond .lt 9, 3) := by decide +kernel
theorem dX5_count_4 : decode cX5_count 4 = .ok (.iload_n 1, 1) := by decide +kernel
theorem dX5_count_5 : decode cX5_count 5 = .ok (.bipush 9, 2) := by decide +kernel
theorem dX5_count_7 : decode cX5_count 7 = .ok (.if_icmp .lt 13, 3) := by decide +kernel
theorem dX5_count_10 : decode cX5_count 10 = .ok (.new 45, 3) := by decide +kernel
theorem dX5_count_13 : decode cX5_count 13 = .ok (.dup, 1) := by decide +kernel
theorem dX5_count_14 : decode cX5_count 14 = .ok (.ldc 187, 2) := by decide +kernel
theorem dX5_count_16 : decode cX5_count 16 = .ok (.invokespecial 49, 3) := by decide +kernel
theorem dX5_count_19 : decode cX5_count 19 = .ok (.athrow, 1) := by decide +kernel
theorem dX5_count_20 : decode cX5_count 20 = .ok (.aload_n 0, 1) := by decide +kernel
theorem dX5_count_21 : decode cX5_count 21 = .ok (.iload_n 1, 1) := by decide +kernel
theorem dX5_count_22 : decode cX5_count 22 = .ok (.invokevirtual 189, 3) := by decide +kernel
theorem dX5_count_25 : decode cX5_count 25 = .ok (.ireturn, 1) := by decide +kernel
theorem dX5_cost_0 : decode cX5_cost 0 = .ok (.aload_n 0, 1) := by decide +kernel
theorem dX5_cost_1 : decode cX5_cost 1 = .ok (.iload_n 1, 1) := by decide +kernel
theorem dX5_cost_2 : decode cX5_cost 2 = .ok (.invokevirtual 65, 3) := by decide +kernel
theorem dX5_cost_5 : decode cX5_cost 5 = .ok (.astore 4, 2) := by decide +kernel
theorem dX5_cost_7 : decode cX5_cost 7 = .ok (.iload_n 2, 1) := by decide +kernel
theorem dX5_cost_8 : decode cX5_cost 8 = .ok (.invokestatic 114, 3) := by decide +kernel
theorem dX5_cost_11 : decode cX5_cost 11 = .ok (.aload 4, 2) := by decide +kernel
theorem dX5_cost_13 : decode cX5_cost 13 = .ok (.iload_n 2, 1) := by decide +kernel
theorem dX5_cost_14 : decode cX5_cost 14 = .ok (.iload_n 3, 1) := by decide +kernel
theorem dX5_cost_15 : decode cX5_cost 15 = .ok (.invokestatic 100, 3) := by decide +kernel
theorem dX5_cost_18 : decode cX5_cost 18 = .ok (.iconst (-1), 1) := by decide +kernel
theorem dX5_cost_19 : decode cX5_cost 19 = .ok (.aload_n 0, 1) := by decide +kernel
theorem dX5_cost_20 : decode cX5_cost 20 = .ok (.getfield 10, 3) := by decide +kernel
theorem dX5_cost_23 : decode cX5_cost 23 = .ok (.getfield 84, 3) := by decide +kernel
theorem dX5_cost_26 : decode cX5_cost 26 = .ok (.invokevirtual 199, 3) := by decide +kernel
theorem dX5_cost_29 : decode cX5_cost 29 = .ok (.ireturn, 1) := by decide +kernel
theorem dX5_ifHomed_0 : decode cX5_ifHomed 0 = .ok (.aload_n 0, 1) := by decide +kernel
theorem dX5_ifHomed_1 : decode cX5_ifHomed 1 = .ok (.iload_n 1, 1) := by decide +kernel
theorem dX5_ifHomed_2 : decode cX5_ifHomed 2 = .ok (.invokevirtual 65, 3) := by decide +kernel
theorem dX5_ifHomed_5 : decode cX5_ifHomed 5 = .ok (.astore_n 3, 1) := by decide +kernel
theorem dX5_ifHomed_6 : decode cX5_ifHomed 6 = .ok (.iload_n 2, 1) := by decide +kernel
theorem dX5_ifHomed_7 : decode cX5_ifHomed 7 = .ok (.ifCond .lt 8, 3) := by decide +kernel
theorem dX5_ifHomed_10 : decode cX5_ifHomed 10 = .ok (.iload_n 2, 1) := by decide +kernel
theorem dX5_ifHomed_11 : decode cX5_ifHomed 11 = .ok (.iconst 3, 1) := by decide +kernel
theorem dX5_ifHomed_12 : decode cX5_ifHomed 12 = .ok (.if_icmp .lt 13, 3) := by decide +kernel
theorem dX5_ifHomed_15 : decode cX5_ifHomed 15 = .ok (.new 45, 3) := by decide +kernel
theorem dX5_ifHomed_18 : decode cX5_ifHomed 18 = .ok (.dup, 1) := by decide +kernel
theorem dX5_ifHomed_19 : decode cX5_ifHomed 19 = .ok (.ldc 203, 2) := by decide +kernel
theorem dX5_ifHomed_21 : decode cX5_ifHomed 21 = .ok (.invokespecial 49, 3) := by decide +kernel
theorem dX5_ifHomed_24 : decode cX5_ifHomed 24 = .ok (.athrow, 1) := by decide +kernel
theorem dX5_ifHomed_25 : decode cX5_ifHomed 25 = .ok (.aload_n 0, 1) := by decide +kernel
theorem dX5_ifHomed_26 : decode cX5_ifHomed 26 = .ok (.aload_n 3, 1) := by decide +kernel
theorem dX5_ifHomed_27 : decode cX5_ifHomed 27 = .ok (.iload_n 2, 1) := by decide +kernel
theorem dX5_ifHomed_28 : decode cX5_ifHomed 28 = .ok (.invokevirtual 205, 3) := by decide +kernel
theorem dX5_ifHomed_31 : decode cX5_ifHomed 31 = .ok (.ireturn, 1) := by decide +kernel
theorem dX5_gearOf_0 : decode cX5_gearOf 0 = .ok (.aload_n 0, 1) := by decide +kernel
theorem dX5_gearOf_1 : decode cX5_gearOf 1 = .ok (.getfield 10, 3) := by decide +kernel
theorem dX5_gearOf_4 : decode cX5_gearOf 4 = .ok (.iload_n 1, 1) := by decide +kernel
theorem dX5_gearOf_5 : decode cX5_gearOf 5 = .ok (.invokevirtual 226, 3) := by decide +kernel
theorem dX5_gearOf_8 : decode cX5_gearOf 8 = .ok (.astore_n 2, 1) := by decide +kernel
theorem dX5_gearOf_9 : decode cX5_gearOf 9 = .ok (.aload_n 2, 1) := by decide +kernel
theorem dX5_gearOf_10 : decode cX5_gearOf 10 = .ok (.ifnonnull 13, 3) := by decide +kernel
theorem dX5_gearOf_13 : decode cX5_gearOf 13 = .ok (.new 247, 3) := by decide +kernel
theorem dX5_gearOf_16 : decode cX5_gearOf 16 = .ok (.dup, 1) := by decide +kernel
theorem dX5_gearOf_17 : decode cX5_gearOf 17 = .ok (.ldc 249, 2) := by decide +kernel
theorem dX5_gearOf_19 : decode cX5_gearOf 19 = .ok (.invokespecial 251, 3) := by decide +kernel
theorem dX5_gearOf_22 : decode cX5_gearOf 22 = .ok (.athrow, 1) := by decide +kernel
theorem dX5_gearOf_23 : decode cX5_gearOf 23 = .ok (.aload_n 2, 1) := by decide +kernel
theorem dX5_gearOf_24 : decode cX5_gearOf 24 = .ok (.areturn, 1) := by decide +kernel
theorem dX5_checkSetting_0 : decode cX5_checkSetting 0 = .ok (.iload_n 0, 1) := by decide +kernel
theorem dX5_checkSetting_1 : decode cX5_checkSetting 1 = .ok (.ifCond .lt 9, 3) := by decide +kernel
theorem dX5_checkSetting_4 : decode cX5_checkSetting 4 = .ok (.iload_n 0, 1) := by decide +kernel
theorem dX5_checkSetting_5 : decode cX5_checkSetting 5 = .ok (.bipush 6, 2) := by decide +kernel
theorem dX5_checkSetting_7 : decode cX5_checkSetting 7 = .ok (.if_icmp .lt 13, 3) := by decide +kernel
theorem dX5_checkSetting_10 : decode cX5_checkSetting 10 = .ok (.new 247, 3) := by decide +kernel
theorem dX5_checkSetting_13 : decode cX5_checkSetting 13 = .ok (.dup, 1) := by decide +kernel
theorem dX5_checkSetting_14 : decode cX5_checkSetting 14 = .ok (.ldc 252, 2) := by decide +kernel
theorem dX5_checkSetting_16 : decode cX5_checkSetting 16 = .ok (.invokespecial 251, 3) := by decide +kernel
theorem dX5_checkSetting_19 : decode cX5_checkSetting 19 = .ok (.athrow, 1) := by decide +kernel
theorem dX5_checkSetting_20 : decode cX5_checkSetting 20 = .ok (.return_, 1) := by decide +kernel
theorem dX5_checkTooth_0 : decode cX5_checkTooth 0 = .ok (.iload_n 0, 1) := by decide +kernel
theorem dX5_checkTooth_1 : decode cX5_checkTooth 1 = .ok (.ifCond .lt 9, 3) := by decide +kernel
theorem dX5_checkTooth_4 : decode cX5_checkTooth 4 = .ok (.iload_n 0, 1) := by decide +kernel
theorem dX5_checkTooth_5 : decode cX5_checkTooth 5 = .ok (.bipush 24, 2) := by decide +kernel
theorem dX5_checkTooth_7 : decode cX5_checkTooth 7 = .ok (.if_icmp .lt 13, 3) := by decide +kernel
theorem dX5_checkTooth_10 : decode cX5_checkTooth 10 = .ok (.new 247, 3) := by decide +kernel
theorem dX5_checkTooth_13 : decode cX5_checkTooth 13 = .ok (.dup, 1) := by decide +kernel
theorem dX5_checkTooth_14 : decode cX5_checkTooth 14 = .ok (.ldc 254, 2) := by decide +kernel
theorem dX5_checkTooth_16 : decode cX5_checkTooth 16 = .ok (.invokespecial 251, 3) := by decide +kernel
theorem dX5_checkTooth_19 : decode cX5_checkTooth 19 = .ok (.athrow, 1) := by decide +kernel
theorem dX5_checkTooth_20 : decode cX5_checkTooth 20 = .ok (.return_, 1) := by decide +kernel
theorem dX5_checkPlace_0 : decode cX5_checkPlace 0 = .ok (.iload_n 0, 1) := by decide +kernel
theorem dX5_checkPlace_1 : decode cX5_checkPlace 1 = .ok (.ifCond .lt 9, 3) := by decide +kernel
theorem dX5_checkPlace_4 : decode cX5_checkPlace 4 = .ok (.iload_n 0, 1) := by decide +kernel
theorem dX5_checkPlace_5 : decode cX5_checkPlace 5 = .ok (.bipush 24, 2) := by decide +kernel
theorem dX5_checkPlace_7 : decode cX5_checkPlace 7 = .ok (.if_icmp .lt 14, 3) := by decide +kernel
theorem dX5_checkPlace_10 : decode cX5_checkPlace 10 = .ok (.new 45, 3) := by decide +kernel
theorem dX5_checkPlace_13 : decode cX5_checkPlace 13 = .ok (.dup, 1) := by decide +kernel
theorem dX5_checkPlace_14 : decode cX5_checkPlace 14 = .ok (.ldc_w 256, 3) := by decide +kernel
theorem dX5_checkPlace_17 : decode cX5_checkPlace 17 = .ok (.invokespecial 49, 3) := by decide +kernel
theorem dX5_checkPlace_20 : decode cX5_checkPlace 20 = .ok (.athrow, 1) := by decide +kernel
theorem dX5_checkPlace_21 : decode cX5_checkPlace 21 = .ok (.return_, 1) := by decide +kernel
theorem dX5_isValueOf_0 : decode cX5_isValueOf 0 = .ok (.iload_n 0, 1) := by decide +kernel
theorem dX5_isValueOf_1 : decode cX5_isValueOf 1 = .ok (.ifCond .lt 19, 3) := by decide +kernel
theorem dX5_isValueOf_4 : decode cX5_isValueOf 4 = .ok (.iload_n 0, 1) := by decide +kernel
theorem dX5_isValueOf_5 : decode cX5_isValueOf 5 = .ok (.getstatic 258, 3) := by decide +kernel
theorem dX5_isValueOf_8 : decode cX5_isValueOf 8 = .ok (.arraylength, 1) := by decide +kernel
theorem dX5_isValueOf_9 : decode cX5_isValueOf 9 = .ok (.if_icmp .ge 11, 3) := by decide +kernel
theorem dX5_isValueOf_12 : decode cX5_isValueOf 12 = .ok (.iload_n 0, 1) := by decide +kernel
theorem dX5_isValueOf_13 : decode cX5_isValueOf 13 = .ok (.getstatic 261, 3) := by decide +kernel
theorem dX5_isValueOf_16 : decode cX5_isValueOf 16 = .ok (.arraylength, 1) := by decide +kernel
theorem dX5_isValueOf_17 : decode cX5_isValueOf 17 = .ok (.if_icmp .lt 5, 3) := by decide +kernel
theorem dX5_isValueOf_20 : decode cX5_isValueOf 20 = .ok (.iconst 0, 1) := by decide +kernel
theorem dX5_isValueOf_21 : decode cX5_isValueOf 21 = .ok (.ireturn, 1) := by decide +kernel
theorem dX5_isValueOf_22 : decode cX5_isValueOf 22 = .ok (.iload_n 1, 1) := by decide +kernel
theorem dX5_isValueOf_23 : decode cX5_isValueOf 23 = .ok (.getstatic 258, 3) := by decide +kernel
theorem dX5_isValueOf_26 : decode cX5_isValueOf 26 = .ok (.iload_n 0, 1) := by decide +kernel
theorem dX5_isValueOf_27 : decode cX5_isValueOf 27 = .ok (.iaload, 1) := by decide +kernel
theorem dX5_isValueOf_28 : decode cX5_isValueOf 28 = .ok (.if_icmp .lt 16, 3) := by decide +kernel
theorem dX5_isValueOf_31 : decode cX5_isValueOf 31 = .ok (.iload_n 1, 1) := by decide +kernel
theorem dX5_isValueOf_32 : decode cX5_isValueOf 32 = .ok (.getstatic 261, 3) := by decide +kernel
theorem dX5_isValueOf_35 : decode cX5_isValueOf 35 = .ok (.iload_n 0, 1) := by decide +kernel
theorem dX5_isValueOf_36 : decode cX5_isValueOf 36 = .ok (.iaload, 1) := by decide +kernel
theorem dX5_isValueOf_37 : decode cX5_isValueOf 37 = .ok (.if_icmp .gt 7, 3) := by decide +kernel
theorem dX5_isValueOf_40 : decode cX5_isValueOf 40 = .ok (.iconst 1, 1) := by decide +kernel
theorem dX5_isValueOf_41 : decode cX5_isValueOf 41 = .ok (.goto 4, 3) := by decide +kernel
theorem dX5_isValueOf_44 : decode cX5_isValueOf 44 = .ok (.iconst 0, 1) := by decide +kernel
theorem dX5_isValueOf_45 : decode cX5_isValueOf 45 = .ok (.ireturn, 1) := by decide +kernel
theorem dX5_wayOf_0 : decode cX5_wayOf 0 = .ok (.iload_n 0, 1) := by decide +kernel
theorem dX5_wayOf_1 : decode cX5_wayOf 1 = .ok (.ifCond .eq 7, 3) := by decide +kernel
theorem dX5_wayOf_4 : decode cX5_wayOf 4 = .ok (.iconst 1, 1) := by decide +kernel
theorem dX5_wayOf_5 : decode cX5_wayOf 5 = .ok (.goto 4, 3) := by decide +kernel
theorem dX5_wayOf_8 : decode cX5_wayOf 8 = .ok (.iconst (-1), 1) := by decide +kernel
theorem dX5_wayOf_9 : decode cX5_wayOf 9 = .ok (.ireturn, 1) := by decide +kernel
theorem dX5_canStep_0 : decode cX5_canStep 0 = .ok (.aload_n 1, 1) := by decide +kernel
theorem dX5_canStep_1 : decode cX5_canStep 1 = .ok (.iload_n 2, 1) := by decide +kernel
theorem dX5_canStep_2 : decode cX5_canStep 2 = .ok (.aload_n 0, 1) := by decide +kernel
theorem dX5_canStep_3 : decode cX5_canStep 3 = .ok (.getfield 10, 3) := by decide +kernel
theorem dX5_canStep_6 : decode cX5_canStep 6 = .ok (.getfield 84, 3) := by decide +kernel
theorem dX5_canStep_9 : decode cX5_canStep 9 = .ok (.invokevirtual 192, 3) := by decide +kernel
theorem dX5_canStep_12 : decode cX5_canStep 12 = .ok (.aload_n 0, 1) := by decide +kernel
theorem dX5_canStep_13 : decode cX5_canStep 13 = .ok (.getfield 10, 3) := by decide +kernel
theorem dX5_canStep_16 : decode cX5_canStep 16 = .ok (.getfield 52, 3) := by decide +kernel
theorem dX5_canStep_19 : decode cX5_canStep 19 = .ok (.if_icmp .gt 7, 3) := by decide +kernel
theorem dX5_canStep_22 : decode cX5_canStep 22 = .ok (.iconst 1, 1) := by decide +kernel
theorem dX5_canStep_23 : decode cX5_canStep 23 = .ok (.goto 4, 3) := by decide +kernel
theorem dX5_canStep_26 : decode cX5_canStep 26 = .ok (.iconst 0, 1) := by decide +kernel
theorem dX5_canStep_27 : decode cX5_canStep 27 = .ok (.ireturn, 1) := by decide +kernel
theorem dX5_canGo_0 : decode cX5_canGo 0 = .ok (.aload_n 1, 1) := by decide +kernel
theorem dX5_canGo_1 : decode cX5_canGo 1 = .ok (.getfield 264, 3) := by decide +kernel
theorem dX5_canGo_4 : decode cX5_canGo 4 = .ok (.iload_n 2, 1) := by decide +kernel
theorem dX5_canGo_5 : decode cX5_canGo 5 = .ok (.if_icmp .eq 17, 3) := by decide +kernel
theorem dX5_canGo_8 : decode cX5_canGo 8 = .ok (.aload_n 0, 1) := by decide +kernel
theorem dX5_canGo_9 : decode cX5_canGo 9 = .ok (.aload_n 1, 1) := by decide +kernel
theorem dX5_canGo_10 : decode cX5_canGo 10 = .ok (.aload_n 0, 1) := by decide +kernel
