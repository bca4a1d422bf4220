theorem dX5_canGo_11 : decode cX5_canGo 11 = .ok (.aload_n 1, 1) := by decide +kernel
theorem dX5_canGo_12 : decode cX5_canGo 12 = .ok (.iload_n 2, 1) := by decide +kernel
theorem dX5_canGo_13 : decode cX5_canGo 13 = .ok (.invokevirtual 267, 3) := by decide +kernel
theorem dX5_canGo_16 : decode cX5_canGo 16 = .ok (.invokevirtual 104, 3) := by decide +kernel
theorem dX5_canGo_19 : decode cX5_canGo 19 = .ok (.ifCond .eq 7, 3) := by decide +kernel
theorem dX5_canGo_22 : decode cX5_canGo 22 = .ok (.iconst 1, 1) := by decide +kernel
theorem dX5_canGo_23 : decode cX5_canGo 23 = .ok (.goto 4, 3) := by decide +kernel
theorem dX5_canGo_26 : decode cX5_canGo 26 = .ok (.iconst 0, 1) := by decide +kernel
theorem dX5_canGo_27 : decode cX5_canGo 27 = .ok (.ireturn, 1) := by decide +kernel
theorem dX5_canGrease_0 : decode cX5_canGrease 0 = .ok (.aload_n 0, 1) := by decide +kernel
theorem dX5_canGrease_1 : decode cX5_canGrease 1 = .ok (.getfield 10, 3) := by decide +kernel
theorem dX5_canGrease_4 : decode cX5_canGrease 4 = .ok (.getfield 52, 3) := by decide +kernel
theorem dX5_canGrease_7 : decode cX5_canGrease 7 = .ok (.aload_n 0, 1) := by decide +kernel
theorem dX5_canGrease_8 : decode cX5_canGrease 8 = .ok (.getfield 10, 3) := by decide +kernel
theorem dX5_canGrease_11 : decode cX5_canGrease 11 = .ok (.getfield 84, 3) := by decide +kernel
theorem dX5_canGrease_14 : decode cX5_canGrease 14 = .ok (.getfield 270, 3) := by decide +kernel
theorem dX5_canGrease_17 : decode cX5_canGrease 17 = .ok (.if_icmp .lt 7, 3) := by decide +kernel
theorem dX5_canGrease_20 : decode cX5_canGrease 20 = .ok (.iconst 1, 1) := by decide +kernel
theorem dX5_canGrease_21 : decode cX5_canGrease 21 = .ok (.goto 4, 3) := by decide +kernel
theorem dX5_canGrease_24 : decode cX5_canGrease 24 = .ok (.iconst 0, 1) := by decide +kernel
theorem dX5_canGrease_25 : decode cX5_canGrease 25 = .ok (.ireturn, 1) := by decide +kernel
theorem dX5_makeSteps_0 : decode cX5_makeSteps 0 = .ok (.iconst 0, 1) := by decide +kernel
theorem dX5_makeSteps_1 : decode cX5_makeSteps 1 = .ok (.istore 4, 2) := by decide +kernel
theorem dX5_makeSteps_3 : decode cX5_makeSteps 3 = .ok (.iload 4, 2) := by decide +kernel
theorem dX5_makeSteps_5 : decode cX5_makeSteps 5 = .ok (.iload_n 3, 1) := by decide +kernel
theorem dX5_makeSteps_6 : decode cX5_makeSteps 6 = .ok (.if_icmp .ge 52, 3) := by decide +kernel
theorem dX5_makeSteps_9 : decode cX5_makeSteps 9 = .ok (.aload_n 1, 1) := by decide +kernel
theorem dX5_makeSteps_10 : decode cX5_makeSteps 10 = .ok (.iload_n 2, 1) := by decide +kernel
theorem dX5_makeSteps_11 : decode cX5_makeSteps 11 = .ok (.aload_n 0, 1) := by decide +kernel
theorem dX5_makeSteps_12 : decode cX5_makeSteps 12 = .ok (.getfield 10, 3) := by decide +kernel
theorem dX5_makeSteps_15 : decode cX5_makeSteps 15 = .ok (.getfield 52, 3) := by decide +kernel
theorem dX5_makeSteps_18 : decode cX5_makeSteps 18 = .ok (.aload_n 0, 1) := by decide +kernel
theorem dX5_makeSteps_19 : decode cX5_makeSteps 19 = .ok (.getfield 10, 3) := by decide +kernel
theorem dX5_makeSteps_22 : decode cX5_makeSteps 22 = .ok (.getfield 84, 3) := by decide +kernel
theorem dX5_makeSteps_25 : decode cX5_makeSteps 25 = .ok (.invokevirtual 273, 3) := by decide +kernel
theorem dX5_makeSteps_28 : decode cX5_makeSteps 28 = .ok (.istore 5, 2) := by decide +kernel
theorem dX5_makeSteps_30 : decode cX5_makeSteps 30 = .ok (.iload 5, 2) := by decide +kernel
theorem dX5_makeSteps_32 : decode cX5_makeSteps 32 = .ok (.ifCond .ne 6, 3) := by decide +kernel
theorem dX5_makeSteps_35 : decode cX5_makeSteps 35 = .ok (.goto 23, 3) := by decide +kernel
theorem dX5_makeSteps_38 : decode cX5_makeSteps 38 = .ok (.aload_n 0, 1) := by decide +kernel
theorem dX5_makeSteps_39 : decode cX5_makeSteps 39 = .ok (.getfield 10, 3) := by decide +kernel
theorem dX5_makeSteps_42 : decode cX5_makeSteps 42 = .ok (.dup, 1) := by decide +kernel
theorem dX5_makeSteps_43 : decode cX5_makeSteps 43 = .ok (.getfield 52, 3) := by decide +kernel
theorem dX5_makeSteps_46 : decode cX5_makeSteps 46 = .ok (.iload 5, 2) := by decide +kernel
theorem dX5_makeSteps_48 : decode cX5_makeSteps 48 = .ok (.isub, 1) := by decide +kernel
theorem dX5_makeSteps_49 : decode cX5_makeSteps 49 = .ok (.putfield 52, 3) := by decide +kernel
theorem dX5_makeSteps_52 : decode cX5_makeSteps 52 = .ok (.iinc 4 1, 3) := by decide +kernel
theorem dX5_makeSteps_55 : decode cX5_makeSteps 55 = .ok (.goto (-52), 3) := by decide +kernel
theorem dX5_makeSteps_58 : decode cX5_makeSteps 58 = .ok (.iload 4, 2) := by decide +kernel
theorem dX5_makeSteps_60 : decode cX5_makeSteps 60 = .ok (.ireturn, 1) := by decide +kernel
theorem dX5_goTo_0 : decode cX5_goTo 0 = .ok (.aload_n 0, 1) := by decide +kernel
theorem dX5_goTo_1 : decode cX5_goTo 1 = .ok (.aload_n 1, 1) := by decide +kernel
theorem dX5_goTo_2 : decode cX5_goTo 2 = .ok (.iload_n 2, 1) := by decide +kernel
theorem dX5_goTo_3 : decode cX5_goTo 3 = .ok (.invokevirtual 267, 3) := by decide +kernel
theorem dX5_goTo_6 : decode cX5_goTo 6 = .ok (.istore_n 3, 1) := by decide +kernel
theorem dX5_goTo_7 : decode cX5_goTo 7 = .ok (.iconst 0, 1) := by decide +kernel
theorem dX5_goTo_8 : decode cX5_goTo 8 = .ok (.istore 4, 2) := by decide +kernel
theorem dX5_goTo_10 : decode cX5_goTo 10 = .ok (.iconst 0, 1) := by decide +kernel
theorem dX5_goTo_11 : decode cX5_goTo 11 = .ok (.istore 5, 2) := by decide +kernel
theorem dX5_goTo_13 : decode cX5_goTo 13 = .ok (.iload 5, 2) := by decide +kernel
theorem dX5_goTo_15 : decode cX5_goTo 15 = .ok (.bipush 24, 2) := by decide +kernel
theorem dX5_goTo_17 : decode cX5_goTo 17 = .ok (.if_icmp .ge 67, 3) := by decide +kernel
theorem dX5_goTo_20 : decode cX5_goTo 20 = .ok (.aload_n 1, 1) := by decide +kernel
theorem dX5_goTo_21 : decode cX5_goTo 21 = .ok (.getfield 264, 3) := by decide +kernel
theorem dX5_goTo_24 : decode cX5_goTo 24 = .ok (.iload_n 2, 1) := by decide +kernel
theorem dX5_goTo_25 : decode cX5_goTo 25 = .ok (.if_icmp .eq 59, 3) := by decide +kernel
theorem dX5_goTo_28 : decode cX5_goTo 28 = .ok (.aload_n 1, 1) := by decide +kernel
theorem dX5_goTo_29 : decode cX5_goTo 29 = .ok (.iload_n 3, 1) := by decide +kernel
theorem dX5_goTo_30 : decode cX5_goTo 30 = .ok (.aload_n 0, 1) := by decide +kernel
theorem dX5_goTo_31 : decode cX5_goTo 31 = .ok (.getfield 10, 3) := by decide +kernel
theorem dX5_goTo_34 : decode cX5_goTo 34 = .ok (.getfield 52, 3) := by decide +kernel
theorem dX5_goTo_37 : decode cX5_goTo 37 = .ok (.aload_n 0, 1) := by decide +kernel
theorem dX5_goTo_38 : decode cX5_goTo 38 = .ok (.getfield 10, 3) := by decide +kernel
theorem dX5_goTo_41 : decode cX5_goTo 41 = .ok (.getfield 84, 3) := by decide +kernel
theorem dX5_goTo_44 : decode cX5_goTo 44 = .ok (.invokevirtual 273, 3) := by decide +kernel
theorem dX5_goTo_47 : decode cX5_goTo 47 = .ok (.istore 6, 2) := by decide +kernel
theorem dX5_goTo_49 : decode cX5_goTo 49 = .ok (.iload 6, 2) := by decide +kernel
theorem dX5_goTo_51 : decode cX5_goTo 51 = .ok (.ifCond .ne 6, 3) := by decide +kernel
theorem dX5_goTo_54 : decode cX5_goTo 54 = .ok (.goto 30, 3) := by decide +kernel
theorem dX5_goTo_57 : decode cX5_goTo 57 = .ok (.aload_n 0, 1) := by decide +kernel
theorem dX5_goTo_58 : decode cX5_goTo 58 = .ok (.getfield 10, 3) := by decide +kernel
theorem dX5_goTo_61 : decode cX5_goTo 61 = .ok (.dup, 1) := by decide +kernel
theorem dX5_goTo_62 : decode cX5_goTo 62 = .ok (.getfield 52, 3) := by decide +kernel
theorem dX5_goTo_65 : decode cX5_goTo 65 = .ok (.iload 6, 2) := by decide +kernel
theorem dX5_goTo_67 : decode cX5_goTo 67 = .ok (.isub, 1) := by decide +kernel
theorem dX5_goTo_68 : decode cX5_goTo 68 = .ok (.putfield 52, 3) := by decide +kernel
theorem dX5_goTo_71 : decode cX5_goTo 71 = .ok (.iload 4, 2) := by decide +kernel
theorem dX5_goTo_73 : decode cX5_goTo 73 = .ok (.iload 6, 2) := by decide +kernel
theorem dX5_goTo_75 : decode cX5_goTo 75 = .ok (.iadd, 1) := by decide +kernel
theorem dX5_goTo_76 : decode cX5_goTo 76 = .ok (.istore 4, 2) := by decide +kernel
theorem dX5_goTo_78 : decode cX5_goTo 78 = .ok (.iinc 5 1, 3) := by decide +kernel
theorem dX5_goTo_81 : decode cX5_goTo 81 = .ok (.goto (-68), 3) := by decide +kernel
theorem dX5_goTo_84 : decode cX5_goTo 84 = .ok (.iload 4, 2) := by decide +kernel
theorem dX5_goTo_86 : decode cX5_goTo 86 = .ok (.ireturn, 1) := by decide +kernel
theorem dX5_makeHomed_0 : decode cX5_makeHomed 0 = .ok (.aload_n 1, 1) := by decide +kernel
theorem dX5_makeHomed_1 : decode cX5_makeHomed 1 = .ok (.getfield 277, 3) := by decide +kernel
theorem dX5_makeHomed_4 : decode cX5_makeHomed 4 = .ok (.istore_n 2, 1) := by decide +kernel
theorem dX5_makeHomed_5 : decode cX5_makeHomed 5 = .ok (.aload_n 0, 1) := by decide +kernel
theorem dX5_makeHomed_6 : decode cX5_makeHomed 6 = .ok (.getfield 10, 3) := by decide +kernel
theorem dX5_makeHomed_9 : decode cX5_makeHomed 9 = .ok (.dup, 1) := by decide +kernel
theorem dX5_makeHomed_10 : decode cX5_makeHomed 10 = .ok (.getfield 52, 3) := by decide +kernel
theorem dX5_makeHomed_13 : decode cX5_makeHomed 13 = .ok (.aload_n 1, 1) := by decide +kernel
theorem dX5_makeHomed_14 : decode cX5_makeHomed 14 = .ok (.aload_n 0, 1) := by decide +kernel
theorem dX5_makeHomed_15 : decode cX5_makeHomed 15 = .ok (.getfield 10, 3) := by decide +kernel
theorem dX5_makeHomed_18 : decode cX5_makeHomed 18 = .ok (.getfield 52, 3) := by decide +kernel
theorem dX5_makeHomed_21 : decode cX5_makeHomed 21 = .ok (.aload_n 0, 1) := by decide +kernel
theorem dX5_makeHomed_22 : decode cX5_makeHomed 22 = .ok (.getfield 10, 3) := by decide +kernel
theorem dX5_makeHomed_25 : decode cX5_makeHomed 25 = .ok (.getfield 84, 3) := by decide +kernel
theorem dX5_makeHomed_28 : decode cX5_makeHomed 28 = .ok (.invokevirtual 280, 3) := by decide +kernel
theorem dX5_makeHomed_31 : decode cX5_makeHomed 31 = .ok (.isub, 1) := by decide +kernel
theorem dX5_makeHomed_32 : decode cX5_makeHomed 32 = .ok (.putfield 52, 3) := by decide +kernel
theorem dX5_makeHomed_35 : decode cX5_makeHomed 35 = .ok (.aload_n 1, 1) := by decide +kernel
theorem dX5_makeHomed_36 : decode cX5_makeHomed 36 = .ok (.getfield 277, 3) := by decide +kernel
theorem dX5_makeHomed_39 : decode cX5_makeHomed 39 = .ok (.iload_n 2, 1) := by decide +kernel
theorem dX5_makeHomed_40 : decode cX5_makeHomed 40 = .ok (.if_icmp .le 7, 3) := by decide +kernel
theorem dX5_makeHomed_43 : decode cX5_makeHomed 43 = .ok (.iconst 1, 1) := by decide +kernel
theorem dX5_makeHomed_44 : decode cX5_makeHomed 44 = .ok (.goto 4, 3) := by decide +kernel
theorem dX5_makeHomed_47 : decode cX5_makeHomed 47 = .ok (.iconst 0, 1) := by decide +kernel
theorem dX5_makeHomed_48 : decode cX5_makeHomed 48 = .ok (.ireturn, 1) := by decide +kernel
theorem dX5_makeGreased_0 : decode cX5_makeGreased 0 = .ok (.aload_n 0, 1) := by decide +kernel
theorem dX5_makeGreased_1 : decode cX5_makeGreased 1 = .ok (.getfield 10, 3) := by decide +kernel
theorem dX5_makeGreased_4 : decode cX5_makeGreased 4 = .ok (.aload_n 0, 1) := by decide +kernel
theorem dX5_makeGreased_5 : decode cX5_makeGreased 5 = .ok (.getfield 10, 3) := by decide +kernel
theorem dX5_makeGreased_8 : decode cX5_makeGreased 8 = .ok (.getfield 84, 3) := by decide +kernel
theorem dX5_makeGreased_11 : decode cX5_makeGreased 11 = .ok (.getfield 270, 3) := by decide +kernel
theorem dX5_makeGreased_14 : decode cX5_makeGreased 14 = .ok (.invokevirtual 152, 3) := by decide +kernel
theorem dX5_makeGreased_17 : decode cX5_makeGreased 17 = .ok (.aload_n 1, 1) := by decide +kernel
theorem dX5_makeGreased_18 : decode cX5_makeGreased 18 = .ok (.aload_n 0, 1) := by decide +kernel
theorem dX5_makeGreased_19 : decode cX5_makeGreased 19 = .ok (.getfield 10, 3) := by decide +kernel
theorem dX5_makeGreased_22 : decode cX5_makeGreased 22 = .ok (.getfield 84, 3) := by decide +kernel
theorem dX5_makeGreased_25 : decode cX5_makeGreased 25 = .ok (.getfield 282, 3) := by decide +kernel
theorem dX5_makeGreased_28 : decode cX5_makeGreased 28 = .ok (.putfield 285, 3) := by decide +kernel
theorem dX5_makeGreased_31 : decode cX5_makeGreased 31 = .ok (.return_, 1) := by decide +kernel
theorem dX5_cheaperWay_0 : decode cX5_cheaperWay 0 = .ok (.aload_n 1, 1) := by decide +kernel
theorem dX5_cheaperWay_1 : decode cX5_cheaperWay 1 = .ok (.iload_n 2, 1) := by decide +kernel
theorem dX5_cheaperWay_2 : decode cX5_cheaperWay 2 = .ok (.iconst 1, 1) := by decide +kernel
theorem dX5_cheaperWay_3 : decode cX5_cheaperWay 3 = .ok (.iconst (-1), 1) := by decide +kernel
theorem dX5_cheaperWay_4 : decode cX5_cheaperWay 4 = .ok (.aload_n 0, 1) := by decide +kernel
theorem dX5_cheaperWay_5 : decode cX5_cheaperWay 5 = .ok (.getfield 10, 3) := by decide +kernel
theorem dX5_cheaperWay_8 : decode cX5_cheaperWay 8 = .ok (.getfield 84, 3) := by decide +kernel
theorem dX5_cheaperWay_11 : decode cX5_cheaperWay 11 = .ok (.invokevirtual 199, 3) := by decide +kernel
theorem dX5_cheaperWay_14 : decode cX5_cheaperWay 14 = .ok (.istore_n 3, 1) := by decide +kernel
theorem dX5_cheaperWay_15 : decode cX5_cheaperWay 15 = .ok (.aload_n 1, 1) := by decide +kernel
theorem dX5_cheaperWay_16 : decode cX5_cheaperWay 16 = .ok (.iload_n 2, 1) := by decide +kernel
theorem dX5_cheaperWay_17 : decode cX5_cheaperWay 17 = .ok (.iconst (-1), 1) := by decide +kernel
theorem dX5_cheaperWay_18 : decode cX5_cheaperWay 18 = .ok (.iconst (-1), 1) := by decide +kernel
theorem dX5_cheaperWay_19 : decode cX5_cheaperWay 19 = .ok (.aload_n 0, 1) := by decide +kernel
theorem dX5_cheaperWay_20 : decode cX5_cheaperWay 20 = .ok (.getfield 10, 3) := by decide +kernel
theorem dX5_cheaperWay_23 : decode cX5_cheaperWay 23 = .ok (.getfield 84, 3) := by decide +kernel
theorem dX5_cheaperWay_26 : decode cX5_cheaperWay 26 = .ok (.invokevirtual 199, 3) := by decide +kernel
theorem dX5_cheaperWay_29 : decode cX5_cheaperWay 29 = .ok (.istore 4, 2) := by decide +kernel
theorem dX5_cheaperWay_31 : decode cX5_cheaperWay 31 = .ok (.iload_n 3, 1) := by decide +kernel
theorem dX5_cheaperWay_32 : decode cX5_cheaperWay 32 = .ok (.iload 4, 2) := by decide +kernel
theorem dX5_cheaperWay_34 : decode cX5_cheaperWay 34 = .ok (.if_icmp .gt 7, 3) := by decide +kernel
theorem dX5_cheaperWay_37 : decode cX5_cheaperWay 37 = .ok (.iconst 1, 1) := by decide +kernel
theorem dX5_cheaperWay_38 : decode cX5_cheaperWay 38 = .ok (.goto 4, 3) := by decide +kernel
theorem dX5_cheaperWay_41 : decode cX5_cheaperWay 41 = .ok (.iconst (-1), 1) := by decide +kernel
theorem dX5_cheaperWay_42 : decode cX5_cheaperWay 42 = .ok (.ireturn, 1) := by decide +kernel
theorem dX5_countOf_0 : decode cX5_countOf 0 = .ok (.iload_n 1, 1) := by decide +kernel
theorem dX5_countOf_1 : decode cX5_countOf 1 = .ok (.tableswitch 127 0 7 #[47, 55, 65, 75, 85, 93, 101, 119], 47) := by decide +kernel
theorem dX5_countOf_48 : decode cX5_countOf 48 = .ok (.aload_n 0, 1) := by decide +kernel
theorem dX5_countOf_49 : decode cX5_countOf 49 = .ok (.getfield 10, 3) := by decide +kernel
theorem dX5_countOf_52 : decode cX5_countOf 52 = .ok (.getfield 52, 3) := by decide +kernel
theorem dX5_countOf_55 : decode cX5_countOf 55 = .ok (.ireturn, 1) := by decide +kernel
theorem dX5_countOf_56 : decode cX5_countOf 56 = .ok (.aload_n 0, 1) := by decide +kernel
theorem dX5_countOf_57 : decode cX5_countOf 57 = .ok (.getfield 10, 3) := by decide +kernel
theorem dX5_countOf_60 : decode cX5_countOf 60 = .ok (.bipush 6, 2) := by decide +kernel
theorem dX5_countOf_62 : decode cX5_countOf 62 = .ok (.invokevirtual 217, 3) := by decide +kernel
theorem dX5_countOf_65 : decode cX5_countOf 65 = .ok (.ireturn, 1) := by decide +kernel
theorem dX5_countOf_66 : decode cX5_countOf 66 = .ok (.aload_n 0, 1) := by decide +kernel
theorem dX5_countOf_67 : decode cX5_countOf 67 = .ok (.getfield 10, 3) := by decide +kernel
theorem dX5_countOf_70 : decode cX5_countOf 70 = .ok (.bipush 8, 2) := by decide +kernel
theorem dX5_countOf_72 : decode cX5_countOf 72 = .ok (.invokevirtual 217, 3) := by decide +kernel
theorem dX5_countOf_75 : decode cX5_countOf 75 = .ok (.ireturn, 1) := by decide +kernel
theorem dX5_countOf_76 : decode cX5_countOf 76 = .ok (.aload_n 0, 1) := by decide +kernel
theorem dX5_countOf_77 : decode cX5_countOf 77 = .ok (.getfield 10, 3) := by decide +kernel
theorem dX5_countOf_80 : decode cX5_countOf 80 = .ok (.bipush 7, 2) := by decide +kernel
theorem dX5_countOf_82 : decode cX5_countOf 82 = .ok (.invokevirtual 217, 3) := by decide +kernel
theorem dX5_countOf_85 : decode cX5_countOf 85 = .ok (.ireturn, 1) := by decide +kernel
theorem dX5_countOf_86 : decode cX5_countOf 86 = .ok (.aload_n 0, 1) := by decide +kernel
theorem dX5_countOf_87 : decode cX5_countOf 87 = .ok (.getfield 10, 3) := by decide +kernel
theorem dX5_countOf_90 : decode cX5_countOf 90 = .ok (.getfield 310, 3) := by decide +kernel
theorem dX5_countOf_93 : decode cX5_countOf 93 = .ok (.ireturn, 1) := by decide +kernel
theorem dX5_countOf_94 : decode cX5_countOf 94 = .ok (.aload_n 0, 1) := by decide +kernel
theorem dX5_countOf_95 : decode cX5_countOf 95 = .ok (.getfield 10, 3) := by decide +kernel
theorem dX5_countOf_98 : decode cX5_countOf 98 = .ok (.invokevirtual 313, 3) := by decide +kernel
theorem dX5_countOf_101 : decode cX5_countOf 101 = .ok (.ireturn, 1) := by decide +kernel
theorem dX5_countOf_102 : decode cX5_countOf 102 = .ok (.aload_n 0, 1) := by decide +kernel
theorem dX5_countOf_103 : decode cX5_countOf 103 = .ok (.getfield 10, 3) := by decide +kernel
theorem dX5_countOf_106 : decode cX5_countOf 106 = .ok (.aload_n 0, 1) := by decide +kernel
theorem dX5_countOf_107 : decode cX5_countOf 107 = .ok (.getfield 10, 3) := by decide +kernel
theorem dX5_countOf_110 : decode cX5_countOf 110 = .ok (.getfield 84, 3) := by decide +kernel
theorem dX5_countOf_113 : decode cX5_countOf 113 = .ok (.getfield 316, 3) := by decide +kernel
theorem dX5_countOf_116 : decode cX5_countOf 116 = .ok (.invokevirtual 319, 3) := by decide +kernel
theorem dX5_countOf_119 : decode cX5_countOf 119 = .ok (.ireturn, 1) := by decide +kernel
theorem dX5_countOf_120 : decode cX5_countOf 120 = .ok (.aload_n 0, 1) := by decide +kernel
theorem dX5_countOf_121 : decode cX5_countOf 121 = .ok (.getfield 10, 3) := by decide +kernel
theorem dX5_countOf_124 : decode cX5_countOf 124 = .ok (.invokevirtual 322, 3) := by decide +kernel
theorem dX5_countOf_127 : decode cX5_countOf 127 = .ok (.ireturn, 1) := by decide +kernel
theorem dX5_countOf_128 : decode cX5_countOf 128 = .ok (.aload_n 0, 1) := by decide +kernel
theorem dX5_countOf_129 : decode cX5_countOf 129 = .ok (.getfield 19, 3) := by decide +kernel
theorem dX5_countOf_132 : decode cX5_countOf 132 = .ok (.getfield 174, 3) := by decide +kernel
theorem dX5_countOf_135 : decode cX5_countOf 135 = .ok (.ireturn, 1) := by decide +kernel
theorem dX5_homingFact_0 : decode cX5_homingFact 0 = .ok (.aload_n 0, 1) := by decide +kernel
theorem dX5_homingFact_1 : decode cX5_homingFact 1 = .ok (.getfield 26, 3) := by decide +kernel
theorem dX5_homingFact_4 : decode cX5_homingFact 4 = .ok (.aload_n 1, 1) := by decide +kernel
theorem dX5_homingFact_5 : decode cX5_homingFact 5 = .ok (.invokevirtual 335, 3) := by decide +kernel
theorem dX5_homingFact_8 : decode cX5_homingFact 8 = .ok (.aload_n 0, 1) := by decide +kernel
theorem dX5_homingFact_9 : decode cX5_homingFact 9 = .ok (.getfield 26, 3) := by decide +kernel
theorem dX5_homingFact_12 : decode cX5_homingFact 12 = .ok (.aload_n 0, 1) := by decide +kernel
theorem dX5_homingFact_13 : decode cX5_homingFact 13 = .ok (.getfield 10, 3) := by decide +kernel
theorem dX5_homingFact_16 : decode cX5_homingFact 16 = .ok (.getfield 52, 3) := by decide +kernel
theorem dX5_homingFact_19 : decode cX5_homingFact 19 = .ok (.aload_n 0, 1) := by decide +kernel
theorem dX5_homingFact_20 : decode cX5_homingFact 20 = .ok (.getfield 10, 3) := by decide +kernel
theorem dX5_homingFact_23 : decode cX5_homingFact 23 = .ok (.getfield 84, 3) := by decide +kernel
theorem dX5_homingFact_26 : decode cX5_homingFact 26 = .ok (.invokevirtual 280, 3) := by decide +kernel
theorem dX5_homingFact_29 : decode cX5_homingFact 29 = .ok (.istore_n 3, 1) := by decide +kernel
theorem dX5_homingFact_30 : decode cX5_homingFact 30 = .ok (.iload_n 2, 1) := by decide +kernel
theorem dX5_homingFact_31 : decode cX5_homingFact 31 = .ok (.lookupswitch 40 #[(0, 25), (1, 38)], 25) := by decide +kernel
theorem dX5_homingFact_56 : decode cX5_homingFact 56 = .ok (.aload_n 0, 1) := by decide +kernel
theorem dX5_homingFact_57 : decode cX5_homingFact 57 = .ok (.getfield 26, 3) := by decide +kernel
theorem dX5_homingFact_60 : decode cX5_homingFact 60 = .ok (.getfield 124, 3) := by decide +kernel
theorem dX5_homingFact_63 : decode cX5_homingFact 63 = .ok (.aload_n 1, 1) := by decide +kernel
theorem dX5_homingFact_64 : decode cX5_homingFact 64 = .ok (.getfield 124, 3) := by decide +kernel
theorem dX5_homingFact_67 : decode cX5_homingFact 67 = .ok (.isub, 1) := by decide +kernel
theorem dX5_homingFact_68 : decode cX5_homingFact 68 = .ok (.ireturn, 1) := by decide +kernel
theorem dX5_homingFact_69 : decode cX5_homingFact 69 = .ok (.iload_n 3, 1) := by decide +kernel
theorem dX5_homingFact_70 : decode cX5_homingFact 70 = .ok (.ireturn, 1) := by decide +kernel
theorem dX5_homingFact_71 : decode cX5_homingFact 71 = .ok (.aload_n 0, 1) := by decide +kernel
theorem dX5_homingFact_72 : decode cX5_homingFact 72 = .ok (.getfield 26, 3) := by decide +kernel
theorem dX5_homingFact_75 : decode cX5_homingFact 75 = .ok (.getfield 277, 3) := by decide +kernel
theorem dX5_homingFact_78 : decode cX5_homingFact 78 = .ok (.aload_n 1, 1) := by decide +kernel
theorem dX5_homingFact_79 : decode cX5_homingFact 79 = .ok (.getfield 277, 3) := by decide +kernel
theorem dX5_homingFact_82 : decode cX5_homingFact 82 = .ok (.isub, 1) := by decide +kernel
theorem dX5_homingFact_83 : decode cX5_homingFact 83 = .ok (.ireturn, 1) := by decide +kernel
theorem dJ9_floorMod_7cf53_0 : decode cJ9_floorMod_7cf53 0 = .ok (.iload_n 0, 1) := by decide +kernel
theorem dJ9_floorMod_7cf53_1 : decode cJ9_floorMod_7cf53 1 = .ok (.iload_n 1, 1) := by decide +kernel
theorem dJ9_floorMod_7cf53_2 : decode cJ9_floorMod_7cf53 2 = .ok (.irem, 1) := by decide +kernel
theorem dJ9_floorMod_7cf53_3 : decode cJ9_floorMod_7cf53 3 = .ok (.istore_n 2, 1) := by decide +kernel
theorem dJ9_floorMod_7cf53_4 : decode cJ9_floorMod_7cf53 4 = .ok (.iload_n 0, 1) := by decide +kernel
theorem dJ9_floorMod_7cf53_5 : decode cJ9_floorMod_7cf53 5 = .ok (.iload_n 1, 1) := by decide +kernel
theorem dJ9_floorMod_7cf53_6 : decode cJ9_floorMod_7cf53 6 = .ok (.ixor, 1) := by decide +kernel
theorem dJ9_floorMod_7cf53_7 : decode cJ9_floorMod_7cf53 7 = .ok (.ifCond .ge 11, 3) := by decide +kernel
theorem dJ9_floorMod_7cf53_10 : decode cJ9_floorMod_7cf53 10 = .ok (.iload_n 2, 1) := by decide +kernel
theorem dJ9_floorMod_7cf53_11 : decode cJ9_floorMod_7cf53 11 = .ok (.ifCond .eq 7, 3) := by decide +kernel
theorem dJ9_floorMod_7cf53_14 : decode cJ9_floorMod_7cf53 14 = .ok (.iload_n 2, 1) := by decide +kernel
theorem dJ9_floorMod_7cf53_15 : decode cJ9_floorMod_7cf53 15 = .ok (.iload_n 1, 1) := by decide +kernel
theorem dJ9_floorMod_7cf53_16 : decode cJ9_floorMod_7cf53 16 = .ok (.iadd, 1) := by decide +kernel
theorem dJ9_floorMod_7cf53_17 : decode cJ9_floorMod_7cf53 17 = .ok (.ireturn, 1) := by decide +kernel
theorem dJ9_floorMod_7cf53_18 : decode cJ9_floorMod_7cf53 18 = .ok (.iload_n 2, 1) := by decide +kernel
theorem dJ9_floorMod_7cf53_19 : decode cJ9_floorMod_7cf53 19 = .ok (.ireturn, 1) := by decide +kernel
theorem dJ9_max_7cf53_0 : decode cJ9_max_7cf53 0 = .ok (.iload_n 0, 1) := by decide +kernel
theorem dJ9_max_7cf53_1 : decode cJ9_max_7cf53 1 = .ok (.iload_n 1, 1) := by decide +kernel
theorem dJ9_max_7cf53_2 : decode cJ9_max_7cf53 2 = .ok (.if_icmp .lt 7, 3) := by decide +kernel
theorem dJ9_max_7cf53_5 : decode cJ9_max_7cf53 5 = .ok (.iload_n 0, 1) := by decide +kernel
theorem dJ9_max_7cf53_6 : decode cJ9_max_7cf53 6 = .ok (.goto 4, 3) := by decide +kernel
theorem dJ9_max_7cf53_9 : decode cJ9_max_7cf53 9 = .ok (.iload_n 1, 1) := by decide +kernel
theorem dJ9_max_7cf53_10 : decode cJ9_max_7cf53 10 = .ok (.ireturn, 1) := by decide +kernel
theorem dJ9_min_7cf53_0 : decode cJ9_min_7cf53 0 = .ok (.iload_n 0, 1) := by decide +kernel
theorem dJ9_min_7cf53_1 : decode cJ9_min_7cf53 1 = .ok (.iload_n 1, 1) := by decide +kernel
theorem dJ9_min_7cf53_2 : decode cJ9_min_7cf53 2 = .ok (.if_icmp .gt 7, 3) := by decide +kernel
theorem dJ9_min_7cf53_5 : decode cJ9_min_7cf53 5 = .ok (.iload_n 0, 1) := by decide +kernel
theorem dJ9_min_7cf53_6 : decode cJ9_min_7cf53 6 = .ok (.goto 4, 3) := by decide +kernel
theorem dJ9_min_7cf53_9 : decode cJ9_min_7cf53 9 = .ok (.iload_n 1, 1) := by decide +kernel
theorem dJ9_min_7cf53_10 : decode cJ9_min_7cf53 10 = .ok (.ireturn, 1) := by decide +kernel
theorem dL_cell_0 : decode cL_cell 0 = .ok (.iload_n 1, 1) := by decide +kernel
theorem dL_cell_1 : decode cL_cell 1 = .ok (.aload_n 0, 1) := by decide +kernel
theorem dL_cell_2 : decode cL_cell 2 = .ok (.arraylength, 1) := by decide +kernel
theorem dL_cell_3 : decode cL_cell 3 = .ok (.if_icmp .ge 9, 3) := by decide +kernel
theorem dL_cell_6 : decode cL_cell 6 = .ok (.aload_n 0, 1) := by decide +kernel
theorem dL_cell_7 : decode cL_cell 7 = .ok (.iload_n 1, 1) := by decide +kernel
theorem dL_cell_8 : decode cL_cell 8 = .ok (.iaload, 1) := by decide +kernel
theorem dL_cell_9 : decode cL_cell 9 = .ok (.goto 11, 3) := by decide +kernel
theorem dL_cell_12 : decode cL_cell 12 = .ok (.ldc 7, 2) := by decide +kernel
theorem dL_cell_14 : decode cL_cell 14 = .ok (.iload_n 1, 1) := by decide +kernel
theorem dL_cell_15 : decode cL_cell 15 = .ok (.sipush 137, 3) := by decide +kernel
theorem dL_cell_18 : decode cL_cell 18 = .ok (.iadd, 1) := by decide +kernel
theorem dL_cell_19 : decode cL_cell 19 = .ok (.imul, 1) := by decide +kernel
theorem dL_cell_20 : decode cL_cell 20 = .ok (.ireturn, 1) := by decide +kernel
theorem dL_at_0 : decode cL_at 0 = .ok (.iload_n 0, 1) := by decide +kernel
theorem dL_at_1 : decode cL_at 1 = .ok (.iconst 1, 1) := by decide +kernel
theorem dL_at_2 : decode cL_at 2 = .ok (.iushr, 1) := by decide +kernel
theorem dL_at_3 : decode cL_at 3 = .ok (.iload_n 1, 1) := by decide +kernel
theorem dL_at_4 : decode cL_at 4 = .ok (.irem, 1) := by decide +kernel
theorem dL_at_5 : decode cL_at 5 = .ok (.ireturn, 1) := by decide +kernel
theorem dL_tooth_0 : decode cL_tooth 0 = .ok (.iload_n 1, 1) := by decide +kernel
theorem dL_tooth_1 : decode cL_tooth 1 = .ok (.ifCond .le 7, 3) := by decide +kernel
theorem dL_tooth_4 : decode cL_tooth 4 = .ok (.iload_n 0, 1) := by decide +kernel
theorem dL_tooth_5 : decode cL_tooth 5 = .ok (.goto 15, 3) := by decide +kernel
theorem dL_tooth_8 : decode cL_tooth 8 = .ok (.iload_n 0, 1) := by decide +kernel
theorem dL_tooth_9 : decode cL_tooth 9 = .ok (.ifCond .ne 8, 3) := by decide +kernel
theorem dL_tooth_12 : decode cL_tooth 12 = .ok (.bipush 23, 2) := by decide +kernel
theorem dL_tooth_14 : decode cL_tooth 14 = .ok (.goto 6, 3) := by decide +kernel
theorem dL_tooth_17 : decode cL_tooth 17 = .ok (.iload_n 0, 1) := by decide +kernel
theorem dL_tooth_18 : decode cL_tooth 18 = .ok (.iconst 1, 1) := by decide +kernel
theorem dL_tooth_19 : decode cL_tooth 19 = .ok (.isub, 1) := by decide +kernel
theorem dL_tooth_20 : decode cL_tooth 20 = .ok (.ireturn, 1) := by decide +kernel
theorem dL_go_0 : decode cL_go 0 = .ok (.iload_n 1, 1) := by decide +kernel
theorem dL_go_1 : decode cL_go 1 = .ok (.ifCond .le 19, 3) := by decide +kernel
theorem dL_go_4 : decode cL_go 4 = .ok (.iload_n 0, 1) := by decide +kernel
theorem dL_go_5 : decode cL_go 5 = .ok (.bipush 23, 2) := by decide +kernel
theorem dL_go_7 : decode cL_go 7 = .ok (.if_icmp .ne 7, 3) := by decide +kernel
theorem dL_go_10 : decode cL_go 10 = .ok (.iconst 0, 1) := by decide +kernel
theorem dL_go_11 : decode cL_go 11 = .ok (.goto 21, 3) := by decide +kernel
theorem dL_go_14 : decode cL_go 14 = .ok (.iload_n 0, 1) := by decide +kernel
theorem dL_go_15 : decode cL_go 15 = .ok (.iconst 1, 1) := by decide +kernel
theorem dL_go_16 : decode cL_go 16 = .ok (.iadd, 1) := by decide +kernel
theorem dL_go_17 : decode cL_go 17 = .ok (.goto 15, 3) := by decide +kernel
theorem dL_go_20 : decode cL_go 20 = .ok (.iload_n 0, 1) := by decide +kernel
theorem dL_go_21 : decode cL_go 21 = .ok (.ifCond .ne 8, 3) := by decide +kernel
theorem dL_go_24 : decode cL_go 24 = .ok (.bipush 23, 2) := by decide +kernel
theorem dL_go_26 : decode cL_go 26 = .ok (.goto 6, 3) := by decide +kernel
theorem dL_go_29 : decode cL_go 29 = .ok (.iload_n 0, 1) := by decide +kernel
theorem dL_go_30 : decode cL_go 30 = .ok (.iconst 1, 1) := by decide +kernel
theorem dL_go_31 : decode cL_go 31 = .ok (.isub, 1) := by decide +kernel
theorem dL_go_32 : decode cL_go 32 = .ok (.ireturn, 1) := by decide +kernel
theorem dL_wear_0 : decode cL_wear 0 = .ok (.iload_n 3, 1) := by decide +kernel
theorem dL_wear_1 : decode cL_wear 1 = .ok (.bipush 12, 2) := by decide +kernel
theorem dL_wear_3 : decode cL_wear 3 = .ok (.if_icmp .ge 14, 3) := by decide +kernel
theorem dL_wear_6 : decode cL_wear 6 = .ok (.aload_n 0, 1) := by decide +kernel
theorem dL_wear_7 : decode cL_wear 7 = .ok (.bipush 12, 2) := by decide +kernel
theorem dL_wear_9 : decode cL_wear 9 = .ok (.iload_n 2, 1) := by decide +kernel
theorem dL_wear_10 : decode cL_wear 10 = .ok (.imul, 1) := by decide +kernel
theorem dL_wear_11 : decode cL_wear 11 = .ok (.iload_n 3, 1) := by decide +kernel
theorem dL_wear_12 : decode cL_wear 12 = .ok (.iadd, 1) := by decide +kernel
theorem dL_wear_13 : decode cL_wear 13 = .ok (.iaload, 1) := by decide +kernel
theorem dL_wear_14 : decode cL_wear 14 = .ok (.goto 14, 3) := by decide +kernel
theorem dL_wear_17 : decode cL_wear 17 = .ok (.aload_n 1, 1) := by decide +kernel
theorem dL_wear_18 : decode cL_wear 18 = .ok (.bipush 12, 2) := by decide +kernel
theorem dL_wear_20 : decode cL_wear 20 = .ok (.iload_n 2, 1) := by decide +kernel
theorem dL_wear_21 : decode cL_wear 21 = .ok (.imul, 1) := by decide +kernel
theorem dL_wear_22 : decode cL_wear 22 = .ok (.iload_n 3, 1) := by decide +kernel
theorem dL_wear_23 : decode cL_wear 23 = .ok (.iadd, 1) := by decide +kernel
theorem dL_wear_24 : decode cL_wear 24 = .ok (.bipush 12, 2) := by decide +kernel
theorem dL_wear_26 : decode cL_wear 26 = .ok (.isub, 1) := by decide +kernel
theorem dL_wear_27 : decode cL_wear 27 = .ok (.iaload, 1) := by decide +kernel
theorem dL_wear_28 : decode cL_wear 28 = .ok (.ireturn, 1) := by decide +kernel
theorem dL_setWear_0 : decode cL_setWear 0 = .ok (.iload_n 3, 1) := by decide +kernel
theorem dL_setWear_1 : decode cL_setWear 1 = .ok (.bipush 12, 2) := by decide +kernel
theorem dL_setWear_3 : decode cL_setWear 3 = .ok (.if_icmp .ge 16, 3) := by decide +kernel
theorem dL_setWear_6 : decode cL_setWear 6 = .ok (.aload_n 0, 1) := by decide +kernel
theorem dL_setWear_7 : decode cL_setWear 7 = .ok (.bipush 12, 2) := by decide +kernel
theorem dL_setWear_9 : decode cL_setWear 9 = .ok (.iload_n 2, 1) := by decide +kernel
theorem dL_setWear_10 : decode cL_setWear 10 = .ok (.imul, 1) := by decide +kernel
theorem dL_setWear_11 : decode cL_setWear 11 = .ok (.iload_n 3, 1) := by decide +kernel
theorem dL_setWear_12 : decode cL_setWear 12 = .ok (.iadd, 1) := by decide +kernel
theorem dL_setWear_13 : decode cL_setWear 13 = .ok (.iload 4, 2) := by decide +kernel
theorem dL_setWear_15 : decode cL_setWear 15 = .ok (.iastore, 1) := by decide +kernel
theorem dL_setWear_16 : decode cL_setWear 16 = .ok (.goto 16, 3) := by decide +kernel
theorem dL_setWear_19 : decode cL_setWear 19 = .ok (.aload_n 1, 1) := by decide +kernel
theorem dL_setWear_20 : decode cL_setWear 20 = .ok (.bipush 12, 2) := by decide +kernel
theorem dL_setWear_22 : decode cL_setWear 22 = .ok (.iload_n 2, 1) := by decide +kernel
theorem dL_setWear_23 : decode cL_setWear 23 = .ok (.imul, 1) := by decide +kernel
theorem dL_setWear_24 : decode cL_setWear 24 = .ok (.iload_n 3, 1) := by decide +kernel
theorem dL_setWear_25 : decode cL_setWear 25 = .ok (.iadd, 1) := by decide +kernel
theorem dL_setWear_26 : decode cL_setWear 26 = .ok (.bipush 12, 2) := by decide +kernel
theorem dL_setWear_28 : decode cL_setWear 28 = .ok (.isub, 1) := by decide +kernel
theorem dL_setWear_29 : decode cL_setWear 29 = .ok (.iload 4, 2) := by decide +kernel
theorem dL_setWear_31 : decode cL_setWear 31 = .ok (.iastore, 1) := by decide +kernel
theorem dL_setWear_32 : decode cL_setWear 32 = .ok (.return_, 1) := by decide +kernel
theorem dL_toll_0 : decode cL_toll 0 = .ok (.iconst 1, 1) := by decide +kernel
theorem dL_toll_1 : decode cL_toll 1 = .ok (.iload_n 1, 1) := by decide +kernel
theorem dL_toll_2 : decode cL_toll 2 = .ok (.iadd, 1) := by decide +kernel
theorem dL_toll_3 : decode cL_toll 3 = .ok (.iload_n 2, 1) := by decide +kernel
theorem dL_toll_4 : decode cL_toll 4 = .ok (.aload_n 0, 1) := by decide +kernel
theorem dL_toll_5 : decode cL_toll 5 = .ok (.iconst 4, 1) := by decide +kernel
theorem dL_toll_6 : decode cL_toll 6 = .ok (.iaload, 1) := by decide +kernel
theorem dL_toll_7 : decode cL_toll 7 = .ok (.idiv, 1) := by decide +kernel
theorem dL_toll_8 : decode cL_toll 8 = .ok (.iadd, 1) := by decide +kernel
theorem dL_toll_9 : decode cL_toll 9 = .ok (.istore 4, 2) := by decide +kernel
theorem dL_toll_11 : decode cL_toll 11 = .ok (.iload_n 3, 1) := by decide +kernel
theorem dL_toll_12 : decode cL_toll 12 = .ok (.ifCond .eq 15, 3) := by decide +kernel
theorem dL_toll_15 : decode cL_toll 15 = .ok (.iload 4, 2) := by decide +kernel
theorem dL_toll_17 : decode cL_toll 17 = .ok (.iconst 2, 1) := by decide +kernel
theorem dL_toll_18 : decode cL_toll 18 = .ok (.idiv, 1) := by decide +kernel
theorem dL_toll_19 : decode cL_toll 19 = .ok (.iload 4, 2) := by decide +kernel
theorem dL_toll_21 : decode cL_toll 21 = .ok (.iconst 2, 1) := by decide +kernel
theorem dL_toll_22 : decode cL_toll 22 = .ok (.irem, 1) := by decide +kernel
theorem dL_toll_23 : decode cL_toll 23 = .ok (.iadd, 1) := by decide +kernel
theorem dL_toll_24 : decode cL_toll 24 = .ok (.goto 5, 3) := by decide +kernel
theorem dL_toll_27 : decode cL_toll 27 = .ok (.iload 4, 2) := by decide +kernel
theorem dL_toll_29 : decode cL_toll 29 = .ok (.ireturn, 1) := by decide +kernel
theorem dL_step_0 : decode cL_step 0 = .ok (.aload_n 1, 1) := by decide +kernel
theorem dL_step_1 : decode cL_step 1 = .ok (.iload 10, 2) := by decide +kernel
theorem dL_step_3 : decode cL_step 3 = .ok (.iaload, 1) := by decide +kernel
theorem dL_step_4 : decode cL_step 4 = .ok (.iload 11, 2) := by decide +kernel
theorem dL_step_6 : decode cL_step 6 = .ok (.invokestatic 8, 3) := by decide +kernel
theorem dL_step_9 : decode cL_step 9 = .ok (.istore 12, 2) := by decide +kernel
theorem dL_step_11 : decode cL_step 11 = .ok (.aload 8, 2) := by decide +kernel
theorem dL_step_13 : decode cL_step 13 = .ok (.aload 9, 2) := by decide +kernel
theorem dL_step_15 : decode cL_step 15 = .ok (.iload 10, 2) := by decide +kernel
theorem dL_step_17 : decode cL_step 17 = .ok (.iload 12, 2) := by decide +kernel
theorem dL_step_19 : decode cL_step 19 = .ok (.invokestatic 14, 3) := by decide +kernel
theorem dL_step_22 : decode cL_step 22 = .ok (.istore 13, 2) := by decide +kernel
theorem dL_step_24 : decode cL_step 24 = .ok (.aload_n 0, 1) := by decide +kernel
theorem dL_step_25 : decode cL_step 25 = .ok (.aload_n 3, 1) := by decide +kernel
theorem dL_step_26 : decode cL_step 26 = .ok (.iload 10, 2) := by decide +kernel
theorem dL_step_28 : decode cL_step 28 = .ok (.iaload, 1) := by decide +kernel
theorem dL_step_29 : decode cL_step 29 = .ok (.iload 13, 2) := by decide +kernel
theorem dL_step_31 : decode cL_step 31 = .ok (.aload 6, 2) := by decide +kernel
theorem dL_step_33 : decode cL_step 33 = .ok (.iload 10, 2) := by decide +kernel
theorem dL_step_35 : decode cL_step 35 = .ok (.iaload, 1) := by decide +kernel
theorem dL_step_36 : decode cL_step 36 = .ok (.ifCond .le 7, 3) := by decide +kernel
theorem dL_step_39 : decode cL_step 39 = .ok (.iconst 1, 1) := by decide +kernel
theorem dL_step_40 : decode cL_step 40 = .ok (.goto 4, 3) := by decide +kernel
theorem dL_step_43 : decode cL_step 43 = .ok (.iconst 0, 1) := by decide +kernel
theorem dL_step_44 : decode cL_step 44 = .ok (.invokestatic 18, 3) := by decide +kernel
theorem dL_step_47 : decode cL_step 47 = .ok (.istore 14, 2) := by decide +kernel
theorem dL_step_49 : decode cL_step 49 = .ok (.aload_n 0, 1) := by decide +kernel
theorem dL_step_50 : decode cL_step 50 = .ok (.iconst 0, 1) := by decide +kernel
theorem dL_step_51 : decode cL_step 51 = .ok (.iaload, 1) := by decide +kernel
theorem dL_step_52 : decode cL_step 52 = .ok (.iload 14, 2) := by decide +kernel
theorem dL_step_54 : decode cL_step 54 = .ok (.if_icmp .ge 5, 3) := by decide +kernel
theorem dL_step_57 : decode cL_step 57 = .ok (.iconst 0, 1) := by decide +kernel
theorem dL_step_58 : decode cL_step 58 = .ok (.ireturn, 1) := by decide +kernel
theorem dL_step_59 : decode cL_step 59 = .ok (.aload_n 0, 1) := by decide +kernel
theorem dL_step_60 : decode cL_step 60 = .ok (.iconst 0, 1) := by decide +kernel
theorem dL_step_61 : decode cL_step 61 = .ok (.dup2, 1) := by decide +kernel
theorem dL_step_62 : decode cL_step 62 = .ok (.iaload, 1) := by decide +kernel
theorem dL_step_63 : decode cL_step 63 = .ok (.iload 14, 2) := by decide +kernel
theorem dL_step_65 : decode cL_step 65 = .ok (.isub, 1) := by decide +kernel
theorem dL_step_66 : decode cL_step 66 = .ok (.iastore, 1) := by decide +kernel
theorem dL_step_67 : decode cL_step 67 = .ok (.aload 7, 2) := by decide +kernel
theorem dL_step_69 : decode cL_step 69 = .ok (.iconst 5, 1) := by decide +kernel
theorem dL_step_70 : decode cL_step 70 = .ok (.iload 10, 2) := by decide +kernel
theorem dL_step_72 : decode cL_step 72 = .ok (.imul, 1) := by decide +kernel
theorem dL_step_73 : decode cL_step 73 = .ok (.dup2, 1) := by decide +kernel
theorem dL_step_74 : decode cL_step 74 = .ok (.iaload, 1) := by decide +kernel
theorem dL_step_75 : decode cL_step 75 = .ok (.iconst 1, 1) := by decide +kernel
theorem dL_step_76 : decode cL_step 76 = .ok (.iadd, 1) := by decide +kernel
theorem dL_step_77 : decode cL_step 77 = .ok (.iastore, 1) := by decide +kernel
theorem dL_step_78 : decode cL_step 78 = .ok (.aload 7, 2) := by decide +kernel
theorem dL_step_80 : decode cL_step 80 = .ok (.iconst 5, 1) := by decide +kernel
theorem dL_step_81 : decode cL_step 81 = .ok (.iload 10, 2) := by decide +kernel
theorem dL_step_83 : decode cL_step 83 = .ok (.imul, 1) := by decide +kernel
theorem dL_step_84 : decode cL_step 84 = .ok (.iconst 2, 1) := by decide +kernel
theorem dL_step_85 : decode cL_step 85 = .ok (.iadd, 1) := by decide +kernel
theorem dL_step_86 : decode cL_step 86 = .ok (.dup2, 1) := by decide +kernel
theorem dL_step_87 : decode cL_step 87 = .ok (.iaload, 1) := by decide +kernel
theorem dL_step_88 : decode cL_step 88 = .ok (.iload 14, 2) := by decide +kernel
theorem dL_step_90 : decode cL_step 90 = .ok (.iadd, 1) := by decide +kernel
theorem dL_step_91 : decode cL_step 91 = .ok (.iastore, 1) := by decide +kernel
theorem dL_step_92 : decode cL_step 92 = .ok (.aload 6, 2) := by decide +kernel
theorem dL_step_94 : decode cL_step 94 = .ok (.iload 10, 2) := by decide +kernel
theorem dL_step_96 : decode cL_step 96 = .ok (.iaload, 1) := by decide +kernel
theorem dL_step_97 : decode cL_step 97 = .ok (.ifCond .le 12, 3) := by decide +kernel
theorem dL_step_100 : decode cL_step 100 = .ok (.aload 6, 2) := by decide +kernel
theorem dL_step_102 : decode cL_step 102 = .ok (.iload 10, 2) := by decide +kernel
theorem dL_step_104 : decode cL_step 104 = .ok (.dup2, 1) := by decide +kernel
theorem dL_step_105 : decode cL_step 105 = .ok (.iaload, 1) := by decide +kernel
theorem dL_step_106 : decode cL_step 106 = .ok (.iconst 1, 1) := by decide +kernel
theorem dL_step_107 : decode cL_step 107 = .ok (.isub, 1) := by decide +kernel
theorem dL_step_108 : decode cL_step 108 = .ok (.iastore, 1) := by decide +kernel
theorem dL_step_109 : decode cL_step 109 = .ok (.iconst 0, 1) := by decide +kernel
theorem dL_step_110 : decode cL_step 110 = .ok (.istore 15, 2) := by decide +kernel
theorem dL_step_112 : decode cL_step 112 = .ok (.aload 4, 2) := by decide +kernel
theorem dL_step_114 : decode cL_step 114 = .ok (.iload 10, 2) := by decide +kernel
theorem dL_step_116 : decode cL_step 116 = .ok (.iaload, 1) := by decide +kernel
theorem dL_step_117 : decode cL_step 117 = .ok (.iload 11, 2) := by decide +kernel
theorem dL_step_119 : decode cL_step 119 = .ok (.ineg, 1) := by decide +kernel
theorem dL_step_120 : decode cL_step 120 = .ok (.if_icmp .ne 50, 3) := by decide +kernel
theorem dL_step_123 : decode cL_step 123 = .ok (.aload 5, 2) := by decide +kernel
theorem dL_step_125 : decode cL_step 125 = .ok (.iload 10, 2) := by decide +kernel
theorem dL_step_127 : decode cL_step 127 = .ok (.iaload, 1) := by decide +kernel
theorem dL_step_128 : decode cL_step 128 = .ok (.bipush 12, 2) := by decide +kernel
theorem dL_step_130 : decode cL_step 130 = .ok (.if_icmp .ge 12, 3) := by decide +kernel
theorem dL_step_133 : decode cL_step 133 = .ok (.aload 5, 2) := by decide +kernel
theorem dL_step_135 : decode cL_step 135 = .ok (.iload 10, 2) := by decide +kernel
theorem dL_step_137 : decode cL_step 137 = .ok (.dup2, 1) := by decide +kernel
theorem dL_step_138 : decode cL_step 138 = .ok (.iaload, 1) := by decide +kernel
theorem dL_step_139 : decode cL_step 139 = .ok (.iconst 1, 1) := by decide +kernel
theorem dL_step_140 : decode cL_step 140 = .ok (.iadd, 1) := by decide +kernel
theorem dL_step_141 : decode cL_step 141 = .ok (.iastore, 1) := by decide +kernel
theorem dL_step_142 : decode cL_step 142 = .ok (.aload 7, 2) := by decide +kernel
theorem dL_step_144 : decode cL_step 144 = .ok (.iconst 5, 1) := by decide +kernel
theorem dL_step_145 : decode cL_step 145 = .ok (.iload 10, 2) := by decide +kernel
theorem dL_step_147 : decode cL_step 147 = .ok (.imul, 1) := by decide +kernel
theorem dL_step_148 : decode cL_step 148 = .ok (.iconst 3, 1) := by decide +kernel
theorem dL_step_149 : decode cL_step 149 = .ok (.iadd, 1) := by decide +kernel
theorem dL_step_150 : decode cL_step 150 = .ok (.dup2, 1) := by decide +kernel
theorem dL_step_151 : decode cL_step 151 = .ok (.iaload, 1) := by decide +kernel
theorem dL_step_152 : decode cL_step 152 = .ok (.iconst 1, 1) := by decide +kernel
theorem dL_step_153 : decode cL_step 153 = .ok (.iadd, 1) := by decide +kernel
theorem dL_step_154 : decode cL_step 154 = .ok (.iastore, 1) := by decide +kernel
theorem dL_step_155 : decode cL_step 155 = .ok (.iload 13, 2) := by decide +kernel
theorem dL_step_157 : decode cL_step 157 = .ok (.aload_n 0, 1) := by decide +kernel
theorem dL_step_158 : decode cL_step 158 = .ok (.iconst 5, 1) := by decide +kernel
theorem dL_step_159 : decode cL_step 159 = .ok (.iaload, 1) := by decide +kernel
theorem dL_step_160 : decode cL_step 160 = .ok (.if_icmp .lt 7, 3) := by decide +kernel
theorem dL_step_163 : decode cL_step 163 = .ok (.iconst 1, 1) := by decide +kernel
theorem dL_step_164 : decode cL_step 164 = .ok (.goto 4, 3) := by decide +kernel
theorem dL_step_167 : decode cL_step 167 = .ok (.iconst 0, 1) := by decide +kernel
theorem dL_step_168 : decode cL_step 168 = .ok (.istore 15, 2) := by decide +kernel
theorem dL_step_170 : decode cL_step 170 = .ok (.aload_n 2, 1) := by decide +kernel
theorem dL_step_171 : decode cL_step 171 = .ok (.iload 10, 2) := by decide +kernel
theorem dL_step_173 : decode cL_step 173 = .ok (.aload_n 2, 1) := by decide +kernel
theorem dL_step_174 : decode cL_step 174 = .ok (.iload 10, 2) := by decide +kernel
theorem dL_step_176 : decode cL_step 176 = .ok (.iaload, 1) := by decide +kernel
theorem dL_step_177 : decode cL_step 177 = .ok (.iload 11, 2) := by decide +kernel
theorem dL_step_179 : decode cL_step 179 = .ok (.invokestatic 22, 3) := by decide +kernel
theorem dL_step_182 : decode cL_step 182 = .ok (.iastore, 1) := by decide +kernel
theorem dL_step_183 : decode cL_step 183 = .ok (.iload 15, 2) := by decide +kernel
theorem dL_step_185 : decode cL_step 185 = .ok (.ifCond .eq 19, 3) := by decide +kernel
theorem dL_step_188 : decode cL_step 188 = .ok (.aload 7, 2) := by decide +kernel
theorem dL_step_190 : decode cL_step 190 = .ok (.iconst 5, 1) := by decide +kernel
theorem dL_step_191 : decode cL_step 191 = .ok (.iload 10, 2) := by decide +kernel
theorem dL_step_193 : decode cL_step 193 = .ok (.imul, 1) := by decide +kernel
theorem dL_step_194 : decode cL_step 194 = .ok (.iconst 1, 1) := by decide +kernel
theorem dL_step_195 : decode cL_step 195 = .ok (.iadd, 1) := by decide +kernel
theorem dL_step_196 : decode cL_step 196 = .ok (.dup2, 1) := by decide +kernel
theorem dL_step_197 : decode cL_step 197 = .ok (.iaload, 1) := by decide +kernel
theorem dL_step_198 : decode cL_step 198 = .ok (.iconst 1, 1) := by decide +kernel
theorem dL_step_199 : decode cL_step 199 = .ok (.iadd, 1) := by decide +kernel
theorem dL_step_200 : decode cL_step 200 = .ok (.iastore, 1) := by decide +kernel
theorem dL_step_201 : decode cL_step 201 = .ok (.goto 16, 3) := by decide +kernel
theorem dL_step_204 : decode cL_step 204 = .ok (.aload_n 1, 1) := by decide +kernel
theorem dL_step_205 : decode cL_step 205 = .ok (.iload 10, 2) := by decide +kernel
theorem dL_step_207 : decode cL_step 207 = .ok (.aload_n 1, 1) := by decide +kernel
theorem dL_step_208 : decode cL_step 208 = .ok (.iload 10, 2) := by decide +kernel
theorem dL_step_210 : decode cL_step 210 = .ok (.iaload, 1) := by decide +kernel
theorem dL_step_211 : decode cL_step 211 = .ok (.iload 11, 2) := by decide +kernel
theorem dL_step_213 : decode cL_step 213 = .ok (.invokestatic 22, 3) := by decide +kernel
theorem dL_step_216 : decode cL_step 216 = .ok (.iastore, 1) := by decide +kernel
theorem dL_step_217 : decode cL_step 217 = .ok (.aload 8, 2) := by decide +kernel
theorem dL_step_219 : decode cL_step 219 = .ok (.aload 9, 2) := by decide +kernel
theorem dL_step_221 : decode cL_step 221 = .ok (.iload 10, 2) := by decide +kernel
theorem dL_step_223 : decode cL_step 223 = .ok (.iload 12, 2) := by decide +kernel
theorem dL_step_225 : decode cL_step 225 = .ok (.iload 13, 2) := by decide +kernel
theorem dL_step_227 : decode cL_step 227 = .ok (.aload_n 0, 1) := by decide +kernel
theorem dL_step_228 : decode cL_step 228 = .ok (.iconst 3, 1) := by decide +kernel
theorem dL_step_229 : decode cL_step 229 = .ok (.iaload, 1) := by decide +kernel
theorem dL_step_230 : decode cL_step 230 = .ok (.iadd, 1) := by decide +kernel
theorem dL_step_231 : decode cL_step 231 = .ok (.bipush 99, 2) := by decide +kernel
theorem dL_step_233 : decode cL_step 233 = .ok (.if_icmp .le 8, 3) := by decide +kernel
theorem dL_step_236 : decode cL_step 236 = .ok (.bipush 99, 2) := by decide +kernel
theorem dL_step_238 : decode cL_step 238 = .ok (.goto 9, 3) := by decide +kernel
theorem dL_step_241 : decode cL_step 241 = .ok (.iload 13, 2) := by decide +kernel
theorem dL_step_243 : decode cL_step 243 = .ok (.aload_n 0, 1) := by decide +kernel
theorem dL_step_244 : decode cL_step 244 = .ok (.iconst 3, 1) := by decide +kernel
theorem dL_step_245 : decode cL_step 245 = .ok (.iaload, 1) := by decide +kernel
theorem dL_step_246 : decode cL_step 246 = .ok (.iadd, 1) := by decide +kernel
theorem dL_step_247 : decode cL_step 247 = .ok (.invokestatic 25, 3) := by decide +kernel
theorem dL_step_250 : decode cL_step 250 = .ok (.aload 4, 2) := by decide +kernel
theorem dL_step_252 : decode cL_step 252 = .ok (.iload 10, 2) := by decide +kernel
theorem dL_step_254 : decode cL_step 254 = .ok (.iload 11, 2) := by decide +kernel
theorem dL_step_256 : decode cL_step 256 = .ok (.iastore, 1) := by decide +kernel
theorem dL_step_257 : decode cL_step 257 = .ok (.iconst 1, 1) := by decide +kernel
theorem dL_step_258 : decode cL_step 258 = .ok (.ireturn, 1) := by decide +kernel
theorem dL_cost_0 : decode cL_cost 0 = .ok (.iconst 0, 1) := by decide +kernel
theorem dL_cost_1 : decode cL_cost 1 = .ok (.istore 10, 2) := by decide +kernel
theorem dL_cost_3 : decode cL_cost 3 = .ok (.iconst 0, 1) := by decide +kernel
theorem dL_cost_4 : decode cL_cost 4 = .ok (.istore 11, 2) := by decide +kernel
theorem dL_cost_6 : decode cL_cost 6 = .ok (.aload_n 1, 1) := by decide +kernel
theorem dL_cost_7 : decode cL_cost 7 = .ok (.iload 6, 2) := by decide +kernel
theorem dL_cost_9 : decode cL_cost 9 = .ok (.iaload, 1) := by decide +kernel
theorem dL_cost_10 : decode cL_cost 10 = .ok (.istore 12, 2) := by decide +kernel
theorem dL_cost_12 : decode cL_cost 12 = .ok (.iload 12, 2) := by decide +kernel
theorem dL_cost_14 : decode cL_cost 14 = .ok (.iload 7, 2) := by decide +kernel
theorem dL_cost_16 : decode cL_cost 16 = .ok (.if_icmp .eq 76, 3) := by decide +kernel
theorem dL_cost_19 : decode cL_cost 19 = .ok (.iload 12, 2) := by decide +kernel
theorem dL_cost_21 : decode cL_cost 21 = .ok (.iload 8, 2) := by decide +kernel
theorem dL_cost_23 : decode cL_cost 23 = .ok (.invokestatic 8, 3) := by decide +kernel
theorem dL_cost_26 : decode cL_cost 26 = .ok (.istore 13, 2) := by decide +kernel
theorem dL_cost_28 : decode cL_cost 28 = .ok (.iload 10, 2) := by decide +kernel
theorem dL_cost_30 : decode cL_cost 30 = .ok (.aload_n 0, 1) := by decide +kernel
theorem dL_cost_31 : decode cL_cost 31 = .ok (.aload_n 2, 1) := by decide +kernel
theorem dL_cost_32 : decode cL_cost 32 = .ok (.iload 6, 2) := by decide +kernel
theorem dL_cost_34 : decode cL_cost 34 = .ok (.iaload, 1) := by decide +kernel
theorem dL_cost_35 : decode cL_cost 35 = .ok (.iload 13, 2) := by decide +kernel
theorem dL_cost_37 : decode cL_cost 37 = .ok (.iload 9, 2) := by decide +kernel
theorem dL_cost_39 : decode cL_cost 39 = .ok (.if_icmp .ne 7, 3) := by decide +kernel
theorem dL_cost_42 : decode cL_cost 42 = .ok (.iconst 0, 1) := by decide +kernel
theorem dL_cost_43 : decode cL_cost 43 = .ok (.goto 14, 3) := by decide +kernel
theorem dL_cost_46 : decode cL_cost 46 = .ok (.aload 4, 2) := by decide +kernel
theorem dL_cost_48 : decode cL_cost 48 = .ok (.aload 5, 2) := by decide +kernel
theorem dL_cost_50 : decode cL_cost 50 = .ok (.iload 6, 2) := by decide +kernel
theorem dL_cost_52 : decode cL_cost 52 = .ok (.iload 13, 2) := by decide +kernel
theorem dL_cost_54 : decode cL_cost 54 = .ok (.invokestatic 14, 3) := by decide +kernel
theorem dL_cost_57 : decode cL_cost 57 = .ok (.aload_n 3, 1) := by decide +kernel
theorem dL_cost_58 : decode cL_cost 58 = .ok (.iload 6, 2) := by decide +kernel
theorem dL_cost_60 : decode cL_cost 60 = .ok (.iaload, 1) := by decide +kernel
theorem dL_cost_61 : decode cL_cost 61 = .ok (.iload 11, 2) := by decide +kernel
theorem dL_cost_63 : decode cL_cost 63 = .ok (.if_icmp .le 7, 3) := by decide +kernel
theorem dL_cost_66 : decode cL_cost 66 = .ok (.iconst 1, 1) := by decide +kernel
theorem dL_cost_67 : decode cL_cost 67 = .ok (.goto 4, 3) := by decide +kernel
theorem dL_cost_70 : decode cL_cost 70 = .ok (.iconst 0, 1) := by decide +kernel
theorem dL_cost_71 : decode cL_cost 71 = .ok (.invokestatic 18, 3) := by decide +kernel
theorem dL_cost_74 : decode cL_cost 74 = .ok (.iadd, 1) := by decide +kernel
theorem dL_cost_75 : decode cL_cost 75 = .ok (.istore 10, 2) := by decide +kernel
theorem dL_cost_77 : decode cL_cost 77 = .ok (.iinc 11 1, 3) := by decide +kernel
theorem dL_cost_80 : decode cL_cost 80 = .ok (.iload 12, 2) := by decide +kernel
theorem dL_cost_82 : decode cL_cost 82 = .ok (.iload 8, 2) := by decide +kernel
theorem dL_cost_84 : decode cL_cost 84 = .ok (.invokestatic 22, 3) := by decide +kernel
theorem dL_cost_87 : decode cL_cost 87 = .ok (.istore 12, 2) := by decide +kernel
theorem dL_cost_89 : decode cL_cost 89 = .ok (.goto (-77), 3) := by decide +kernel
theorem dL_cost_92 : decode cL_cost 92 = .ok (.iload 10, 2) := by decide +kernel
theorem dL_cost_94 : decode cL_cost 94 = .ok (.ireturn, 1) := by decide +kernel
theorem dL_moves_0 : decode cL_moves 0 = .ok (.iload_n 1, 1) := by decide +kernel
theorem dL_moves_1 : decode cL_moves 1 = .ok (.iconst 5, 1) := by decide +kernel
theorem dL_moves_2 : decode cL_moves 2 = .ok (.invokestatic 29, 3) := by decide +kernel
theorem dL_moves_5 : decode cL_moves 5 = .ok (.istore 13, 2) := by decide +kernel
theorem dL_moves_7 : decode cL_moves 7 = .ok (.iload_n 1, 1) := by decide +kernel
theorem dL_moves_8 : decode cL_moves 8 = .ok (.iconst 4, 1) := by decide +kernel
theorem dL_moves_9 : decode cL_moves 9 = .ok (.ishr, 1) := by decide +kernel
theorem dL_moves_10 : decode cL_moves 10 = .ok (.iconst 4, 1) := by decide +kernel
theorem dL_moves_11 : decode cL_moves 11 = .ok (.invokestatic 29, 3) := by decide +kernel
theorem dL_moves_14 : decode cL_moves 14 = .ok (.istore 14, 2) := by decide +kernel
theorem dL_moves_16 : decode cL_moves 16 = .ok (.iload 13, 2) := by decide +kernel
theorem dL_moves_18 : decode cL_moves 18 = .ok (.iconst 2, 1) := by decide +kernel
theorem dL_moves_19 : decode cL_moves 19 = .ok (.if_icmp .ge 161, 3) := by decide +kernel
theorem dL_moves_22 : decode cL_moves 22 = .ok (.iload_n 2, 1) := by decide +kernel
theorem dL_moves_23 : decode cL_moves 23 = .ok (.iconst 2, 1) := by decide +kernel
theorem dL_moves_24 : decode cL_moves 24 = .ok (.invokestatic 29, 3) := by decide +kernel
theorem dL_moves_27 : decode cL_moves 27 = .ok (.ifCond .ne 7, 3) := by decide +kernel
theorem dL_moves_30 : decode cL_moves 30 = .ok (.iconst 1, 1) := by decide +kernel
theorem dL_moves_31 : decode cL_moves 31 = .ok (.goto 4, 3) := by decide +kernel
theorem dL_moves_34 : decode cL_moves 34 = .ok (.iconst (-1), 1) := by decide +kernel
theorem dL_moves_35 : decode cL_moves 35 = .ok (.istore 15, 2) := by decide +kernel
theorem dL_moves_37 : decode cL_moves 37 = .ok (.iconst 1, 1) := by decide +kernel
theorem dL_moves_38 : decode cL_moves 38 = .ok (.iload_n 2, 1) := by decide +kernel
theorem dL_moves_39 : decode cL_moves 39 = .ok (.iconst 2, 1) := by decide +kernel
theorem dL_moves_40 : decode cL_moves 40 = .ok (.ishr, 1) := by decide +kernel
theorem dL_moves_41 : decode cL_moves 41 = .ok (.bipush 24, 2) := by decide +kernel
theorem dL_moves_43 : decode cL_moves 43 = .ok (.invokestatic 29, 3) := by decide +kernel
theorem dL_moves_46 : decode cL_moves 46 = .ok (.iadd, 1) := by decide +kernel
theorem dL_moves_47 : decode cL_moves 47 = .ok (.istore 16, 2) := by decide +kernel
theorem dL_moves_49 : decode cL_moves 49 = .ok (.aload_n 3, 1) := by decide +kernel
theorem dL_moves_50 : decode cL_moves 50 = .ok (.iconst 0, 1) := by decide +kernel
theorem dL_moves_51 : decode cL_moves 51 = .ok (.iaload, 1) := by decide +kernel
theorem dL_moves_52 : decode cL_moves 52 = .ok (.aload_n 3, 1) := by decide +kernel
theorem dL_moves_53 : decode cL_moves 53 = .ok (.aload 6, 2) := by decide +kernel
theorem dL_moves_55 : decode cL_moves 55 = .ok (.iload 14, 2) := by decide +kernel
theorem dL_moves_57 : decode cL_moves 57 = .ok (.iaload, 1) := by decide +kernel
theorem dL_moves_58 : decode cL_moves 58 = .ok (.aload 11, 2) := by decide +kernel
theorem dL_moves_60 : decode cL_moves 60 = .ok (.aload 12, 2) := by decide +kernel
theorem dL_moves_62 : decode cL_moves 62 = .ok (.iload 14, 2) := by decide +kernel
theorem dL_moves_64 : decode cL_moves 64 = .ok (.aload 4, 2) := by decide +kernel
theorem dL_moves_66 : decode cL_moves 66 = .ok (.iload 14, 2) := by decide +kernel
theorem dL_moves_68 : decode cL_moves 68 = .ok (.iaload, 1) := by decide +kernel
theorem dL_moves_69 : decode cL_moves 69 = .ok (.iload 15, 2) := by decide +kernel
theorem dL_moves_71 : decode cL_moves 71 = .ok (.invokestatic 8, 3) := by decide +kernel
theorem dL_moves_74 : decode cL_moves 74 = .ok (.invokestatic 14, 3) := by decide +kernel
theorem dL_moves_77 : decode cL_moves 77 = .ok (.aload 9, 2) := by decide +kernel
theorem dL_moves_79 : decode cL_moves 79 = .ok (.iload 14, 2) := by decide +kernel
theorem dL_moves_81 : decode cL_moves 81 = .ok (.iaload, 1) := by decide +kernel
theorem dL_moves_82 : decode cL_moves 82 = .ok (.ifCond .le 7, 3) := by decide +kernel
theorem dL_moves_85 : decode cL_moves 85 = .ok (.iconst 1, 1) := by decide +kernel
theorem dL_moves_86 : decode cL_moves 86 = .ok (.goto 4, 3) := by decide +kernel
theorem dL_moves_89 : decode cL_moves 89 = .ok (.iconst 0, 1) := by decide +kernel
theorem dL_moves_90 : decode cL_moves 90 = .ok (.invokestatic 18, 3) := by decide +kernel
theorem dL_moves_93 : decode cL_moves 93 = .ok (.if_icmp .ge 5, 3) := by decide +kernel
theorem dL_moves_96 : decode cL_moves 96 = .ok (.iconst 1, 1) := by decide +kernel
theorem dL_moves_97 : decode cL_moves 97 = .ok (.ireturn, 1) := by decide +kernel
theorem dL_moves_98 : decode cL_moves 98 = .ok (.iconst 0, 1) := by decide +kernel
theorem dL_moves_99 : decode cL_moves 99 = .ok (.istore 17, 2) := by decide +kernel
theorem dL_moves_101 : decode cL_moves 101 = .ok (.iload 17, 2) := by decide +kernel
theorem dL_moves_103 : decode cL_moves 103 = .ok (.iload 16, 2) := by decide +kernel
theorem dL_moves_105 : decode cL_moves 105 = .ok (.if_icmp .ge 38, 3) := by decide +kernel
theorem dL_moves_108 : decode cL_moves 108 = .ok (.aload_n 3, 1) := by decide +kernel
theorem dL_moves_109 : decode cL_moves 109 = .ok (.aload 4, 2) := by decide +kernel
theorem dL_moves_111 : decode cL_moves 111 = .ok (.aload 5, 2) := by decide +kernel
theorem dL_moves_113 : decode cL_moves 113 = .ok (.aload 6, 2) := by decide +kernel
theorem dL_moves_115 : decode cL_moves 115 = .ok (.aload 7, 2) := by decide +kernel
theorem dL_moves_117 : decode cL_moves 117 = .ok (.aload 8, 2) := by decide +kernel
theorem dL_moves_119 : decode cL_moves 119 = .ok (.aload 9, 2) := by decide +kernel
theorem dL_moves_121 : decode cL_moves 121 = .ok (.aload 10, 2) := by decide +kernel
theorem dL_moves_123 : decode cL_moves 123 = .ok (.aload 11, 2) := by decide +kernel
theorem dL_moves_125 : decode cL_moves 125 = .ok (.aload 12, 2) := by decide +kernel
theorem dL_moves_127 : decode cL_moves 127 = .ok (.iload 14, 2) := by decide +kernel
theorem dL_moves_129 : decode cL_moves 129 = .ok (.iload 15, 2) := by decide +kernel
theorem dL_moves_131 : decode cL_moves 131 = .ok (.invokestatic 32, 3) := by decide +kernel
theorem dL_moves_134 : decode cL_moves 134 = .ok (.ifCond .eq 9, 3) := by decide +kernel
theorem dL_moves_137 : decode cL_moves 137 = .ok (.iinc 17 1, 3) := by decide +kernel
theorem dL_moves_140 : decode cL_moves 140 = .ok (.goto (-39), 3) := by decide +kernel
theorem dL_moves_143 : decode cL_moves 143 = .ok (.aload_n 3, 1) := by decide +kernel
theorem dL_moves_144 : decode cL_moves 144 = .ok (.iconst 2, 1) := by decide +kernel
theorem dL_moves_145 : decode cL_moves 145 = .ok (.iaload, 1) := by decide +kernel
theorem dL_moves_146 : decode cL_moves 146 = .ok (.bipush 6, 2) := by decide +kernel
theorem dL_moves_148 : decode cL_moves 148 = .ok (.if_icmp .ge 10, 3) := by decide +kernel
theorem dL_moves_151 : decode cL_moves 151 = .ok (.aload_n 3, 1) := by decide +kernel
theorem dL_moves_152 : decode cL_moves 152 = .ok (.iconst 2, 1) := by decide +kernel
theorem dL_moves_153 : decode cL_moves 153 = .ok (.dup2, 1) := by decide +kernel
theorem dL_moves_154 : decode cL_moves 154 = .ok (.iaload, 1) := by decide +kernel
theorem dL_moves_155 : decode cL_moves 155 = .ok (.iconst 1, 1) := by decide +kernel
theorem dL_moves_156 : decode cL_moves 156 = .ok (.iadd, 1) := by decide +kernel
theorem dL_moves_157 : decode cL_moves 157 = .ok (.iastore, 1) := by decide +kernel
theorem dL_moves_158 : decode cL_moves 158 = .ok (.aload_n 0, 1) := by decide +kernel
theorem dL_moves_159 : decode cL_moves 159 = .ok (.iload 14, 2) := by decide +kernel
theorem dL_moves_161 : decode cL_moves 161 = .ok (.iload 15, 2) := by decide +kernel
theorem dL_moves_163 : decode cL_moves 163 = .ok (.iload 16, 2) := by decide +kernel
theorem dL_moves_165 : decode cL_moves 165 = .ok (.imul, 1) := by decide +kernel
theorem dL_moves_166 : decode cL_moves 166 = .ok (.invokevirtual 36, 3) := by decide +kernel
theorem dL_moves_169 : decode cL_moves 169 = .ok (.iload 17, 2) := by decide +kernel
theorem dL_moves_171 : decode cL_moves 171 = .ok (.if_icmp .ne 7, 3) := by decide +kernel
theorem dL_moves_174 : decode cL_moves 174 = .ok (.iconst 1, 1) := by decide +kernel
theorem dL_moves_175 : decode cL_moves 175 = .ok (.goto 4, 3) := by decide +kernel
theorem dL_moves_178 : decode cL_moves 178 = .ok (.iconst 0, 1) := by decide +kernel
theorem dL_moves_179 : decode cL_moves 179 = .ok (.ireturn, 1) := by decide +kernel
theorem dL_moves_180 : decode cL_moves 180 = .ok (.iload 13, 2) := by decide +kernel
theorem dL_moves_182 : decode cL_moves 182 = .ok (.iconst 4, 1) := by decide +kernel
theorem dL_moves_183 : decode cL_moves 183 = .ok (.if_icmp .ge 262, 3) := by decide +kernel
theorem dL_moves_186 : decode cL_moves 186 = .ok (.iload_n 2, 1) := by decide +kernel
theorem dL_moves_187 : decode cL_moves 187 = .ok (.bipush 24, 2) := by decide +kernel
theorem dL_moves_189 : decode cL_moves 189 = .ok (.invokestatic 29, 3) := by decide +kernel
theorem dL_moves_192 : decode cL_moves 192 = .ok (.istore 15, 2) := by decide +kernel
theorem dL_moves_194 : decode cL_moves 194 = .ok (.aload_n 3, 1) := by decide +kernel
theorem dL_moves_195 : decode cL_moves 195 = .ok (.aload 5, 2) := by decide +kernel
theorem dL_moves_197 : decode cL_moves 197 = .ok (.aload 6, 2) := by decide +kernel
theorem dL_moves_199 : decode cL_moves 199 = .ok (.aload 9, 2) := by decide +kernel
theorem dL_moves_201 : decode cL_moves 201 = .ok (.aload 11, 2) := by decide +kernel
theorem dL_moves_203 : decode cL_moves 203 = .ok (.aload 12, 2) := by decide +kernel
theorem dL_moves_205 : decode cL_moves 205 = .ok (.iload 14, 2) := by decide +kernel
theorem dL_moves_207 : decode cL_moves 207 = .ok (.iload 15, 2) := by decide +kernel
theorem dL_moves_209 : decode cL_moves 209 = .ok (.iconst 1, 1) := by decide +kernel
theorem dL_moves_210 : decode cL_moves 210 = .ok (.iconst (-1), 1) := by decide +kernel
theorem dL_moves_211 : decode cL_moves 211 = .ok (.invokestatic 40, 3) := by decide +kernel
theorem dL_moves_214 : decode cL_moves 214 = .ok (.istore 16, 2) := by decide +kernel
theorem dL_moves_216 : decode cL_moves 216 = .ok (.aload_n 3, 1) := by decide +kernel
theorem dL_moves_217 : decode cL_moves 217 = .ok (.aload 5, 2) := by decide +kernel
theorem dL_moves_219 : decode cL_moves 219 = .ok (.aload 6, 2) := by decide +kernel
theorem dL_moves_221 : decode cL_moves 221 = .ok (.aload 9, 2) := by decide +kernel
theorem dL_moves_223 : decode cL_moves 223 = .ok (.aload 11, 2) := by decide +kernel
theorem dL_moves_225 : decode cL_moves 225 = .ok (.aload 12, 2) := by decide +kernel
theorem dL_moves_227 : decode cL_moves 227 = .ok (.iload 14, 2) := by decide +kernel
theorem dL_moves_229 : decode cL_moves 229 = .ok (.iload 15, 2) := by decide +kernel
theorem dL_moves_231 : decode cL_moves 231 = .ok (.iconst (-1), 1) := by decide +kernel
theorem dL_moves_232 : decode cL_moves 232 = .ok (.iconst (-1), 1) := by decide +kernel
theorem dL_moves_233 : decode cL_moves 233 = .ok (.invokestatic 40, 3) := by decide +kernel
theorem dL_moves_236 : decode cL_moves 236 = .ok (.istore 17, 2) := by decide +kernel
theorem dL_moves_238 : decode cL_moves 238 = .ok (.aload_n 0, 1) := by decide +kernel
theorem dL_moves_239 : decode cL_moves 239 = .ok (.iload 14, 2) := by decide +kernel
theorem dL_moves_241 : decode cL_moves 241 = .ok (.iload 15, 2) := by decide +kernel
theorem dL_moves_243 : decode cL_moves 243 = .ok (.iconst 1, 1) := by decide +kernel
theorem dL_moves_244 : decode cL_moves 244 = .ok (.invokevirtual 44, 3) := by decide +kernel
theorem dL_moves_247 : decode cL_moves 247 = .ok (.iload 16, 2) := by decide +kernel
theorem dL_moves_249 : decode cL_moves 249 = .ok (.if_icmp .ne 17, 3) := by decide +kernel
theorem dL_moves_252 : decode cL_moves 252 = .ok (.aload_n 0, 1) := by decide +kernel
theorem dL_moves_253 : decode cL_moves 253 = .ok (.iload 14, 2) := by decide +kernel
theorem dL_moves_255 : decode cL_moves 255 = .ok (.iload 15, 2) := by decide +kernel
theorem dL_moves_257 : decode cL_moves 257 = .ok (.iconst 0, 1) := by decide +kernel
theorem dL_moves_258 : decode cL_moves 258 = .ok (.invokevirtual 44, 3) := by decide +kernel
theorem dL_moves_261 : decode cL_moves 261 = .ok (.iload 17, 2) := by decide +kernel
theorem dL_moves_263 : decode cL_moves 263 = .ok (.if_icmp .eq 5, 3) := by decide +kernel
theorem dL_moves_266 : decode cL_moves 266 = .ok (.iconst 0, 1) := by decide +kernel
theorem dL_moves_267 : decode cL_moves 267 = .ok (.ireturn, 1) := by decide +kernel
theorem dL_moves_268 : decode cL_moves 268 = .ok (.iload 16, 2) := by decide +kernel
theorem dL_moves_270 : decode cL_moves 270 = .ok (.iload 17, 2) := by decide +kernel
theorem dL_moves_272 : decode cL_moves 272 = .ok (.if_icmp .gt 7, 3) := by decide +kernel
theorem dL_moves_275 : decode cL_moves 275 = .ok (.iconst 1, 1) := by decide +kernel
theorem dL_moves_276 : decode cL_moves 276 = .ok (.goto 4, 3) := by decide +kernel
theorem dL_moves_279 : decode cL_moves 279 = .ok (.iconst (-1), 1) := by decide +kernel
theorem dL_moves_280 : decode cL_moves 280 = .ok (.istore 18, 2) := by decide +kernel
theorem dL_moves_282 : decode cL_moves 282 = .ok (.aload 5, 2) := by decide +kernel
theorem dL_moves_284 : decode cL_moves 284 = .ok (.iload 14, 2) := by decide +kernel
theorem dL_moves_286 : decode cL_moves 286 = .ok (.iaload, 1) := by decide +kernel
theorem dL_moves_287 : decode cL_moves 287 = .ok (.iload 15, 2) := by decide +kernel
theorem dL_moves_289 : decode cL_moves 289 = .ok (.if_icmp .eq 52, 3) := by decide +kernel
theorem dL_moves_292 : decode cL_moves 292 = .ok (.aload_n 3, 1) := by decide +kernel
theorem dL_moves_293 : decode cL_moves 293 = .ok (.iconst 0, 1) := by decide +kernel
theorem dL_moves_294 : decode cL_moves 294 = .ok (.iaload, 1) := by decide +kernel
theorem dL_moves_295 : decode cL_moves 295 = .ok (.aload_n 3, 1) := by decide +kernel
theorem dL_moves_296 : decode cL_moves 296 = .ok (.aload 6, 2) := by decide +kernel
theorem dL_moves_298 : decode cL_moves 298 = .ok (.iload 14, 2) := by decide +kernel
theorem dL_moves_300 : decode cL_moves 300 = .ok (.iaload, 1) := by decide +kernel
theorem dL_moves_301 : decode cL_moves 301 = .ok (.aload 11, 2) := by decide +kernel
theorem dL_moves_303 : decode cL_moves 303 = .ok (.aload 12, 2) := by decide +kernel
theorem dL_moves_305 : decode cL_moves 305 = .ok (.iload 14, 2) := by decide +kernel
theorem dL_moves_307 : decode cL_moves 307 = .ok (.aload 4, 2) := by decide +kernel
theorem dL_moves_309 : decode cL_moves 309 = .ok (.iload 14, 2) := by decide +kernel
theorem dL_moves_311 : decode cL_moves 311 = .ok (.iaload, 1) := by decide +kernel
theorem dL_moves_312 : decode cL_moves 312 = .ok (.iload 18, 2) := by decide +kernel
theorem dL_moves_314 : decode cL_moves 314 = .ok (.invokestatic 8, 3) := by decide +kernel
theorem dL_moves_317 : decode cL_moves 317 = .ok (.invokestatic 14, 3) := by decide +kernel
theorem dL_moves_320 : decode cL_moves 320 = .ok (.aload 9, 2) := by decide +kernel
theorem dL_moves_322 : decode cL_moves 322 = .ok (.iload 14, 2) := by decide +kernel
theorem dL_moves_324 : decode cL_moves 324 = .ok (.iaload, 1) := by decide +kernel
theorem dL_moves_325 : decode cL_moves 325 = .ok (.ifCond .le 7, 3) := by decide +kernel
theorem dL_moves_328 : decode cL_moves 328 = .ok (.iconst 1, 1) := by decide +kernel
theorem dL_moves_329 : decode cL_moves 329 = .ok (.goto 4, 3) := by decide +kernel
theorem dL_moves_332 : decode cL_moves 332 = .ok (.iconst 0, 1) := by decide +kernel
theorem dL_moves_333 : decode cL_moves 333 = .ok (.invokestatic 18, 3) := by decide +kernel
theorem dL_moves_336 : decode cL_moves 336 = .ok (.if_icmp .ge 5, 3) := by decide +kernel
theorem dL_moves_339 : decode cL_moves 339 = .ok (.iconst 1, 1) := by decide +kernel
theorem dL_moves_340 : decode cL_moves 340 = .ok (.ireturn, 1) := by decide +kernel
theorem dL_moves_341 : decode cL_moves 341 = .ok (.aload 10, 2) := by decide +kernel
theorem dL_moves_343 : decode cL_moves 343 = .ok (.iconst 5, 1) := by decide +kernel
theorem dL_moves_344 : decode cL_moves 344 = .ok (.iload 14, 2) := by decide +kernel
theorem dL_moves_346 : decode cL_moves 346 = .ok (.imul, 1) := by decide +kernel
theorem dL_moves_347 : decode cL_moves 347 = .ok (.iconst 2, 1) := by decide +kernel
theorem dL_moves_348 : decode cL_moves 348 = .ok (.iadd, 1) := by decide +kernel
theorem dL_moves_349 : decode cL_moves 349 = .ok (.iaload, 1) := by decide +kernel
theorem dL_moves_350 : decode cL_moves 350 = .ok (.istore 19, 2) := by decide +kernel
theorem dL_moves_352 : decode cL_moves 352 = .ok (.iconst 1, 1) := by decide +kernel
theorem dL_moves_353 : decode cL_moves 353 = .ok (.istore 20, 2) := by decide +kernel
theorem dL_moves_355 : decode cL_moves 355 = .ok (.iload 20, 2) := by decide +kernel
theorem dL_moves_357 : decode cL_moves 357 = .ok (.ifCond .eq 44, 3) := by decide +kernel
theorem dL_moves_360 : decode cL_moves 360 = .ok (.aload 5, 2) := by decide +kernel
theorem dL_moves_362 : decode cL_moves 362 = .ok (.iload 14, 2) := by decide +kernel
theorem dL_moves_364 : decode cL_moves 364 = .ok (.iaload, 1) := by decide +kernel
theorem dL_moves_365 : decode cL_moves 365 = .ok (.iload 15, 2) := by decide +kernel
theorem dL_moves_367 : decode cL_moves 367 = .ok (.if_icmp .eq 34, 3) := by decide +kernel
theorem dL_moves_370 : decode cL_moves 370 = .ok (.aload_n 3, 1) := by decide +kernel
theorem dL_moves_371 : decode cL_moves 371 = .ok (.aload 4, 2) := by decide +kernel
theorem dL_moves_373 : decode cL_moves 373 = .ok (.aload 5, 2) := by decide +kernel
theorem dL_moves_375 : decode cL_moves 375 = .ok (.aload 6, 2) := by decide +kernel
theorem dL_moves_377 : decode cL_moves 377 = .ok (.aload 7, 2) := by decide +kernel
theorem dL_moves_379 : decode cL_moves 379 = .ok (.aload 8, 2) := by decide +kernel
theorem dL_moves_381 : decode cL_moves 381 = .ok (.aload 9, 2) := by decide +kernel
theorem dL_moves_383 : decode cL_moves 383 = .ok (.aload 10, 2) := by decide +kernel
theorem dL_moves_385 : decode cL_moves 385 = .ok (.aload 11, 2) := by decide +kernel
theorem dL_moves_387 : decode cL_moves 387 = .ok (.aload 12, 2) := by decide +kernel
theorem dL_moves_389 : decode cL_moves 389 = .ok (.iload 14, 2) := by decide +kernel
theorem dL_moves_391 : decode cL_moves 391 = .ok (.iload 18, 2) := by decide +kernel
theorem dL_moves_393 : decode cL_moves 393 = .ok (.invokestatic 32, 3) := by decide +kernel
theorem dL_moves_396 : decode cL_moves 396 = .ok (.istore 20, 2) := by decide +kernel
theorem dL_moves_398 : decode cL_moves 398 = .ok (.goto (-43), 3) := by decide +kernel
theorem dL_moves_401 : decode cL_moves 401 = .ok (.aload_n 3, 1) := by decide +kernel
theorem dL_moves_402 : decode cL_moves 402 = .ok (.iconst 2, 1) := by decide +kernel
theorem dL_moves_403 : decode cL_moves 403 = .ok (.iaload, 1) := by decide +kernel
theorem dL_moves_404 : decode cL_moves 404 = .ok (.bipush 6, 2) := by decide +kernel
theorem dL_moves_406 : decode cL_moves 406 = .ok (.if_icmp .ge 10, 3) := by decide +kernel
theorem dL_moves_409 : decode cL_moves 409 = .ok (.aload_n 3, 1) := by decide +kernel
theorem dL_moves_410 : decode cL_moves 410 = .ok (.iconst 2, 1) := by decide +kernel
theorem dL_moves_411 : decode cL_moves 411 = .ok (.dup2, 1) := by decide +kernel
theorem dL_moves_412 : decode cL_moves 412 = .ok (.iaload, 1) := by decide +kernel
theorem dL_moves_413 : decode cL_moves 413 = .ok (.iconst 1, 1) := by decide +kernel
theorem dL_moves_414 : decode cL_moves 414 = .ok (.iadd, 1) := by decide +kernel
theorem dL_moves_415 : decode cL_moves 415 = .ok (.iastore, 1) := by decide +kernel
theorem dL_moves_416 : decode cL_moves 416 = .ok (.aload_n 0, 1) := by decide +kernel
theorem dL_moves_417 : decode cL_moves 417 = .ok (.iload 14, 2) := by decide +kernel
theorem dL_moves_419 : decode cL_moves 419 = .ok (.iload 15, 2) := by decide +kernel
theorem dL_moves_421 : decode cL_moves 421 = .ok (.invokevirtual 47, 3) := by decide +kernel
theorem dL_moves_424 : decode cL_moves 424 = .ok (.aload 10, 2) := by decide +kernel
theorem dL_moves_426 : decode cL_moves 426 = .ok (.iconst 5, 1) := by decide +kernel
theorem dL_moves_427 : decode cL_moves 427 = .ok (.iload 14, 2) := by decide +kernel
theorem dL_moves_429 : decode cL_moves 429 = .ok (.imul, 1) := by decide +kernel
theorem dL_moves_430 : decode cL_moves 430 = .ok (.iconst 2, 1) := by decide +kernel
theorem dL_moves_431 : decode cL_moves 431 = .ok (.iadd, 1) := by decide +kernel
theorem dL_moves_432 : decode cL_moves 432 = .ok (.iaload, 1) := by decide +kernel
theorem dL_moves_433 : decode cL_moves 433 = .ok (.iload 19, 2) := by decide +kernel
theorem dL_moves_435 : decode cL_moves 435 = .ok (.isub, 1) := by decide +kernel
theorem dL_moves_436 : decode cL_moves 436 = .ok (.if_icmp .ne 7, 3) := by decide +kernel
theorem dL_moves_439 : decode cL_moves 439 = .ok (.iconst 1, 1) := by decide +kernel
theorem dL_moves_440 : decode cL_moves 440 = .ok (.goto 4, 3) := by decide +kernel
theorem dL_moves_443 : decode cL_moves 443 = .ok (.iconst 0, 1) := by decide +kernel
theorem dL_moves_444 : decode cL_moves 444 = .ok (.ireturn, 1) := by decide +kernel
theorem dL_moves_445 : decode cL_moves 445 = .ok (.aload_n 0, 1) := by decide +kernel
theorem dL_moves_446 : decode cL_moves 446 = .ok (.iload 14, 2) := by decide +kernel
theorem dL_moves_448 : decode cL_moves 448 = .ok (.iconst 0, 1) := by decide +kernel
theorem dL_moves_449 : decode cL_moves 449 = .ok (.invokevirtual 48, 3) := by decide +kernel
theorem dL_moves_452 : decode cL_moves 452 = .ok (.istore 15, 2) := by decide +kernel
theorem dL_moves_454 : decode cL_moves 454 = .ok (.iconst 0, 1) := by decide +kernel
theorem dL_moves_455 : decode cL_moves 455 = .ok (.istore 16, 2) := by decide +kernel
theorem dL_moves_457 : decode cL_moves 457 = .ok (.aload 4, 2) := by decide +kernel
theorem dL_moves_459 : decode cL_moves 459 = .ok (.iload 14, 2) := by decide +kernel
theorem dL_moves_461 : decode cL_moves 461 = .ok (.iaload, 1) := by decide +kernel
theorem dL_moves_462 : decode cL_moves 462 = .ok (.ifCond .eq 44, 3) := by decide +kernel
theorem dL_moves_465 : decode cL_moves 465 = .ok (.iload 16, 2) := by decide +kernel
theorem dL_moves_467 : decode cL_moves 467 = .ok (.bipush 40, 2) := by decide +kernel
theorem dL_moves_469 : decode cL_moves 469 = .ok (.if_icmp .ge 37, 3) := by decide +kernel
theorem dL_moves_472 : decode cL_moves 472 = .ok (.aload_n 3, 1) := by decide +kernel
theorem dL_moves_473 : decode cL_moves 473 = .ok (.aload 4, 2) := by decide +kernel
theorem dL_moves_475 : decode cL_moves 475 = .ok (.aload 5, 2) := by decide +kernel
theorem dL_moves_477 : decode cL_moves 477 = .ok (.aload 6, 2) := by decide +kernel
theorem dL_moves_479 : decode cL_moves 479 = .ok (.aload 7, 2) := by decide +kernel
theorem dL_moves_481 : decode cL_moves 481 = .ok (.aload 8, 2) := by decide +kernel
theorem dL_moves_483 : decode cL_moves 483 = .ok (.aload 9, 2) := by decide +kernel
theorem dL_moves_485 : decode cL_moves 485 = .ok (.aload 10, 2) := by decide +kernel
theorem dL_moves_487 : decode cL_moves 487 = .ok (.aload 11, 2) := by decide +kernel
theorem dL_moves_489 : decode cL_moves 489 = .ok (.aload 12, 2) := by decide +kernel
theorem dL_moves_491 : decode cL_moves 491 = .ok (.iload 14, 2) := by decide +kernel
theorem dL_moves_493 : decode cL_moves 493 = .ok (.iconst (-1), 1) := by decide +kernel
theorem dL_moves_494 : decode cL_moves 494 = .ok (.invokestatic 32, 3) := by decide +kernel
theorem dL_moves_497 : decode cL_moves 497 = .ok (.ifCond .eq 9, 3) := by decide +kernel
theorem dL_moves_500 : decode cL_moves 500 = .ok (.iinc 16 1, 3) := by decide +kernel
theorem dL_moves_503 : decode cL_moves 503 = .ok (.goto (-46), 3) := by decide +kernel
theorem dL_moves_506 : decode cL_moves 506 = .ok (.aload 4, 2) := by decide +kernel
theorem dL_moves_508 : decode cL_moves 508 = .ok (.iload 14, 2) := by decide +kernel
theorem dL_moves_510 : decode cL_moves 510 = .ok (.iaload, 1) := by decide +kernel
theorem dL_moves_511 : decode cL_moves 511 = .ok (.ifCond .ne 7, 3) := by decide +kernel
theorem dL_moves_514 : decode cL_moves 514 = .ok (.iconst 1, 1) := by decide +kernel
theorem dL_moves_515 : decode cL_moves 515 = .ok (.goto 4, 3) := by decide +kernel
theorem dL_moves_518 : decode cL_moves 518 = .ok (.iconst 0, 1) := by decide +kernel
theorem dL_moves_519 : decode cL_moves 519 = .ok (.istore 17, 2) := by decide +kernel
theorem dL_moves_521 : decode cL_moves 521 = .ok (.iload 17, 2) := by decide +kernel
theorem dL_moves_523 : decode cL_moves 523 = .ok (.ifCond .eq 34, 3) := by decide +kernel
theorem dL_moves_526 : decode cL_moves 526 = .ok (.aload 5, 2) := by decide +kernel
theorem dL_moves_528 : decode cL_moves 528 = .ok (.iload 14, 2) := by decide +kernel
theorem dL_moves_530 : decode cL_moves 530 = .ok (.iconst 0, 1) := by decide +kernel
theorem dL_moves_531 : decode cL_moves 531 = .ok (.iastore, 1) := by decide +kernel
theorem dL_moves_532 : decode cL_moves 532 = .ok (.aload 8, 2) := by decide +kernel
theorem dL_moves_534 : decode cL_moves 534 = .ok (.iload 14, 2) := by decide +kernel
theorem dL_moves_536 : decode cL_moves 536 = .ok (.iconst 0, 1) := by decide +kernel
theorem dL_moves_537 : decode cL_moves 537 = .ok (.iastore, 1) := by decide +kernel
theorem dL_moves_538 : decode cL_moves 538 = .ok (.aload 7, 2) := by decide +kernel
theorem dL_moves_540 : decode cL_moves 540 = .ok (.iload 14, 2) := by decide +kernel
theorem dL_moves_542 : decode cL_moves 542 = .ok (.iconst 0, 1) := by decide +kernel
theorem dL_moves_543 : decode cL_moves 543 = .ok (.iastore, 1) := by decide +kernel
theorem dL_moves_544 : decode cL_moves 544 = .ok (.aload 10, 2) := by decide +kernel
theorem dL_moves_546 : decode cL_moves 546 = .ok (.iconst 5, 1) := by decide +kernel
theorem dL_moves_547 : decode cL_moves 547 = .ok (.iload 14, 2) := by decide +kernel
theorem dL_moves_549 : decode cL_moves 549 = .ok (.imul, 1) := by decide +kernel
theorem dL_moves_550 : decode cL_moves 550 = .ok (.iconst 4, 1) := by decide +kernel
theorem dL_moves_551 : decode cL_moves 551 = .ok (.iadd, 1) := by decide +kernel
theorem dL_moves_552 : decode cL_moves 552 = .ok (.dup2, 1) := by decide +kernel
theorem dL_moves_553 : decode cL_moves 553 = .ok (.iaload, 1) := by decide +kernel
theorem dL_moves_554 : decode cL_moves 554 = .ok (.iconst 1, 1) := by decide +kernel
theorem dL_moves_555 : decode cL_moves 555 = .ok (.iadd, 1) := by decide +kernel
theorem dL_moves_556 : decode cL_moves 556 = .ok (.iastore, 1) := by decide +kernel
theorem dL_moves_557 : decode cL_moves 557 = .ok (.aload_n 3, 1) := by decide +kernel
theorem dL_moves_558 : decode cL_moves 558 = .ok (.iconst 2, 1) := by decide +kernel
theorem dL_moves_559 : decode cL_moves 559 = .ok (.iaload, 1) := by decide +kernel
theorem dL_moves_560 : decode cL_moves 560 = .ok (.bipush 6, 2) := by decide +kernel
theorem dL_moves_562 : decode cL_moves 562 = .ok (.if_icmp .ge 10, 3) := by decide +kernel
theorem dL_moves_565 : decode cL_moves 565 = .ok (.aload_n 3, 1) := by decide +kernel
theorem dL_moves_566 : decode cL_moves 566 = .ok (.iconst 2, 1) := by decide +kernel
theorem dL_moves_567 : decode cL_moves 567 = .ok (.dup2, 1) := by decide +kernel
theorem dL_moves_568 : decode cL_moves 568 = .ok (.iaload, 1) := by decide +kernel
theorem dL_moves_569 : decode cL_moves 569 = .ok (.iconst 1, 1) := by decide +kernel
theorem dL_moves_570 : decode cL_moves 570 = .ok (.iadd, 1) := by decide +kernel
theorem dL_moves_571 : decode cL_moves 571 = .ok (.iastore, 1) := by decide +kernel
theorem dL_moves_572 : decode cL_moves 572 = .ok (.iload 15, 2) := by decide +kernel
theorem dL_moves_574 : decode cL_moves 574 = .ok (.iload 16, 2) := by decide +kernel
theorem dL_moves_576 : decode cL_moves 576 = .ok (.if_icmp .ne 27, 3) := by decide +kernel
theorem dL_moves_579 : decode cL_moves 579 = .ok (.aload_n 0, 1) := by decide +kernel
theorem dL_moves_580 : decode cL_moves 580 = .ok (.iload 14, 2) := by decide +kernel
theorem dL_moves_582 : decode cL_moves 582 = .ok (.invokevirtual 51, 3) := by decide +kernel
theorem dL_moves_585 : decode cL_moves 585 = .ok (.iload 17, 2) := by decide +kernel
theorem dL_moves_587 : decode cL_moves 587 = .ok (.ifCond .eq 8, 3) := by decide +kernel
theorem dL_moves_590 : decode cL_moves 590 = .ok (.iload 16, 2) := by decide +kernel
theorem dL_moves_592 : decode cL_moves 592 = .ok (.goto 4, 3) := by decide +kernel
theorem dL_moves_595 : decode cL_moves 595 = .ok (.iconst (-1), 1) := by decide +kernel
theorem dL_moves_596 : decode cL_moves 596 = .ok (.if_icmp .ne 7, 3) := by decide +kernel
theorem dL_moves_599 : decode cL_moves 599 = .ok (.iconst 1, 1) := by decide +kernel
theorem dL_moves_600 : decode cL_moves 600 = .ok (.goto 4, 3) := by decide +kernel
theorem dL_moves_603 : decode cL_moves 603 = .ok (.iconst 0, 1) := by decide +kernel
theorem dL_moves_604 : decode cL_moves 604 = .ok (.ireturn, 1) := by decide +kernel
theorem dL_cares_0 : decode cL_cares 0 = .ok (.iload_n 1, 1) := by decide +kernel
theorem dL_cares_1 : decode cL_cares 1 = .ok (.iconst 5, 1) := by decide +kernel
theorem dL_cares_2 : decode cL_cares 2 = .ok (.invokestatic 29, 3) := by decide +kernel
theorem dL_cares_5 : decode cL_cares 5 = .ok (.istore 8, 2) := by decide +kernel
theorem dL_cares_7 : decode cL_cares 7 = .ok (.iload_n 1, 1) := by decide +kernel
theorem dL_cares_8 : decode cL_cares 8 = .ok (.iconst 4, 1) := by decide +kernel
theorem dL_cares_9 : decode cL_cares 9 = .ok (.ishr, 1) := by decide +kernel
theorem dL_cares_10 : decode cL_cares 10 = .ok (.iconst 4, 1) := by decide +kernel
theorem dL_cares_11 : decode cL_cares 11 = .ok (.invokestatic 29, 3) := by decide +kernel
theorem dL_cares_14 : decode cL_cares 14 = .ok (.istore 9, 2) := by decide +kernel
theorem dL_cares_16 : decode cL_cares 16 = .ok (.iload 8, 2) := by decide +kernel
theorem dL_cares_18 : decode cL_cares 18 = .ok (.ifCond .ne 55, 3) := by decide +kernel
theorem dL_cares_21 : decode cL_cares 21 = .ok (.iconst 1, 1) := by decide +kernel
theorem dL_cares_22 : decode cL_cares 22 = .ok (.iload_n 2, 1) := by decide +kernel
theorem dL_cares_23 : decode cL_cares 23 = .ok (.sipush 300, 3) := by decide +kernel
theorem dL_cares_26 : decode cL_cares 26 = .ok (.invokestatic 29, 3) := by decide +kernel
theorem dL_cares_29 : decode cL_cares 29 = .ok (.iadd, 1) := by decide +kernel
theorem dL_cares_30 : decode cL_cares 30 = .ok (.istore 10, 2) := by decide +kernel
theorem dL_cares_32 : decode cL_cares 32 = .ok (.aload_n 3, 1) := by decide +kernel
theorem dL_cares_33 : decode cL_cares 33 = .ok (.iconst 0, 1) := by decide +kernel
theorem dL_cares_34 : decode cL_cares 34 = .ok (.dup2, 1) := by decide +kernel
theorem dL_cares_35 : decode cL_cares 35 = .ok (.iaload, 1) := by decide +kernel
theorem dL_cares_36 : decode cL_cares 36 = .ok (.iload 10, 2) := by decide +kernel
theorem dL_cares_38 : decode cL_cares 38 = .ok (.iadd, 1) := by decide +kernel
theorem dL_cares_39 : decode cL_cares 39 = .ok (.iastore, 1) := by decide +kernel
theorem dL_cares_40 : decode cL_cares 40 = .ok (.aload_n 3, 1) := by decide +kernel
theorem dL_cares_41 : decode cL_cares 41 = .ok (.iconst 2, 1) := by decide +kernel
theorem dL_cares_42 : decode cL_cares 42 = .ok (.iaload, 1) := by decide +kernel
theorem dL_cares_43 : decode cL_cares 43 = .ok (.bipush 6, 2) := by decide +kernel
theorem dL_cares_45 : decode cL_cares 45 = .ok (.if_icmp .ge 10, 3) := by decide +kernel
theorem dL_cares_48 : decode cL_cares 48 = .ok (.aload_n 3, 1) := by decide +kernel
theorem dL_cares_49 : decode cL_cares 49 = .ok (.iconst 2, 1) := by decide +kernel
theorem dL_cares_50 : decode cL_cares 50 = .ok (.dup2, 1) := by decide +kernel
theorem dL_cares_51 : decode cL_cares 51 = .ok (.iaload, 1) := by decide +kernel
theorem dL_cares_52 : decode cL_cares 52 = .ok (.iconst 1, 1) := by decide +kernel
theorem dL_cares_53 : decode cL_cares 53 = .ok (.iadd, 1) := by decide +kernel
theorem dL_cares_54 : decode cL_cares 54 = .ok (.iastore, 1) := by decide +kernel
theorem dL_cares_55 : decode cL_cares 55 = .ok (.aload_n 0, 1) := by decide +kernel
theorem dL_cares_56 : decode cL_cares 56 = .ok (.iload 10, 2) := by decide +kernel
theorem dL_cares_58 : decode cL_cares 58 = .ok (.invokevirtual 55, 3) := by decide +kernel
theorem dL_cares_61 : decode cL_cares 61 = .ok (.aload_n 3, 1) := by decide +kernel
theorem dL_cares_62 : decode cL_cares 62 = .ok (.iconst 0, 1) := by decide +kernel
theorem dL_cares_63 : decode cL_cares 63 = .ok (.iaload, 1) := by decide +kernel
theorem dL_cares_64 : decode cL_cares 64 = .ok (.if_icmp .ne 7, 3) := by decide +kernel
theorem dL_cares_67 : decode cL_cares 67 = .ok (.iconst 1, 1) := by decide +kernel
theorem dL_cares_68 : decode cL_cares 68 = .ok (.goto 4, 3) := by decide +kernel
theorem dL_cares_71 : decode cL_cares 71 = .ok (.iconst 0, 1) := by decide +kernel
theorem dL_cares_72 : decode cL_cares 72 = .ok (.ireturn, 1) := by decide +kernel
theorem dL_cares_73 : decode cL_cares 73 = .ok (.iload 8, 2) := by decide +kernel
theorem dL_cares_75 : decode cL_cares 75 = .ok (.iconst 1, 1) := by decide +kernel
theorem dL_cares_76 : decode cL_cares 76 = .ok (.if_icmp .ne 58, 3) := by decide +kernel
theorem dL_cares_79 : decode cL_cares 79 = .ok (.aload 4, 2) := by decide +kernel
theorem dL_cares_81 : decode cL_cares 81 = .ok (.iload 9, 2) := by decide +kernel
theorem dL_cares_83 : decode cL_cares 83 = .ok (.iaload, 1) := by decide +kernel
theorem dL_cares_84 : decode cL_cares 84 = .ok (.istore 10, 2) := by decide +kernel
theorem dL_cares_86 : decode cL_cares 86 = .ok (.aload 4, 2) := by decide +kernel
theorem dL_cares_88 : decode cL_cares 88 = .ok (.iload 9, 2) := by decide +kernel
theorem dL_cares_90 : decode cL_cares 90 = .ok (.iload_n 2, 1) := by decide +kernel
theorem dL_cares_91 : decode cL_cares 91 = .ok (.bipush 6, 2) := by decide +kernel
theorem dL_cares_93 : decode cL_cares 93 = .ok (.invokestatic 29, 3) := by decide +kernel
theorem dL_cares_96 : decode cL_cares 96 = .ok (.iastore, 1) := by decide +kernel
theorem dL_cares_97 : decode cL_cares 97 = .ok (.aload_n 3, 1) := by decide +kernel
theorem dL_cares_98 : decode cL_cares 98 = .ok (.iconst 2, 1) := by decide +kernel
theorem dL_cares_99 : decode cL_cares 99 = .ok (.iaload, 1) := by decide +kernel
theorem dL_cares_100 : decode cL_cares 100 = .ok (.bipush 6, 2) := by decide +kernel
theorem dL_cares_102 : decode cL_cares 102 = .ok (.if_icmp .ge 10, 3) := by decide +kernel
theorem dL_cares_105 : decode cL_cares 105 = .ok (.aload_n 3, 1) := by decide +kernel
theorem dL_cares_106 : decode cL_cares 106 = .ok (.iconst 2, 1) := by decide +kernel
theorem dL_cares_107 : decode cL_cares 107 = .ok (.dup2, 1) := by decide +kernel
theorem dL_cares_108 : decode cL_cares 108 = .ok (.iaload, 1) := by decide +kernel
theorem dL_cares_109 : decode cL_cares 109 = .ok (.iconst 1, 1) := by decide +kernel
theorem dL_cares_110 : decode cL_cares 110 = .ok (.iadd, 1) := by decide +kernel
theorem dL_cares_111 : decode cL_cares 111 = .ok (.iastore, 1) := by decide +kernel
theorem dL_cares_112 : decode cL_cares 112 = .ok (.aload_n 0, 1) := by decide +kernel
theorem dL_cares_113 : decode cL_cares 113 = .ok (.iload 9, 2) := by decide +kernel
theorem dL_cares_115 : decode cL_cares 115 = .ok (.aload 4, 2) := by decide +kernel
theorem dL_cares_117 : decode cL_cares 117 = .ok (.iload 9, 2) := by decide +kernel
theorem dL_cares_119 : decode cL_cares 119 = .ok (.iaload, 1) := by decide +kernel
theorem dL_cares_120 : decode cL_cares 120 = .ok (.invokevirtual 58, 3) := by decide +kernel
theorem dL_cares_123 : decode cL_cares 123 = .ok (.iload 10, 2) := by decide +kernel
theorem dL_cares_125 : decode cL_cares 125 = .ok (.if_icmp .ne 7, 3) := by decide +kernel
theorem dL_cares_128 : decode cL_cares 128 = .ok (.iconst 1, 1) := by decide +kernel
theorem dL_cares_129 : decode cL_cares 129 = .ok (.goto 4, 3) := by decide +kernel
theorem dL_cares_132 : decode cL_cares 132 = .ok (.iconst 0, 1) := by decide +kernel
theorem dL_cares_133 : decode cL_cares 133 = .ok (.ireturn, 1) := by decide +kernel
theorem dL_cares_134 : decode cL_cares 134 = .ok (.iload 8, 2) := by decide +kernel
theorem dL_cares_136 : decode cL_cares 136 = .ok (.iconst 2, 1) := by decide +kernel
theorem dL_cares_137 : decode cL_cares 137 = .ok (.if_icmp .ne 77, 3) := by decide +kernel
theorem dL_cares_140 : decode cL_cares 140 = .ok (.aload_n 3, 1) := by decide +kernel
theorem dL_cares_141 : decode cL_cares 141 = .ok (.iconst 0, 1) := by decide +kernel
theorem dL_cares_142 : decode cL_cares 142 = .ok (.iaload, 1) := by decide +kernel
theorem dL_cares_143 : decode cL_cares 143 = .ok (.aload_n 3, 1) := by decide +kernel
theorem dL_cares_144 : decode cL_cares 144 = .ok (.bipush 8, 2) := by decide +kernel
theorem dL_cares_146 : decode cL_cares 146 = .ok (.iaload, 1) := by decide +kernel
theorem dL_cares_147 : decode cL_cares 147 = .ok (.if_icmp .ge 5, 3) := by decide +kernel
theorem dL_cares_150 : decode cL_cares 150 = .ok (.iconst 1, 1) := by decide +kernel
theorem dL_cares_151 : decode cL_cares 151 = .ok (.ireturn, 1) := by decide +kernel
theorem dL_cares_152 : decode cL_cares 152 = .ok (.aload_n 3, 1) := by decide +kernel
theorem dL_cares_153 : decode cL_cares 153 = .ok (.iconst 0, 1) := by decide +kernel
theorem dL_cares_154 : decode cL_cares 154 = .ok (.dup2, 1) := by decide +kernel
theorem dL_cares_155 : decode cL_cares 155 = .ok (.iaload, 1) := by decide +kernel
theorem dL_cares_156 : decode cL_cares 156 = .ok (.aload_n 3, 1) := by decide +kernel
theorem dL_cares_157 : decode cL_cares 157 = .ok (.bipush 8, 2) := by decide +kernel
theorem dL_cares_159 : decode cL_cares 159 = .ok (.iaload, 1) := by decide +kernel
theorem dL_cares_160 : decode cL_cares 160 = .ok (.isub, 1) := by decide +kernel
theorem dL_cares_161 : decode cL_cares 161 = .ok (.iastore, 1) := by decide +kernel
theorem dL_cares_162 : decode cL_cares 162 = .ok (.aload_n 3, 1) := by decide +kernel
theorem dL_cares_163 : decode cL_cares 163 = .ok (.iconst 1, 1) := by decide +kernel
theorem dL_cares_164 : decode cL_cares 164 = .ok (.dup2, 1) := by decide +kernel
theorem dL_cares_165 : decode cL_cares 165 = .ok (.iaload, 1) := by decide +kernel
theorem dL_cares_166 : decode cL_cares 166 = .ok (.aload_n 3, 1) := by decide +kernel
theorem dL_cares_167 : decode cL_cares 167 = .ok (.bipush 8, 2) := by decide +kernel
theorem dL_cares_169 : decode cL_cares 169 = .ok (.iaload, 1) := by decide +kernel
theorem dL_cares_170 : decode cL_cares 170 = .ok (.iadd, 1) := by decide +kernel
theorem dL_cares_171 : decode cL_cares 171 = .ok (.iastore, 1) := by decide +kernel
theorem dL_cares_172 : decode cL_cares 172 = .ok (.aload 5, 2) := by decide +kernel
theorem dL_cares_174 : decode cL_cares 174 = .ok (.iload 9, 2) := by decide +kernel
theorem dL_cares_176 : decode cL_cares 176 = .ok (.aload_n 3, 1) := by decide +kernel
theorem dL_cares_177 : decode cL_cares 177 = .ok (.bipush 7, 2) := by decide +kernel
theorem dL_cares_179 : decode cL_cares 179 = .ok (.iaload, 1) := by decide +kernel
theorem dL_cares_180 : decode cL_cares 180 = .ok (.iastore, 1) := by decide +kernel
theorem dL_cares_181 : decode cL_cares 181 = .ok (.aload_n 3, 1) := by decide +kernel
theorem dL_cares_182 : decode cL_cares 182 = .ok (.iconst 2, 1) := by decide +kernel
theorem dL_cares_183 : decode cL_cares 183 = .ok (.iaload, 1) := by decide +kernel
theorem dL_cares_184 : decode cL_cares 184 = .ok (.bipush 6, 2) := by decide +kernel
theorem dL_cares_186 : decode cL_cares 186 = .ok (.if_icmp .ge 10, 3) := by decide +kernel
theorem dL_cares_189 : decode cL_cares 189 = .ok (.aload_n 3, 1) := by decide +kernel
theorem dL_cares_190 : decode cL_cares 190 = .ok (.iconst 2, 1) := by decide +kernel
theorem dL_cares_191 : decode cL_cares 191 = .ok (.dup2, 1) := by decide +kernel
theorem dL_cares_192 : decode cL_cares 192 = .ok (.iaload, 1) := by decide +kernel
theorem dL_cares_193 : decode cL_cares 193 = .ok (.iconst 1, 1) := by decide +kernel
theorem dL_cares_194 : decode cL_cares 194 = .ok (.iadd, 1) := by decide +kernel
theorem dL_cares_195 : decode cL_cares 195 = .ok (.iastore, 1) := by decide +kernel
theorem dL_cares_196 : decode cL_cares 196 = .ok (.aload_n 0, 1) := by decide +kernel
theorem dL_cares_197 : decode cL_cares 197 = .ok (.iload 9, 2) := by decide +kernel
theorem dL_cares_199 : decode cL_cares 199 = .ok (.invokevirtual 61, 3) := by decide +kernel
theorem dL_cares_202 : decode cL_cares 202 = .ok (.aload_n 3, 1) := by decide +kernel
theorem dL_cares_203 : decode cL_cares 203 = .ok (.iconst 0, 1) := by decide +kernel
theorem dL_cares_204 : decode cL_cares 204 = .ok (.iaload, 1) := by decide +kernel
theorem dL_cares_205 : decode cL_cares 205 = .ok (.if_icmp .ne 7, 3) := by decide +kernel
theorem dL_cares_208 : decode cL_cares 208 = .ok (.iconst 1, 1) := by decide +kernel
theorem dL_cares_209 : decode cL_cares 209 = .ok (.goto 4, 3) := by decide +kernel
theorem dL_cares_212 : decode cL_cares 212 = .ok (.iconst 0, 1) := by decide +kernel
theorem dL_cares_213 : decode cL_cares 213 = .ok (.ireturn, 1) := by decide +kernel
theorem dL_cares_214 : decode cL_cares 214 = .ok (.iload 8, 2) := by decide +kernel
theorem dL_cares_216 : decode cL_cares 216 = .ok (.iconst 3, 1) := by decide +kernel
theorem dL_cares_217 : decode cL_cares 217 = .ok (.if_icmp .ne 101, 3) := by decide +kernel
theorem dL_cares_220 : decode cL_cares 220 = .ok (.iload_n 2, 1) := by decide +kernel
theorem dL_cares_221 : decode cL_cares 221 = .ok (.bipush 24, 2) := by decide +kernel
theorem dL_cares_223 : decode cL_cares 223 = .ok (.invokestatic 29, 3) := by decide +kernel
theorem dL_cares_226 : decode cL_cares 226 = .ok (.istore 10, 2) := by decide +kernel
theorem dL_cares_228 : decode cL_cares 228 = .ok (.aload 6, 2) := by decide +kernel
theorem dL_cares_230 : decode cL_cares 230 = .ok (.aload 7, 2) := by decide +kernel
theorem dL_cares_232 : decode cL_cares 232 = .ok (.iload 9, 2) := by decide +kernel
theorem dL_cares_234 : decode cL_cares 234 = .ok (.iload 10, 2) := by decide +kernel
theorem dL_cares_236 : decode cL_cares 236 = .ok (.invokestatic 14, 3) := by decide +kernel
theorem dL_cares_239 : decode cL_cares 239 = .ok (.aload_n 3, 1) := by decide +kernel
theorem dL_cares_240 : decode cL_cares 240 = .ok (.bipush 6, 2) := by decide +kernel
theorem dL_cares_242 : decode cL_cares 242 = .ok (.iaload, 1) := by decide +kernel
theorem dL_cares_243 : decode cL_cares 243 = .ok (.imul, 1) := by decide +kernel
theorem dL_cares_244 : decode cL_cares 244 = .ok (.istore 11, 2) := by decide +kernel
theorem dL_cares_246 : decode cL_cares 246 = .ok (.aload_n 3, 1) := by decide +kernel
theorem dL_cares_247 : decode cL_cares 247 = .ok (.iconst 0, 1) := by decide +kernel
theorem dL_cares_248 : decode cL_cares 248 = .ok (.iaload, 1) := by decide +kernel
theorem dL_cares_249 : decode cL_cares 249 = .ok (.iload 11, 2) := by decide +kernel
theorem dL_cares_251 : decode cL_cares 251 = .ok (.if_icmp .ge 5, 3) := by decide +kernel
theorem dL_cares_254 : decode cL_cares 254 = .ok (.iconst 1, 1) := by decide +kernel
theorem dL_cares_255 : decode cL_cares 255 = .ok (.ireturn, 1) := by decide +kernel
theorem dL_cares_256 : decode cL_cares 256 = .ok (.aload_n 3, 1) := by decide +kernel
theorem dL_cares_257 : decode cL_cares 257 = .ok (.iconst 0, 1) := by decide +kernel
theorem dL_cares_258 : decode cL_cares 258 = .ok (.dup2, 1) := by decide +kernel
theorem dL_cares_259 : decode cL_cares 259 = .ok (.iaload, 1) := by decide +kernel
theorem dL_cares_260 : decode cL_cares 260 = .ok (.iload 11, 2) := by decide +kernel
theorem dL_cares_262 : decode cL_cares 262 = .ok (.isub, 1) := by decide +kernel
theorem dL_cares_263 : decode cL_cares 263 = .ok (.iastore, 1) := by decide +kernel
theorem dL_cares_264 : decode cL_cares 264 = .ok (.aload_n 3, 1) := by decide +kernel
theorem dL_cares_265 : decode cL_cares 265 = .ok (.iconst 1, 1) := by decide +kernel
theorem dL_cares_266 : decode cL_cares 266 = .ok (.dup2, 1) := by decide +kernel
theorem dL_cares_267 : decode cL_cares 267 = .ok (.iaload, 1) := by decide +kernel
theorem dL_cares_268 : decode cL_cares 268 = .ok (.iload 11, 2) := by decide +kernel
theorem dL_cares_270 : decode cL_cares 270 = .ok (.iadd, 1) := by decide +kernel
theorem dL_cares_271 : decode cL_cares 271 = .ok (.iastore, 1) := by decide +kernel
theorem dL_cares_272 : decode cL_cares 272 = .ok (.aload 6, 2) := by decide +kernel
theorem dL_cares_274 : decode cL_cares 274 = .ok (.aload 7, 2) := by decide +kernel
theorem dL_cares_276 : decode cL_cares 276 = .ok (.iload 9, 2) := by decide +kernel
theorem dL_cares_278 : decode cL_cares 278 = .ok (.iload 10, 2) := by decide +kernel
theorem dL_cares_280 : decode cL_cares 280 = .ok (.iconst 0, 1) := by decide +kernel
theorem dL_cares_281 : decode cL_cares 281 = .ok (.invokestatic 25, 3) := by decide +kernel
theorem dL_cares_284 : decode cL_cares 284 = .ok (.aload_n 3, 1) := by decide +kernel
theorem dL_cares_285 : decode cL_cares 285 = .ok (.iconst 2, 1) := by decide +kernel
theorem dL_cares_286 : decode cL_cares 286 = .ok (.iaload, 1) := by decide +kernel
theorem dL_cares_287 : decode cL_cares 287 = .ok (.bipush 6, 2) := by decide +kernel
theorem dL_cares_289 : decode cL_cares 289 = .ok (.if_icmp .ge 10, 3) := by decide +kernel
theorem dL_cares_292 : decode cL_cares 292 = .ok (.aload_n 3, 1) := by decide +kernel
theorem dL_cares_293 : decode cL_cares 293 = .ok (.iconst 2, 1) := by decide +kernel
theorem dL_cares_294 : decode cL_cares 294 = .ok (.dup2, 1) := by decide +kernel
theorem dL_cares_295 : decode cL_cares 295 = .ok (.iaload, 1) := by decide +kernel
theorem dL_cares_296 : decode cL_cares 296 = .ok (.iconst 1, 1) := by decide +kernel
theorem dL_cares_297 : decode cL_cares 297 = .ok (.iadd, 1) := by decide +kernel
theorem dL_cares_298 : decode cL_cares 298 = .ok (.iastore, 1) := by decide +kernel
theorem dL_cares_299 : decode cL_cares 299 = .ok (.aload_n 0, 1) := by decide +kernel
theorem dL_cares_300 : decode cL_cares 300 = .ok (.iload 9, 2) := by decide +kernel
theorem dL_cares_302 : decode cL_cares 302 = .ok (.iload 10, 2) := by decide +kernel
theorem dL_cares_304 : decode cL_cares 304 = .ok (.invokevirtual 64, 3) := by decide +kernel
theorem dL_cares_307 : decode cL_cares 307 = .ok (.iload 11, 2) := by decide +kernel
theorem dL_cares_309 : decode cL_cares 309 = .ok (.if_icmp .ne 7, 3) := by decide +kernel
theorem dL_cares_312 : decode cL_cares 312 = .ok (.iconst 1, 1) := by decide +kernel
theorem dL_cares_313 : decode cL_cares 313 = .ok (.goto 4, 3) := by decide +kernel
theorem dL_cares_316 : decode cL_cares 316 = .ok (.iconst 0, 1) := by decide +kernel
theorem dL_cares_317 : decode cL_cares 317 = .ok (.ireturn, 1) := by decide +kernel
theorem dL_cares_318 : decode cL_cares 318 = .ok (.iload_n 2, 1) := by decide +kernel
theorem dL_cares_319 : decode cL_cares 319 = .ok (.bipush 6, 2) := by decide +kernel
theorem dL_cares_321 : decode cL_cares 321 = .ok (.invokestatic 29, 3) := by decide +kernel
theorem dL_cares_324 : decode cL_cares 324 = .ok (.istore 10, 2) := by decide +kernel
theorem dL_cares_326 : decode cL_cares 326 = .ok (.aload_n 3, 1) := by decide +kernel
theorem dL_cares_327 : decode cL_cares 327 = .ok (.iconst 3, 1) := by decide +kernel
theorem dL_cares_328 : decode cL_cares 328 = .ok (.iload 10, 2) := by decide +kernel
theorem dL_cares_330 : decode cL_cares 330 = .ok (.iadd, 1) := by decide +kernel
theorem dL_cares_331 : decode cL_cares 331 = .ok (.iaload, 1) := by decide +kernel
theorem dL_cares_332 : decode cL_cares 332 = .ok (.istore 11, 2) := by decide +kernel
theorem dL_cares_334 : decode cL_cares 334 = .ok (.aload_n 3, 1) := by decide +kernel
theorem dL_cares_335 : decode cL_cares 335 = .ok (.iconst 3, 1) := by decide +kernel
theorem dL_cares_336 : decode cL_cares 336 = .ok (.iload 10, 2) := by decide +kernel
theorem dL_cares_338 : decode cL_cares 338 = .ok (.iadd, 1) := by decide +kernel
theorem dL_cares_339 : decode cL_cares 339 = .ok (.iload 10, 2) := by decide +kernel
theorem dL_cares_341 : decode cL_cares 341 = .ok (.iconst 1, 1) := by decide +kernel
theorem dL_cares_342 : decode cL_cares 342 = .ok (.if_icmp .ne 16, 3) := by decide +kernel
theorem dL_cares_345 : decode cL_cares 345 = .ok (.iconst 1, 1) := by decide +kernel
theorem dL_cares_346 : decode cL_cares 346 = .ok (.iload_n 2, 1) := by decide +kernel
theorem dL_cares_347 : decode cL_cares 347 = .ok (.iconst 3, 1) := by decide +kernel
theorem dL_cares_348 : decode cL_cares 348 = .ok (.ishr, 1) := by decide +kernel
theorem dL_cares_349 : decode cL_cares 349 = .ok (.bipush 50, 2) := by decide +kernel
theorem dL_cares_351 : decode cL_cares 351 = .ok (.invokestatic 29, 3) := by decide +kernel
theorem dL_cares_354 : decode cL_cares 354 = .ok (.iadd, 1) := by decide +kernel
theorem dL_cares_355 : decode cL_cares 355 = .ok (.goto 30, 3) := by decide +kernel
theorem dL_cares_358 : decode cL_cares 358 = .ok (.iload 10, 2) := by decide +kernel
theorem dL_cares_360 : decode cL_cares 360 = .ok (.iconst 2, 1) := by decide +kernel
theorem dL_cares_361 : decode cL_cares 361 = .ok (.if_icmp .ne 16, 3) := by decide +kernel
theorem dL_cares_364 : decode cL_cares 364 = .ok (.iconst 1, 1) := by decide +kernel
theorem dL_cares_365 : decode cL_cares 365 = .ok (.iload_n 2, 1) := by decide +kernel
theorem dL_cares_366 : decode cL_cares 366 = .ok (.iconst 3, 1) := by decide +kernel
theorem dL_cares_367 : decode cL_cares 367 = .ok (.ishr, 1) := by decide +kernel
theorem dL_cares_368 : decode cL_cares 368 = .ok (.bipush 60, 2) := by decide +kernel
theorem dL_cares_370 : decode cL_cares 370 = .ok (.invokestatic 29, 3) := by decide +kernel
theorem dL_cares_373 : decode cL_cares 373 = .ok (.iadd, 1) := by decide +kernel
theorem dL_cares_374 : decode cL_cares 374 = .ok (.goto 11, 3) := by decide +kernel
theorem dL_cares_377 : decode cL_cares 377 = .ok (.iload_n 2, 1) := by decide +kernel
theorem dL_cares_378 : decode cL_cares 378 = .ok (.iconst 3, 1) := by decide +kernel
theorem dL_cares_379 : decode cL_cares 379 = .ok (.ishr, 1) := by decide +kernel
theorem dL_cares_380 : decode cL_cares 380 = .ok (.bipush 21, 2) := by decide +kernel
theorem dL_cares_382 : decode cL_cares 382 = .ok (.invokestatic 29, 3) := by decide +kernel
theorem dL_cares_385 : decode cL_cares 385 = .ok (.iastore, 1) := by decide +kernel
theorem dL_cares_386 : decode cL_cares 386 = .ok (.aload_n 3, 1) := by decide +kernel
theorem dL_cares_387 : decode cL_cares 387 = .ok (.iconst 2, 1) := by decide +kernel
theorem dL_cares_388 : decode cL_cares 388 = .ok (.iaload, 1) := by decide +kernel
theorem dL_cares_389 : decode cL_cares 389 = .ok (.bipush 6, 2) := by decide +kernel
theorem dL_cares_391 : decode cL_cares 391 = .ok (.if_icmp .ge 10, 3) := by decide +kernel
theorem dL_cares_394 : decode cL_cares 394 = .ok (.aload_n 3, 1) := by decide +kernel
theorem dL_cares_395 : decode cL_cares 395 = .ok (.iconst 2, 1) := by decide +kernel
theorem dL_cares_396 : decode cL_cares 396 = .ok (.dup2, 1) := by decide +kernel
theorem dL_cares_397 : decode cL_cares 397 = .ok (.iaload, 1) := by decide +kernel
theorem dL_cares_398 : decode cL_cares 398 = .ok (.iconst 1, 1) := by decide +kernel
theorem dL_cares_399 : decode cL_cares 399 = .ok (.iadd, 1) := by decide +kernel
theorem dL_cares_400 : decode cL_cares 400 = .ok (.iastore, 1) := by decide +kernel
theorem dL_cares_401 : decode cL_cares 401 = .ok (.aload_n 0, 1) := by decide +kernel
theorem dL_cares_402 : decode cL_cares 402 = .ok (.iload 10, 2) := by decide +kernel
theorem dL_cares_404 : decode cL_cares 404 = .ok (.aload_n 3, 1) := by decide +kernel
theorem dL_cares_405 : decode cL_cares 405 = .ok (.iconst 3, 1) := by decide +kernel
theorem dL_cares_406 : decode cL_cares 406 = .ok (.iload 10, 2) := by decide +kernel
theorem dL_cares_408 : decode cL_cares 408 = .ok (.iadd, 1) := by decide +kernel
theorem dL_cares_409 : decode cL_cares 409 = .ok (.iaload, 1) := by decide +kernel
theorem dL_cares_410 : decode cL_cares 410 = .ok (.invokevirtual 67, 3) := by decide +kernel
theorem dL_cares_413 : decode cL_cares 413 = .ok (.iload 11, 2) := by decide +kernel
theorem dL_cares_415 : decode cL_cares 415 = .ok (.if_icmp .ne 7, 3) := by decide +kernel
theorem dL_cares_418 : decode cL_cares 418 = .ok (.iconst 1, 1) := by decide +kernel
theorem dL_cares_419 : decode cL_cares 419 = .ok (.goto 4, 3) := by decide +kernel
theorem dL_cares_422 : decode cL_cares 422 = .ok (.iconst 0, 1) := by decide +kernel
theorem dL_cares_423 : decode cL_cares 423 = .ok (.ireturn, 1) := by decide +kernel
theorem dL_agree_0 : decode cL_agree 0 = .ok (.iconst 0, 1) := by decide +kernel
theorem dL_agree_1 : decode cL_agree 1 = .ok (.istore 11, 2) := by decide +kernel
theorem dL_agree_3 : decode cL_agree 3 = .ok (.iconst 0, 1) := by decide +kernel
theorem dL_agree_4 : decode cL_agree 4 = .ok (.istore 12, 2) := by decide +kernel
theorem dL_agree_6 : decode cL_agree 6 = .ok (.iconst 0, 1) := by decide +kernel
theorem dL_agree_7 : decode cL_agree 7 = .ok (.istore 13, 2) := by decide +kernel
theorem dL_agree_9 : decode cL_agree 9 = .ok (.iconst 0, 1) := by decide +kernel
theorem dL_agree_10 : decode cL_agree 10 = .ok (.istore 14, 2) := by decide +kernel
theorem dL_agree_12 : decode cL_agree 12 = .ok (.iconst 0, 1) := by decide +kernel
theorem dL_agree_13 : decode cL_agree 13 = .ok (.istore 15, 2) := by decide +kernel
theorem dL_agree_15 : decode cL_agree 15 = .ok (.iconst 0, 1) := by decide +kernel
theorem dL_agree_16 : decode cL_agree 16 = .ok (.istore 16, 2) := by decide +kernel
theorem dL_agree_18 : decode cL_agree 18 = .ok (.iconst 0, 1) := by decide +kernel
theorem dL_agree_19 : decode cL_agree 19 = .ok (.istore 17, 2) := by decide +kernel
theorem dL_agree_21 : decode cL_agree 21 = .ok (.iload 17, 2) := by decide +kernel
theorem dL_agree_23 : decode cL_agree 23 = .ok (.iconst 4, 1) := by decide +kernel
theorem dL_agree_24 : decode cL_agree 24 = .ok (.if_icmp .ge 360, 3) := by decide +kernel
theorem dL_agree_27 : decode cL_agree 27 = .ok (.aload_n 3, 1) := by decide +kernel
theorem dL_agree_28 : decode cL_agree 28 = .ok (.iload 17, 2) := by decide +kernel
theorem dL_agree_30 : decode cL_agree 30 = .ok (.iaload, 1) := by decide +kernel
theorem dL_agree_31 : decode cL_agree 31 = .ok (.aload_n 2, 1) := by decide +kernel
theorem dL_agree_32 : decode cL_agree 32 = .ok (.iload 17, 2) := by decide +kernel
theorem dL_agree_34 : decode cL_agree 34 = .ok (.iaload, 1) := by decide +kernel
theorem dL_agree_35 : decode cL_agree 35 = .ok (.isub, 1) := by decide +kernel
theorem dL_agree_36 : decode cL_agree 36 = .ok (.bipush 24, 2) := by decide +kernel
theorem dL_agree_38 : decode cL_agree 38 = .ok (.iadd, 1) := by decide +kernel
theorem dL_agree_39 : decode cL_agree 39 = .ok (.bipush 24, 2) := by decide +kernel
theorem dL_agree_41 : decode cL_agree 41 = .ok (.irem, 1) := by decide +kernel
theorem dL_agree_42 : decode cL_agree 42 = .ok (.istore 18, 2) := by decide +kernel
theorem dL_agree_44 : decode cL_agree 44 = .ok (.aload_n 0, 1) := by decide +kernel
theorem dL_agree_45 : decode cL_agree 45 = .ok (.iload 17, 2) := by decide +kernel
theorem dL_agree_47 : decode cL_agree 47 = .ok (.iconst 0, 1) := by decide +kernel
theorem dL_agree_48 : decode cL_agree 48 = .ok (.invokevirtual 70, 3) := by decide +kernel
theorem dL_agree_51 : decode cL_agree 51 = .ok (.aload_n 2, 1) := by decide +kernel
theorem dL_agree_52 : decode cL_agree 52 = .ok (.iload 17, 2) := by decide +kernel
theorem dL_agree_54 : decode cL_agree 54 = .ok (.iaload, 1) := by decide +kernel
theorem dL_agree_55 : decode cL_agree 55 = .ok (.if_icmp .ne 105, 3) := by decide +kernel
theorem dL_agree_58 : decode cL_agree 58 = .ok (.aload_n 0, 1) := by decide +kernel
theorem dL_agree_59 : decode cL_agree 59 = .ok (.iload 17, 2) := by decide +kernel
theorem dL_agree_61 : decode cL_agree 61 = .ok (.iconst 1, 1) := by decide +kernel
theorem dL_agree_62 : decode cL_agree 62 = .ok (.invokevirtual 70, 3) := by decide +kernel
theorem dL_agree_65 : decode cL_agree 65 = .ok (.aload_n 3, 1) := by decide +kernel
theorem dL_agree_66 : decode cL_agree 66 = .ok (.iload 17, 2) := by decide +kernel
theorem dL_agree_68 : decode cL_agree 68 = .ok (.iaload, 1) := by decide +kernel
theorem dL_agree_69 : decode cL_agree 69 = .ok (.if_icmp .ne 91, 3) := by decide +kernel
theorem dL_agree_72 : decode cL_agree 72 = .ok (.aload_n 0, 1) := by decide +kernel
theorem dL_agree_73 : decode cL_agree 73 = .ok (.iload 17, 2) := by decide +kernel
theorem dL_agree_75 : decode cL_agree 75 = .ok (.iconst 2, 1) := by decide +kernel
theorem dL_agree_76 : decode cL_agree 76 = .ok (.invokevirtual 70, 3) := by decide +kernel
theorem dL_agree_79 : decode cL_agree 79 = .ok (.aload 4, 2) := by decide +kernel
theorem dL_agree_81 : decode cL_agree 81 = .ok (.iload 17, 2) := by decide +kernel
theorem dL_agree_83 : decode cL_agree 83 = .ok (.iaload, 1) := by decide +kernel
theorem dL_agree_84 : decode cL_agree 84 = .ok (.if_icmp .ne 76, 3) := by decide +kernel
theorem dL_agree_87 : decode cL_agree 87 = .ok (.aload_n 0, 1) := by decide +kernel
theorem dL_agree_88 : decode cL_agree 88 = .ok (.iload 17, 2) := by decide +kernel
theorem dL_agree_90 : decode cL_agree 90 = .ok (.iconst 3, 1) := by decide +kernel
theorem dL_agree_91 : decode cL_agree 91 = .ok (.invokevirtual 70, 3) := by decide +kernel
theorem dL_agree_94 : decode cL_agree 94 = .ok (.aload 5, 2) := by decide +kernel
theorem dL_agree_96 : decode cL_agree 96 = .ok (.iload 17, 2) := by decide +kernel
theorem dL_agree_98 : decode cL_agree 98 = .ok (.iaload, 1) := by decide +kernel
theorem dL_agree_99 : decode cL_agree 99 = .ok (.if_icmp .ne 61, 3) := by decide +kernel
theorem dL_agree_102 : decode cL_agree 102 = .ok (.aload_n 0, 1) := by decide +kernel
theorem dL_agree_103 : decode cL_agree 103 = .ok (.iload 17, 2) := by decide +kernel
theorem dL_agree_105 : decode cL_agree 105 = .ok (.iconst 4, 1) := by decide +kernel
theorem dL_agree_106 : decode cL_agree 106 = .ok (.invokevirtual 70, 3) := by decide +kernel
theorem dL_agree_109 : decode cL_agree 109 = .ok (.aload 6, 2) := by decide +kernel
theorem dL_agree_111 : decode cL_agree 111 = .ok (.iload 17, 2) := by decide +kernel
theorem dL_agree_113 : decode cL_agree 113 = .ok (.iaload, 1) := by decide +kernel
theorem dL_agree_114 : decode cL_agree 114 = .ok (.if_icmp .ne 46, 3) := by decide +kernel
theorem dL_agree_117 : decode cL_agree 117 = .ok (.aload_n 0, 1) := by decide +kernel
theorem dL_agree_118 : decode cL_agree 118 = .ok (.iload 17, 2) := by decide +kernel
theorem dL_agree_120 : decode cL_agree 120 = .ok (.iconst 5, 1) := by decide +kernel
theorem dL_agree_121 : decode cL_agree 121 = .ok (.invokevirtual 70, 3) := by decide +kernel
theorem dL_agree_124 : decode cL_agree 124 = .ok (.aload 7, 2) := by decide +kernel
theorem dL_agree_126 : decode cL_agree 126 = .ok (.iload 17, 2) := by decide +kernel
theorem dL_agree_128 : decode cL_agree 128 = .ok (.iaload, 1) := by decide +kernel
theorem dL_agree_129 : decode cL_agree 129 = .ok (.if_icmp .ne 31, 3) := by decide +kernel
theorem dL_agree_132 : decode cL_agree 132 = .ok (.aload_n 0, 1) := by decide +kernel
theorem dL_agree_133 : decode cL_agree 133 = .ok (.iload 17, 2) := by decide +kernel
theorem dL_agree_135 : decode cL_agree 135 = .ok (.bipush 9, 2) := by decide +kernel
theorem dL_agree_137 : decode cL_agree 137 = .ok (.invokevirtual 70, 3) := by decide +kernel
theorem dL_agree_140 : decode cL_agree 140 = .ok (.iload 18, 2) := by decide +kernel
theorem dL_agree_142 : decode cL_agree 142 = .ok (.bipush 12, 2) := by decide +kernel
theorem dL_agree_144 : decode cL_agree 144 = .ok (.if_icmp .le 11, 3) := by decide +kernel
theorem dL_agree_147 : decode cL_agree 147 = .ok (.bipush 24, 2) := by decide +kernel
