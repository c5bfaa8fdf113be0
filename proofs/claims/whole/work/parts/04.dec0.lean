theorem dX1_init_0 : decode cX1_init 0 = .ok (.aload_n 0, 1) := by decide +kernel
theorem dX1_init_1 : decode cX1_init 1 = .ok (.invokespecial 3, 3) := by decide +kernel
theorem dX1_init_4 : decode cX1_init 4 = .ok (.aload_n 0, 1) := by decide +kernel
theorem dX1_init_5 : decode cX1_init 5 = .ok (.iconst 3, 1) := by decide +kernel
theorem dX1_init_6 : decode cX1_init 6 = .ok (.putfield 9, 3) := by decide +kernel
theorem dX1_init_9 : decode cX1_init 9 = .ok (.aload_n 0, 1) := by decide +kernel
theorem dX1_init_10 : decode cX1_init 10 = .ok (.iconst 1, 1) := by decide +kernel
theorem dX1_init_11 : decode cX1_init 11 = .ok (.putfield 15, 3) := by decide +kernel
theorem dX1_init_14 : decode cX1_init 14 = .ok (.aload_n 0, 1) := by decide +kernel
theorem dX1_init_15 : decode cX1_init 15 = .ok (.iconst (-1), 1) := by decide +kernel
theorem dX1_init_16 : decode cX1_init 16 = .ok (.putfield 18, 3) := by decide +kernel
theorem dX1_init_19 : decode cX1_init 19 = .ok (.aload_n 0, 1) := by decide +kernel
theorem dX1_init_20 : decode cX1_init 20 = .ok (.iconst (-1), 1) := by decide +kernel
theorem dX1_init_21 : decode cX1_init 21 = .ok (.putfield 21, 3) := by decide +kernel
theorem dX1_init_24 : decode cX1_init 24 = .ok (.return_, 1) := by decide +kernel
theorem dX1_copyFrom_0 : decode cX1_copyFrom 0 = .ok (.aload_n 0, 1) := by decide +kernel
theorem dX1_copyFrom_1 : decode cX1_copyFrom 1 = .ok (.aload_n 1, 1) := by decide +kernel
theorem dX1_copyFrom_2 : decode cX1_copyFrom 2 = .ok (.getfield 9, 3) := by decide +kernel
theorem dX1_copyFrom_5 : decode cX1_copyFrom 5 = .ok (.putfield 9, 3) := by decide +kernel
theorem dX1_copyFrom_8 : decode cX1_copyFrom 8 = .ok (.aload_n 0, 1) := by decide +kernel
theorem dX1_copyFrom_9 : decode cX1_copyFrom 9 = .ok (.aload_n 1, 1) := by decide +kernel
theorem dX1_copyFrom_10 : decode cX1_copyFrom 10 = .ok (.getfield 24, 3) := by decide +kernel
theorem dX1_copyFrom_13 : decode cX1_copyFrom 13 = .ok (.putfield 24, 3) := by decide +kernel
theorem dX1_copyFrom_16 : decode cX1_copyFrom 16 = .ok (.aload_n 0, 1) := by decide +kernel
theorem dX1_copyFrom_17 : decode cX1_copyFrom 17 = .ok (.aload_n 1, 1) := by decide +kernel
theorem dX1_copyFrom_18 : decode cX1_copyFrom 18 = .ok (.getfield 27, 3) := by decide +kernel
theorem dX1_copyFrom_21 : decode cX1_copyFrom 21 = .ok (.putfield 27, 3) := by decide +kernel
theorem dX1_copyFrom_24 : decode cX1_copyFrom 24 = .ok (.aload_n 0, 1) := by decide +kernel
theorem dX1_copyFrom_25 : decode cX1_copyFrom 25 = .ok (.aload_n 1, 1) := by decide +kernel
theorem dX1_copyFrom_26 : decode cX1_copyFrom 26 = .ok (.getfield 30, 3) := by decide +kernel
theorem dX1_copyFrom_29 : decode cX1_copyFrom 29 = .ok (.putfield 30, 3) := by decide +kernel
theorem dX1_copyFrom_32 : decode cX1_copyFrom 32 = .ok (.aload_n 0, 1) := by decide +kernel
theorem dX1_copyFrom_33 : decode cX1_copyFrom 33 = .ok (.aload_n 1, 1) := by decide +kernel
theorem dX1_copyFrom_34 : decode cX1_copyFrom 34 = .ok (.getfield 15, 3) := by decide +kernel
theorem dX1_copyFrom_37 : decode cX1_copyFrom 37 = .ok (.putfield 15, 3) := by decide +kernel
theorem dX1_copyFrom_40 : decode cX1_copyFrom 40 = .ok (.aload_n 0, 1) := by decide +kernel
theorem dX1_copyFrom_41 : decode cX1_copyFrom 41 = .ok (.aload_n 1, 1) := by decide +kernel
theorem dX1_copyFrom_42 : decode cX1_copyFrom 42 = .ok (.getfield 33, 3) := by decide +kernel
theorem dX1_copyFrom_45 : decode cX1_copyFrom 45 = .ok (.putfield 33, 3) := by decide +kernel
theorem dX1_copyFrom_48 : decode cX1_copyFrom 48 = .ok (.aload_n 0, 1) := by decide +kernel
theorem dX1_copyFrom_49 : decode cX1_copyFrom 49 = .ok (.aload_n 1, 1) := by decide +kernel
theorem dX1_copyFrom_50 : decode cX1_copyFrom 50 = .ok (.getfield 18, 3) := by decide +kernel
theorem dX1_copyFrom_53 : decode cX1_copyFrom 53 = .ok (.putfield 18, 3) := by decide +kernel
theorem dX1_copyFrom_56 : decode cX1_copyFrom 56 = .ok (.aload_n 0, 1) := by decide +kernel
theorem dX1_copyFrom_57 : decode cX1_copyFrom 57 = .ok (.aload_n 1, 1) := by decide +kernel
theorem dX1_copyFrom_58 : decode cX1_copyFrom 58 = .ok (.getfield 21, 3) := by decide +kernel
theorem dX1_copyFrom_61 : decode cX1_copyFrom 61 = .ok (.putfield 21, 3) := by decide +kernel
theorem dX1_copyFrom_64 : decode cX1_copyFrom 64 = .ok (.aload_n 0, 1) := by decide +kernel
theorem dX1_copyFrom_65 : decode cX1_copyFrom 65 = .ok (.aload_n 1, 1) := by decide +kernel
theorem dX1_copyFrom_66 : decode cX1_copyFrom 66 = .ok (.getfield 36, 3) := by decide +kernel
theorem dX1_copyFrom_69 : decode cX1_copyFrom 69 = .ok (.putfield 36, 3) := by decide +kernel
theorem dX1_copyFrom_72 : decode cX1_copyFrom 72 = .ok (.return_, 1) := by decide +kernel
theorem dX1_signalAt_0 : decode cX1_signalAt 0 = .ok (.aload_n 0, 1) := by decide +kernel
theorem dX1_signalAt_1 : decode cX1_signalAt 1 = .ok (.getfield 15, 3) := by decide +kernel
theorem dX1_signalAt_4 : decode cX1_signalAt 4 = .ok (.ifCond .le 12, 3) := by decide +kernel
theorem dX1_signalAt_7 : decode cX1_signalAt 7 = .ok (.iload_n 1, 1) := by decide +kernel
theorem dX1_signalAt_8 : decode cX1_signalAt 8 = .ok (.aload_n 0, 1) := by decide +kernel
theorem dX1_signalAt_9 : decode cX1_signalAt 9 = .ok (.getfield 15, 3) := by decide +kernel
theorem dX1_signalAt_12 : decode cX1_signalAt 12 = .ok (.irem, 1) := by decide +kernel
theorem dX1_signalAt_13 : decode cX1_signalAt 13 = .ok (.goto 4, 3) := by decide +kernel
theorem dX1_signalAt_16 : decode cX1_signalAt 16 = .ok (.iconst 0, 1) := by decide +kernel
theorem dX1_signalAt_17 : decode cX1_signalAt 17 = .ok (.istore_n 2, 1) := by decide +kernel
theorem dX1_signalAt_18 : decode cX1_signalAt 18 = .ok (.aload_n 0, 1) := by decide +kernel
theorem dX1_signalAt_19 : decode cX1_signalAt 19 = .ok (.getfield 27, 3) := by decide +kernel
theorem dX1_signalAt_22 : decode cX1_signalAt 22 = .ok (.aload_n 0, 1) := by decide +kernel
theorem dX1_signalAt_23 : decode cX1_signalAt 23 = .ok (.getfield 30, 3) := by decide +kernel
theorem dX1_signalAt_26 : decode cX1_signalAt 26 = .ok (.iload_n 2, 1) := by decide +kernel
theorem dX1_signalAt_27 : decode cX1_signalAt 27 = .ok (.imul, 1) := by decide +kernel
theorem dX1_signalAt_28 : decode cX1_signalAt 28 = .ok (.iadd, 1) := by decide +kernel
theorem dX1_signalAt_29 : decode cX1_signalAt 29 = .ok (.istore_n 3, 1) := by decide +kernel
theorem dX1_signalAt_30 : decode cX1_signalAt 30 = .ok (.iload_n 3, 1) := by decide +kernel
theorem dX1_signalAt_31 : decode cX1_signalAt 31 = .ok (.ifCond .ge 5, 3) := by decide +kernel
theorem dX1_signalAt_34 : decode cX1_signalAt 34 = .ok (.iconst 0, 1) := by decide +kernel
theorem dX1_signalAt_35 : decode cX1_signalAt 35 = .ok (.ireturn, 1) := by decide +kernel
theorem dX1_signalAt_36 : decode cX1_signalAt 36 = .ok (.iload_n 3, 1) := by decide +kernel
theorem dX1_signalAt_37 : decode cX1_signalAt 37 = .ok (.sipush 4095, 3) := by decide +kernel
theorem dX1_signalAt_40 : decode cX1_signalAt 40 = .ok (.if_icmp .le 9, 3) := by decide +kernel
theorem dX1_signalAt_43 : decode cX1_signalAt 43 = .ok (.sipush 4095, 3) := by decide +kernel
theorem dX1_signalAt_46 : decode cX1_signalAt 46 = .ok (.goto 4, 3) := by decide +kernel
theorem dX1_signalAt_49 : decode cX1_signalAt 49 = .ok (.iload_n 3, 1) := by decide +kernel
theorem dX1_signalAt_50 : decode cX1_signalAt 50 = .ok (.ireturn, 1) := by decide +kernel
theorem dX1_conversionLength_0 : decode cX1_conversionLength 0 = .ok (.aload_n 0, 1) := by decide +kernel
theorem dX1_conversionLength_1 : decode cX1_conversionLength 1 = .ok (.getfield 9, 3) := by decide +kernel
theorem dX1_conversionLength_4 : decode cX1_conversionLength 4 = .ok (.bipush 12, 2) := by decide +kernel
theorem dX1_conversionLength_6 : decode cX1_conversionLength 6 = .ok (.iadd, 1) := by decide +kernel
theorem dX1_conversionLength_7 : decode cX1_conversionLength 7 = .ok (.ireturn, 1) := by decide +kernel
theorem dX1_addResult_0 : decode cX1_addResult 0 = .ok (.aload_n 0, 1) := by decide +kernel
theorem dX1_addResult_1 : decode cX1_addResult 1 = .ok (.getfield 33, 3) := by decide +kernel
theorem dX1_addResult_4 : decode cX1_addResult 4 = .ok (.ifCond .eq 11, 3) := by decide +kernel
theorem dX1_addResult_7 : decode cX1_addResult 7 = .ok (.iload_n 1, 1) := by decide +kernel
theorem dX1_addResult_8 : decode cX1_addResult 8 = .ok (.aload_n 0, 1) := by decide +kernel
theorem dX1_addResult_9 : decode cX1_addResult 9 = .ok (.getfield 18, 3) := by decide +kernel
theorem dX1_addResult_12 : decode cX1_addResult 12 = .ok (.if_icmp .ge 8, 3) := by decide +kernel
theorem dX1_addResult_15 : decode cX1_addResult 15 = .ok (.aload_n 0, 1) := by decide +kernel
theorem dX1_addResult_16 : decode cX1_addResult 16 = .ok (.iload_n 1, 1) := by decide +kernel
theorem dX1_addResult_17 : decode cX1_addResult 17 = .ok (.putfield 18, 3) := by decide +kernel
theorem dX1_addResult_20 : decode cX1_addResult 20 = .ok (.aload_n 0, 1) := by decide +kernel
theorem dX1_addResult_21 : decode cX1_addResult 21 = .ok (.getfield 33, 3) := by decide +kernel
theorem dX1_addResult_24 : decode cX1_addResult 24 = .ok (.ifCond .eq 11, 3) := by decide +kernel
theorem dX1_addResult_27 : decode cX1_addResult 27 = .ok (.iload_n 1, 1) := by decide +kernel
theorem dX1_addResult_28 : decode cX1_addResult 28 = .ok (.aload_n 0, 1) := by decide +kernel
theorem dX1_addResult_29 : decode cX1_addResult 29 = .ok (.getfield 21, 3) := by decide +kernel
theorem dX1_addResult_32 : decode cX1_addResult 32 = .ok (.if_icmp .le 8, 3) := by decide +kernel
theorem dX1_addResult_35 : decode cX1_addResult 35 = .ok (.aload_n 0, 1) := by decide +kernel
theorem dX1_addResult_36 : decode cX1_addResult 36 = .ok (.iload_n 1, 1) := by decide +kernel
theorem dX1_addResult_37 : decode cX1_addResult 37 = .ok (.putfield 21, 3) := by decide +kernel
theorem dX1_addResult_40 : decode cX1_addResult 40 = .ok (.aload_n 0, 1) := by decide +kernel
theorem dX1_addResult_41 : decode cX1_addResult 41 = .ok (.dup, 1) := by decide +kernel
theorem dX1_addResult_42 : decode cX1_addResult 42 = .ok (.getfield 33, 3) := by decide +kernel
theorem dX1_addResult_45 : decode cX1_addResult 45 = .ok (.iconst 1, 1) := by decide +kernel
theorem dX1_addResult_46 : decode cX1_addResult 46 = .ok (.iadd, 1) := by decide +kernel
theorem dX1_addResult_47 : decode cX1_addResult 47 = .ok (.putfield 33, 3) := by decide +kernel
theorem dX1_addResult_50 : decode cX1_addResult 50 = .ok (.aload_n 0, 1) := by decide +kernel
theorem dX1_addResult_51 : decode cX1_addResult 51 = .ok (.dup, 1) := by decide +kernel
theorem dX1_addResult_52 : decode cX1_addResult 52 = .ok (.getfield 36, 3) := by decide +kernel
theorem dX1_addResult_55 : decode cX1_addResult 55 = .ok (.iload_n 1, 1) := by decide +kernel
theorem dX1_addResult_56 : decode cX1_addResult 56 = .ok (.i2l, 1) := by decide +kernel
theorem dX1_addResult_57 : decode cX1_addResult 57 = .ok (.ladd, 1) := by decide +kernel
theorem dX1_addResult_58 : decode cX1_addResult 58 = .ok (.putfield 36, 3) := by decide +kernel
theorem dX1_addResult_61 : decode cX1_addResult 61 = .ok (.return_, 1) := by decide +kernel
theorem dX2_init_0 : decode cX2_init 0 = .ok (.aload_n 0, 1) := by decide +kernel
theorem dX2_init_1 : decode cX2_init 1 = .ok (.invokespecial 3, 3) := by decide +kernel
theorem dX2_init_4 : decode cX2_init 4 = .ok (.aload_n 0, 1) := by decide +kernel
theorem dX2_init_5 : decode cX2_init 5 = .ok (.iconst 0, 1) := by decide +kernel
theorem dX2_init_6 : decode cX2_init 6 = .ok (.putfield 9, 3) := by decide +kernel
theorem dX2_init_9 : decode cX2_init 9 = .ok (.return_, 1) := by decide +kernel
theorem dX2_copyFrom_0 : decode cX2_copyFrom 0 = .ok (.aload_n 0, 1) := by decide +kernel
theorem dX2_copyFrom_1 : decode cX2_copyFrom 1 = .ok (.aload_n 1, 1) := by decide +kernel
theorem dX2_copyFrom_2 : decode cX2_copyFrom 2 = .ok (.getfield 9, 3) := by decide +kernel
theorem dX2_copyFrom_5 : decode cX2_copyFrom 5 = .ok (.putfield 9, 3) := by decide +kernel
theorem dX2_copyFrom_8 : decode cX2_copyFrom 8 = .ok (.aload_n 0, 1) := by decide +kernel
theorem dX2_copyFrom_9 : decode cX2_copyFrom 9 = .ok (.aload_n 1, 1) := by decide +kernel
theorem dX2_copyFrom_10 : decode cX2_copyFrom 10 = .ok (.getfield 15, 3) := by decide +kernel
theorem dX2_copyFrom_13 : decode cX2_copyFrom 13 = .ok (.putfield 15, 3) := by decide +kernel
theorem dX2_copyFrom_16 : decode cX2_copyFrom 16 = .ok (.aload_n 0, 1) := by decide +kernel
theorem dX2_copyFrom_17 : decode cX2_copyFrom 17 = .ok (.aload_n 1, 1) := by decide +kernel
theorem dX2_copyFrom_18 : decode cX2_copyFrom 18 = .ok (.getfield 18, 3) := by decide +kernel
theorem dX2_copyFrom_21 : decode cX2_copyFrom 21 = .ok (.putfield 18, 3) := by decide +kernel
theorem dX2_copyFrom_24 : decode cX2_copyFrom 24 = .ok (.aload_n 0, 1) := by decide +kernel
theorem dX2_copyFrom_25 : decode cX2_copyFrom 25 = .ok (.aload_n 1, 1) := by decide +kernel
theorem dX2_copyFrom_26 : decode cX2_copyFrom 26 = .ok (.getfield 21, 3) := by decide +kernel
theorem dX2_copyFrom_29 : decode cX2_copyFrom 29 = .ok (.putfield 21, 3) := by decide +kernel
theorem dX2_copyFrom_32 : decode cX2_copyFrom 32 = .ok (.aload_n 0, 1) := by decide +kernel
theorem dX2_copyFrom_33 : decode cX2_copyFrom 33 = .ok (.aload_n 1, 1) := by decide +kernel
theorem dX2_copyFrom_34 : decode cX2_copyFrom 34 = .ok (.getfield 24, 3) := by decide +kernel
theorem dX2_copyFrom_37 : decode cX2_copyFrom 37 = .ok (.putfield 24, 3) := by decide +kernel
theorem dX2_copyFrom_40 : decode cX2_copyFrom 40 = .ok (.aload_n 0, 1) := by decide +kernel
theorem dX2_copyFrom_41 : decode cX2_copyFrom 41 = .ok (.aload_n 1, 1) := by decide +kernel
theorem dX2_copyFrom_42 : decode cX2_copyFrom 42 = .ok (.getfield 27, 3) := by decide +kernel
theorem dX2_copyFrom_45 : decode cX2_copyFrom 45 = .ok (.putfield 27, 3) := by decide +kernel
theorem dX2_copyFrom_48 : decode cX2_copyFrom 48 = .ok (.return_, 1) := by decide +kernel
theorem dX3_init_0 : decode cX3_init 0 = .ok (.aload_n 0, 1) := by decide +kernel
theorem dX3_init_1 : decode cX3_init 1 = .ok (.invokespecial 3, 3) := by decide +kernel
theorem dX3_init_4 : decode cX3_init 4 = .ok (.aload_n 0, 1) := by decide +kernel
theorem dX3_init_5 : decode cX3_init 5 = .ok (.bipush 8, 2) := by decide +kernel
theorem dX3_init_7 : decode cX3_init 7 = .ok (.anewarray 9, 3) := by decide +kernel
theorem dX3_init_10 : decode cX3_init 10 = .ok (.putfield 11, 3) := by decide +kernel
theorem dX3_init_13 : decode cX3_init 13 = .ok (.aload_n 0, 1) := by decide +kernel
theorem dX3_init_14 : decode cX3_init 14 = .ok (.new 17, 3) := by decide +kernel
theorem dX3_init_17 : decode cX3_init 17 = .ok (.dup, 1) := by decide +kernel
theorem dX3_init_18 : decode cX3_init 18 = .ok (.bipush 8, 2) := by decide +kernel
theorem dX3_init_20 : decode cX3_init 20 = .ok (.invokespecial 19, 3) := by decide +kernel
theorem dX3_init_23 : decode cX3_init 23 = .ok (.putfield 22, 3) := by decide +kernel
theorem dX3_init_26 : decode cX3_init 26 = .ok (.aload_n 0, 1) := by decide +kernel
theorem dX3_init_27 : decode cX3_init 27 = .ok (.new 17, 3) := by decide +kernel
theorem dX3_init_30 : decode cX3_init 30 = .ok (.dup, 1) := by decide +kernel
theorem dX3_init_31 : decode cX3_init 31 = .ok (.iconst 4, 1) := by decide +kernel
theorem dX3_init_32 : decode cX3_init 32 = .ok (.invokespecial 19, 3) := by decide +kernel
theorem dX3_init_35 : decode cX3_init 35 = .ok (.putfield 26, 3) := by decide +kernel
theorem dX3_init_38 : decode cX3_init 38 = .ok (.aload_n 0, 1) := by decide +kernel
theorem dX3_init_39 : decode cX3_init 39 = .ok (.iconst 4, 1) := by decide +kernel
theorem dX3_init_40 : decode cX3_init 40 = .ok (.anewarray 29, 3) := by decide +kernel
theorem dX3_init_43 : decode cX3_init 43 = .ok (.putfield 31, 3) := by decide +kernel
theorem dX3_init_46 : decode cX3_init 46 = .ok (.aload_n 0, 1) := by decide +kernel
theorem dX3_init_47 : decode cX3_init 47 = .ok (.iconst 3, 1) := by decide +kernel
theorem dX3_init_48 : decode cX3_init 48 = .ok (.anewarray 35, 3) := by decide +kernel
theorem dX3_init_51 : decode cX3_init 51 = .ok (.putfield 37, 3) := by decide +kernel
theorem dX3_init_54 : decode cX3_init 54 = .ok (.aload_n 0, 1) := by decide +kernel
theorem dX3_init_55 : decode cX3_init 55 = .ok (.new 41, 3) := by decide +kernel
theorem dX3_init_58 : decode cX3_init 58 = .ok (.dup, 1) := by decide +kernel
theorem dX3_init_59 : decode cX3_init 59 = .ok (.invokespecial 43, 3) := by decide +kernel
theorem dX3_init_62 : decode cX3_init 62 = .ok (.putfield 44, 3) := by decide +kernel
theorem dX3_init_65 : decode cX3_init 65 = .ok (.aload_n 0, 1) := by decide +kernel
theorem dX3_init_66 : decode cX3_init 66 = .ok (.new 48, 3) := by decide +kernel
theorem dX3_init_69 : decode cX3_init 69 = .ok (.dup, 1) := by decide +kernel
theorem dX3_init_70 : decode cX3_init 70 = .ok (.bipush 16, 2) := by decide +kernel
theorem dX3_init_72 : decode cX3_init 72 = .ok (.invokespecial 50, 3) := by decide +kernel
theorem dX3_init_75 : decode cX3_init 75 = .ok (.putfield 51, 3) := by decide +kernel
theorem dX3_init_78 : decode cX3_init 78 = .ok (.aload_n 0, 1) := by decide +kernel
theorem dX3_init_79 : decode cX3_init 79 = .ok (.new 48, 3) := by decide +kernel
theorem dX3_init_82 : decode cX3_init 82 = .ok (.dup, 1) := by decide +kernel
theorem dX3_init_83 : decode cX3_init 83 = .ok (.bipush 64, 2) := by decide +kernel
theorem dX3_init_85 : decode cX3_init 85 = .ok (.invokespecial 50, 3) := by decide +kernel
theorem dX3_init_88 : decode cX3_init 88 = .ok (.putfield 55, 3) := by decide +kernel
theorem dX3_init_91 : decode cX3_init 91 = .ok (.aload_n 0, 1) := by decide +kernel
theorem dX3_init_92 : decode cX3_init 92 = .ok (.new 48, 3) := by decide +kernel
theorem dX3_init_95 : decode cX3_init 95 = .ok (.dup, 1) := by decide +kernel
theorem dX3_init_96 : decode cX3_init 96 = .ok (.iconst 4, 1) := by decide +kernel
theorem dX3_init_97 : decode cX3_init 97 = .ok (.invokespecial 50, 3) := by decide +kernel
theorem dX3_init_100 : decode cX3_init 100 = .ok (.putfield 58, 3) := by decide +kernel
theorem dX3_init_103 : decode cX3_init 103 = .ok (.iconst 0, 1) := by decide +kernel
theorem dX3_init_104 : decode cX3_init 104 = .ok (.istore_n 1, 1) := by decide +kernel
theorem dX3_init_105 : decode cX3_init 105 = .ok (.iload_n 1, 1) := by decide +kernel
theorem dX3_init_106 : decode cX3_init 106 = .ok (.bipush 8, 2) := by decide +kernel
theorem dX3_init_108 : decode cX3_init 108 = .ok (.if_icmp .ge 22, 3) := by decide +kernel
theorem dX3_init_111 : decode cX3_init 111 = .ok (.aload_n 0, 1) := by decide +kernel
theorem dX3_init_112 : decode cX3_init 112 = .ok (.getfield 11, 3) := by decide +kernel
theorem dX3_init_115 : decode cX3_init 115 = .ok (.iload_n 1, 1) := by decide +kernel
theorem dX3_init_116 : decode cX3_init 116 = .ok (.new 9, 3) := by decide +kernel
theorem dX3_init_119 : decode cX3_init 119 = .ok (.dup, 1) := by decide +kernel
theorem dX3_init_120 : decode cX3_init 120 = .ok (.invokespecial 61, 3) := by decide +kernel
theorem dX3_init_123 : decode cX3_init 123 = .ok (.aastore, 1) := by decide +kernel
theorem dX3_init_124 : decode cX3_init 124 = .ok (.iinc 1 1, 3) := by decide +kernel
theorem dX3_init_127 : decode cX3_init 127 = .ok (.goto (-22), 3) := by decide +kernel
theorem dX3_init_130 : decode cX3_init 130 = .ok (.iconst 0, 1) := by decide +kernel
theorem dX3_init_131 : decode cX3_init 131 = .ok (.istore_n 1, 1) := by decide +kernel
theorem dX3_init_132 : decode cX3_init 132 = .ok (.iload_n 1, 1) := by decide +kernel
theorem dX3_init_133 : decode cX3_init 133 = .ok (.iconst 4, 1) := by decide +kernel
theorem dX3_init_134 : decode cX3_init 134 = .ok (.if_icmp .ge 22, 3) := by decide +kernel
theorem dX3_init_137 : decode cX3_init 137 = .ok (.aload_n 0, 1) := by decide +kernel
theorem dX3_init_138 : decode cX3_init 138 = .ok (.getfield 31, 3) := by decide +kernel
theorem dX3_init_141 : decode cX3_init 141 = .ok (.iload_n 1, 1) := by decide +kernel
theorem dX3_init_142 : decode cX3_init 142 = .ok (.new 29, 3) := by decide +kernel
theorem dX3_init_145 : decode cX3_init 145 = .ok (.dup, 1) := by decide +kernel
theorem dX3_init_146 : decode cX3_init 146 = .ok (.invokespecial 62, 3) := by decide +kernel
theorem dX3_init_149 : decode cX3_init 149 = .ok (.aastore, 1) := by decide +kernel
theorem dX3_init_150 : decode cX3_init 150 = .ok (.iinc 1 1, 3) := by decide +kernel
theorem dX3_init_153 : decode cX3_init 153 = .ok (.goto (-21), 3) := by decide +kernel
theorem dX3_init_156 : decode cX3_init 156 = .ok (.iconst 0, 1) := by decide +kernel
theorem dX3_init_157 : decode cX3_init 157 = .ok (.istore_n 1, 1) := by decide +kernel
theorem dX3_init_158 : decode cX3_init 158 = .ok (.iload_n 1, 1) := by decide +kernel
theorem dX3_init_159 : decode cX3_init 159 = .ok (.iconst 3, 1) := by decide +kernel
theorem dX3_init_160 : decode cX3_init 160 = .ok (.if_icmp .ge 22, 3) := by decide +kernel
theorem dX3_init_163 : decode cX3_init 163 = .ok (.aload_n 0, 1) := by decide +kernel
theorem dX3_init_164 : decode cX3_init 164 = .ok (.getfield 37, 3) := by decide +kernel
theorem dX3_init_167 : decode cX3_init 167 = .ok (.iload_n 1, 1) := by decide +kernel
theorem dX3_init_168 : decode cX3_init 168 = .ok (.new 35, 3) := by decide +kernel
theorem dX3_init_171 : decode cX3_init 171 = .ok (.dup, 1) := by decide +kernel
theorem dX3_init_172 : decode cX3_init 172 = .ok (.invokespecial 63, 3) := by decide +kernel
theorem dX3_init_175 : decode cX3_init 175 = .ok (.aastore, 1) := by decide +kernel
theorem dX3_init_176 : decode cX3_init 176 = .ok (.iinc 1 1, 3) := by decide +kernel
theorem dX3_init_179 : decode cX3_init 179 = .ok (.goto (-21), 3) := by decide +kernel
theorem dX3_init_182 : decode cX3_init 182 = .ok (.aload_n 0, 1) := by decide +kernel
theorem dX3_init_183 : decode cX3_init 183 = .ok (.getfield 51, 3) := by decide +kernel
theorem dX3_init_186 : decode cX3_init 186 = .ok (.iconst 4, 1) := by decide +kernel
theorem dX3_init_187 : decode cX3_init 187 = .ok (.putfield 64, 3) := by decide +kernel
theorem dX3_init_190 : decode cX3_init 190 = .ok (.aload_n 0, 1) := by decide +kernel
theorem dX3_init_191 : decode cX3_init 191 = .ok (.getfield 55, 3) := by decide +kernel
theorem dX3_init_194 : decode cX3_init 194 = .ok (.iconst 1, 1) := by decide +kernel
theorem dX3_init_195 : decode cX3_init 195 = .ok (.putfield 68, 3) := by decide +kernel
theorem dX3_init_198 : decode cX3_init 198 = .ok (.return_, 1) := by decide +kernel
theorem dX3_copyFrom_0 : decode cX3_copyFrom 0 = .ok (.iconst 0, 1) := by decide +kernel
theorem dX3_copyFrom_1 : decode cX3_copyFrom 1 = .ok (.istore_n 2, 1) := by decide +kernel
theorem dX3_copyFrom_2 : decode cX3_copyFrom 2 = .ok (.iload_n 2, 1) := by decide +kernel
theorem dX3_copyFrom_3 : decode cX3_copyFrom 3 = .ok (.bipush 8, 2) := by decide +kernel
theorem dX3_copyFrom_5 : decode cX3_copyFrom 5 = .ok (.if_icmp .ge 24, 3) := by decide +kernel
theorem dX3_copyFrom_8 : decode cX3_copyFrom 8 = .ok (.aload_n 0, 1) := by decide +kernel
theorem dX3_copyFrom_9 : decode cX3_copyFrom 9 = .ok (.getfield 11, 3) := by decide +kernel
theorem dX3_copyFrom_12 : decode cX3_copyFrom 12 = .ok (.iload_n 2, 1) := by decide +kernel
theorem dX3_copyFrom_13 : decode cX3_copyFrom 13 = .ok (.aaload, 1) := by decide +kernel
theorem dX3_copyFrom_14 : decode cX3_copyFrom 14 = .ok (.aload_n 1, 1) := by decide +kernel
theorem dX3_copyFrom_15 : decode cX3_copyFrom 15 = .ok (.getfield 11, 3) := by decide +kernel
theorem dX3_copyFrom_18 : decode cX3_copyFrom 18 = .ok (.iload_n 2, 1) := by decide +kernel
theorem dX3_copyFrom_19 : decode cX3_copyFrom 19 = .ok (.aaload, 1) := by decide +kernel
theorem dX3_copyFrom_20 : decode cX3_copyFrom 20 = .ok (.invokevirtual 72, 3) := by decide +kernel
theorem dX3_copyFrom_23 : decode cX3_copyFrom 23 = .ok (.iinc 2 1, 3) := by decide +kernel
theorem dX3_copyFrom_26 : decode cX3_copyFrom 26 = .ok (.goto (-24), 3) := by decide +kernel
theorem dX3_copyFrom_29 : decode cX3_copyFrom 29 = .ok (.iconst 0, 1) := by decide +kernel
theorem dX3_copyFrom_30 : decode cX3_copyFrom 30 = .ok (.istore_n 2, 1) := by decide +kernel
theorem dX3_copyFrom_31 : decode cX3_copyFrom 31 = .ok (.iload_n 2, 1) := by decide +kernel
theorem dX3_copyFrom_32 : decode cX3_copyFrom 32 = .ok (.iconst 4, 1) := by decide +kernel
theorem dX3_copyFrom_33 : decode cX3_copyFrom 33 = .ok (.if_icmp .ge 24, 3) := by decide +kernel
theorem dX3_copyFrom_36 : decode cX3_copyFrom 36 = .ok (.aload_n 0, 1) := by decide +kernel
theorem dX3_copyFrom_37 : decode cX3_copyFrom 37 = .ok (.getfield 31, 3) := by decide +kernel
theorem dX3_copyFrom_40 : decode cX3_copyFrom 40 = .ok (.iload_n 2, 1) := by decide +kernel
theorem dX3_copyFrom_41 : decode cX3_copyFrom 41 = .ok (.aaload, 1) := by decide +kernel
theorem dX3_copyFrom_42 : decode cX3_copyFrom 42 = .ok (.aload_n 1, 1) := by decide +kernel
theorem dX3_copyFrom_43 : decode cX3_copyFrom 43 = .ok (.getfield 31, 3) := by decide +kernel
theorem dX3_copyFrom_46 : decode cX3_copyFrom 46 = .ok (.iload_n 2, 1) := by decide +kernel
theorem dX3_copyFrom_47 : decode cX3_copyFrom 47 = .ok (.aaload, 1) := by decide +kernel
theorem dX3_copyFrom_48 : decode cX3_copyFrom 48 = .ok (.invokevirtual 76, 3) := by decide +kernel
theorem dX3_copyFrom_51 : decode cX3_copyFrom 51 = .ok (.iinc 2 1, 3) := by decide +kernel
theorem dX3_copyFrom_54 : decode cX3_copyFrom 54 = .ok (.goto (-23), 3) := by decide +kernel
theorem dX3_copyFrom_57 : decode cX3_copyFrom 57 = .ok (.iconst 0, 1) := by decide +kernel
theorem dX3_copyFrom_58 : decode cX3_copyFrom 58 = .ok (.istore_n 2, 1) := by decide +kernel
theorem dX3_copyFrom_59 : decode cX3_copyFrom 59 = .ok (.iload_n 2, 1) := by decide +kernel
theorem dX3_copyFrom_60 : decode cX3_copyFrom 60 = .ok (.iconst 3, 1) := by decide +kernel
theorem dX3_copyFrom_61 : decode cX3_copyFrom 61 = .ok (.if_icmp .ge 24, 3) := by decide +kernel
theorem dX3_copyFrom_64 : decode cX3_copyFrom 64 = .ok (.aload_n 0, 1) := by decide +kernel
theorem dX3_copyFrom_65 : decode cX3_copyFrom 65 = .ok (.getfield 37, 3) := by decide +kernel
theorem dX3_copyFrom_68 : decode cX3_copyFrom 68 = .ok (.iload_n 2, 1) := by decide +kernel
theorem dX3_copyFrom_69 : decode cX3_copyFrom 69 = .ok (.aaload, 1) := by decide +kernel
theorem dX3_copyFrom_70 : decode cX3_copyFrom 70 = .ok (.aload_n 1, 1) := by decide +kernel
theorem dX3_copyFrom_71 : decode cX3_copyFrom 71 = .ok (.getfield 37, 3) := by decide +kernel
theorem dX3_copyFrom_74 : decode cX3_copyFrom 74 = .ok (.iload_n 2, 1) := by decide +kernel
theorem dX3_copyFrom_75 : decode cX3_copyFrom 75 = .ok (.aaload, 1) := by decide +kernel
theorem dX3_copyFrom_76 : decode cX3_copyFrom 76 = .ok (.invokevirtual 79, 3) := by decide +kernel
theorem dX3_copyFrom_79 : decode cX3_copyFrom 79 = .ok (.iinc 2 1, 3) := by decide +kernel
theorem dX3_copyFrom_82 : decode cX3_copyFrom 82 = .ok (.goto (-23), 3) := by decide +kernel
theorem dX3_copyFrom_85 : decode cX3_copyFrom 85 = .ok (.aload_n 0, 1) := by decide +kernel
theorem dX3_copyFrom_86 : decode cX3_copyFrom 86 = .ok (.getfield 22, 3) := by decide +kernel
theorem dX3_copyFrom_89 : decode cX3_copyFrom 89 = .ok (.aload_n 1, 1) := by decide +kernel
theorem dX3_copyFrom_90 : decode cX3_copyFrom 90 = .ok (.getfield 22, 3) := by decide +kernel
theorem dX3_copyFrom_93 : decode cX3_copyFrom 93 = .ok (.invokevirtual 82, 3) := by decide +kernel
theorem dX3_copyFrom_96 : decode cX3_copyFrom 96 = .ok (.aload_n 0, 1) := by decide +kernel
theorem dX3_copyFrom_97 : decode cX3_copyFrom 97 = .ok (.getfield 26, 3) := by decide +kernel
theorem dX3_copyFrom_100 : decode cX3_copyFrom 100 = .ok (.aload_n 1, 1) := by decide +kernel
theorem dX3_copyFrom_101 : decode cX3_copyFrom 101 = .ok (.getfield 26, 3) := by decide +kernel
theorem dX3_copyFrom_104 : decode cX3_copyFrom 104 = .ok (.invokevirtual 82, 3) := by decide +kernel
theorem dX3_copyFrom_107 : decode cX3_copyFrom 107 = .ok (.aload_n 0, 1) := by decide +kernel
theorem dX3_copyFrom_108 : decode cX3_copyFrom 108 = .ok (.getfield 44, 3) := by decide +kernel
theorem dX3_copyFrom_111 : decode cX3_copyFrom 111 = .ok (.aload_n 1, 1) := by decide +kernel
theorem dX3_copyFrom_112 : decode cX3_copyFrom 112 = .ok (.getfield 44, 3) := by decide +kernel
theorem dX3_copyFrom_115 : decode cX3_copyFrom 115 = .ok (.invokevirtual 85, 3) := by decide +kernel
theorem dX3_copyFrom_118 : decode cX3_copyFrom 118 = .ok (.aload_n 0, 1) := by decide +kernel
theorem dX3_copyFrom_119 : decode cX3_copyFrom 119 = .ok (.getfield 51, 3) := by decide +kernel
theorem dX3_copyFrom_122 : decode cX3_copyFrom 122 = .ok (.aload_n 1, 1) := by decide +kernel
theorem dX3_copyFrom_123 : decode cX3_copyFrom 123 = .ok (.getfield 51, 3) := by decide +kernel
theorem dX3_copyFrom_126 : decode cX3_copyFrom 126 = .ok (.invokevirtual 88, 3) := by decide +kernel
theorem dX3_copyFrom_129 : decode cX3_copyFrom 129 = .ok (.aload_n 0, 1) := by decide +kernel
theorem dX3_copyFrom_130 : decode cX3_copyFrom 130 = .ok (.getfield 55, 3) := by decide +kernel
theorem dX3_copyFrom_133 : decode cX3_copyFrom 133 = .ok (.aload_n 1, 1) := by decide +kernel
theorem dX3_copyFrom_134 : decode cX3_copyFrom 134 = .ok (.getfield 55, 3) := by decide +kernel
theorem dX3_copyFrom_137 : decode cX3_copyFrom 137 = .ok (.invokevirtual 88, 3) := by decide +kernel
theorem dX3_copyFrom_140 : decode cX3_copyFrom 140 = .ok (.aload_n 0, 1) := by decide +kernel
theorem dX3_copyFrom_141 : decode cX3_copyFrom 141 = .ok (.getfield 58, 3) := by decide +kernel
theorem dX3_copyFrom_144 : decode cX3_copyFrom 144 = .ok (.aload_n 1, 1) := by decide +kernel
theorem dX3_copyFrom_145 : decode cX3_copyFrom 145 = .ok (.getfield 58, 3) := by decide +kernel
theorem dX3_copyFrom_148 : decode cX3_copyFrom 148 = .ok (.invokevirtual 88, 3) := by decide +kernel
theorem dX3_copyFrom_151 : decode cX3_copyFrom 151 = .ok (.aload_n 0, 1) := by decide +kernel
theorem dX3_copyFrom_152 : decode cX3_copyFrom 152 = .ok (.aload_n 1, 1) := by decide +kernel
theorem dX3_copyFrom_153 : decode cX3_copyFrom 153 = .ok (.getfield 91, 3) := by decide +kernel
theorem dX3_copyFrom_156 : decode cX3_copyFrom 156 = .ok (.putfield 91, 3) := by decide +kernel
theorem dX3_copyFrom_159 : decode cX3_copyFrom 159 = .ok (.aload_n 0, 1) := by decide +kernel
theorem dX3_copyFrom_160 : decode cX3_copyFrom 160 = .ok (.aload_n 1, 1) := by decide +kernel
theorem dX3_copyFrom_161 : decode cX3_copyFrom 161 = .ok (.getfield 94, 3) := by decide +kernel
theorem dX3_copyFrom_164 : decode cX3_copyFrom 164 = .ok (.putfield 94, 3) := by decide +kernel
theorem dX3_copyFrom_167 : decode cX3_copyFrom 167 = .ok (.aload_n 0, 1) := by decide +kernel
theorem dX3_copyFrom_168 : decode cX3_copyFrom 168 = .ok (.aload_n 1, 1) := by decide +kernel
theorem dX3_copyFrom_169 : decode cX3_copyFrom 169 = .ok (.getfield 97, 3) := by decide +kernel
theorem dX3_copyFrom_172 : decode cX3_copyFrom 172 = .ok (.putfield 97, 3) := by decide +kernel
theorem dX3_copyFrom_175 : decode cX3_copyFrom 175 = .ok (.aload_n 0, 1) := by decide +kernel
theorem dX3_copyFrom_176 : decode cX3_copyFrom 176 = .ok (.aload_n 1, 1) := by decide +kernel
theorem dX3_copyFrom_177 : decode cX3_copyFrom 177 = .ok (.getfield 100, 3) := by decide +kernel
theorem dX3_copyFrom_180 : decode cX3_copyFrom 180 = .ok (.putfield 100, 3) := by decide +kernel
theorem dX3_copyFrom_183 : decode cX3_copyFrom 183 = .ok (.aload_n 0, 1) := by decide +kernel
theorem dX3_copyFrom_184 : decode cX3_copyFrom 184 = .ok (.aload_n 1, 1) := by decide +kernel
theorem dX3_copyFrom_185 : decode cX3_copyFrom 185 = .ok (.getfield 103, 3) := by decide +kernel
theorem dX3_copyFrom_188 : decode cX3_copyFrom 188 = .ok (.putfield 103, 3) := by decide +kernel
theorem dX3_copyFrom_191 : decode cX3_copyFrom 191 = .ok (.aload_n 0, 1) := by decide +kernel
theorem dX3_copyFrom_192 : decode cX3_copyFrom 192 = .ok (.aload_n 1, 1) := by decide +kernel
theorem dX3_copyFrom_193 : decode cX3_copyFrom 193 = .ok (.getfield 106, 3) := by decide +kernel
theorem dX3_copyFrom_196 : decode cX3_copyFrom 196 = .ok (.putfield 106, 3) := by decide +kernel
theorem dX3_copyFrom_199 : decode cX3_copyFrom 199 = .ok (.aload_n 0, 1) := by decide +kernel
theorem dX3_copyFrom_200 : decode cX3_copyFrom 200 = .ok (.aload_n 1, 1) := by decide +kernel
theorem dX3_copyFrom_201 : decode cX3_copyFrom 201 = .ok (.getfield 109, 3) := by decide +kernel
theorem dX3_copyFrom_204 : decode cX3_copyFrom 204 = .ok (.putfield 109, 3) := by decide +kernel
theorem dX3_copyFrom_207 : decode cX3_copyFrom 207 = .ok (.aload_n 0, 1) := by decide +kernel
theorem dX3_copyFrom_208 : decode cX3_copyFrom 208 = .ok (.aload_n 1, 1) := by decide +kernel
theorem dX3_copyFrom_209 : decode cX3_copyFrom 209 = .ok (.getfield 112, 3) := by decide +kernel
theorem dX3_copyFrom_212 : decode cX3_copyFrom 212 = .ok (.putfield 112, 3) := by decide +kernel
theorem dX3_copyFrom_215 : decode cX3_copyFrom 215 = .ok (.return_, 1) := by decide +kernel
theorem dX3_sequenceOf_0 : decode cX3_sequenceOf 0 = .ok (.iload_n 1, 1) := by decide +kernel
theorem dX3_sequenceOf_1 : decode cX3_sequenceOf 1 = .ok (.iconst 2, 1) := by decide +kernel
theorem dX3_sequenceOf_2 : decode cX3_sequenceOf 2 = .ok (.if_icmp .ne 10, 3) := by decide +kernel
theorem dX3_sequenceOf_5 : decode cX3_sequenceOf 5 = .ok (.aload_n 0, 1) := by decide +kernel
theorem dX3_sequenceOf_6 : decode cX3_sequenceOf 6 = .ok (.getfield 26, 3) := by decide +kernel
theorem dX3_sequenceOf_9 : decode cX3_sequenceOf 9 = .ok (.goto 7, 3) := by decide +kernel
theorem dX3_sequenceOf_12 : decode cX3_sequenceOf 12 = .ok (.aload_n 0, 1) := by decide +kernel
theorem dX3_sequenceOf_13 : decode cX3_sequenceOf 13 = .ok (.getfield 22, 3) := by decide +kernel
theorem dX3_sequenceOf_16 : decode cX3_sequenceOf 16 = .ok (.areturn, 1) := by decide +kernel
theorem dX3_resultCount_0 : decode cX3_resultCount 0 = .ok (.aload_n 0, 1) := by decide +kernel
theorem dX3_resultCount_1 : decode cX3_resultCount 1 = .ok (.getfield 22, 3) := by decide +kernel
theorem dX3_resultCount_4 : decode cX3_resultCount 4 = .ok (.getfield 115, 3) := by decide +kernel
theorem dX3_resultCount_7 : decode cX3_resultCount 7 = .ok (.aload_n 0, 1) := by decide +kernel
theorem dX3_resultCount_8 : decode cX3_resultCount 8 = .ok (.getfield 26, 3) := by decide +kernel
theorem dX3_resultCount_11 : decode cX3_resultCount 11 = .ok (.getfield 115, 3) := by decide +kernel
theorem dX3_resultCount_14 : decode cX3_resultCount 14 = .ok (.iadd, 1) := by decide +kernel
theorem dX3_resultCount_15 : decode cX3_resultCount 15 = .ok (.ireturn, 1) := by decide +kernel
theorem dX3_passCycle_0 : decode cX3_passCycle 0 = .ok (.iconst 0, 1) := by decide +kernel
theorem dX3_passCycle_1 : decode cX3_passCycle 1 = .ok (.istore_n 1, 1) := by decide +kernel
theorem dX3_passCycle_2 : decode cX3_passCycle 2 = .ok (.iload_n 1, 1) := by decide +kernel
theorem dX3_passCycle_3 : decode cX3_passCycle 3 = .ok (.iconst 4, 1) := by decide +kernel
theorem dX3_passCycle_4 : decode cX3_passCycle 4 = .ok (.if_icmp .ge 31, 3) := by decide +kernel
theorem dX3_passCycle_7 : decode cX3_passCycle 7 = .ok (.aload_n 0, 1) := by decide +kernel
theorem dX3_passCycle_8 : decode cX3_passCycle 8 = .ok (.getfield 31, 3) := by decide +kernel
theorem dX3_passCycle_11 : decode cX3_passCycle 11 = .ok (.iload_n 1, 1) := by decide +kernel
theorem dX3_passCycle_12 : decode cX3_passCycle 12 = .ok (.aaload, 1) := by decide +kernel
theorem dX3_passCycle_13 : decode cX3_passCycle 13 = .ok (.aload_n 0, 1) := by decide +kernel
theorem dX3_passCycle_14 : decode cX3_passCycle 14 = .ok (.getfield 109, 3) := by decide +kernel
theorem dX3_passCycle_17 : decode cX3_passCycle 17 = .ok (.invokevirtual 118, 3) := by decide +kernel
theorem dX3_passCycle_20 : decode cX3_passCycle 20 = .ok (.ifCond .eq 9, 3) := by decide +kernel
theorem dX3_passCycle_23 : decode cX3_passCycle 23 = .ok (.aload_n 0, 1) := by decide +kernel
theorem dX3_passCycle_24 : decode cX3_passCycle 24 = .ok (.iload_n 1, 1) := by decide +kernel
theorem dX3_passCycle_25 : decode cX3_passCycle 25 = .ok (.invokevirtual 122, 3) := by decide +kernel
theorem dX3_passCycle_28 : decode cX3_passCycle 28 = .ok (.pop, 1) := by decide +kernel
theorem dX3_passCycle_29 : decode cX3_passCycle 29 = .ok (.iinc 1 1, 3) := by decide +kernel
theorem dX3_passCycle_32 : decode cX3_passCycle 32 = .ok (.goto (-30), 3) := by decide +kernel
theorem dX3_passCycle_35 : decode cX3_passCycle 35 = .ok (.aload_n 0, 1) := by decide +kernel
theorem dX3_passCycle_36 : decode cX3_passCycle 36 = .ok (.getfield 44, 3) := by decide +kernel
theorem dX3_passCycle_39 : decode cX3_passCycle 39 = .ok (.getfield 125, 3) := by decide +kernel
theorem dX3_passCycle_42 : decode cX3_passCycle 42 = .ok (.ifCond .ne 7, 3) := by decide +kernel
theorem dX3_passCycle_45 : decode cX3_passCycle 45 = .ok (.aload_n 0, 1) := by decide +kernel
theorem dX3_passCycle_46 : decode cX3_passCycle 46 = .ok (.invokevirtual 128, 3) := by decide +kernel
theorem dX3_passCycle_49 : decode cX3_passCycle 49 = .ok (.aload_n 0, 1) := by decide +kernel
theorem dX3_passCycle_50 : decode cX3_passCycle 50 = .ok (.getfield 44, 3) := by decide +kernel
theorem dX3_passCycle_53 : decode cX3_passCycle 53 = .ok (.getfield 125, 3) := by decide +kernel
theorem dX3_passCycle_56 : decode cX3_passCycle 56 = .ok (.ifCond .eq 7, 3) := by decide +kernel
theorem dX3_passCycle_59 : decode cX3_passCycle 59 = .ok (.aload_n 0, 1) := by decide +kernel
theorem dX3_passCycle_60 : decode cX3_passCycle 60 = .ok (.invokevirtual 131, 3) := by decide +kernel
theorem dX3_passCycle_63 : decode cX3_passCycle 63 = .ok (.aload_n 0, 1) := by decide +kernel
theorem dX3_passCycle_64 : decode cX3_passCycle 64 = .ok (.getfield 106, 3) := by decide +kernel
theorem dX3_passCycle_67 : decode cX3_passCycle 67 = .ok (.ifCond .le 21, 3) := by decide +kernel
theorem dX3_passCycle_70 : decode cX3_passCycle 70 = .ok (.aload_n 0, 1) := by decide +kernel
theorem dX3_passCycle_71 : decode cX3_passCycle 71 = .ok (.getfield 109, 3) := by decide +kernel
theorem dX3_passCycle_74 : decode cX3_passCycle 74 = .ok (.iconst 1, 1) := by decide +kernel
theorem dX3_passCycle_75 : decode cX3_passCycle 75 = .ok (.iadd, 1) := by decide +kernel
theorem dX3_passCycle_76 : decode cX3_passCycle 76 = .ok (.aload_n 0, 1) := by decide +kernel
theorem dX3_passCycle_77 : decode cX3_passCycle 77 = .ok (.getfield 106, 3) := by decide +kernel
theorem dX3_passCycle_80 : decode cX3_passCycle 80 = .ok (.irem, 1) := by decide +kernel
theorem dX3_passCycle_81 : decode cX3_passCycle 81 = .ok (.ifCond .ne 7, 3) := by decide +kernel
theorem dX3_passCycle_84 : decode cX3_passCycle 84 = .ok (.aload_n 0, 1) := by decide +kernel
theorem dX3_passCycle_85 : decode cX3_passCycle 85 = .ok (.invokevirtual 134, 3) := by decide +kernel
theorem dX3_passCycle_88 : decode cX3_passCycle 88 = .ok (.aload_n 0, 1) := by decide +kernel
theorem dX3_passCycle_89 : decode cX3_passCycle 89 = .ok (.dup, 1) := by decide +kernel
theorem dX3_passCycle_90 : decode cX3_passCycle 90 = .ok (.getfield 109, 3) := by decide +kernel
theorem dX3_passCycle_93 : decode cX3_passCycle 93 = .ok (.iconst 1, 1) := by decide +kernel
theorem dX3_passCycle_94 : decode cX3_passCycle 94 = .ok (.iadd, 1) := by decide +kernel
theorem dX3_passCycle_95 : decode cX3_passCycle 95 = .ok (.putfield 109, 3) := by decide +kernel
theorem dX3_passCycle_98 : decode cX3_passCycle 98 = .ok (.return_, 1) := by decide +kernel
theorem dX3_fireTrigger_0 : decode cX3_fireTrigger 0 = .ok (.aload_n 0, 1) := by decide +kernel
theorem dX3_fireTrigger_1 : decode cX3_fireTrigger 1 = .ok (.getfield 31, 3) := by decide +kernel
theorem dX3_fireTrigger_4 : decode cX3_fireTrigger 4 = .ok (.iload_n 1, 1) := by decide +kernel
theorem dX3_fireTrigger_5 : decode cX3_fireTrigger 5 = .ok (.aaload, 1) := by decide +kernel
theorem dX3_fireTrigger_6 : decode cX3_fireTrigger 6 = .ok (.astore_n 2, 1) := by decide +kernel
theorem dX3_fireTrigger_7 : decode cX3_fireTrigger 7 = .ok (.aload_n 2, 1) := by decide +kernel
theorem dX3_fireTrigger_8 : decode cX3_fireTrigger 8 = .ok (.dup, 1) := by decide +kernel
theorem dX3_fireTrigger_9 : decode cX3_fireTrigger 9 = .ok (.getfield 137, 3) := by decide +kernel
theorem dX3_fireTrigger_12 : decode cX3_fireTrigger 12 = .ok (.iconst 1, 1) := by decide +kernel
theorem dX3_fireTrigger_13 : decode cX3_fireTrigger 13 = .ok (.iadd, 1) := by decide +kernel
theorem dX3_fireTrigger_14 : decode cX3_fireTrigger 14 = .ok (.putfield 137, 3) := by decide +kernel
theorem dX3_fireTrigger_17 : decode cX3_fireTrigger 17 = .ok (.aload_n 0, 1) := by decide +kernel
theorem dX3_fireTrigger_18 : decode cX3_fireTrigger 18 = .ok (.aload_n 2, 1) := by decide +kernel
theorem dX3_fireTrigger_19 : decode cX3_fireTrigger 19 = .ok (.getfield 140, 3) := by decide +kernel
theorem dX3_fireTrigger_22 : decode cX3_fireTrigger 22 = .ok (.invokevirtual 143, 3) := by decide +kernel
theorem dX3_fireTrigger_25 : decode cX3_fireTrigger 25 = .ok (.astore_n 3, 1) := by decide +kernel
theorem dX3_fireTrigger_26 : decode cX3_fireTrigger 26 = .ok (.aload_n 2, 1) := by decide +kernel
theorem dX3_fireTrigger_27 : decode cX3_fireTrigger 27 = .ok (.getfield 140, 3) := by decide +kernel
theorem dX3_fireTrigger_30 : decode cX3_fireTrigger 30 = .ok (.ifCond .eq 10, 3) := by decide +kernel
theorem dX3_fireTrigger_33 : decode cX3_fireTrigger 33 = .ok (.aload_n 3, 1) := by decide +kernel
theorem dX3_fireTrigger_34 : decode cX3_fireTrigger 34 = .ok (.invokevirtual 147, 3) := by decide +kernel
theorem dX3_fireTrigger_37 : decode cX3_fireTrigger 37 = .ok (.ifCond .ne 15, 3) := by decide +kernel
theorem dX3_fireTrigger_40 : decode cX3_fireTrigger 40 = .ok (.aload_n 2, 1) := by decide +kernel
theorem dX3_fireTrigger_41 : decode cX3_fireTrigger 41 = .ok (.dup, 1) := by decide +kernel
theorem dX3_fireTrigger_42 : decode cX3_fireTrigger 42 = .ok (.getfield 151, 3) := by decide +kernel
theorem dX3_fireTrigger_45 : decode cX3_fireTrigger 45 = .ok (.iconst 1, 1) := by decide +kernel
theorem dX3_fireTrigger_46 : decode cX3_fireTrigger 46 = .ok (.iadd, 1) := by decide +kernel
theorem dX3_fireTrigger_47 : decode cX3_fireTrigger 47 = .ok (.putfield 151, 3) := by decide +kernel
theorem dX3_fireTrigger_50 : decode cX3_fireTrigger 50 = .ok (.iconst 0, 1) := by decide +kernel
theorem dX3_fireTrigger_51 : decode cX3_fireTrigger 51 = .ok (.ireturn, 1) := by decide +kernel
theorem dX3_fireTrigger_52 : decode cX3_fireTrigger 52 = .ok (.aload_n 0, 1) := by decide +kernel
theorem dX3_fireTrigger_53 : decode cX3_fireTrigger 53 = .ok (.aload_n 2, 1) := by decide +kernel
theorem dX3_fireTrigger_54 : decode cX3_fireTrigger 54 = .ok (.getfield 140, 3) := by decide +kernel
theorem dX3_fireTrigger_57 : decode cX3_fireTrigger 57 = .ok (.iload_n 1, 1) := by decide +kernel
theorem dX3_fireTrigger_58 : decode cX3_fireTrigger 58 = .ok (.invokevirtual 154, 3) := by decide +kernel
theorem dX3_fireTrigger_61 : decode cX3_fireTrigger 61 = .ok (.iconst 1, 1) := by decide +kernel
theorem dX3_fireTrigger_62 : decode cX3_fireTrigger 62 = .ok (.ireturn, 1) := by decide +kernel
theorem dX3_startSequence_0 : decode cX3_startSequence 0 = .ok (.aload_n 0, 1) := by decide +kernel
theorem dX3_startSequence_1 : decode cX3_startSequence 1 = .ok (.iload_n 1, 1) := by decide +kernel
theorem dX3_startSequence_2 : decode cX3_startSequence 2 = .ok (.invokevirtual 143, 3) := by decide +kernel
theorem dX3_startSequence_5 : decode cX3_startSequence 5 = .ok (.iload_n 2, 1) := by decide +kernel
theorem dX3_startSequence_6 : decode cX3_startSequence 6 = .ok (.aload_n 0, 1) := by decide +kernel
theorem dX3_startSequence_7 : decode cX3_startSequence 7 = .ok (.getfield 109, 3) := by decide +kernel
theorem dX3_startSequence_10 : decode cX3_startSequence 10 = .ok (.invokevirtual 158, 3) := by decide +kernel
theorem dX3_startSequence_13 : decode cX3_startSequence 13 = .ok (.iload_n 1, 1) := by decide +kernel
theorem dX3_startSequence_14 : decode cX3_startSequence 14 = .ok (.iconst 2, 1) := by decide +kernel
theorem dX3_startSequence_15 : decode cX3_startSequence 15 = .ok (.if_icmp .ne 11, 3) := by decide +kernel
theorem dX3_startSequence_18 : decode cX3_startSequence 18 = .ok (.aload_n 0, 1) := by decide +kernel
theorem dX3_startSequence_19 : decode cX3_startSequence 19 = .ok (.aload_n 0, 1) := by decide +kernel
theorem dX3_startSequence_20 : decode cX3_startSequence 20 = .ok (.getfield 97, 3) := by decide +kernel
theorem dX3_startSequence_23 : decode cX3_startSequence 23 = .ok (.invokevirtual 161, 3) := by decide +kernel
theorem dX3_startSequence_26 : decode cX3_startSequence 26 = .ok (.return_, 1) := by decide +kernel
theorem dX3_breakOffRegular_0 : decode cX3_breakOffRegular 0 = .ok (.aload_n 0, 1) := by decide +kernel
theorem dX3_breakOffRegular_1 : decode cX3_breakOffRegular 1 = .ok (.getfield 44, 3) := by decide +kernel
theorem dX3_breakOffRegular_4 : decode cX3_breakOffRegular 4 = .ok (.getfield 125, 3) := by decide +kernel
theorem dX3_breakOffRegular_7 : decode cX3_breakOffRegular 7 = .ok (.iconst 1, 1) := by decide +kernel
theorem dX3_breakOffRegular_8 : decode cX3_breakOffRegular 8 = .ok (.if_icmp .eq 4, 3) := by decide +kernel
theorem dX3_breakOffRegular_11 : decode cX3_breakOffRegular 11 = .ok (.return_, 1) := by decide +kernel
theorem dX3_breakOffRegular_12 : decode cX3_breakOffRegular 12 = .ok (.aload_n 0, 1) := by decide +kernel
theorem dX3_breakOffRegular_13 : decode cX3_breakOffRegular 13 = .ok (.getfield 44, 3) := by decide +kernel
theorem dX3_breakOffRegular_16 : decode cX3_breakOffRegular 16 = .ok (.iconst 0, 1) := by decide +kernel
theorem dX3_breakOffRegular_17 : decode cX3_breakOffRegular 17 = .ok (.putfield 125, 3) := by decide +kernel
theorem dX3_breakOffRegular_20 : decode cX3_breakOffRegular 20 = .ok (.aload_n 0, 1) := by decide +kernel
theorem dX3_breakOffRegular_21 : decode cX3_breakOffRegular 21 = .ok (.getfield 44, 3) := by decide +kernel
theorem dX3_breakOffRegular_24 : decode cX3_breakOffRegular 24 = .ok (.dup, 1) := by decide +kernel
theorem dX3_breakOffRegular_25 : decode cX3_breakOffRegular 25 = .ok (.getfield 165, 3) := by decide +kernel
theorem dX3_breakOffRegular_28 : decode cX3_breakOffRegular 28 = .ok (.iconst 1, 1) := by decide +kernel
theorem dX3_breakOffRegular_29 : decode cX3_breakOffRegular 29 = .ok (.iadd, 1) := by decide +kernel
theorem dX3_breakOffRegular_30 : decode cX3_breakOffRegular 30 = .ok (.putfield 165, 3) := by decide +kernel
theorem dX3_breakOffRegular_33 : decode cX3_breakOffRegular 33 = .ok (.iload_n 1, 1) := by decide +kernel
theorem dX3_breakOffRegular_34 : decode cX3_breakOffRegular 34 = .ok (.ifCond .ne 10, 3) := by decide +kernel
theorem dX3_breakOffRegular_37 : decode cX3_breakOffRegular 37 = .ok (.aload_n 0, 1) := by decide +kernel
theorem dX3_breakOffRegular_38 : decode cX3_breakOffRegular 38 = .ok (.getfield 22, 3) := by decide +kernel
theorem dX3_breakOffRegular_41 : decode cX3_breakOffRegular 41 = .ok (.invokevirtual 168, 3) := by decide +kernel
theorem dX3_breakOffRegular_44 : decode cX3_breakOffRegular 44 = .ok (.return_, 1) := by decide +kernel
theorem dX3_stopRegular_0 : decode cX3_stopRegular 0 = .ok (.aload_n 0, 1) := by decide +kernel
theorem dX3_stopRegular_1 : decode cX3_stopRegular 1 = .ok (.getfield 22, 3) := by decide +kernel
theorem dX3_stopRegular_4 : decode cX3_stopRegular 4 = .ok (.getfield 171, 3) := by decide +kernel
theorem dX3_stopRegular_7 : decode cX3_stopRegular 7 = .ok (.istore_n 1, 1) := by decide +kernel
theorem dX3_stopRegular_8 : decode cX3_stopRegular 8 = .ok (.aload_n 0, 1) := by decide +kernel
theorem dX3_stopRegular_9 : decode cX3_stopRegular 9 = .ok (.iconst 0, 1) := by decide +kernel
theorem dX3_stopRegular_10 : decode cX3_stopRegular 10 = .ok (.invokevirtual 161, 3) := by decide +kernel
theorem dX3_stopRegular_13 : decode cX3_stopRegular 13 = .ok (.aload_n 0, 1) := by decide +kernel
theorem dX3_stopRegular_14 : decode cX3_stopRegular 14 = .ok (.getfield 22, 3) := by decide +kernel
theorem dX3_stopRegular_17 : decode cX3_stopRegular 17 = .ok (.invokevirtual 168, 3) := by decide +kernel
theorem dX3_stopRegular_20 : decode cX3_stopRegular 20 = .ok (.aload_n 0, 1) := by decide +kernel
theorem dX3_stopRegular_21 : decode cX3_stopRegular 21 = .ok (.getfield 22, 3) := by decide +kernel
theorem dX3_stopRegular_24 : decode cX3_stopRegular 24 = .ok (.invokevirtual 174, 3) := by decide +kernel
theorem dX3_stopRegular_27 : decode cX3_stopRegular 27 = .ok (.aload_n 0, 1) := by decide +kernel
theorem dX3_stopRegular_28 : decode cX3_stopRegular 28 = .ok (.getfield 22, 3) := by decide +kernel
theorem dX3_stopRegular_31 : decode cX3_stopRegular 31 = .ok (.iconst 0, 1) := by decide +kernel
theorem dX3_stopRegular_32 : decode cX3_stopRegular 32 = .ok (.putfield 177, 3) := by decide +kernel
theorem dX3_stopRegular_35 : decode cX3_stopRegular 35 = .ok (.iload_n 1, 1) := by decide +kernel
theorem dX3_stopRegular_36 : decode cX3_stopRegular 36 = .ok (.ireturn, 1) := by decide +kernel
theorem dX3_startConversion_0 : decode cX3_startConversion 0 = .ok (.aload_n 0, 1) := by decide +kernel
theorem dX3_startConversion_1 : decode cX3_startConversion 1 = .ok (.getfield 26, 3) := by decide +kernel
theorem dX3_startConversion_4 : decode cX3_startConversion 4 = .ok (.getfield 171, 3) := by decide +kernel
theorem dX3_startConversion_7 : decode cX3_startConversion 7 = .ok (.ifCond .eq 14, 3) := by decide +kernel
theorem dX3_startConversion_10 : decode cX3_startConversion 10 = .ok (.aload_n 0, 1) := by decide +kernel
theorem dX3_startConversion_11 : decode cX3_startConversion 11 = .ok (.getfield 44, 3) := by decide +kernel
theorem dX3_startConversion_14 : decode cX3_startConversion 14 = .ok (.iconst 2, 1) := by decide +kernel
theorem dX3_startConversion_15 : decode cX3_startConversion 15 = .ok (.putfield 125, 3) := by decide +kernel
theorem dX3_startConversion_18 : decode cX3_startConversion 18 = .ok (.goto 25, 3) := by decide +kernel
theorem dX3_startConversion_21 : decode cX3_startConversion 21 = .ok (.aload_n 0, 1) := by decide +kernel
theorem dX3_startConversion_22 : decode cX3_startConversion 22 = .ok (.getfield 22, 3) := by decide +kernel
theorem dX3_startConversion_25 : decode cX3_startConversion 25 = .ok (.getfield 171, 3) := by decide +kernel
theorem dX3_startConversion_28 : decode cX3_startConversion 28 = .ok (.ifCond .eq 14, 3) := by decide +kernel
theorem dX3_startConversion_31 : decode cX3_startConversion 31 = .ok (.aload_n 0, 1) := by decide +kernel
theorem dX3_startConversion_32 : decode cX3_startConversion 32 = .ok (.getfield 44, 3) := by decide +kernel
theorem dX3_startConversion_35 : decode cX3_startConversion 35 = .ok (.iconst 1, 1) := by decide +kernel
theorem dX3_startConversion_36 : decode cX3_startConversion 36 = .ok (.putfield 125, 3) := by decide +kernel
theorem dX3_startConversion_39 : decode cX3_startConversion 39 = .ok (.goto 4, 3) := by decide +kernel
theorem dX3_startConversion_42 : decode cX3_startConversion 42 = .ok (.return_, 1) := by decide +kernel
theorem dX3_startConversion_43 : decode cX3_startConversion 43 = .ok (.aload_n 0, 1) := by decide +kernel
theorem dX3_startConversion_44 : decode cX3_startConversion 44 = .ok (.getfield 44, 3) := by decide +kernel
theorem dX3_startConversion_47 : decode cX3_startConversion 47 = .ok (.aload_n 0, 1) := by decide +kernel
theorem dX3_startConversion_48 : decode cX3_startConversion 48 = .ok (.aload_n 0, 1) := by decide +kernel
theorem dX3_startConversion_49 : decode cX3_startConversion 49 = .ok (.getfield 44, 3) := by decide +kernel
theorem dX3_startConversion_52 : decode cX3_startConversion 52 = .ok (.getfield 125, 3) := by decide +kernel
theorem dX3_startConversion_55 : decode cX3_startConversion 55 = .ok (.invokevirtual 143, 3) := by decide +kernel
theorem dX3_startConversion_58 : decode cX3_startConversion 58 = .ok (.invokevirtual 180, 3) := by decide +kernel
theorem dX3_startConversion_61 : decode cX3_startConversion 61 = .ok (.putfield 184, 3) := by decide +kernel
theorem dX3_startConversion_64 : decode cX3_startConversion 64 = .ok (.aload_n 0, 1) := by decide +kernel
theorem dX3_startConversion_65 : decode cX3_startConversion 65 = .ok (.getfield 44, 3) := by decide +kernel
theorem dX3_startConversion_68 : decode cX3_startConversion 68 = .ok (.aload_n 0, 1) := by decide +kernel
theorem dX3_startConversion_69 : decode cX3_startConversion 69 = .ok (.getfield 11, 3) := by decide +kernel
theorem dX3_startConversion_72 : decode cX3_startConversion 72 = .ok (.aload_n 0, 1) := by decide +kernel
theorem dX3_startConversion_73 : decode cX3_startConversion 73 = .ok (.getfield 44, 3) := by decide +kernel
theorem dX3_startConversion_76 : decode cX3_startConversion 76 = .ok (.getfield 184, 3) := by decide +kernel
theorem dX3_startConversion_79 : decode cX3_startConversion 79 = .ok (.aaload, 1) := by decide +kernel
theorem dX3_startConversion_80 : decode cX3_startConversion 80 = .ok (.invokevirtual 187, 3) := by decide +kernel
theorem dX3_startConversion_83 : decode cX3_startConversion 83 = .ok (.putfield 190, 3) := by decide +kernel
theorem dX3_startConversion_86 : decode cX3_startConversion 86 = .ok (.return_, 1) := by decide +kernel
theorem dX3_advanceConversion_0 : decode cX3_advanceConversion 0 = .ok (.aload_n 0, 1) := by decide +kernel
theorem dX3_advanceConversion_1 : decode cX3_advanceConversion 1 = .ok (.getfield 44, 3) := by decide +kernel
theorem dX3_advanceConversion_4 : decode cX3_advanceConversion 4 = .ok (.dup, 1) := by decide +kernel
theorem dX3_advanceConversion_5 : decode cX3_advanceConversion 5 = .ok (.getfield 190, 3) := by decide +kernel
theorem dX3_advanceConversion_8 : decode cX3_advanceConversion 8 = .ok (.iconst 1, 1) := by decide +kernel
theorem dX3_advanceConversion_9 : decode cX3_advanceConversion 9 = .ok (.isub, 1) := by decide +kernel
theorem dX3_advanceConversion_10 : decode cX3_advanceConversion 10 = .ok (.putfield 190, 3) := by decide +kernel
theorem dX3_advanceConversion_13 : decode cX3_advanceConversion 13 = .ok (.aload_n 0, 1) := by decide +kernel
theorem dX3_advanceConversion_14 : decode cX3_advanceConversion 14 = .ok (.getfield 44, 3) := by decide +kernel
theorem dX3_advanceConversion_17 : decode cX3_advanceConversion 17 = .ok (.getfield 190, 3) := by decide +kernel
theorem dX3_advanceConversion_20 : decode cX3_advanceConversion 20 = .ok (.bipush 12, 2) := by decide +kernel
theorem dX3_advanceConversion_22 : decode cX3_advanceConversion 22 = .ok (.if_icmp .ne 29, 3) := by decide +kernel
theorem dX3_advanceConversion_25 : decode cX3_advanceConversion 25 = .ok (.aload_n 0, 1) := by decide +kernel
theorem dX3_advanceConversion_26 : decode cX3_advanceConversion 26 = .ok (.getfield 44, 3) := by decide +kernel
theorem dX3_advanceConversion_29 : decode cX3_advanceConversion 29 = .ok (.aload_n 0, 1) := by decide +kernel
theorem dX3_advanceConversion_30 : decode cX3_advanceConversion 30 = .ok (.getfield 11, 3) := by decide +kernel
theorem dX3_advanceConversion_33 : decode cX3_advanceConversion 33 = .ok (.aload_n 0, 1) := by decide +kernel
theorem dX3_advanceConversion_34 : decode cX3_advanceConversion 34 = .ok (.getfield 44, 3) := by decide +kernel
theorem dX3_advanceConversion_37 : decode cX3_advanceConversion 37 = .ok (.getfield 184, 3) := by decide +kernel
theorem dX3_advanceConversion_40 : decode cX3_advanceConversion 40 = .ok (.aaload, 1) := by decide +kernel
theorem dX3_advanceConversion_41 : decode cX3_advanceConversion 41 = .ok (.aload_n 0, 1) := by decide +kernel
theorem dX3_advanceConversion_42 : decode cX3_advanceConversion 42 = .ok (.getfield 109, 3) := by decide +kernel
theorem dX3_advanceConversion_45 : decode cX3_advanceConversion 45 = .ok (.invokevirtual 193, 3) := by decide +kernel
theorem dX3_advanceConversion_48 : decode cX3_advanceConversion 48 = .ok (.putfield 197, 3) := by decide +kernel
theorem dX3_advanceConversion_51 : decode cX3_advanceConversion 51 = .ok (.aload_n 0, 1) := by decide +kernel
theorem dX3_advanceConversion_52 : decode cX3_advanceConversion 52 = .ok (.getfield 44, 3) := by decide +kernel
theorem dX3_advanceConversion_55 : decode cX3_advanceConversion 55 = .ok (.getfield 190, 3) := by decide +kernel
theorem dX3_advanceConversion_58 : decode cX3_advanceConversion 58 = .ok (.ifCond .le 4, 3) := by decide +kernel
theorem dX3_advanceConversion_61 : decode cX3_advanceConversion 61 = .ok (.return_, 1) := by decide +kernel
theorem dX3_advanceConversion_62 : decode cX3_advanceConversion 62 = .ok (.aload_n 0, 1) := by decide +kernel
theorem dX3_advanceConversion_63 : decode cX3_advanceConversion 63 = .ok (.getfield 44, 3) := by decide +kernel
theorem dX3_advanceConversion_66 : decode cX3_advanceConversion 66 = .ok (.getfield 125, 3) := by decide +kernel
theorem dX3_advanceConversion_69 : decode cX3_advanceConversion 69 = .ok (.istore_n 1, 1) := by decide +kernel
theorem dX3_advanceConversion_70 : decode cX3_advanceConversion 70 = .ok (.aload_n 0, 1) := by decide +kernel
theorem dX3_advanceConversion_71 : decode cX3_advanceConversion 71 = .ok (.iload_n 1, 1) := by decide +kernel
theorem dX3_advanceConversion_72 : decode cX3_advanceConversion 72 = .ok (.invokevirtual 143, 3) := by decide +kernel
theorem dX3_advanceConversion_75 : decode cX3_advanceConversion 75 = .ok (.astore_n 2, 1) := by decide +kernel
theorem dX3_advanceConversion_76 : decode cX3_advanceConversion 76 = .ok (.aload_n 0, 1) := by decide +kernel
theorem dX3_advanceConversion_77 : decode cX3_advanceConversion 77 = .ok (.getfield 44, 3) := by decide +kernel
theorem dX3_advanceConversion_80 : decode cX3_advanceConversion 80 = .ok (.iconst 0, 1) := by decide +kernel
theorem dX3_advanceConversion_81 : decode cX3_advanceConversion 81 = .ok (.putfield 125, 3) := by decide +kernel
theorem dX3_advanceConversion_84 : decode cX3_advanceConversion 84 = .ok (.aload_n 0, 1) := by decide +kernel
theorem dX3_advanceConversion_85 : decode cX3_advanceConversion 85 = .ok (.getfield 44, 3) := by decide +kernel
theorem dX3_advanceConversion_88 : decode cX3_advanceConversion 88 = .ok (.dup, 1) := by decide +kernel
theorem dX3_advanceConversion_89 : decode cX3_advanceConversion 89 = .ok (.getfield 200, 3) := by decide +kernel
theorem dX3_advanceConversion_92 : decode cX3_advanceConversion 92 = .ok (.iconst 1, 1) := by decide +kernel
theorem dX3_advanceConversion_93 : decode cX3_advanceConversion 93 = .ok (.iadd, 1) := by decide +kernel
theorem dX3_advanceConversion_94 : decode cX3_advanceConversion 94 = .ok (.putfield 200, 3) := by decide +kernel
theorem dX3_advanceConversion_97 : decode cX3_advanceConversion 97 = .ok (.aload_n 2, 1) := by decide +kernel
theorem dX3_advanceConversion_98 : decode cX3_advanceConversion 98 = .ok (.dup, 1) := by decide +kernel
theorem dX3_advanceConversion_99 : decode cX3_advanceConversion 99 = .ok (.getfield 203, 3) := by decide +kernel
theorem dX3_advanceConversion_102 : decode cX3_advanceConversion 102 = .ok (.iconst 1, 1) := by decide +kernel
theorem dX3_advanceConversion_103 : decode cX3_advanceConversion 103 = .ok (.iadd, 1) := by decide +kernel
theorem dX3_advanceConversion_104 : decode cX3_advanceConversion 104 = .ok (.putfield 203, 3) := by decide +kernel
theorem dX3_advanceConversion_107 : decode cX3_advanceConversion 107 = .ok (.aload_n 2, 1) := by decide +kernel
theorem dX3_advanceConversion_108 : decode cX3_advanceConversion 108 = .ok (.dup, 1) := by decide +kernel
theorem dX3_advanceConversion_109 : decode cX3_advanceConversion 109 = .ok (.getfield 206, 3) := by decide +kernel
theorem dX3_advanceConversion_112 : decode cX3_advanceConversion 112 = .ok (.aload_n 0, 1) := by decide +kernel
theorem dX3_advanceConversion_113 : decode cX3_advanceConversion 113 = .ok (.getfield 44, 3) := by decide +kernel
theorem dX3_advanceConversion_116 : decode cX3_advanceConversion 116 = .ok (.getfield 197, 3) := by decide +kernel
theorem dX3_advanceConversion_119 : decode cX3_advanceConversion 119 = .ok (.iadd, 1) := by decide +kernel
theorem dX3_advanceConversion_120 : decode cX3_advanceConversion 120 = .ok (.putfield 206, 3) := by decide +kernel
theorem dX3_advanceConversion_123 : decode cX3_advanceConversion 123 = .ok (.aload_n 2, 1) := by decide +kernel
theorem dX3_advanceConversion_124 : decode cX3_advanceConversion 124 = .ok (.getfield 203, 3) := by decide +kernel
theorem dX3_advanceConversion_127 : decode cX3_advanceConversion 127 = .ok (.iconst 1, 1) := by decide +kernel
theorem dX3_advanceConversion_128 : decode cX3_advanceConversion 128 = .ok (.aload_n 0, 1) := by decide +kernel
theorem dX3_advanceConversion_129 : decode cX3_advanceConversion 129 = .ok (.getfield 100, 3) := by decide +kernel
theorem dX3_advanceConversion_132 : decode cX3_advanceConversion 132 = .ok (.ishl, 1) := by decide +kernel
theorem dX3_advanceConversion_133 : decode cX3_advanceConversion 133 = .ok (.if_icmp .lt 25, 3) := by decide +kernel
theorem dX3_advanceConversion_136 : decode cX3_advanceConversion 136 = .ok (.aload_n 0, 1) := by decide +kernel
theorem dX3_advanceConversion_137 : decode cX3_advanceConversion 137 = .ok (.iload_n 1, 1) := by decide +kernel
theorem dX3_advanceConversion_138 : decode cX3_advanceConversion 138 = .ok (.aload_n 2, 1) := by decide +kernel
theorem dX3_advanceConversion_139 : decode cX3_advanceConversion 139 = .ok (.invokevirtual 209, 3) := by decide +kernel
theorem dX3_advanceConversion_142 : decode cX3_advanceConversion 142 = .ok (.aload_n 2, 1) := by decide +kernel
theorem dX3_advanceConversion_143 : decode cX3_advanceConversion 143 = .ok (.getfield 177, 3) := by decide +kernel
theorem dX3_advanceConversion_146 : decode cX3_advanceConversion 146 = .ok (.aload_n 2, 1) := by decide +kernel
theorem dX3_advanceConversion_147 : decode cX3_advanceConversion 147 = .ok (.getfield 213, 3) := by decide +kernel
theorem dX3_advanceConversion_150 : decode cX3_advanceConversion 150 = .ok (.if_icmp .lt 8, 3) := by decide +kernel
theorem dX3_advanceConversion_153 : decode cX3_advanceConversion 153 = .ok (.aload_n 0, 1) := by decide +kernel
theorem dX3_advanceConversion_154 : decode cX3_advanceConversion 154 = .ok (.iload_n 1, 1) := by decide +kernel
theorem dX3_advanceConversion_155 : decode cX3_advanceConversion 155 = .ok (.invokevirtual 216, 3) := by decide +kernel
theorem dX3_advanceConversion_158 : decode cX3_advanceConversion 158 = .ok (.return_, 1) := by decide +kernel
theorem dX3_finishResult_0 : decode cX3_finishResult 0 = .ok (.aload_n 0, 1) := by decide +kernel
theorem dX3_finishResult_1 : decode cX3_finishResult 1 = .ok (.getfield 44, 3) := by decide +kernel
theorem dX3_finishResult_4 : decode cX3_finishResult 4 = .ok (.getfield 184, 3) := by decide +kernel
theorem dX3_finishResult_7 : decode cX3_finishResult 7 = .ok (.istore_n 3, 1) := by decide +kernel
theorem dX3_finishResult_8 : decode cX3_finishResult 8 = .ok (.aload_n 0, 1) := by decide +kernel
theorem dX3_finishResult_9 : decode cX3_finishResult 9 = .ok (.getfield 11, 3) := by decide +kernel
theorem dX3_finishResult_12 : decode cX3_finishResult 12 = .ok (.iload_n 3, 1) := by decide +kernel
theorem dX3_finishResult_13 : decode cX3_finishResult 13 = .ok (.aaload, 1) := by decide +kernel
theorem dX3_finishResult_14 : decode cX3_finishResult 14 = .ok (.astore 4, 2) := by decide +kernel
theorem dX3_finishResult_16 : decode cX3_finishResult 16 = .ok (.aload_n 2, 1) := by decide +kernel
theorem dX3_finishResult_17 : decode cX3_finishResult 17 = .ok (.getfield 206, 3) := by decide +kernel
theorem dX3_finishResult_20 : decode cX3_finishResult 20 = .ok (.aload_n 0, 1) := by decide +kernel
theorem dX3_finishResult_21 : decode cX3_finishResult 21 = .ok (.getfield 103, 3) := by decide +kernel
theorem dX3_finishResult_24 : decode cX3_finishResult 24 = .ok (.ishr, 1) := by decide +kernel
theorem dX3_finishResult_25 : decode cX3_finishResult 25 = .ok (.aload 4, 2) := by decide +kernel
theorem dX3_finishResult_27 : decode cX3_finishResult 27 = .ok (.getfield 219, 3) := by decide +kernel
theorem dX3_finishResult_30 : decode cX3_finishResult 30 = .ok (.isub, 1) := by decide +kernel
theorem dX3_finishResult_31 : decode cX3_finishResult 31 = .ok (.istore 5, 2) := by decide +kernel
theorem dX3_finishResult_33 : decode cX3_finishResult 33 = .ok (.iload 5, 2) := by decide +kernel
theorem dX3_finishResult_35 : decode cX3_finishResult 35 = .ok (.ifCond .ge 7, 3) := by decide +kernel
theorem dX3_finishResult_38 : decode cX3_finishResult 38 = .ok (.iconst 0, 1) := by decide +kernel
theorem dX3_finishResult_39 : decode cX3_finishResult 39 = .ok (.goto 5, 3) := by decide +kernel
theorem dX3_finishResult_42 : decode cX3_finishResult 42 = .ok (.iload 5, 2) := by decide +kernel
theorem dX3_finishResult_44 : decode cX3_finishResult 44 = .ok (.istore 5, 2) := by decide +kernel
theorem dX3_finishResult_46 : decode cX3_finishResult 46 = .ok (.aload_n 2, 1) := by decide +kernel
theorem dX3_finishResult_47 : decode cX3_finishResult 47 = .ok (.invokevirtual 168, 3) := by decide +kernel
theorem dX3_finishResult_50 : decode cX3_finishResult 50 = .ok (.iconst 0, 1) := by decide +kernel
theorem dX3_finishResult_51 : decode cX3_finishResult 51 = .ok (.istore 6, 2) := by decide +kernel
theorem dX3_finishResult_53 : decode cX3_finishResult 53 = .ok (.iload 6, 2) := by decide +kernel
theorem dX3_finishResult_55 : decode cX3_finishResult 55 = .ok (.iconst 3, 1) := by decide +kernel
theorem dX3_finishResult_56 : decode cX3_finishResult 56 = .ok (.if_icmp .ge 30, 3) := by decide +kernel
theorem dX3_finishResult_59 : decode cX3_finishResult 59 = .ok (.aload_n 0, 1) := by decide +kernel
theorem dX3_finishResult_60 : decode cX3_finishResult 60 = .ok (.getfield 37, 3) := by decide +kernel
theorem dX3_finishResult_63 : decode cX3_finishResult 63 = .ok (.iload 6, 2) := by decide +kernel
theorem dX3_finishResult_65 : decode cX3_finishResult 65 = .ok (.aaload, 1) := by decide +kernel
theorem dX3_finishResult_66 : decode cX3_finishResult 66 = .ok (.iload_n 3, 1) := by decide +kernel
theorem dX3_finishResult_67 : decode cX3_finishResult 67 = .ok (.aload_n 2, 1) := by decide +kernel
theorem dX3_finishResult_68 : decode cX3_finishResult 68 = .ok (.getfield 222, 3) := by decide +kernel
theorem dX3_finishResult_71 : decode cX3_finishResult 71 = .ok (.aload_n 0, 1) := by decide +kernel
theorem dX3_finishResult_72 : decode cX3_finishResult 72 = .ok (.getfield 109, 3) := by decide +kernel
theorem dX3_finishResult_75 : decode cX3_finishResult 75 = .ok (.iload 5, 2) := by decide +kernel
theorem dX3_finishResult_77 : decode cX3_finishResult 77 = .ok (.invokevirtual 225, 3) := by decide +kernel
theorem dX3_finishResult_80 : decode cX3_finishResult 80 = .ok (.iinc 6 1, 3) := by decide +kernel
theorem dX3_finishResult_83 : decode cX3_finishResult 83 = .ok (.goto (-30), 3) := by decide +kernel
theorem dX3_finishResult_86 : decode cX3_finishResult 86 = .ok (.aload 4, 2) := by decide +kernel
theorem dX3_finishResult_88 : decode cX3_finishResult 88 = .ok (.iload 5, 2) := by decide +kernel
theorem dX3_finishResult_90 : decode cX3_finishResult 90 = .ok (.invokevirtual 229, 3) := by decide +kernel
theorem dX3_finishResult_93 : decode cX3_finishResult 93 = .ok (.aload_n 2, 1) := by decide +kernel
theorem dX3_finishResult_94 : decode cX3_finishResult 94 = .ok (.dup, 1) := by decide +kernel
theorem dX3_finishResult_95 : decode cX3_finishResult 95 = .ok (.getfield 115, 3) := by decide +kernel
theorem dX3_finishResult_98 : decode cX3_finishResult 98 = .ok (.iconst 1, 1) := by decide +kernel
theorem dX3_finishResult_99 : decode cX3_finishResult 99 = .ok (.iadd, 1) := by decide +kernel
theorem dX3_finishResult_100 : decode cX3_finishResult 100 = .ok (.putfield 115, 3) := by decide +kernel
theorem dX3_finishResult_103 : decode cX3_finishResult 103 = .ok (.aload_n 2, 1) := by decide +kernel
theorem dX3_finishResult_104 : decode cX3_finishResult 104 = .ok (.dup, 1) := by decide +kernel
theorem dX3_finishResult_105 : decode cX3_finishResult 105 = .ok (.getfield 232, 3) := by decide +kernel
theorem dX3_finishResult_108 : decode cX3_finishResult 108 = .ok (.aload_n 0, 1) := by decide +kernel
theorem dX3_finishResult_109 : decode cX3_finishResult 109 = .ok (.getfield 109, 3) := by decide +kernel
theorem dX3_finishResult_112 : decode cX3_finishResult 112 = .ok (.aload_n 2, 1) := by decide +kernel
theorem dX3_finishResult_113 : decode cX3_finishResult 113 = .ok (.getfield 236, 3) := by decide +kernel
theorem dX3_finishResult_116 : decode cX3_finishResult 116 = .ok (.isub, 1) := by decide +kernel
theorem dX3_finishResult_117 : decode cX3_finishResult 117 = .ok (.i2l, 1) := by decide +kernel
theorem dX3_finishResult_118 : decode cX3_finishResult 118 = .ok (.ladd, 1) := by decide +kernel
theorem dX3_finishResult_119 : decode cX3_finishResult 119 = .ok (.putfield 232, 3) := by decide +kernel
theorem dX3_finishResult_122 : decode cX3_finishResult 122 = .ok (.iload_n 1, 1) := by decide +kernel
theorem dX3_finishResult_123 : decode cX3_finishResult 123 = .ok (.iconst 2, 1) := by decide +kernel
theorem dX3_finishResult_124 : decode cX3_finishResult 124 = .ok (.if_icmp .ne 28, 3) := by decide +kernel
theorem dX3_finishResult_127 : decode cX3_finishResult 127 = .ok (.aload_n 0, 1) := by decide +kernel
theorem dX3_finishResult_128 : decode cX3_finishResult 128 = .ok (.getfield 58, 3) := by decide +kernel
theorem dX3_finishResult_131 : decode cX3_finishResult 131 = .ok (.aload_n 2, 1) := by decide +kernel
theorem dX3_finishResult_132 : decode cX3_finishResult 132 = .ok (.getfield 177, 3) := by decide +kernel
theorem dX3_finishResult_135 : decode cX3_finishResult 135 = .ok (.iload_n 3, 1) := by decide +kernel
theorem dX3_finishResult_136 : decode cX3_finishResult 136 = .ok (.aload_n 2, 1) := by decide +kernel
theorem dX3_finishResult_137 : decode cX3_finishResult 137 = .ok (.getfield 222, 3) := by decide +kernel
theorem dX3_finishResult_140 : decode cX3_finishResult 140 = .ok (.aload_n 0, 1) := by decide +kernel
theorem dX3_finishResult_141 : decode cX3_finishResult 141 = .ok (.getfield 109, 3) := by decide +kernel
theorem dX3_finishResult_144 : decode cX3_finishResult 144 = .ok (.iload 5, 2) := by decide +kernel
theorem dX3_finishResult_146 : decode cX3_finishResult 146 = .ok (.invokevirtual 239, 3) := by decide +kernel
theorem dX3_finishResult_149 : decode cX3_finishResult 149 = .ok (.goto 21, 3) := by decide +kernel
theorem dX3_finishResult_152 : decode cX3_finishResult 152 = .ok (.aload_n 0, 1) := by decide +kernel
theorem dX3_finishResult_153 : decode cX3_finishResult 153 = .ok (.getfield 51, 3) := by decide +kernel
theorem dX3_finishResult_156 : decode cX3_finishResult 156 = .ok (.iload_n 3, 1) := by decide +kernel
theorem dX3_finishResult_157 : decode cX3_finishResult 157 = .ok (.aload_n 2, 1) := by decide +kernel
theorem dX3_finishResult_158 : decode cX3_finishResult 158 = .ok (.getfield 222, 3) := by decide +kernel
theorem dX3_finishResult_161 : decode cX3_finishResult 161 = .ok (.aload_n 0, 1) := by decide +kernel
theorem dX3_finishResult_162 : decode cX3_finishResult 162 = .ok (.getfield 109, 3) := by decide +kernel
theorem dX3_finishResult_165 : decode cX3_finishResult 165 = .ok (.iload 5, 2) := by decide +kernel
theorem dX3_finishResult_167 : decode cX3_finishResult 167 = .ok (.invokevirtual 243, 3) := by decide +kernel
theorem dX3_finishResult_170 : decode cX3_finishResult 170 = .ok (.aload_n 2, 1) := by decide +kernel
theorem dX3_finishResult_171 : decode cX3_finishResult 171 = .ok (.dup, 1) := by decide +kernel
theorem dX3_finishResult_172 : decode cX3_finishResult 172 = .ok (.getfield 177, 3) := by decide +kernel
theorem dX3_finishResult_175 : decode cX3_finishResult 175 = .ok (.iconst 1, 1) := by decide +kernel
theorem dX3_finishResult_176 : decode cX3_finishResult 176 = .ok (.iadd, 1) := by decide +kernel
theorem dX3_finishResult_177 : decode cX3_finishResult 177 = .ok (.putfield 177, 3) := by decide +kernel
theorem dX3_finishResult_180 : decode cX3_finishResult 180 = .ok (.return_, 1) := by decide +kernel
theorem dX3_endPass_0 : decode cX3_endPass 0 = .ok (.aload_n 0, 1) := by decide +kernel
theorem dX3_endPass_1 : decode cX3_endPass 1 = .ok (.iload_n 1, 1) := by decide +kernel
theorem dX3_endPass_2 : decode cX3_endPass 2 = .ok (.invokevirtual 143, 3) := by decide +kernel
theorem dX3_endPass_5 : decode cX3_endPass 5 = .ok (.dup, 1) := by decide +kernel
theorem dX3_endPass_6 : decode cX3_endPass 6 = .ok (.getfield 246, 3) := by decide +kernel
theorem dX3_endPass_9 : decode cX3_endPass 9 = .ok (.iconst 1, 1) := by decide +kernel
theorem dX3_endPass_10 : decode cX3_endPass 10 = .ok (.iadd, 1) := by decide +kernel
theorem dX3_endPass_11 : decode cX3_endPass 11 = .ok (.putfield 246, 3) := by decide +kernel
theorem dX3_endPass_14 : decode cX3_endPass 14 = .ok (.iload_n 1, 1) := by decide +kernel
theorem dX3_endPass_15 : decode cX3_endPass 15 = .ok (.iconst 2, 1) := by decide +kernel
theorem dX3_endPass_16 : decode cX3_endPass 16 = .ok (.if_icmp .ne 19, 3) := by decide +kernel
theorem dX3_endPass_19 : decode cX3_endPass 19 = .ok (.aload_n 0, 1) := by decide +kernel
theorem dX3_endPass_20 : decode cX3_endPass 20 = .ok (.getfield 26, 3) := by decide +kernel
theorem dX3_endPass_23 : decode cX3_endPass 23 = .ok (.iconst 0, 1) := by decide +kernel
theorem dX3_endPass_24 : decode cX3_endPass 24 = .ok (.putfield 177, 3) := by decide +kernel
theorem dX3_endPass_27 : decode cX3_endPass 27 = .ok (.aload_n 0, 1) := by decide +kernel
theorem dX3_endPass_28 : decode cX3_endPass 28 = .ok (.getfield 26, 3) := by decide +kernel
theorem dX3_endPass_31 : decode cX3_endPass 31 = .ok (.invokevirtual 174, 3) := by decide +kernel
theorem dX3_endPass_34 : decode cX3_endPass 34 = .ok (.return_, 1) := by decide +kernel
theorem dX3_endPass_35 : decode cX3_endPass 35 = .ok (.aload_n 0, 1) := by decide +kernel
theorem dX3_endPass_36 : decode cX3_endPass 36 = .ok (.getfield 22, 3) := by decide +kernel
theorem dX3_endPass_39 : decode cX3_endPass 39 = .ok (.getfield 177, 3) := by decide +kernel
theorem dX3_endPass_42 : decode cX3_endPass 42 = .ok (.aload_n 0, 1) := by decide +kernel
theorem dX3_endPass_43 : decode cX3_endPass 43 = .ok (.getfield 22, 3) := by decide +kernel
theorem dX3_endPass_46 : decode cX3_endPass 46 = .ok (.getfield 249, 3) := by decide +kernel
theorem dX3_endPass_49 : decode cX3_endPass 49 = .ok (.if_icmp .lt 11, 3) := by decide +kernel
theorem dX3_endPass_52 : decode cX3_endPass 52 = .ok (.aload_n 0, 1) := by decide +kernel
theorem dX3_endPass_53 : decode cX3_endPass 53 = .ok (.getfield 22, 3) := by decide +kernel
theorem dX3_endPass_56 : decode cX3_endPass 56 = .ok (.iconst 0, 1) := by decide +kernel
theorem dX3_endPass_57 : decode cX3_endPass 57 = .ok (.putfield 177, 3) := by decide +kernel
theorem dX3_endPass_60 : decode cX3_endPass 60 = .ok (.aload_n 0, 1) := by decide +kernel
theorem dX3_endPass_61 : decode cX3_endPass 61 = .ok (.getfield 94, 3) := by decide +kernel
theorem dX3_endPass_64 : decode cX3_endPass 64 = .ok (.ifCond .eq 25, 3) := by decide +kernel
theorem dX3_endPass_67 : decode cX3_endPass 67 = .ok (.aload_n 0, 1) := by decide +kernel
theorem dX3_endPass_68 : decode cX3_endPass 68 = .ok (.getfield 26, 3) := by decide +kernel
theorem dX3_endPass_71 : decode cX3_endPass 71 = .ok (.invokevirtual 147, 3) := by decide +kernel
theorem dX3_endPass_74 : decode cX3_endPass 74 = .ok (.ifCond .eq 15, 3) := by decide +kernel
theorem dX3_endPass_77 : decode cX3_endPass 77 = .ok (.aload_n 0, 1) := by decide +kernel
theorem dX3_endPass_78 : decode cX3_endPass 78 = .ok (.iconst 2, 1) := by decide +kernel
theorem dX3_endPass_79 : decode cX3_endPass 79 = .ok (.aload_n 0, 1) := by decide +kernel
theorem dX3_endPass_80 : decode cX3_endPass 80 = .ok (.getfield 22, 3) := by decide +kernel
theorem dX3_endPass_83 : decode cX3_endPass 83 = .ok (.getfield 222, 3) := by decide +kernel
theorem dX3_endPass_86 : decode cX3_endPass 86 = .ok (.invokevirtual 154, 3) := by decide +kernel
theorem dX3_endPass_89 : decode cX3_endPass 89 = .ok (.aload_n 0, 1) := by decide +kernel
theorem dX3_endPass_90 : decode cX3_endPass 90 = .ok (.getfield 91, 3) := by decide +kernel
theorem dX3_endPass_93 : decode cX3_endPass 93 = .ok (.ifCond .eq 13, 3) := by decide +kernel
theorem dX3_endPass_96 : decode cX3_endPass 96 = .ok (.aload_n 0, 1) := by decide +kernel
theorem dX3_endPass_97 : decode cX3_endPass 97 = .ok (.getfield 22, 3) := by decide +kernel
theorem dX3_endPass_100 : decode cX3_endPass 100 = .ok (.invokevirtual 252, 3) := by decide +kernel
theorem dX3_endPass_103 : decode cX3_endPass 103 = .ok (.goto 10, 3) := by decide +kernel
theorem dX3_endPass_106 : decode cX3_endPass 106 = .ok (.aload_n 0, 1) := by decide +kernel
theorem dX3_endPass_107 : decode cX3_endPass 107 = .ok (.getfield 22, 3) := by decide +kernel
theorem dX3_endPass_110 : decode cX3_endPass 110 = .ok (.invokevirtual 174, 3) := by decide +kernel
theorem dX3_endPass_113 : decode cX3_endPass 113 = .ok (.return_, 1) := by decide +kernel
theorem dX3_transferOldest_0 : decode cX3_transferOldest 0 = .ok (.aload_n 0, 1) := by decide +kernel
theorem dX3_transferOldest_1 : decode cX3_transferOldest 1 = .ok (.getfield 51, 3) := by decide +kernel
theorem dX3_transferOldest_4 : decode cX3_transferOldest 4 = .ok (.getfield 255, 3) := by decide +kernel
theorem dX3_transferOldest_7 : decode cX3_transferOldest 7 = .ok (.ifCond .ne 4, 3) := by decide +kernel
theorem dX3_transferOldest_10 : decode cX3_transferOldest 10 = .ok (.return_, 1) := by decide +kernel
theorem dX3_transferOldest_11 : decode cX3_transferOldest 11 = .ok (.aload_n 0, 1) := by decide +kernel
theorem dX3_transferOldest_12 : decode cX3_transferOldest 12 = .ok (.getfield 55, 3) := by decide +kernel
theorem dX3_transferOldest_15 : decode cX3_transferOldest 15 = .ok (.aload_n 0, 1) := by decide +kernel
theorem dX3_transferOldest_16 : decode cX3_transferOldest 16 = .ok (.getfield 51, 3) := by decide +kernel
theorem dX3_transferOldest_19 : decode cX3_transferOldest 19 = .ok (.iconst 0, 1) := by decide +kernel
theorem dX3_transferOldest_20 : decode cX3_transferOldest 20 = .ok (.invokevirtual 258, 3) := by decide +kernel
theorem dX3_transferOldest_23 : decode cX3_transferOldest 23 = .ok (.aload_n 0, 1) := by decide +kernel
theorem dX3_transferOldest_24 : decode cX3_transferOldest 24 = .ok (.getfield 51, 3) := by decide +kernel
theorem dX3_transferOldest_27 : decode cX3_transferOldest 27 = .ok (.iconst 1, 1) := by decide +kernel
theorem dX3_transferOldest_28 : decode cX3_transferOldest 28 = .ok (.invokevirtual 258, 3) := by decide +kernel
theorem dX3_transferOldest_31 : decode cX3_transferOldest 31 = .ok (.aload_n 0, 1) := by decide +kernel
theorem dX3_transferOldest_32 : decode cX3_transferOldest 32 = .ok (.getfield 51, 3) := by decide +kernel
theorem dX3_transferOldest_35 : decode cX3_transferOldest 35 = .ok (.iconst 2, 1) := by decide +kernel
theorem dX3_transferOldest_36 : decode cX3_transferOldest 36 = .ok (.invokevirtual 258, 3) := by decide +kernel
theorem dX3_transferOldest_39 : decode cX3_transferOldest 39 = .ok (.aload_n 0, 1) := by decide +kernel
theorem dX3_transferOldest_40 : decode cX3_transferOldest 40 = .ok (.getfield 51, 3) := by decide +kernel
theorem dX3_transferOldest_43 : decode cX3_transferOldest 43 = .ok (.iconst 3, 1) := by decide +kernel
theorem dX3_transferOldest_44 : decode cX3_transferOldest 44 = .ok (.invokevirtual 258, 3) := by decide +kernel
theorem dX3_transferOldest_47 : decode cX3_transferOldest 47 = .ok (.invokevirtual 243, 3) := by decide +kernel
theorem dX3_transferOldest_50 : decode cX3_transferOldest 50 = .ok (.aload_n 0, 1) := by decide +kernel
theorem dX3_transferOldest_51 : decode cX3_transferOldest 51 = .ok (.getfield 51, 3) := by decide +kernel
theorem dX3_transferOldest_54 : decode cX3_transferOldest 54 = .ok (.invokevirtual 261, 3) := by decide +kernel
theorem dX3_transferOldest_57 : decode cX3_transferOldest 57 = .ok (.aload_n 0, 1) := by decide +kernel
theorem dX3_transferOldest_58 : decode cX3_transferOldest 58 = .ok (.dup, 1) := by decide +kernel
theorem dX3_transferOldest_59 : decode cX3_transferOldest 59 = .ok (.getfield 112, 3) := by decide +kernel
theorem dX3_transferOldest_62 : decode cX3_transferOldest 62 = .ok (.iconst 1, 1) := by decide +kernel
theorem dX3_transferOldest_63 : decode cX3_transferOldest 63 = .ok (.iadd, 1) := by decide +kernel
theorem dX3_transferOldest_64 : decode cX3_transferOldest 64 = .ok (.putfield 112, 3) := by decide +kernel
theorem dX3_transferOldest_67 : decode cX3_transferOldest 67 = .ok (.return_, 1) := by decide +kernel
theorem dX4_init_0 : decode cX4_init 0 = .ok (.aload_n 0, 1) := by decide +kernel
theorem dX4_init_1 : decode cX4_init 1 = .ok (.invokespecial 3, 3) := by decide +kernel
theorem dX4_init_4 : decode cX4_init 4 = .ok (.aload_n 0, 1) := by decide +kernel
theorem dX4_init_5 : decode cX4_init 5 = .ok (.new 9, 3) := by decide +kernel
theorem dX4_init_8 : decode cX4_init 8 = .ok (.dup, 1) := by decide +kernel
theorem dX4_init_9 : decode cX4_init 9 = .ok (.invokespecial 11, 3) := by decide +kernel
theorem dX4_init_12 : decode cX4_init 12 = .ok (.putfield 12, 3) := by decide +kernel
theorem dX4_init_15 : decode cX4_init 15 = .ok (.aload_n 0, 1) := by decide +kernel
theorem dX4_init_16 : decode cX4_init 16 = .ok (.new 18, 3) := by decide +kernel
theorem dX4_init_19 : decode cX4_init 19 = .ok (.dup, 1) := by decide +kernel
theorem dX4_init_20 : decode cX4_init 20 = .ok (.invokespecial 20, 3) := by decide +kernel
theorem dX4_init_23 : decode cX4_init 23 = .ok (.putfield 21, 3) := by decide +kernel
theorem dX4_init_26 : decode cX4_init 26 = .ok (.aload_n 0, 1) := by decide +kernel
theorem dX4_init_27 : decode cX4_init 27 = .ok (.new 18, 3) := by decide +kernel
theorem dX4_init_30 : decode cX4_init 30 = .ok (.dup, 1) := by decide +kernel
theorem dX4_init_31 : decode cX4_init 31 = .ok (.invokespecial 20, 3) := by decide +kernel
theorem dX4_init_34 : decode cX4_init 34 = .ok (.putfield 25, 3) := by decide +kernel
theorem dX4_init_37 : decode cX4_init 37 = .ok (.aload_n 0, 1) := by decide +kernel
theorem dX4_init_38 : decode cX4_init 38 = .ok (.iconst 0, 1) := by decide +kernel
theorem dX4_init_39 : decode cX4_init 39 = .ok (.putfield 28, 3) := by decide +kernel
theorem dX4_init_42 : decode cX4_init 42 = .ok (.aload_n 0, 1) := by decide +kernel
theorem dX4_init_43 : decode cX4_init 43 = .ok (.iconst (-1), 1) := by decide +kernel
theorem dX4_init_44 : decode cX4_init 44 = .ok (.putfield 32, 3) := by decide +kernel
theorem dX4_init_47 : decode cX4_init 47 = .ok (.return_, 1) := by decide +kernel
theorem dX4_parse_0 : decode cX4_parse 0 = .ok (.aload_n 0, 1) := by decide +kernel
theorem dX4_parse_1 : decode cX4_parse 1 = .ok (.iconst 0, 1) := by decide +kernel
theorem dX4_parse_2 : decode cX4_parse 2 = .ok (.putfield 28, 3) := by decide +kernel
theorem dX4_parse_5 : decode cX4_parse 5 = .ok (.aload_n 0, 1) := by decide +kernel
theorem dX4_parse_6 : decode cX4_parse 6 = .ok (.iconst (-1), 1) := by decide +kernel
theorem dX4_parse_7 : decode cX4_parse 7 = .ok (.putfield 32, 3) := by decide +kernel
theorem dX4_parse_10 : decode cX4_parse 10 = .ok (.aload_n 0, 1) := by decide +kernel
theorem dX4_parse_11 : decode cX4_parse 11 = .ok (.iconst 0, 1) := by decide +kernel
theorem dX4_parse_12 : decode cX4_parse 12 = .ok (.putfield 35, 3) := by decide +kernel
theorem dX4_parse_15 : decode cX4_parse 15 = .ok (.aload_n 0, 1) := by decide +kernel
theorem dX4_parse_16 : decode cX4_parse 16 = .ok (.iconst 0, 1) := by decide +kernel
theorem dX4_parse_17 : decode cX4_parse 17 = .ok (.putfield 38, 3) := by decide +kernel
theorem dX4_parse_20 : decode cX4_parse 20 = .ok (.aload_n 0, 1) := by decide +kernel
theorem dX4_parse_21 : decode cX4_parse 21 = .ok (.iconst 0, 1) := by decide +kernel
theorem dX4_parse_22 : decode cX4_parse 22 = .ok (.putfield 41, 3) := by decide +kernel
theorem dX4_parse_25 : decode cX4_parse 25 = .ok (.aload_n 0, 1) := by decide +kernel
theorem dX4_parse_26 : decode cX4_parse 26 = .ok (.iconst 0, 1) := by decide +kernel
theorem dX4_parse_27 : decode cX4_parse 27 = .ok (.putfield 44, 3) := by decide +kernel
theorem dX4_parse_30 : decode cX4_parse 30 = .ok (.aload_n 0, 1) := by decide +kernel
theorem dX4_parse_31 : decode cX4_parse 31 = .ok (.getfield 21, 3) := by decide +kernel
theorem dX4_parse_34 : decode cX4_parse 34 = .ok (.aload_n 0, 1) := by decide +kernel
theorem dX4_parse_35 : decode cX4_parse 35 = .ok (.getfield 25, 3) := by decide +kernel
theorem dX4_parse_38 : decode cX4_parse 38 = .ok (.invokevirtual 47, 3) := by decide +kernel
theorem dX4_parse_41 : decode cX4_parse 41 = .ok (.aload_n 0, 1) := by decide +kernel
theorem dX4_parse_42 : decode cX4_parse 42 = .ok (.getfield 12, 3) := by decide +kernel
theorem dX4_parse_45 : decode cX4_parse 45 = .ok (.invokevirtual 51, 3) := by decide +kernel
theorem dX4_parse_48 : decode cX4_parse 48 = .ok (.iconst 0, 1) := by decide +kernel
theorem dX4_parse_49 : decode cX4_parse 49 = .ok (.istore_n 1, 1) := by decide +kernel
theorem dX4_parse_50 : decode cX4_parse 50 = .ok (.iconst 0, 1) := by decide +kernel
theorem dX4_parse_51 : decode cX4_parse 51 = .ok (.istore_n 2, 1) := by decide +kernel
theorem dX4_parse_52 : decode cX4_parse 52 = .ok (.iload_n 2, 1) := by decide +kernel
theorem dX4_parse_53 : decode cX4_parse 53 = .ok (.aload_n 0, 1) := by decide +kernel
theorem dX4_parse_54 : decode cX4_parse 54 = .ok (.getfield 12, 3) := by decide +kernel
theorem dX4_parse_57 : decode cX4_parse 57 = .ok (.getfield 54, 3) := by decide +kernel
theorem dX4_parse_60 : decode cX4_parse 60 = .ok (.if_icmp .ge 40, 3) := by decide +kernel
theorem dX4_parse_63 : decode cX4_parse 63 = .ok (.aload_n 0, 1) := by decide +kernel
theorem dX4_parse_64 : decode cX4_parse 64 = .ok (.getfield 12, 3) := by decide +kernel
theorem dX4_parse_67 : decode cX4_parse 67 = .ok (.getfield 57, 3) := by decide +kernel
theorem dX4_parse_70 : decode cX4_parse 70 = .ok (.ifCond .eq 30, 3) := by decide +kernel
theorem dX4_parse_73 : decode cX4_parse 73 = .ok (.aload_n 0, 1) := by decide +kernel
theorem dX4_parse_74 : decode cX4_parse 74 = .ok (.invokevirtual 60, 3) := by decide +kernel
theorem dX4_parse_77 : decode cX4_parse 77 = .ok (.ifCond .eq 12, 3) := by decide +kernel
theorem dX4_parse_80 : decode cX4_parse 80 = .ok (.aload_n 0, 1) := by decide +kernel
theorem dX4_parse_81 : decode cX4_parse 81 = .ok (.bipush 59, 2) := by decide +kernel
theorem dX4_parse_83 : decode cX4_parse 83 = .ok (.invokevirtual 64, 3) := by decide +kernel
theorem dX4_parse_86 : decode cX4_parse 86 = .ok (.ifCond .ne 5, 3) := by decide +kernel
theorem dX4_parse_89 : decode cX4_parse 89 = .ok (.iconst (-1), 1) := by decide +kernel
theorem dX4_parse_90 : decode cX4_parse 90 = .ok (.ireturn, 1) := by decide +kernel
theorem dX4_parse_91 : decode cX4_parse 91 = .ok (.iinc 1 1, 3) := by decide +kernel
theorem dX4_parse_94 : decode cX4_parse 94 = .ok (.iinc 2 1, 3) := by decide +kernel
theorem dX4_parse_97 : decode cX4_parse 97 = .ok (.goto (-45), 3) := by decide +kernel
theorem dX4_parse_100 : decode cX4_parse 100 = .ok (.iload_n 1, 1) := by decide +kernel
theorem dX4_parse_101 : decode cX4_parse 101 = .ok (.ireturn, 1) := by decide +kernel
theorem dX4_readStatement_0 : decode cX4_readStatement 0 = .ok (.getstatic 68, 3) := by decide +kernel
theorem dX4_readStatement_3 : decode cX4_readStatement 3 = .ok (.aload_n 0, 1) := by decide +kernel
theorem dX4_readStatement_4 : decode cX4_readStatement 4 = .ok (.getfield 12, 3) := by decide +kernel
theorem dX4_readStatement_7 : decode cX4_readStatement 7 = .ok (.getfield 74, 3) := by decide +kernel
theorem dX4_readStatement_10 : decode cX4_readStatement 10 = .ok (.invokevirtual 78, 3) := by decide +kernel
theorem dX4_readStatement_13 : decode cX4_readStatement 13 = .ok (.iaload, 1) := by decide +kernel
theorem dX4_readStatement_14 : decode cX4_readStatement 14 = .ok (.tableswitch 233 1 11 #[58, 63, 68, 73, 100, 127, 147, 160, 173, 193, 213], 58) := by decide +kernel
theorem dX4_readStatement_72 : decode cX4_readStatement 72 = .ok (.aload_n 0, 1) := by decide +kernel
theorem dX4_readStatement_73 : decode cX4_readStatement 73 = .ok (.invokevirtual 84, 3) := by decide +kernel
theorem dX4_readStatement_76 : decode cX4_readStatement 76 = .ok (.ireturn, 1) := by decide +kernel
theorem dX4_readStatement_77 : decode cX4_readStatement 77 = .ok (.aload_n 0, 1) := by decide +kernel
theorem dX4_readStatement_78 : decode cX4_readStatement 78 = .ok (.invokevirtual 87, 3) := by decide +kernel
theorem dX4_readStatement_81 : decode cX4_readStatement 81 = .ok (.ireturn, 1) := by decide +kernel
theorem dX4_readStatement_82 : decode cX4_readStatement 82 = .ok (.aload_n 0, 1) := by decide +kernel
theorem dX4_readStatement_83 : decode cX4_readStatement 83 = .ok (.invokevirtual 90, 3) := by decide +kernel
theorem dX4_readStatement_86 : decode cX4_readStatement 86 = .ok (.ireturn, 1) := by decide +kernel
theorem dX4_readStatement_87 : decode cX4_readStatement 87 = .ok (.aload_n 0, 1) := by decide +kernel
theorem dX4_readStatement_88 : decode cX4_readStatement 88 = .ok (.invokevirtual 93, 3) := by decide +kernel
theorem dX4_readStatement_91 : decode cX4_readStatement 91 = .ok (.ifCond .eq 21, 3) := by decide +kernel
theorem dX4_readStatement_94 : decode cX4_readStatement 94 = .ok (.aload_n 0, 1) := by decide +kernel
theorem dX4_readStatement_95 : decode cX4_readStatement 95 = .ok (.aload_n 0, 1) := by decide +kernel
theorem dX4_readStatement_96 : decode cX4_readStatement 96 = .ok (.getfield 21, 3) := by decide +kernel
theorem dX4_readStatement_99 : decode cX4_readStatement 99 = .ok (.getfield 96, 3) := by decide +kernel
theorem dX4_readStatement_102 : decode cX4_readStatement 102 = .ok (.invokevirtual 100, 3) := by decide +kernel
theorem dX4_readStatement_105 : decode cX4_readStatement 105 = .ok (.ifCond .eq 7, 3) := by decide +kernel
theorem dX4_readStatement_108 : decode cX4_readStatement 108 = .ok (.iconst 1, 1) := by decide +kernel
theorem dX4_readStatement_109 : decode cX4_readStatement 109 = .ok (.goto 4, 3) := by decide +kernel
theorem dX4_readStatement_112 : decode cX4_readStatement 112 = .ok (.iconst 0, 1) := by decide +kernel
theorem dX4_readStatement_113 : decode cX4_readStatement 113 = .ok (.ireturn, 1) := by decide +kernel
theorem dX4_readStatement_114 : decode cX4_readStatement 114 = .ok (.aload_n 0, 1) := by decide +kernel
theorem dX4_readStatement_115 : decode cX4_readStatement 115 = .ok (.invokevirtual 93, 3) := by decide +kernel
theorem dX4_readStatement_118 : decode cX4_readStatement 118 = .ok (.ifCond .eq 21, 3) := by decide +kernel
theorem dX4_readStatement_121 : decode cX4_readStatement 121 = .ok (.aload_n 0, 1) := by decide +kernel
theorem dX4_readStatement_122 : decode cX4_readStatement 122 = .ok (.aload_n 0, 1) := by decide +kernel
theorem dX4_readStatement_123 : decode cX4_readStatement 123 = .ok (.getfield 21, 3) := by decide +kernel
theorem dX4_readStatement_126 : decode cX4_readStatement 126 = .ok (.getfield 104, 3) := by decide +kernel
theorem dX4_readStatement_129 : decode cX4_readStatement 129 = .ok (.invokevirtual 100, 3) := by decide +kernel
theorem dX4_readStatement_132 : decode cX4_readStatement 132 = .ok (.ifCond .eq 7, 3) := by decide +kernel
theorem dX4_readStatement_135 : decode cX4_readStatement 135 = .ok (.iconst 1, 1) := by decide +kernel
theorem dX4_readStatement_136 : decode cX4_readStatement 136 = .ok (.goto 4, 3) := by decide +kernel
theorem dX4_readStatement_139 : decode cX4_readStatement 139 = .ok (.iconst 0, 1) := by decide +kernel
theorem dX4_readStatement_140 : decode cX4_readStatement 140 = .ok (.ireturn, 1) := by decide +kernel
theorem dX4_readStatement_141 : decode cX4_readStatement 141 = .ok (.aload_n 0, 1) := by decide +kernel
theorem dX4_readStatement_142 : decode cX4_readStatement 142 = .ok (.invokevirtual 93, 3) := by decide +kernel
theorem dX4_readStatement_145 : decode cX4_readStatement 145 = .ok (.ifCond .eq 14, 3) := by decide +kernel
theorem dX4_readStatement_148 : decode cX4_readStatement 148 = .ok (.aload_n 0, 1) := by decide +kernel
theorem dX4_readStatement_149 : decode cX4_readStatement 149 = .ok (.invokevirtual 107, 3) := by decide +kernel
theorem dX4_readStatement_152 : decode cX4_readStatement 152 = .ok (.ifCond .eq 7, 3) := by decide +kernel
theorem dX4_readStatement_155 : decode cX4_readStatement 155 = .ok (.iconst 1, 1) := by decide +kernel
theorem dX4_readStatement_156 : decode cX4_readStatement 156 = .ok (.goto 4, 3) := by decide +kernel
theorem dX4_readStatement_159 : decode cX4_readStatement 159 = .ok (.iconst 0, 1) := by decide +kernel
theorem dX4_readStatement_160 : decode cX4_readStatement 160 = .ok (.ireturn, 1) := by decide +kernel
theorem dX4_readStatement_161 : decode cX4_readStatement 161 = .ok (.aload_n 0, 1) := by decide +kernel
theorem dX4_readStatement_162 : decode cX4_readStatement 162 = .ok (.getfield 21, 3) := by decide +kernel
theorem dX4_readStatement_165 : decode cX4_readStatement 165 = .ok (.iconst 1, 1) := by decide +kernel
theorem dX4_readStatement_166 : decode cX4_readStatement 166 = .ok (.putfield 110, 3) := by decide +kernel
theorem dX4_readStatement_169 : decode cX4_readStatement 169 = .ok (.aload_n 0, 1) := by decide +kernel
theorem dX4_readStatement_170 : decode cX4_readStatement 170 = .ok (.invokevirtual 93, 3) := by decide +kernel
theorem dX4_readStatement_173 : decode cX4_readStatement 173 = .ok (.ireturn, 1) := by decide +kernel
theorem dX4_readStatement_174 : decode cX4_readStatement 174 = .ok (.aload_n 0, 1) := by decide +kernel
theorem dX4_readStatement_175 : decode cX4_readStatement 175 = .ok (.getfield 21, 3) := by decide +kernel
theorem dX4_readStatement_178 : decode cX4_readStatement 178 = .ok (.iconst 1, 1) := by decide +kernel
theorem dX4_readStatement_179 : decode cX4_readStatement 179 = .ok (.putfield 114, 3) := by decide +kernel
theorem dX4_readStatement_182 : decode cX4_readStatement 182 = .ok (.aload_n 0, 1) := by decide +kernel
theorem dX4_readStatement_183 : decode cX4_readStatement 183 = .ok (.invokevirtual 93, 3) := by decide +kernel
theorem dX4_readStatement_186 : decode cX4_readStatement 186 = .ok (.ireturn, 1) := by decide +kernel
theorem dX4_readStatement_187 : decode cX4_readStatement 187 = .ok (.aload_n 0, 1) := by decide +kernel
theorem dX4_readStatement_188 : decode cX4_readStatement 188 = .ok (.invokevirtual 93, 3) := by decide +kernel
theorem dX4_readStatement_191 : decode cX4_readStatement 191 = .ok (.ifCond .eq 14, 3) := by decide +kernel
theorem dX4_readStatement_194 : decode cX4_readStatement 194 = .ok (.aload_n 0, 1) := by decide +kernel
theorem dX4_readStatement_195 : decode cX4_readStatement 195 = .ok (.invokevirtual 117, 3) := by decide +kernel
theorem dX4_readStatement_198 : decode cX4_readStatement 198 = .ok (.ifCond .eq 7, 3) := by decide +kernel
theorem dX4_readStatement_201 : decode cX4_readStatement 201 = .ok (.iconst 1, 1) := by decide +kernel
theorem dX4_readStatement_202 : decode cX4_readStatement 202 = .ok (.goto 4, 3) := by decide +kernel
theorem dX4_readStatement_205 : decode cX4_readStatement 205 = .ok (.iconst 0, 1) := by decide +kernel
theorem dX4_readStatement_206 : decode cX4_readStatement 206 = .ok (.ireturn, 1) := by decide +kernel
theorem dX4_readStatement_207 : decode cX4_readStatement 207 = .ok (.aload_n 0, 1) := by decide +kernel
theorem dX4_readStatement_208 : decode cX4_readStatement 208 = .ok (.invokevirtual 93, 3) := by decide +kernel
theorem dX4_readStatement_211 : decode cX4_readStatement 211 = .ok (.ifCond .eq 14, 3) := by decide +kernel
theorem dX4_readStatement_214 : decode cX4_readStatement 214 = .ok (.aload_n 0, 1) := by decide +kernel
theorem dX4_readStatement_215 : decode cX4_readStatement 215 = .ok (.invokevirtual 120, 3) := by decide +kernel
theorem dX4_readStatement_218 : decode cX4_readStatement 218 = .ok (.ifCond .eq 7, 3) := by decide +kernel
theorem dX4_readStatement_221 : decode cX4_readStatement 221 = .ok (.iconst 1, 1) := by decide +kernel
theorem dX4_readStatement_222 : decode cX4_readStatement 222 = .ok (.goto 4, 3) := by decide +kernel
theorem dX4_readStatement_225 : decode cX4_readStatement 225 = .ok (.iconst 0, 1) := by decide +kernel
theorem dX4_readStatement_226 : decode cX4_readStatement 226 = .ok (.ireturn, 1) := by decide +kernel
theorem dX4_readStatement_227 : decode cX4_readStatement 227 = .ok (.aload_n 0, 1) := by decide +kernel
theorem dX4_readStatement_228 : decode cX4_readStatement 228 = .ok (.invokevirtual 93, 3) := by decide +kernel
theorem dX4_readStatement_231 : decode cX4_readStatement 231 = .ok (.ifCond .eq 14, 3) := by decide +kernel
theorem dX4_readStatement_234 : decode cX4_readStatement 234 = .ok (.aload_n 0, 1) := by decide +kernel
theorem dX4_readStatement_235 : decode cX4_readStatement 235 = .ok (.invokevirtual 123, 3) := by decide +kernel
theorem dX4_readStatement_238 : decode cX4_readStatement 238 = .ok (.ifCond .eq 7, 3) := by decide +kernel
theorem dX4_readStatement_241 : decode cX4_readStatement 241 = .ok (.iconst 1, 1) := by decide +kernel
theorem dX4_readStatement_242 : decode cX4_readStatement 242 = .ok (.goto 4, 3) := by decide +kernel
theorem dX4_readStatement_245 : decode cX4_readStatement 245 = .ok (.iconst 0, 1) := by decide +kernel
theorem dX4_readStatement_246 : decode cX4_readStatement 246 = .ok (.ireturn, 1) := by decide +kernel
theorem dX4_readStatement_247 : decode cX4_readStatement 247 = .ok (.aload_n 0, 1) := by decide +kernel
theorem dX4_readStatement_248 : decode cX4_readStatement 248 = .ok (.iconst 1, 1) := by decide +kernel
theorem dX4_readStatement_249 : decode cX4_readStatement 249 = .ok (.invokevirtual 126, 3) := by decide +kernel
theorem dX4_readStatement_252 : decode cX4_readStatement 252 = .ok (.ireturn, 1) := by decide +kernel
theorem dX4_readChannel_0 : decode cX4_readChannel 0 = .ok (.aload_n 0, 1) := by decide +kernel
theorem dX4_readChannel_1 : decode cX4_readChannel 1 = .ok (.getfield 12, 3) := by decide +kernel
theorem dX4_readChannel_4 : decode cX4_readChannel 4 = .ok (.invokevirtual 129, 3) := by decide +kernel
theorem dX4_readChannel_7 : decode cX4_readChannel 7 = .ok (.aload_n 0, 1) := by decide +kernel
theorem dX4_readChannel_8 : decode cX4_readChannel 8 = .ok (.getstatic 132, 3) := by decide +kernel
theorem dX4_readChannel_11 : decode cX4_readChannel 11 = .ok (.aload_n 0, 1) := by decide +kernel
theorem dX4_readChannel_12 : decode cX4_readChannel 12 = .ok (.getfield 38, 3) := by decide +kernel
theorem dX4_readChannel_15 : decode cX4_readChannel 15 = .ok (.invokevirtual 135, 3) := by decide +kernel
theorem dX4_readChannel_18 : decode cX4_readChannel 18 = .ok (.ifCond .ne 5, 3) := by decide +kernel
theorem dX4_readChannel_21 : decode cX4_readChannel 21 = .ok (.iconst 0, 1) := by decide +kernel
theorem dX4_readChannel_22 : decode cX4_readChannel 22 = .ok (.ireturn, 1) := by decide +kernel
theorem dX4_readChannel_23 : decode cX4_readChannel 23 = .ok (.aload_n 0, 1) := by decide +kernel
theorem dX4_readChannel_24 : decode cX4_readChannel 24 = .ok (.dup, 1) := by decide +kernel
theorem dX4_readChannel_25 : decode cX4_readChannel 25 = .ok (.getfield 38, 3) := by decide +kernel
theorem dX4_readChannel_28 : decode cX4_readChannel 28 = .ok (.iconst 1, 1) := by decide +kernel
theorem dX4_readChannel_29 : decode cX4_readChannel 29 = .ok (.aload_n 0, 1) := by decide +kernel
theorem dX4_readChannel_30 : decode cX4_readChannel 30 = .ok (.getfield 139, 3) := by decide +kernel
theorem dX4_readChannel_33 : decode cX4_readChannel 33 = .ok (.ishl, 1) := by decide +kernel
theorem dX4_readChannel_34 : decode cX4_readChannel 34 = .ok (.ior, 1) := by decide +kernel
theorem dX4_readChannel_35 : decode cX4_readChannel 35 = .ok (.putfield 38, 3) := by decide +kernel
theorem dX4_readChannel_38 : decode cX4_readChannel 38 = .ok (.aload_n 0, 1) := by decide +kernel
theorem dX4_readChannel_39 : decode cX4_readChannel 39 = .ok (.getfield 21, 3) := by decide +kernel
theorem dX4_readChannel_42 : decode cX4_readChannel 42 = .ok (.getfield 142, 3) := by decide +kernel
theorem dX4_readChannel_45 : decode cX4_readChannel 45 = .ok (.aload_n 0, 1) := by decide +kernel
theorem dX4_readChannel_46 : decode cX4_readChannel 46 = .ok (.getfield 139, 3) := by decide +kernel
theorem dX4_readChannel_49 : decode cX4_readChannel 49 = .ok (.aaload, 1) := by decide +kernel
theorem dX4_readChannel_50 : decode cX4_readChannel 50 = .ok (.astore_n 1, 1) := by decide +kernel
theorem dX4_readChannel_51 : decode cX4_readChannel 51 = .ok (.iconst 0, 1) := by decide +kernel
theorem dX4_readChannel_52 : decode cX4_readChannel 52 = .ok (.istore_n 2, 1) := by decide +kernel
theorem dX4_readChannel_53 : decode cX4_readChannel 53 = .ok (.iconst 0, 1) := by decide +kernel
theorem dX4_readChannel_54 : decode cX4_readChannel 54 = .ok (.istore_n 3, 1) := by decide +kernel
theorem dX4_readChannel_55 : decode cX4_readChannel 55 = .ok (.iload_n 3, 1) := by decide +kernel
theorem dX4_readChannel_56 : decode cX4_readChannel 56 = .ok (.iconst 5, 1) := by decide +kernel
theorem dX4_readChannel_57 : decode cX4_readChannel 57 = .ok (.if_icmp .gt 121, 3) := by decide +kernel
theorem dX4_readChannel_60 : decode cX4_readChannel 60 = .ok (.aload_n 0, 1) := by decide +kernel
theorem dX4_readChannel_61 : decode cX4_readChannel 61 = .ok (.getfield 12, 3) := by decide +kernel
theorem dX4_readChannel_64 : decode cX4_readChannel 64 = .ok (.getfield 74, 3) := by decide +kernel
theorem dX4_readChannel_67 : decode cX4_readChannel 67 = .ok (.invokevirtual 146, 3) := by decide +kernel
theorem dX4_readChannel_70 : decode cX4_readChannel 70 = .ok (.ifCond .eq 108, 3) := by decide +kernel
theorem dX4_readChannel_73 : decode cX4_readChannel 73 = .ok (.aload_n 0, 1) := by decide +kernel
theorem dX4_readChannel_74 : decode cX4_readChannel 74 = .ok (.getfield 12, 3) := by decide +kernel
theorem dX4_readChannel_77 : decode cX4_readChannel 77 = .ok (.getfield 74, 3) := by decide +kernel
theorem dX4_readChannel_80 : decode cX4_readChannel 80 = .ok (.astore 4, 2) := by decide +kernel
theorem dX4_readChannel_82 : decode cX4_readChannel 82 = .ok (.iload_n 2, 1) := by decide +kernel
theorem dX4_readChannel_83 : decode cX4_readChannel 83 = .ok (.aload 4, 2) := by decide +kernel
theorem dX4_readChannel_85 : decode cX4_readChannel 85 = .ok (.getfield 149, 3) := by decide +kernel
theorem dX4_readChannel_88 : decode cX4_readChannel 88 = .ok (.iand, 1) := by decide +kernel
theorem dX4_readChannel_89 : decode cX4_readChannel 89 = .ok (.ifCond .eq 9, 3) := by decide +kernel
theorem dX4_readChannel_92 : decode cX4_readChannel 92 = .ok (.aload_n 0, 1) := by decide +kernel
theorem dX4_readChannel_93 : decode cX4_readChannel 93 = .ok (.iconst 3, 1) := by decide +kernel
theorem dX4_readChannel_94 : decode cX4_readChannel 94 = .ok (.invokevirtual 126, 3) := by decide +kernel
theorem dX4_readChannel_97 : decode cX4_readChannel 97 = .ok (.ireturn, 1) := by decide +kernel
theorem dX4_readChannel_98 : decode cX4_readChannel 98 = .ok (.iload_n 2, 1) := by decide +kernel
theorem dX4_readChannel_99 : decode cX4_readChannel 99 = .ok (.aload 4, 2) := by decide +kernel
theorem dX4_readChannel_101 : decode cX4_readChannel 101 = .ok (.getfield 149, 3) := by decide +kernel
theorem dX4_readChannel_104 : decode cX4_readChannel 104 = .ok (.ior, 1) := by decide +kernel
theorem dX4_readChannel_105 : decode cX4_readChannel 105 = .ok (.istore_n 2, 1) := by decide +kernel
theorem dX4_readChannel_106 : decode cX4_readChannel 106 = .ok (.aload_n 0, 1) := by decide +kernel
theorem dX4_readChannel_107 : decode cX4_readChannel 107 = .ok (.getfield 12, 3) := by decide +kernel
theorem dX4_readChannel_110 : decode cX4_readChannel 110 = .ok (.invokevirtual 129, 3) := by decide +kernel
theorem dX4_readChannel_113 : decode cX4_readChannel 113 = .ok (.aload 4, 2) := by decide +kernel
theorem dX4_readChannel_115 : decode cX4_readChannel 115 = .ok (.getfield 152, 3) := by decide +kernel
theorem dX4_readChannel_118 : decode cX4_readChannel 118 = .ok (.ifCond .ge 16, 3) := by decide +kernel
theorem dX4_readChannel_121 : decode cX4_readChannel 121 = .ok (.aload_n 0, 1) := by decide +kernel
theorem dX4_readChannel_122 : decode cX4_readChannel 122 = .ok (.bipush 45, 2) := by decide +kernel
theorem dX4_readChannel_124 : decode cX4_readChannel 124 = .ok (.invokevirtual 155, 3) := by decide +kernel
theorem dX4_readChannel_127 : decode cX4_readChannel 127 = .ok (.ifCond .eq 7, 3) := by decide +kernel
theorem dX4_readChannel_130 : decode cX4_readChannel 130 = .ok (.iconst 1, 1) := by decide +kernel
theorem dX4_readChannel_131 : decode cX4_readChannel 131 = .ok (.goto 4, 3) := by decide +kernel
theorem dX4_readChannel_134 : decode cX4_readChannel 134 = .ok (.iconst 0, 1) := by decide +kernel
theorem dX4_readChannel_135 : decode cX4_readChannel 135 = .ok (.istore 5, 2) := by decide +kernel
theorem dX4_readChannel_137 : decode cX4_readChannel 137 = .ok (.aload_n 0, 1) := by decide +kernel
theorem dX4_readChannel_138 : decode cX4_readChannel 138 = .ok (.aload 4, 2) := by decide +kernel
theorem dX4_readChannel_140 : decode cX4_readChannel 140 = .ok (.iconst 0, 1) := by decide +kernel
theorem dX4_readChannel_141 : decode cX4_readChannel 141 = .ok (.invokevirtual 135, 3) := by decide +kernel
theorem dX4_readChannel_144 : decode cX4_readChannel 144 = .ok (.ifCond .ne 5, 3) := by decide +kernel
theorem dX4_readChannel_147 : decode cX4_readChannel 147 = .ok (.iconst 0, 1) := by decide +kernel
theorem dX4_readChannel_148 : decode cX4_readChannel 148 = .ok (.ireturn, 1) := by decide +kernel
theorem dX4_readChannel_149 : decode cX4_readChannel 149 = .ok (.aload_n 1, 1) := by decide +kernel
theorem dX4_readChannel_150 : decode cX4_readChannel 150 = .ok (.aload 4, 2) := by decide +kernel
theorem dX4_readChannel_152 : decode cX4_readChannel 152 = .ok (.iload 5, 2) := by decide +kernel
theorem dX4_readChannel_154 : decode cX4_readChannel 154 = .ok (.ifCond .eq 11, 3) := by decide +kernel
theorem dX4_readChannel_157 : decode cX4_readChannel 157 = .ok (.aload_n 0, 1) := by decide +kernel
theorem dX4_readChannel_158 : decode cX4_readChannel 158 = .ok (.getfield 139, 3) := by decide +kernel
theorem dX4_readChannel_161 : decode cX4_readChannel 161 = .ok (.ineg, 1) := by decide +kernel
theorem dX4_readChannel_162 : decode cX4_readChannel 162 = .ok (.goto 7, 3) := by decide +kernel
theorem dX4_readChannel_165 : decode cX4_readChannel 165 = .ok (.aload_n 0, 1) := by decide +kernel
theorem dX4_readChannel_166 : decode cX4_readChannel 166 = .ok (.getfield 139, 3) := by decide +kernel
theorem dX4_readChannel_169 : decode cX4_readChannel 169 = .ok (.invokestatic 158, 3) := by decide +kernel
theorem dX4_readChannel_172 : decode cX4_readChannel 172 = .ok (.iinc 3 1, 3) := by decide +kernel
theorem dX4_readChannel_175 : decode cX4_readChannel 175 = .ok (.goto (-120), 3) := by decide +kernel
theorem dX4_readChannel_178 : decode cX4_readChannel 178 = .ok (.iconst 1, 1) := by decide +kernel
theorem dX4_readChannel_179 : decode cX4_readChannel 179 = .ok (.ireturn, 1) := by decide +kernel
theorem dX4_setProperty_0 : decode cX4_setProperty 0 = .ok (.getstatic 68, 3) := by decide +kernel
theorem dX4_setProperty_3 : decode cX4_setProperty 3 = .ok (.aload_n 1, 1) := by decide +kernel
theorem dX4_setProperty_4 : decode cX4_setProperty 4 = .ok (.invokevirtual 78, 3) := by decide +kernel
theorem dX4_setProperty_7 : decode cX4_setProperty 7 = .ok (.iaload, 1) := by decide +kernel
theorem dX4_setProperty_8 : decode cX4_setProperty 8 = .ok (.tableswitch 64 12 15 #[32, 40, 48, 56], 32) := by decide +kernel
theorem dX4_setProperty_40 : decode cX4_setProperty 40 = .ok (.aload_n 0, 1) := by decide +kernel
theorem dX4_setProperty_41 : decode cX4_setProperty 41 = .ok (.iload_n 2, 1) := by decide +kernel
theorem dX4_setProperty_42 : decode cX4_setProperty 42 = .ok (.putfield 162, 3) := by decide +kernel
theorem dX4_setProperty_45 : decode cX4_setProperty 45 = .ok (.goto 32, 3) := by decide +kernel
theorem dX4_setProperty_48 : decode cX4_setProperty 48 = .ok (.aload_n 0, 1) := by decide +kernel
theorem dX4_setProperty_49 : decode cX4_setProperty 49 = .ok (.iload_n 2, 1) := by decide +kernel
theorem dX4_setProperty_50 : decode cX4_setProperty 50 = .ok (.putfield 167, 3) := by decide +kernel
theorem dX4_setProperty_53 : decode cX4_setProperty 53 = .ok (.goto 24, 3) := by decide +kernel
theorem dX4_setProperty_56 : decode cX4_setProperty 56 = .ok (.aload_n 0, 1) := by decide +kernel
theorem dX4_setProperty_57 : decode cX4_setProperty 57 = .ok (.iload_n 2, 1) := by decide +kernel
theorem dX4_setProperty_58 : decode cX4_setProperty 58 = .ok (.putfield 170, 3) := by decide +kernel
theorem dX4_setProperty_61 : decode cX4_setProperty 61 = .ok (.goto 16, 3) := by decide +kernel
theorem dX4_setProperty_64 : decode cX4_setProperty 64 = .ok (.aload_n 0, 1) := by decide +kernel
theorem dX4_setProperty_65 : decode cX4_setProperty 65 = .ok (.iload_n 2, 1) := by decide +kernel
theorem dX4_setProperty_66 : decode cX4_setProperty 66 = .ok (.putfield 173, 3) := by decide +kernel
theorem dX4_setProperty_69 : decode cX4_setProperty 69 = .ok (.goto 8, 3) := by decide +kernel
theorem dX4_setProperty_72 : decode cX4_setProperty 72 = .ok (.aload_n 0, 1) := by decide +kernel
theorem dX4_setProperty_73 : decode cX4_setProperty 73 = .ok (.iload_n 2, 1) := by decide +kernel
theorem dX4_setProperty_74 : decode cX4_setProperty 74 = .ok (.putfield 176, 3) := by decide +kernel
theorem dX4_setProperty_77 : decode cX4_setProperty 77 = .ok (.return_, 1) := by decide +kernel
theorem dX4_readEntries_0 : decode cX4_readEntries 0 = .ok (.aload_n 1, 1) := by decide +kernel
theorem dX4_readEntries_1 : decode cX4_readEntries 1 = .ok (.getfield 179, 3) := by decide +kernel
theorem dX4_readEntries_4 : decode cX4_readEntries 4 = .ok (.arraylength, 1) := by decide +kernel
theorem dX4_readEntries_5 : decode cX4_readEntries 5 = .ok (.istore_n 2, 1) := by decide +kernel
theorem dX4_readEntries_6 : decode cX4_readEntries 6 = .ok (.iconst 0, 1) := by decide +kernel
theorem dX4_readEntries_7 : decode cX4_readEntries 7 = .ok (.istore_n 3, 1) := by decide +kernel
theorem dX4_readEntries_8 : decode cX4_readEntries 8 = .ok (.iload_n 3, 1) := by decide +kernel
theorem dX4_readEntries_9 : decode cX4_readEntries 9 = .ok (.iload_n 2, 1) := by decide +kernel
theorem dX4_readEntries_10 : decode cX4_readEntries 10 = .ok (.if_icmp .ge 56, 3) := by decide +kernel
theorem dX4_readEntries_13 : decode cX4_readEntries 13 = .ok (.iload_n 3, 1) := by decide +kernel
theorem dX4_readEntries_14 : decode cX4_readEntries 14 = .ok (.ifCond .le 16, 3) := by decide +kernel
theorem dX4_readEntries_17 : decode cX4_readEntries 17 = .ok (.aload_n 0, 1) := by decide +kernel
theorem dX4_readEntries_18 : decode cX4_readEntries 18 = .ok (.getfield 12, 3) := by decide +kernel
theorem dX4_readEntries_21 : decode cX4_readEntries 21 = .ok (.getfield 57, 3) := by decide +kernel
theorem dX4_readEntries_24 : decode cX4_readEntries 24 = .ok (.iconst 2, 1) := by decide +kernel
theorem dX4_readEntries_25 : decode cX4_readEntries 25 = .ok (.if_icmp .eq 5, 3) := by decide +kernel
theorem dX4_readEntries_28 : decode cX4_readEntries 28 = .ok (.iconst 1, 1) := by decide +kernel
theorem dX4_readEntries_29 : decode cX4_readEntries 29 = .ok (.ireturn, 1) := by decide +kernel
theorem dX4_readEntries_30 : decode cX4_readEntries 30 = .ok (.aload_n 0, 1) := by decide +kernel
theorem dX4_readEntries_31 : decode cX4_readEntries 31 = .ok (.getstatic 132, 3) := by decide +kernel
theorem dX4_readEntries_34 : decode cX4_readEntries 34 = .ok (.iconst 0, 1) := by decide +kernel
theorem dX4_readEntries_35 : decode cX4_readEntries 35 = .ok (.invokevirtual 135, 3) := by decide +kernel
theorem dX4_readEntries_38 : decode cX4_readEntries 38 = .ok (.ifCond .ne 5, 3) := by decide +kernel
theorem dX4_readEntries_41 : decode cX4_readEntries 41 = .ok (.iconst 0, 1) := by decide +kernel
theorem dX4_readEntries_42 : decode cX4_readEntries 42 = .ok (.ireturn, 1) := by decide +kernel
theorem dX4_readEntries_43 : decode cX4_readEntries 43 = .ok (.aload_n 1, 1) := by decide +kernel
theorem dX4_readEntries_44 : decode cX4_readEntries 44 = .ok (.getfield 179, 3) := by decide +kernel
theorem dX4_readEntries_47 : decode cX4_readEntries 47 = .ok (.iload_n 3, 1) := by decide +kernel
theorem dX4_readEntries_48 : decode cX4_readEntries 48 = .ok (.aload_n 0, 1) := by decide +kernel
theorem dX4_readEntries_49 : decode cX4_readEntries 49 = .ok (.getfield 139, 3) := by decide +kernel
theorem dX4_readEntries_52 : decode cX4_readEntries 52 = .ok (.iastore, 1) := by decide +kernel
theorem dX4_readEntries_53 : decode cX4_readEntries 53 = .ok (.aload_n 1, 1) := by decide +kernel
theorem dX4_readEntries_54 : decode cX4_readEntries 54 = .ok (.iload_n 3, 1) := by decide +kernel
theorem dX4_readEntries_55 : decode cX4_readEntries 55 = .ok (.iconst 1, 1) := by decide +kernel
theorem dX4_readEntries_56 : decode cX4_readEntries 56 = .ok (.iadd, 1) := by decide +kernel
theorem dX4_readEntries_57 : decode cX4_readEntries 57 = .ok (.putfield 184, 3) := by decide +kernel
theorem dX4_readEntries_60 : decode cX4_readEntries 60 = .ok (.iinc 3 1, 3) := by decide +kernel
theorem dX4_readEntries_63 : decode cX4_readEntries 63 = .ok (.goto (-55), 3) := by decide +kernel
theorem dX4_readEntries_66 : decode cX4_readEntries 66 = .ok (.aload_n 0, 1) := by decide +kernel
theorem dX4_readEntries_67 : decode cX4_readEntries 67 = .ok (.getfield 12, 3) := by decide +kernel
theorem dX4_readEntries_70 : decode cX4_readEntries 70 = .ok (.getfield 57, 3) := by decide +kernel
theorem dX4_readEntries_73 : decode cX4_readEntries 73 = .ok (.iconst 2, 1) := by decide +kernel
theorem dX4_readEntries_74 : decode cX4_readEntries 74 = .ok (.if_icmp .eq 5, 3) := by decide +kernel
theorem dX4_readEntries_77 : decode cX4_readEntries 77 = .ok (.iconst 1, 1) := by decide +kernel
theorem dX4_readEntries_78 : decode cX4_readEntries 78 = .ok (.ireturn, 1) := by decide +kernel
theorem dX4_readEntries_79 : decode cX4_readEntries 79 = .ok (.aload_n 0, 1) := by decide +kernel
theorem dX4_readEntries_80 : decode cX4_readEntries 80 = .ok (.getstatic 132, 3) := by decide +kernel
theorem dX4_readEntries_83 : decode cX4_readEntries 83 = .ok (.aload_n 0, 1) := by decide +kernel
theorem dX4_readEntries_84 : decode cX4_readEntries 84 = .ok (.getfield 12, 3) := by decide +kernel
theorem dX4_readEntries_87 : decode cX4_readEntries 87 = .ok (.getfield 187, 3) := by decide +kernel
theorem dX4_readEntries_90 : decode cX4_readEntries 90 = .ok (.invokevirtual 188, 3) := by decide +kernel
theorem dX4_readEntries_93 : decode cX4_readEntries 93 = .ok (.ifCond .eq 7, 3) := by decide +kernel
theorem dX4_readEntries_96 : decode cX4_readEntries 96 = .ok (.iconst 4, 1) := by decide +kernel
theorem dX4_readEntries_97 : decode cX4_readEntries 97 = .ok (.goto 4, 3) := by decide +kernel
theorem dX4_readEntries_100 : decode cX4_readEntries 100 = .ok (.iconst 2, 1) := by decide +kernel
theorem dX4_readEntries_101 : decode cX4_readEntries 101 = .ok (.invokevirtual 126, 3) := by decide +kernel
theorem dX4_readEntries_104 : decode cX4_readEntries 104 = .ok (.ireturn, 1) := by decide +kernel
theorem dX4_readGroup_0 : decode cX4_readGroup 0 = .ok (.aload_n 0, 1) := by decide +kernel
theorem dX4_readGroup_1 : decode cX4_readGroup 1 = .ok (.getstatic 191, 3) := by decide +kernel
theorem dX4_readGroup_4 : decode cX4_readGroup 4 = .ok (.iconst 0, 1) := by decide +kernel
theorem dX4_readGroup_5 : decode cX4_readGroup 5 = .ok (.invokevirtual 135, 3) := by decide +kernel
theorem dX4_readGroup_8 : decode cX4_readGroup 8 = .ok (.ifCond .ne 5, 3) := by decide +kernel
theorem dX4_readGroup_11 : decode cX4_readGroup 11 = .ok (.iconst 0, 1) := by decide +kernel
theorem dX4_readGroup_12 : decode cX4_readGroup 12 = .ok (.ireturn, 1) := by decide +kernel
theorem dX4_readGroup_13 : decode cX4_readGroup 13 = .ok (.aload_n 0, 1) := by decide +kernel
theorem dX4_readGroup_14 : decode cX4_readGroup 14 = .ok (.getfield 21, 3) := by decide +kernel
theorem dX4_readGroup_17 : decode cX4_readGroup 17 = .ok (.getfield 96, 3) := by decide +kernel
theorem dX4_readGroup_20 : decode cX4_readGroup 20 = .ok (.aload_n 0, 1) := by decide +kernel
theorem dX4_readGroup_21 : decode cX4_readGroup 21 = .ok (.getfield 139, 3) := by decide +kernel
theorem dX4_readGroup_24 : decode cX4_readGroup 24 = .ok (.putfield 194, 3) := by decide +kernel
theorem dX4_readGroup_27 : decode cX4_readGroup 27 = .ok (.iconst 1, 1) := by decide +kernel
theorem dX4_readGroup_28 : decode cX4_readGroup 28 = .ok (.ireturn, 1) := by decide +kernel
theorem dX4_readOver_0 : decode cX4_readOver 0 = .ok (.aload_n 0, 1) := by decide +kernel
theorem dX4_readOver_1 : decode cX4_readOver 1 = .ok (.getstatic 197, 3) := by decide +kernel
theorem dX4_readOver_4 : decode cX4_readOver 4 = .ok (.iconst 0, 1) := by decide +kernel
theorem dX4_readOver_5 : decode cX4_readOver 5 = .ok (.invokevirtual 135, 3) := by decide +kernel
theorem dX4_readOver_8 : decode cX4_readOver 8 = .ok (.ifCond .ne 5, 3) := by decide +kernel
theorem dX4_readOver_11 : decode cX4_readOver 11 = .ok (.iconst 0, 1) := by decide +kernel
theorem dX4_readOver_12 : decode cX4_readOver 12 = .ok (.ireturn, 1) := by decide +kernel
theorem dX4_readOver_13 : decode cX4_readOver 13 = .ok (.aload_n 0, 1) := by decide +kernel
theorem dX4_readOver_14 : decode cX4_readOver 14 = .ok (.getfield 21, 3) := by decide +kernel
theorem dX4_readOver_17 : decode cX4_readOver 17 = .ok (.aload_n 0, 1) := by decide +kernel
theorem dX4_readOver_18 : decode cX4_readOver 18 = .ok (.getfield 139, 3) := by decide +kernel
theorem dX4_readOver_21 : decode cX4_readOver 21 = .ok (.putfield 200, 3) := by decide +kernel
theorem dX4_readOver_24 : decode cX4_readOver 24 = .ok (.aload_n 0, 1) := by decide +kernel
theorem dX4_readOver_25 : decode cX4_readOver 25 = .ok (.getstatic 203, 3) := by decide +kernel
theorem dX4_readOver_28 : decode cX4_readOver 28 = .ok (.invokevirtual 206, 3) := by decide +kernel
theorem dX4_readOver_31 : decode cX4_readOver 31 = .ok (.ifCond .eq 14, 3) := by decide +kernel
theorem dX4_readOver_34 : decode cX4_readOver 34 = .ok (.aload_n 0, 1) := by decide +kernel
theorem dX4_readOver_35 : decode cX4_readOver 35 = .ok (.getstatic 203, 3) := by decide +kernel
theorem dX4_readOver_38 : decode cX4_readOver 38 = .ok (.iconst 0, 1) := by decide +kernel
theorem dX4_readOver_39 : decode cX4_readOver 39 = .ok (.invokevirtual 135, 3) := by decide +kernel
theorem dX4_readOver_42 : decode cX4_readOver 42 = .ok (.ifCond .ne 5, 3) := by decide +kernel
theorem dX4_readOver_45 : decode cX4_readOver 45 = .ok (.iconst 0, 1) := by decide +kernel
theorem dX4_readOver_46 : decode cX4_readOver 46 = .ok (.ireturn, 1) := by decide +kernel
theorem dX4_readOver_47 : decode cX4_readOver 47 = .ok (.aload_n 0, 1) := by decide +kernel
theorem dX4_readOver_48 : decode cX4_readOver 48 = .ok (.getfield 21, 3) := by decide +kernel
theorem dX4_readOver_51 : decode cX4_readOver 51 = .ok (.aload_n 0, 1) := by decide +kernel
theorem dX4_readOver_52 : decode cX4_readOver 52 = .ok (.getfield 139, 3) := by decide +kernel
theorem dX4_readOver_55 : decode cX4_readOver 55 = .ok (.putfield 210, 3) := by decide +kernel
theorem dX4_readOver_58 : decode cX4_readOver 58 = .ok (.aload_n 0, 1) := by decide +kernel
theorem dX4_readOver_59 : decode cX4_readOver 59 = .ok (.getfield 21, 3) := by decide +kernel
theorem dX4_readOver_62 : decode cX4_readOver 62 = .ok (.aload_n 0, 1) := by decide +kernel
theorem dX4_readOver_63 : decode cX4_readOver 63 = .ok (.getstatic 213, 3) := by decide +kernel
theorem dX4_readOver_66 : decode cX4_readOver 66 = .ok (.invokevirtual 216, 3) := by decide +kernel
theorem dX4_readOver_69 : decode cX4_readOver 69 = .ok (.putfield 219, 3) := by decide +kernel
theorem dX4_readOver_72 : decode cX4_readOver 72 = .ok (.iconst 1, 1) := by decide +kernel
theorem dX4_readOver_73 : decode cX4_readOver 73 = .ok (.ireturn, 1) := by decide +kernel
theorem dX4_readWindow_0 : decode cX4_readWindow 0 = .ok (.aload_n 0, 1) := by decide +kernel
theorem dX4_readWindow_1 : decode cX4_readWindow 1 = .ok (.getfield 12, 3) := by decide +kernel
theorem dX4_readWindow_4 : decode cX4_readWindow 4 = .ok (.invokevirtual 129, 3) := by decide +kernel
theorem dX4_readWindow_7 : decode cX4_readWindow 7 = .ok (.aload_n 0, 1) := by decide +kernel
theorem dX4_readWindow_8 : decode cX4_readWindow 8 = .ok (.getstatic 222, 3) := by decide +kernel
theorem dX4_readWindow_11 : decode cX4_readWindow 11 = .ok (.aload_n 0, 1) := by decide +kernel
theorem dX4_readWindow_12 : decode cX4_readWindow 12 = .ok (.getfield 41, 3) := by decide +kernel
theorem dX4_readWindow_15 : decode cX4_readWindow 15 = .ok (.invokevirtual 135, 3) := by decide +kernel
theorem dX4_readWindow_18 : decode cX4_readWindow 18 = .ok (.ifCond .ne 5, 3) := by decide +kernel
theorem dX4_readWindow_21 : decode cX4_readWindow 21 = .ok (.iconst 0, 1) := by decide +kernel
theorem dX4_readWindow_22 : decode cX4_readWindow 22 = .ok (.ireturn, 1) := by decide +kernel
theorem dX4_readWindow_23 : decode cX4_readWindow 23 = .ok (.aload_n 0, 1) := by decide +kernel
theorem dX4_readWindow_24 : decode cX4_readWindow 24 = .ok (.dup, 1) := by decide +kernel
theorem dX4_readWindow_25 : decode cX4_readWindow 25 = .ok (.getfield 41, 3) := by decide +kernel
theorem dX4_readWindow_28 : decode cX4_readWindow 28 = .ok (.iconst 1, 1) := by decide +kernel
theorem dX4_readWindow_29 : decode cX4_readWindow 29 = .ok (.aload_n 0, 1) := by decide +kernel
theorem dX4_readWindow_30 : decode cX4_readWindow 30 = .ok (.getfield 139, 3) := by decide +kernel
theorem dX4_readWindow_33 : decode cX4_readWindow 33 = .ok (.ishl, 1) := by decide +kernel
theorem dX4_readWindow_34 : decode cX4_readWindow 34 = .ok (.ior, 1) := by decide +kernel
theorem dX4_readWindow_35 : decode cX4_readWindow 35 = .ok (.putfield 41, 3) := by decide +kernel
theorem dX4_readWindow_38 : decode cX4_readWindow 38 = .ok (.aload_n 0, 1) := by decide +kernel
theorem dX4_readWindow_39 : decode cX4_readWindow 39 = .ok (.getfield 21, 3) := by decide +kernel
theorem dX4_readWindow_42 : decode cX4_readWindow 42 = .ok (.getfield 225, 3) := by decide +kernel
theorem dX4_readWindow_45 : decode cX4_readWindow 45 = .ok (.aload_n 0, 1) := by decide +kernel
theorem dX4_readWindow_46 : decode cX4_readWindow 46 = .ok (.getfield 139, 3) := by decide +kernel
theorem dX4_readWindow_49 : decode cX4_readWindow 49 = .ok (.aaload, 1) := by decide +kernel
theorem dX4_readWindow_50 : decode cX4_readWindow 50 = .ok (.astore_n 1, 1) := by decide +kernel
theorem dX4_readWindow_51 : decode cX4_readWindow 51 = .ok (.aload_n 1, 1) := by decide +kernel
theorem dX4_readWindow_52 : decode cX4_readWindow 52 = .ok (.iconst 1, 1) := by decide +kernel
theorem dX4_readWindow_53 : decode cX4_readWindow 53 = .ok (.putfield 229, 3) := by decide +kernel
theorem dX4_readWindow_56 : decode cX4_readWindow 56 = .ok (.aload_n 0, 1) := by decide +kernel
theorem dX4_readWindow_57 : decode cX4_readWindow 57 = .ok (.getstatic 234, 3) := by decide +kernel
theorem dX4_readWindow_60 : decode cX4_readWindow 60 = .ok (.invokevirtual 206, 3) := by decide +kernel
theorem dX4_readWindow_63 : decode cX4_readWindow 63 = .ok (.ifCond .eq 14, 3) := by decide +kernel
theorem dX4_readWindow_66 : decode cX4_readWindow 66 = .ok (.aload_n 0, 1) := by decide +kernel
theorem dX4_readWindow_67 : decode cX4_readWindow 67 = .ok (.getstatic 234, 3) := by decide +kernel
theorem dX4_readWindow_70 : decode cX4_readWindow 70 = .ok (.iconst 0, 1) := by decide +kernel
theorem dX4_readWindow_71 : decode cX4_readWindow 71 = .ok (.invokevirtual 135, 3) := by decide +kernel
theorem dX4_readWindow_74 : decode cX4_readWindow 74 = .ok (.ifCond .ne 5, 3) := by decide +kernel
theorem dX4_readWindow_77 : decode cX4_readWindow 77 = .ok (.iconst 0, 1) := by decide +kernel
theorem dX4_readWindow_78 : decode cX4_readWindow 78 = .ok (.ireturn, 1) := by decide +kernel
theorem dX4_readWindow_79 : decode cX4_readWindow 79 = .ok (.aload_n 1, 1) := by decide +kernel
theorem dX4_readWindow_80 : decode cX4_readWindow 80 = .ok (.aload_n 0, 1) := by decide +kernel
theorem dX4_readWindow_81 : decode cX4_readWindow 81 = .ok (.getfield 139, 3) := by decide +kernel
theorem dX4_readWindow_84 : decode cX4_readWindow 84 = .ok (.putfield 237, 3) := by decide +kernel
theorem dX4_readWindow_87 : decode cX4_readWindow 87 = .ok (.aload_n 0, 1) := by decide +kernel
theorem dX4_readWindow_88 : decode cX4_readWindow 88 = .ok (.getstatic 240, 3) := by decide +kernel
theorem dX4_readWindow_91 : decode cX4_readWindow 91 = .ok (.invokevirtual 206, 3) := by decide +kernel
theorem dX4_readWindow_94 : decode cX4_readWindow 94 = .ok (.ifCond .eq 14, 3) := by decide +kernel
theorem dX4_readWindow_97 : decode cX4_readWindow 97 = .ok (.aload_n 0, 1) := by decide +kernel
theorem dX4_readWindow_98 : decode cX4_readWindow 98 = .ok (.aload_n 1, 1) := by decide +kernel
theorem dX4_readWindow_99 : decode cX4_readWindow 99 = .ok (.getfield 237, 3) := by decide +kernel
theorem dX4_readWindow_102 : decode cX4_readWindow 102 = .ok (.invokevirtual 243, 3) := by decide +kernel
theorem dX4_readWindow_105 : decode cX4_readWindow 105 = .ok (.ifCond .ne 5, 3) := by decide +kernel
theorem dX4_readWindow_108 : decode cX4_readWindow 108 = .ok (.iconst 0, 1) := by decide +kernel
theorem dX4_readWindow_109 : decode cX4_readWindow 109 = .ok (.ireturn, 1) := by decide +kernel
theorem dX4_readWindow_110 : decode cX4_readWindow 110 = .ok (.aload_n 1, 1) := by decide +kernel
theorem dX4_readWindow_111 : decode cX4_readWindow 111 = .ok (.aload_n 0, 1) := by decide +kernel
theorem dX4_readWindow_112 : decode cX4_readWindow 112 = .ok (.getfield 139, 3) := by decide +kernel
theorem dX4_readWindow_115 : decode cX4_readWindow 115 = .ok (.putfield 246, 3) := by decide +kernel
theorem dX4_readWindow_118 : decode cX4_readWindow 118 = .ok (.aload_n 0, 1) := by decide +kernel
theorem dX4_readWindow_119 : decode cX4_readWindow 119 = .ok (.getstatic 249, 3) := by decide +kernel
theorem dX4_readWindow_122 : decode cX4_readWindow 122 = .ok (.invokevirtual 206, 3) := by decide +kernel
theorem dX4_readWindow_125 : decode cX4_readWindow 125 = .ok (.ifCond .eq 14, 3) := by decide +kernel
theorem dX4_readWindow_128 : decode cX4_readWindow 128 = .ok (.aload_n 0, 1) := by decide +kernel
theorem dX4_readWindow_129 : decode cX4_readWindow 129 = .ok (.getstatic 249, 3) := by decide +kernel
theorem dX4_readWindow_132 : decode cX4_readWindow 132 = .ok (.iconst 0, 1) := by decide +kernel
theorem dX4_readWindow_133 : decode cX4_readWindow 133 = .ok (.invokevirtual 135, 3) := by decide +kernel
theorem dX4_readWindow_136 : decode cX4_readWindow 136 = .ok (.ifCond .ne 5, 3) := by decide +kernel
theorem dX4_readWindow_139 : decode cX4_readWindow 139 = .ok (.iconst 0, 1) := by decide +kernel
theorem dX4_readWindow_140 : decode cX4_readWindow 140 = .ok (.ireturn, 1) := by decide +kernel
theorem dX4_readWindow_141 : decode cX4_readWindow 141 = .ok (.aload_n 1, 1) := by decide +kernel
theorem dX4_readWindow_142 : decode cX4_readWindow 142 = .ok (.aload_n 0, 1) := by decide +kernel
theorem dX4_readWindow_143 : decode cX4_readWindow 143 = .ok (.getfield 139, 3) := by decide +kernel
theorem dX4_readWindow_146 : decode cX4_readWindow 146 = .ok (.putfield 252, 3) := by decide +kernel
theorem dX4_readWindow_149 : decode cX4_readWindow 149 = .ok (.aload_n 0, 1) := by decide +kernel
theorem dX4_readWindow_150 : decode cX4_readWindow 150 = .ok (.getstatic 255, 3) := by decide +kernel
theorem dX4_readWindow_153 : decode cX4_readWindow 153 = .ok (.invokevirtual 206, 3) := by decide +kernel
theorem dX4_readWindow_156 : decode cX4_readWindow 156 = .ok (.ifCond .eq 15, 3) := by decide +kernel
theorem dX4_readWindow_159 : decode cX4_readWindow 159 = .ok (.aload_n 0, 1) := by decide +kernel
theorem dX4_readWindow_160 : decode cX4_readWindow 160 = .ok (.aload_n 1, 1) := by decide +kernel
theorem dX4_readWindow_161 : decode cX4_readWindow 161 = .ok (.invokevirtual 258, 3) := by decide +kernel
theorem dX4_readWindow_164 : decode cX4_readWindow 164 = .ok (.ifCond .eq 7, 3) := by decide +kernel
theorem dX4_readWindow_167 : decode cX4_readWindow 167 = .ok (.iconst 1, 1) := by decide +kernel
theorem dX4_readWindow_168 : decode cX4_readWindow 168 = .ok (.goto 4, 3) := by decide +kernel
theorem dX4_readWindow_171 : decode cX4_readWindow 171 = .ok (.iconst 0, 1) := by decide +kernel
theorem dX4_readWindow_172 : decode cX4_readWindow 172 = .ok (.ireturn, 1) := by decide +kernel
theorem dX4_takeHighBound_0 : decode cX4_takeHighBound 0 = .ok (.aload_n 0, 1) := by decide +kernel
theorem dX4_takeHighBound_1 : decode cX4_takeHighBound 1 = .ok (.getfield 12, 3) := by decide +kernel
theorem dX4_takeHighBound_4 : decode cX4_takeHighBound 4 = .ok (.getfield 57, 3) := by decide +kernel
theorem dX4_takeHighBound_7 : decode cX4_takeHighBound 7 = .ok (.iconst 2, 1) := by decide +kernel
theorem dX4_takeHighBound_8 : decode cX4_takeHighBound 8 = .ok (.if_icmp .ne 20, 3) := by decide +kernel
theorem dX4_takeHighBound_11 : decode cX4_takeHighBound 11 = .ok (.aload_n 0, 1) := by decide +kernel
theorem dX4_takeHighBound_12 : decode cX4_takeHighBound 12 = .ok (.getfield 12, 3) := by decide +kernel
theorem dX4_takeHighBound_15 : decode cX4_takeHighBound 15 = .ok (.getfield 187, 3) := by decide +kernel
theorem dX4_takeHighBound_18 : decode cX4_takeHighBound 18 = .ok (.iload_n 1, 1) := by decide +kernel
theorem dX4_takeHighBound_19 : decode cX4_takeHighBound 19 = .ok (.if_icmp .ge 9, 3) := by decide +kernel
theorem dX4_takeHighBound_22 : decode cX4_takeHighBound 22 = .ok (.aload_n 0, 1) := by decide +kernel
theorem dX4_takeHighBound_23 : decode cX4_takeHighBound 23 = .ok (.iconst 2, 1) := by decide +kernel
theorem dX4_takeHighBound_24 : decode cX4_takeHighBound 24 = .ok (.invokevirtual 126, 3) := by decide +kernel
theorem dX4_takeHighBound_27 : decode cX4_takeHighBound 27 = .ok (.ireturn, 1) := by decide +kernel
theorem dX4_takeHighBound_28 : decode cX4_takeHighBound 28 = .ok (.aload_n 0, 1) := by decide +kernel
theorem dX4_takeHighBound_29 : decode cX4_takeHighBound 29 = .ok (.getstatic 240, 3) := by decide +kernel
theorem dX4_takeHighBound_32 : decode cX4_takeHighBound 32 = .ok (.iconst 0, 1) := by decide +kernel
theorem dX4_takeHighBound_33 : decode cX4_takeHighBound 33 = .ok (.invokevirtual 135, 3) := by decide +kernel
theorem dX4_takeHighBound_36 : decode cX4_takeHighBound 36 = .ok (.ireturn, 1) := by decide +kernel
theorem dX4_readWindowChannels_0 : decode cX4_readWindowChannels 0 = .ok (.iconst 0, 1) := by decide +kernel
theorem dX4_readWindowChannels_1 : decode cX4_readWindowChannels 1 = .ok (.istore_n 2, 1) := by decide +kernel
theorem dX4_readWindowChannels_2 : decode cX4_readWindowChannels 2 = .ok (.iload_n 2, 1) := by decide +kernel
theorem dX4_readWindowChannels_3 : decode cX4_readWindowChannels 3 = .ok (.bipush 8, 2) := by decide +kernel
theorem dX4_readWindowChannels_5 : decode cX4_readWindowChannels 5 = .ok (.if_icmp .gt 57, 3) := by decide +kernel
theorem dX4_readWindowChannels_8 : decode cX4_readWindowChannels 8 = .ok (.iload_n 2, 1) := by decide +kernel
theorem dX4_readWindowChannels_9 : decode cX4_readWindowChannels 9 = .ok (.ifCond .le 16, 3) := by decide +kernel
theorem dX4_readWindowChannels_12 : decode cX4_readWindowChannels 12 = .ok (.aload_n 0, 1) := by decide +kernel
theorem dX4_readWindowChannels_13 : decode cX4_readWindowChannels 13 = .ok (.getfield 12, 3) := by decide +kernel
theorem dX4_readWindowChannels_16 : decode cX4_readWindowChannels 16 = .ok (.getfield 57, 3) := by decide +kernel
theorem dX4_readWindowChannels_19 : decode cX4_readWindowChannels 19 = .ok (.iconst 2, 1) := by decide +kernel
theorem dX4_readWindowChannels_20 : decode cX4_readWindowChannels 20 = .ok (.if_icmp .eq 5, 3) := by decide +kernel
theorem dX4_readWindowChannels_23 : decode cX4_readWindowChannels 23 = .ok (.iconst 1, 1) := by decide +kernel
theorem dX4_readWindowChannels_24 : decode cX4_readWindowChannels 24 = .ok (.ireturn, 1) := by decide +kernel
theorem dX4_readWindowChannels_25 : decode cX4_readWindowChannels 25 = .ok (.aload_n 0, 1) := by decide +kernel
theorem dX4_readWindowChannels_26 : decode cX4_readWindowChannels 26 = .ok (.getstatic 132, 3) := by decide +kernel
theorem dX4_readWindowChannels_29 : decode cX4_readWindowChannels 29 = .ok (.aload_n 1, 1) := by decide +kernel
theorem dX4_readWindowChannels_30 : decode cX4_readWindowChannels 30 = .ok (.getfield 262, 3) := by decide +kernel
theorem dX4_readWindowChannels_33 : decode cX4_readWindowChannels 33 = .ok (.invokevirtual 135, 3) := by decide +kernel
theorem dX4_readWindowChannels_36 : decode cX4_readWindowChannels 36 = .ok (.ifCond .ne 5, 3) := by decide +kernel
theorem dX4_readWindowChannels_39 : decode cX4_readWindowChannels 39 = .ok (.iconst 0, 1) := by decide +kernel
theorem dX4_readWindowChannels_40 : decode cX4_readWindowChannels 40 = .ok (.ireturn, 1) := by decide +kernel
theorem dX4_readWindowChannels_41 : decode cX4_readWindowChannels 41 = .ok (.aload_n 1, 1) := by decide +kernel
theorem dX4_readWindowChannels_42 : decode cX4_readWindowChannels 42 = .ok (.dup, 1) := by decide +kernel
theorem dX4_readWindowChannels_43 : decode cX4_readWindowChannels 43 = .ok (.getfield 262, 3) := by decide +kernel
theorem dX4_readWindowChannels_46 : decode cX4_readWindowChannels 46 = .ok (.iconst 1, 1) := by decide +kernel
theorem dX4_readWindowChannels_47 : decode cX4_readWindowChannels 47 = .ok (.aload_n 0, 1) := by decide +kernel
theorem dX4_readWindowChannels_48 : decode cX4_readWindowChannels 48 = .ok (.getfield 139, 3) := by decide +kernel
theorem dX4_readWindowChannels_51 : decode cX4_readWindowChannels 51 = .ok (.ishl, 1) := by decide +kernel
theorem dX4_readWindowChannels_52 : decode cX4_readWindowChannels 52 = .ok (.ior, 1) := by decide +kernel
theorem dX4_readWindowChannels_53 : decode cX4_readWindowChannels 53 = .ok (.putfield 262, 3) := by decide +kernel
theorem dX4_readWindowChannels_56 : decode cX4_readWindowChannels 56 = .ok (.iinc 2 1, 3) := by decide +kernel
theorem dX4_readWindowChannels_59 : decode cX4_readWindowChannels 59 = .ok (.goto (-57), 3) := by decide +kernel
theorem dX4_readWindowChannels_62 : decode cX4_readWindowChannels 62 = .ok (.iconst 1, 1) := by decide +kernel
theorem dX4_readWindowChannels_63 : decode cX4_readWindowChannels 63 = .ok (.ireturn, 1) := by decide +kernel
theorem dX4_readTrigger_0 : decode cX4_readTrigger 0 = .ok (.aload_n 0, 1) := by decide +kernel
theorem dX4_readTrigger_1 : decode cX4_readTrigger 1 = .ok (.getfield 12, 3) := by decide +kernel
theorem dX4_readTrigger_4 : decode cX4_readTrigger 4 = .ok (.invokevirtual 129, 3) := by decide +kernel
theorem dX4_readTrigger_7 : decode cX4_readTrigger 7 = .ok (.aload_n 0, 1) := by decide +kernel
theorem dX4_readTrigger_8 : decode cX4_readTrigger 8 = .ok (.getstatic 264, 3) := by decide +kernel
theorem dX4_readTrigger_11 : decode cX4_readTrigger 11 = .ok (.aload_n 0, 1) := by decide +kernel
theorem dX4_readTrigger_12 : decode cX4_readTrigger 12 = .ok (.getfield 44, 3) := by decide +kernel
theorem dX4_readTrigger_15 : decode cX4_readTrigger 15 = .ok (.invokevirtual 135, 3) := by decide +kernel
theorem dX4_readTrigger_18 : decode cX4_readTrigger 18 = .ok (.ifCond .ne 5, 3) := by decide +kernel
theorem dX4_readTrigger_21 : decode cX4_readTrigger 21 = .ok (.iconst 0, 1) := by decide +kernel
theorem dX4_readTrigger_22 : decode cX4_readTrigger 22 = .ok (.ireturn, 1) := by decide +kernel
theorem dX4_readTrigger_23 : decode cX4_readTrigger 23 = .ok (.aload_n 0, 1) := by decide +kernel
theorem dX4_readTrigger_24 : decode cX4_readTrigger 24 = .ok (.dup, 1) := by decide +kernel
theorem dX4_readTrigger_25 : decode cX4_readTrigger 25 = .ok (.getfield 44, 3) := by decide +kernel
theorem dX4_readTrigger_28 : decode cX4_readTrigger 28 = .ok (.iconst 1, 1) := by decide +kernel
theorem dX4_readTrigger_29 : decode cX4_readTrigger 29 = .ok (.aload_n 0, 1) := by decide +kernel
theorem dX4_readTrigger_30 : decode cX4_readTrigger 30 = .ok (.getfield 139, 3) := by decide +kernel
theorem dX4_readTrigger_33 : decode cX4_readTrigger 33 = .ok (.ishl, 1) := by decide +kernel
theorem dX4_readTrigger_34 : decode cX4_readTrigger 34 = .ok (.ior, 1) := by decide +kernel
theorem dX4_readTrigger_35 : decode cX4_readTrigger 35 = .ok (.putfield 44, 3) := by decide +kernel
theorem dX4_readTrigger_38 : decode cX4_readTrigger 38 = .ok (.aload_n 0, 1) := by decide +kernel
theorem dX4_readTrigger_39 : decode cX4_readTrigger 39 = .ok (.getfield 21, 3) := by decide +kernel
theorem dX4_readTrigger_42 : decode cX4_readTrigger 42 = .ok (.getfield 267, 3) := by decide +kernel
theorem dX4_readTrigger_45 : decode cX4_readTrigger 45 = .ok (.aload_n 0, 1) := by decide +kernel
theorem dX4_readTrigger_46 : decode cX4_readTrigger 46 = .ok (.getfield 139, 3) := by decide +kernel
theorem dX4_readTrigger_49 : decode cX4_readTrigger 49 = .ok (.aaload, 1) := by decide +kernel
theorem dX4_readTrigger_50 : decode cX4_readTrigger 50 = .ok (.astore_n 1, 1) := by decide +kernel
theorem dX4_readTrigger_51 : decode cX4_readTrigger 51 = .ok (.aload_n 0, 1) := by decide +kernel
theorem dX4_readTrigger_52 : decode cX4_readTrigger 52 = .ok (.getstatic 271, 3) := by decide +kernel
theorem dX4_readTrigger_55 : decode cX4_readTrigger 55 = .ok (.invokevirtual 216, 3) := by decide +kernel
theorem dX4_readTrigger_58 : decode cX4_readTrigger 58 = .ok (.ifCond .eq 11, 3) := by decide +kernel
theorem dX4_readTrigger_61 : decode cX4_readTrigger 61 = .ok (.aload_n 1, 1) := by decide +kernel
theorem dX4_readTrigger_62 : decode cX4_readTrigger 62 = .ok (.iconst 2, 1) := by decide +kernel
theorem dX4_readTrigger_63 : decode cX4_readTrigger 63 = .ok (.putfield 274, 3) := by decide +kernel
theorem dX4_readTrigger_66 : decode cX4_readTrigger 66 = .ok (.goto 23, 3) := by decide +kernel
theorem dX4_readTrigger_69 : decode cX4_readTrigger 69 = .ok (.aload_n 0, 1) := by decide +kernel
theorem dX4_readTrigger_70 : decode cX4_readTrigger 70 = .ok (.getstatic 279, 3) := by decide +kernel
theorem dX4_readTrigger_73 : decode cX4_readTrigger 73 = .ok (.invokevirtual 206, 3) := by decide +kernel
theorem dX4_readTrigger_76 : decode cX4_readTrigger 76 = .ok (.ifCond .eq 11, 3) := by decide +kernel
theorem dX4_readTrigger_79 : decode cX4_readTrigger 79 = .ok (.aload_n 1, 1) := by decide +kernel
theorem dX4_readTrigger_80 : decode cX4_readTrigger 80 = .ok (.iconst 1, 1) := by decide +kernel
theorem dX4_readTrigger_81 : decode cX4_readTrigger 81 = .ok (.putfield 274, 3) := by decide +kernel
theorem dX4_readTrigger_84 : decode cX4_readTrigger 84 = .ok (.goto 5, 3) := by decide +kernel
theorem dX4_readTrigger_87 : decode cX4_readTrigger 87 = .ok (.iconst 0, 1) := by decide +kernel
theorem dX4_readTrigger_88 : decode cX4_readTrigger 88 = .ok (.ireturn, 1) := by decide +kernel
theorem dX4_readTrigger_89 : decode cX4_readTrigger 89 = .ok (.aload_n 0, 1) := by decide +kernel
theorem dX4_readTrigger_90 : decode cX4_readTrigger 90 = .ok (.getstatic 282, 3) := by decide +kernel
theorem dX4_readTrigger_93 : decode cX4_readTrigger 93 = .ok (.invokevirtual 216, 3) := by decide +kernel
theorem dX4_readTrigger_96 : decode cX4_readTrigger 96 = .ok (.ifCond .ne 5, 3) := by decide +kernel
theorem dX4_readTrigger_99 : decode cX4_readTrigger 99 = .ok (.iconst 1, 1) := by decide +kernel
theorem dX4_readTrigger_100 : decode cX4_readTrigger 100 = .ok (.ireturn, 1) := by decide +kernel
theorem dX4_readTrigger_101 : decode cX4_readTrigger 101 = .ok (.aload_n 0, 1) := by decide +kernel
theorem dX4_readTrigger_102 : decode cX4_readTrigger 102 = .ok (.getstatic 282, 3) := by decide +kernel
theorem dX4_readTrigger_105 : decode cX4_readTrigger 105 = .ok (.iconst 0, 1) := by decide +kernel
theorem dX4_readTrigger_106 : decode cX4_readTrigger 106 = .ok (.invokevirtual 135, 3) := by decide +kernel
theorem dX4_readTrigger_109 : decode cX4_readTrigger 109 = .ok (.ifCond .ne 5, 3) := by decide +kernel
theorem dX4_readTrigger_112 : decode cX4_readTrigger 112 = .ok (.iconst 0, 1) := by decide +kernel
theorem dX4_readTrigger_113 : decode cX4_readTrigger 113 = .ok (.ireturn, 1) := by decide +kernel
theorem dX4_readTrigger_114 : decode cX4_readTrigger 114 = .ok (.aload_n 1, 1) := by decide +kernel
theorem dX4_readTrigger_115 : decode cX4_readTrigger 115 = .ok (.aload_n 0, 1) := by decide +kernel
theorem dX4_readTrigger_116 : decode cX4_readTrigger 116 = .ok (.getfield 139, 3) := by decide +kernel
theorem dX4_readTrigger_119 : decode cX4_readTrigger 119 = .ok (.putfield 285, 3) := by decide +kernel
theorem dX4_readTrigger_122 : decode cX4_readTrigger 122 = .ok (.aload_n 0, 1) := by decide +kernel
theorem dX4_readTrigger_123 : decode cX4_readTrigger 123 = .ok (.getstatic 286, 3) := by decide +kernel
theorem dX4_readTrigger_126 : decode cX4_readTrigger 126 = .ok (.invokevirtual 216, 3) := by decide +kernel
theorem dX4_readTrigger_129 : decode cX4_readTrigger 129 = .ok (.ifCond .ne 5, 3) := by decide +kernel
theorem dX4_readTrigger_132 : decode cX4_readTrigger 132 = .ok (.iconst 1, 1) := by decide +kernel
theorem dX4_readTrigger_133 : decode cX4_readTrigger 133 = .ok (.ireturn, 1) := by decide +kernel
theorem dX4_readTrigger_134 : decode cX4_readTrigger 134 = .ok (.aload_n 0, 1) := by decide +kernel
theorem dX4_readTrigger_135 : decode cX4_readTrigger 135 = .ok (.getstatic 286, 3) := by decide +kernel
theorem dX4_readTrigger_138 : decode cX4_readTrigger 138 = .ok (.iconst 0, 1) := by decide +kernel
theorem dX4_readTrigger_139 : decode cX4_readTrigger 139 = .ok (.invokevirtual 135, 3) := by decide +kernel
theorem dX4_readTrigger_142 : decode cX4_readTrigger 142 = .ok (.ifCond .ne 5, 3) := by decide +kernel
theorem dX4_readTrigger_145 : decode cX4_readTrigger 145 = .ok (.iconst 0, 1) := by decide +kernel
theorem dX4_readTrigger_146 : decode cX4_readTrigger 146 = .ok (.ireturn, 1) := by decide +kernel
theorem dX4_readTrigger_147 : decode cX4_readTrigger 147 = .ok (.aload_n 1, 1) := by decide +kernel
theorem dX4_readTrigger_148 : decode cX4_readTrigger 148 = .ok (.aload_n 0, 1) := by decide +kernel
theorem dX4_readTrigger_149 : decode cX4_readTrigger 149 = .ok (.getfield 139, 3) := by decide +kernel
theorem dX4_readTrigger_152 : decode cX4_readTrigger 152 = .ok (.putfield 289, 3) := by decide +kernel
theorem dX4_readTrigger_155 : decode cX4_readTrigger 155 = .ok (.iconst 1, 1) := by decide +kernel
theorem dX4_readTrigger_156 : decode cX4_readTrigger 156 = .ok (.ireturn, 1) := by decide +kernel
theorem dX4_readQueue_0 : decode cX4_readQueue 0 = .ok (.aload_n 0, 1) := by decide +kernel
theorem dX4_readQueue_1 : decode cX4_readQueue 1 = .ok (.getstatic 292, 3) := by decide +kernel
theorem dX4_readQueue_4 : decode cX4_readQueue 4 = .ok (.iconst 0, 1) := by decide +kernel
theorem dX4_readQueue_5 : decode cX4_readQueue 5 = .ok (.invokevirtual 135, 3) := by decide +kernel
theorem dX4_readQueue_8 : decode cX4_readQueue 8 = .ok (.ifCond .ne 5, 3) := by decide +kernel
theorem dX4_readQueue_11 : decode cX4_readQueue 11 = .ok (.iconst 0, 1) := by decide +kernel
theorem dX4_readQueue_12 : decode cX4_readQueue 12 = .ok (.ireturn, 1) := by decide +kernel
theorem dX4_readQueue_13 : decode cX4_readQueue 13 = .ok (.aload_n 0, 1) := by decide +kernel
theorem dX4_readQueue_14 : decode cX4_readQueue 14 = .ok (.getfield 21, 3) := by decide +kernel
theorem dX4_readQueue_17 : decode cX4_readQueue 17 = .ok (.getfield 295, 3) := by decide +kernel
theorem dX4_readQueue_20 : decode cX4_readQueue 20 = .ok (.aload_n 0, 1) := by decide +kernel
theorem dX4_readQueue_21 : decode cX4_readQueue 21 = .ok (.getfield 139, 3) := by decide +kernel
theorem dX4_readQueue_24 : decode cX4_readQueue 24 = .ok (.putfield 299, 3) := by decide +kernel
theorem dX4_readQueue_27 : decode cX4_readQueue 27 = .ok (.aload_n 0, 1) := by decide +kernel
theorem dX4_readQueue_28 : decode cX4_readQueue 28 = .ok (.getfield 21, 3) := by decide +kernel
theorem dX4_readQueue_31 : decode cX4_readQueue 31 = .ok (.getfield 295, 3) := by decide +kernel
theorem dX4_readQueue_34 : decode cX4_readQueue 34 = .ok (.aload_n 0, 1) := by decide +kernel
theorem dX4_readQueue_35 : decode cX4_readQueue 35 = .ok (.getstatic 304, 3) := by decide +kernel
theorem dX4_readQueue_38 : decode cX4_readQueue 38 = .ok (.invokevirtual 216, 3) := by decide +kernel
theorem dX4_readQueue_41 : decode cX4_readQueue 41 = .ok (.putfield 307, 3) := by decide +kernel
theorem dX4_readQueue_44 : decode cX4_readQueue 44 = .ok (.iconst 1, 1) := by decide +kernel
theorem dX4_readQueue_45 : decode cX4_readQueue 45 = .ok (.ireturn, 1) := by decide +kernel
theorem dX4_readPace_0 : decode cX4_readPace 0 = .ok (.aload_n 0, 1) := by decide +kernel
theorem dX4_readPace_1 : decode cX4_readPace 1 = .ok (.getstatic 310, 3) := by decide +kernel
theorem dX4_readPace_4 : decode cX4_readPace 4 = .ok (.iconst 0, 1) := by decide +kernel
theorem dX4_readPace_5 : decode cX4_readPace 5 = .ok (.invokevirtual 135, 3) := by decide +kernel
theorem dX4_readPace_8 : decode cX4_readPace 8 = .ok (.ifCond .ne 5, 3) := by decide +kernel
theorem dX4_readPace_11 : decode cX4_readPace 11 = .ok (.iconst 0, 1) := by decide +kernel
theorem dX4_readPace_12 : decode cX4_readPace 12 = .ok (.ireturn, 1) := by decide +kernel
theorem dX4_readPace_13 : decode cX4_readPace 13 = .ok (.aload_n 0, 1) := by decide +kernel
theorem dX4_readPace_14 : decode cX4_readPace 14 = .ok (.getfield 21, 3) := by decide +kernel
theorem dX4_readPace_17 : decode cX4_readPace 17 = .ok (.aload_n 0, 1) := by decide +kernel
theorem dX4_readPace_18 : decode cX4_readPace 18 = .ok (.getfield 139, 3) := by decide +kernel
theorem dX4_readPace_21 : decode cX4_readPace 21 = .ok (.putfield 313, 3) := by decide +kernel
theorem dX4_readPace_24 : decode cX4_readPace 24 = .ok (.iconst 1, 1) := by decide +kernel
theorem dX4_readPace_25 : decode cX4_readPace 25 = .ok (.ireturn, 1) := by decide +kernel
theorem dX4_takeFirstWord_0 : decode cX4_takeFirstWord 0 = .ok (.aload_n 0, 1) := by decide +kernel
theorem dX4_takeFirstWord_1 : decode cX4_takeFirstWord 1 = .ok (.getfield 35, 3) := by decide +kernel
theorem dX4_takeFirstWord_4 : decode cX4_takeFirstWord 4 = .ok (.aload_n 0, 1) := by decide +kernel
theorem dX4_takeFirstWord_5 : decode cX4_takeFirstWord 5 = .ok (.getfield 12, 3) := by decide +kernel
theorem dX4_takeFirstWord_8 : decode cX4_takeFirstWord 8 = .ok (.getfield 74, 3) := by decide +kernel
theorem dX4_takeFirstWord_11 : decode cX4_takeFirstWord 11 = .ok (.getfield 149, 3) := by decide +kernel
theorem dX4_takeFirstWord_14 : decode cX4_takeFirstWord 14 = .ok (.iand, 1) := by decide +kernel
theorem dX4_takeFirstWord_15 : decode cX4_takeFirstWord 15 = .ok (.ifCond .eq 9, 3) := by decide +kernel
theorem dX4_takeFirstWord_18 : decode cX4_takeFirstWord 18 = .ok (.aload_n 0, 1) := by decide +kernel
theorem dX4_takeFirstWord_19 : decode cX4_takeFirstWord 19 = .ok (.iconst 3, 1) := by decide +kernel
theorem dX4_takeFirstWord_20 : decode cX4_takeFirstWord 20 = .ok (.invokevirtual 126, 3) := by decide +kernel
theorem dX4_takeFirstWord_23 : decode cX4_takeFirstWord 23 = .ok (.ireturn, 1) := by decide +kernel
theorem dX4_takeFirstWord_24 : decode cX4_takeFirstWord 24 = .ok (.aload_n 0, 1) := by decide +kernel
theorem dX4_takeFirstWord_25 : decode cX4_takeFirstWord 25 = .ok (.dup, 1) := by decide +kernel
theorem dX4_takeFirstWord_26 : decode cX4_takeFirstWord 26 = .ok (.getfield 35, 3) := by decide +kernel
theorem dX4_takeFirstWord_29 : decode cX4_takeFirstWord 29 = .ok (.aload_n 0, 1) := by decide +kernel
theorem dX4_takeFirstWord_30 : decode cX4_takeFirstWord 30 = .ok (.getfield 12, 3) := by decide +kernel
theorem dX4_takeFirstWord_33 : decode cX4_takeFirstWord 33 = .ok (.getfield 74, 3) := by decide +kernel
theorem dX4_takeFirstWord_36 : decode cX4_takeFirstWord 36 = .ok (.getfield 149, 3) := by decide +kernel
theorem dX4_takeFirstWord_39 : decode cX4_takeFirstWord 39 = .ok (.ior, 1) := by decide +kernel
theorem dX4_takeFirstWord_40 : decode cX4_takeFirstWord 40 = .ok (.putfield 35, 3) := by decide +kernel
theorem dX4_takeFirstWord_43 : decode cX4_takeFirstWord 43 = .ok (.aload_n 0, 1) := by decide +kernel
theorem dX4_takeFirstWord_44 : decode cX4_takeFirstWord 44 = .ok (.getfield 12, 3) := by decide +kernel
theorem dX4_takeFirstWord_47 : decode cX4_takeFirstWord 47 = .ok (.invokevirtual 129, 3) := by decide +kernel
theorem dX4_takeFirstWord_50 : decode cX4_takeFirstWord 50 = .ok (.iconst 1, 1) := by decide +kernel
theorem dX4_takeFirstWord_51 : decode cX4_takeFirstWord 51 = .ok (.ireturn, 1) := by decide +kernel
theorem dX4_takeWord_0 : decode cX4_takeWord 0 = .ok (.aload_n 0, 1) := by decide +kernel
theorem dX4_takeWord_1 : decode cX4_takeWord 1 = .ok (.getfield 12, 3) := by decide +kernel
theorem dX4_takeWord_4 : decode cX4_takeWord 4 = .ok (.getfield 74, 3) := by decide +kernel
theorem dX4_takeWord_7 : decode cX4_takeWord 7 = .ok (.aload_n 1, 1) := by decide +kernel
theorem dX4_takeWord_8 : decode cX4_takeWord 8 = .ok (.if_acmp .eq 9, 3) := by decide +kernel
theorem dX4_takeWord_11 : decode cX4_takeWord 11 = .ok (.aload_n 0, 1) := by decide +kernel
theorem dX4_takeWord_12 : decode cX4_takeWord 12 = .ok (.iconst 1, 1) := by decide +kernel
theorem dX4_takeWord_13 : decode cX4_takeWord 13 = .ok (.invokevirtual 126, 3) := by decide +kernel
theorem dX4_takeWord_16 : decode cX4_takeWord 16 = .ok (.ireturn, 1) := by decide +kernel
theorem dX4_takeWord_17 : decode cX4_takeWord 17 = .ok (.aload_n 0, 1) := by decide +kernel
theorem dX4_takeWord_18 : decode cX4_takeWord 18 = .ok (.getfield 12, 3) := by decide +kernel
theorem dX4_takeWord_21 : decode cX4_takeWord 21 = .ok (.invokevirtual 129, 3) := by decide +kernel
theorem dX4_takeWord_24 : decode cX4_takeWord 24 = .ok (.iconst 1, 1) := by decide +kernel
theorem dX4_takeWord_25 : decode cX4_takeWord 25 = .ok (.ireturn, 1) := by decide +kernel
theorem dX4_skipWord_0 : decode cX4_skipWord 0 = .ok (.aload_n 0, 1) := by decide +kernel
theorem dX4_skipWord_1 : decode cX4_skipWord 1 = .ok (.getfield 12, 3) := by decide +kernel
theorem dX4_skipWord_4 : decode cX4_skipWord 4 = .ok (.getfield 74, 3) := by decide +kernel
theorem dX4_skipWord_7 : decode cX4_skipWord 7 = .ok (.aload_n 1, 1) := by decide +kernel
theorem dX4_skipWord_8 : decode cX4_skipWord 8 = .ok (.if_acmp .eq 5, 3) := by decide +kernel
theorem dX4_skipWord_11 : decode cX4_skipWord 11 = .ok (.iconst 0, 1) := by decide +kernel
theorem dX4_skipWord_12 : decode cX4_skipWord 12 = .ok (.ireturn, 1) := by decide +kernel
theorem dX4_skipWord_13 : decode cX4_skipWord 13 = .ok (.aload_n 0, 1) := by decide +kernel
theorem dX4_skipWord_14 : decode cX4_skipWord 14 = .ok (.getfield 12, 3) := by decide +kernel
theorem dX4_skipWord_17 : decode cX4_skipWord 17 = .ok (.invokevirtual 129, 3) := by decide +kernel
theorem dX4_skipWord_20 : decode cX4_skipWord 20 = .ok (.iconst 1, 1) := by decide +kernel
theorem dX4_skipWord_21 : decode cX4_skipWord 21 = .ok (.ireturn, 1) := by decide +kernel
theorem dX4_takeSign_0 : decode cX4_takeSign 0 = .ok (.aload_n 0, 1) := by decide +kernel
theorem dX4_takeSign_1 : decode cX4_takeSign 1 = .ok (.iload_n 1, 1) := by decide +kernel
theorem dX4_takeSign_2 : decode cX4_takeSign 2 = .ok (.invokevirtual 155, 3) := by decide +kernel
theorem dX4_takeSign_5 : decode cX4_takeSign 5 = .ok (.ifCond .ne 11, 3) := by decide +kernel
theorem dX4_takeSign_8 : decode cX4_takeSign 8 = .ok (.aload_n 0, 1) := by decide +kernel
theorem dX4_takeSign_9 : decode cX4_takeSign 9 = .ok (.iconst 1, 1) := by decide +kernel
theorem dX4_takeSign_10 : decode cX4_takeSign 10 = .ok (.invokevirtual 126, 3) := by decide +kernel
theorem dX4_takeSign_13 : decode cX4_takeSign 13 = .ok (.ifCond .eq 7, 3) := by decide +kernel
theorem dX4_takeSign_16 : decode cX4_takeSign 16 = .ok (.iconst 1, 1) := by decide +kernel
theorem dX4_takeSign_17 : decode cX4_takeSign 17 = .ok (.goto 4, 3) := by decide +kernel
theorem dX4_takeSign_20 : decode cX4_takeSign 20 = .ok (.iconst 0, 1) := by decide +kernel
theorem dX4_takeSign_21 : decode cX4_takeSign 21 = .ok (.ireturn, 1) := by decide +kernel
theorem dX4_skipSign_0 : decode cX4_skipSign 0 = .ok (.aload_n 0, 1) := by decide +kernel
theorem dX4_skipSign_1 : decode cX4_skipSign 1 = .ok (.getfield 12, 3) := by decide +kernel
theorem dX4_skipSign_4 : decode cX4_skipSign 4 = .ok (.getfield 57, 3) := by decide +kernel
theorem dX4_skipSign_7 : decode cX4_skipSign 7 = .ok (.iconst 3, 1) := by decide +kernel
theorem dX4_skipSign_8 : decode cX4_skipSign 8 = .ok (.if_icmp .ne 14, 3) := by decide +kernel
theorem dX4_skipSign_11 : decode cX4_skipSign 11 = .ok (.aload_n 0, 1) := by decide +kernel
theorem dX4_skipSign_12 : decode cX4_skipSign 12 = .ok (.getfield 12, 3) := by decide +kernel
theorem dX4_skipSign_15 : decode cX4_skipSign 15 = .ok (.getfield 187, 3) := by decide +kernel
theorem dX4_skipSign_18 : decode cX4_skipSign 18 = .ok (.iload_n 1, 1) := by decide +kernel
theorem dX4_skipSign_19 : decode cX4_skipSign 19 = .ok (.if_icmp .eq 5, 3) := by decide +kernel
theorem dX4_skipSign_22 : decode cX4_skipSign 22 = .ok (.iconst 0, 1) := by decide +kernel
theorem dX4_skipSign_23 : decode cX4_skipSign 23 = .ok (.ireturn, 1) := by decide +kernel
theorem dX4_skipSign_24 : decode cX4_skipSign 24 = .ok (.aload_n 0, 1) := by decide +kernel
theorem dX4_skipSign_25 : decode cX4_skipSign 25 = .ok (.getfield 12, 3) := by decide +kernel
theorem dX4_skipSign_28 : decode cX4_skipSign 28 = .ok (.invokevirtual 129, 3) := by decide +kernel
theorem dX4_skipSign_31 : decode cX4_skipSign 31 = .ok (.iconst 1, 1) := by decide +kernel
theorem dX4_skipSign_32 : decode cX4_skipSign 32 = .ok (.ireturn, 1) := by decide +kernel
theorem dX4_takeNumber_0 : decode cX4_takeNumber 0 = .ok (.aload_n 0, 1) := by decide +kernel
theorem dX4_takeNumber_1 : decode cX4_takeNumber 1 = .ok (.getfield 12, 3) := by decide +kernel
theorem dX4_takeNumber_4 : decode cX4_takeNumber 4 = .ok (.getfield 57, 3) := by decide +kernel
theorem dX4_takeNumber_7 : decode cX4_takeNumber 7 = .ok (.iconst 2, 1) := by decide +kernel
theorem dX4_takeNumber_8 : decode cX4_takeNumber 8 = .ok (.if_icmp .eq 9, 3) := by decide +kernel
theorem dX4_takeNumber_11 : decode cX4_takeNumber 11 = .ok (.aload_n 0, 1) := by decide +kernel
theorem dX4_takeNumber_12 : decode cX4_takeNumber 12 = .ok (.iconst 1, 1) := by decide +kernel
theorem dX4_takeNumber_13 : decode cX4_takeNumber 13 = .ok (.invokevirtual 126, 3) := by decide +kernel
theorem dX4_takeNumber_16 : decode cX4_takeNumber 16 = .ok (.ireturn, 1) := by decide +kernel
theorem dX4_takeNumber_17 : decode cX4_takeNumber 17 = .ok (.aload_n 1, 1) := by decide +kernel
theorem dX4_takeNumber_18 : decode cX4_takeNumber 18 = .ok (.aload_n 0, 1) := by decide +kernel
theorem dX4_takeNumber_19 : decode cX4_takeNumber 19 = .ok (.getfield 12, 3) := by decide +kernel
theorem dX4_takeNumber_22 : decode cX4_takeNumber 22 = .ok (.getfield 187, 3) := by decide +kernel
theorem dX4_takeNumber_25 : decode cX4_takeNumber 25 = .ok (.invokevirtual 188, 3) := by decide +kernel
theorem dX4_takeNumber_28 : decode cX4_takeNumber 28 = .ok (.ifCond .ne 9, 3) := by decide +kernel
theorem dX4_takeNumber_31 : decode cX4_takeNumber 31 = .ok (.aload_n 0, 1) := by decide +kernel
theorem dX4_takeNumber_32 : decode cX4_takeNumber 32 = .ok (.iconst 2, 1) := by decide +kernel
theorem dX4_takeNumber_33 : decode cX4_takeNumber 33 = .ok (.invokevirtual 126, 3) := by decide +kernel
theorem dX4_takeNumber_36 : decode cX4_takeNumber 36 = .ok (.ireturn, 1) := by decide +kernel
theorem dX4_takeNumber_37 : decode cX4_takeNumber 37 = .ok (.iload_n 2, 1) := by decide +kernel
theorem dX4_takeNumber_38 : decode cX4_takeNumber 38 = .ok (.aload_n 0, 1) := by decide +kernel
theorem dX4_takeNumber_39 : decode cX4_takeNumber 39 = .ok (.getfield 12, 3) := by decide +kernel
theorem dX4_takeNumber_42 : decode cX4_takeNumber 42 = .ok (.getfield 187, 3) := by decide +kernel
theorem dX4_takeNumber_45 : decode cX4_takeNumber 45 = .ok (.ishr, 1) := by decide +kernel
theorem dX4_takeNumber_46 : decode cX4_takeNumber 46 = .ok (.iconst 1, 1) := by decide +kernel
theorem dX4_takeNumber_47 : decode cX4_takeNumber 47 = .ok (.iand, 1) := by decide +kernel
theorem dX4_takeNumber_48 : decode cX4_takeNumber 48 = .ok (.ifCond .eq 9, 3) := by decide +kernel
theorem dX4_takeNumber_51 : decode cX4_takeNumber 51 = .ok (.aload_n 0, 1) := by decide +kernel
theorem dX4_takeNumber_52 : decode cX4_takeNumber 52 = .ok (.iconst 3, 1) := by decide +kernel
theorem dX4_takeNumber_53 : decode cX4_takeNumber 53 = .ok (.invokevirtual 126, 3) := by decide +kernel
theorem dX4_takeNumber_56 : decode cX4_takeNumber 56 = .ok (.ireturn, 1) := by decide +kernel
theorem dX4_takeNumber_57 : decode cX4_takeNumber 57 = .ok (.aload_n 0, 1) := by decide +kernel
theorem dX4_takeNumber_58 : decode cX4_takeNumber 58 = .ok (.aload_n 0, 1) := by decide +kernel
theorem dX4_takeNumber_59 : decode cX4_takeNumber 59 = .ok (.getfield 12, 3) := by decide +kernel
theorem dX4_takeNumber_62 : decode cX4_takeNumber 62 = .ok (.getfield 187, 3) := by decide +kernel
theorem dX4_takeNumber_65 : decode cX4_takeNumber 65 = .ok (.putfield 139, 3) := by decide +kernel
theorem dX4_takeNumber_68 : decode cX4_takeNumber 68 = .ok (.aload_n 0, 1) := by decide +kernel
theorem dX4_takeNumber_69 : decode cX4_takeNumber 69 = .ok (.getfield 12, 3) := by decide +kernel
theorem dX4_takeNumber_72 : decode cX4_takeNumber 72 = .ok (.invokevirtual 129, 3) := by decide +kernel
theorem dX4_takeNumber_75 : decode cX4_takeNumber 75 = .ok (.iconst 1, 1) := by decide +kernel
theorem dX4_takeNumber_76 : decode cX4_takeNumber 76 = .ok (.ireturn, 1) := by decide +kernel
theorem dX4_fail_0 : decode cX4_fail 0 = .ok (.aload_n 0, 1) := by decide +kernel
theorem dX4_fail_1 : decode cX4_fail 1 = .ok (.iload_n 1, 1) := by decide +kernel
theorem dX4_fail_2 : decode cX4_fail 2 = .ok (.putfield 28, 3) := by decide +kernel
theorem dX4_fail_5 : decode cX4_fail 5 = .ok (.aload_n 0, 1) := by decide +kernel
theorem dX4_fail_6 : decode cX4_fail 6 = .ok (.aload_n 0, 1) := by decide +kernel
theorem dX4_fail_7 : decode cX4_fail 7 = .ok (.getfield 12, 3) := by decide +kernel
theorem dX4_fail_10 : decode cX4_fail 10 = .ok (.getfield 316, 3) := by decide +kernel
theorem dX4_fail_13 : decode cX4_fail 13 = .ok (.putfield 32, 3) := by decide +kernel
theorem dX4_fail_16 : decode cX4_fail 16 = .ok (.iconst 0, 1) := by decide +kernel
theorem dX4_fail_17 : decode cX4_fail 17 = .ok (.ireturn, 1) := by decide +kernel
theorem dX5_init_0 : decode cX5_init 0 = .ok (.aload_n 0, 1) := by decide +kernel
theorem dX5_init_1 : decode cX5_init 1 = .ok (.invokespecial 3, 3) := by decide +kernel
theorem dX5_init_4 : decode cX5_init 4 = .ok (.aload_n 0, 1) := by decide +kernel
theorem dX5_init_5 : decode cX5_init 5 = .ok (.iload_n 1, 1) := by decide +kernel
theorem dX5_init_6 : decode cX5_init 6 = .ok (.iconst 4, 1) := by decide +kernel
theorem dX5_init_7 : decode cX5_init 7 = .ok (.imul, 1) := by decide +kernel
theorem dX5_init_8 : decode cX5_init 8 = .ok (.newarray .int, 2) := by decide +kernel
theorem dX5_init_10 : decode cX5_init 10 = .ok (.putfield 9, 3) := by decide +kernel
theorem dX5_init_13 : decode cX5_init 13 = .ok (.aload_n 0, 1) := by decide +kernel
theorem dX5_init_14 : decode cX5_init 14 = .ok (.iload_n 1, 1) := by decide +kernel
theorem dX5_init_15 : decode cX5_init 15 = .ok (.iconst 1, 1) := by decide +kernel
theorem dX5_init_16 : decode cX5_init 16 = .ok (.isub, 1) := by decide +kernel
theorem dX5_init_17 : decode cX5_init 17 = .ok (.putfield 15, 3) := by decide +kernel
theorem dX5_init_20 : decode cX5_init 20 = .ok (.aload_n 0, 1) := by decide +kernel
theorem dX5_init_21 : decode cX5_init 21 = .ok (.iload_n 1, 1) := by decide +kernel
theorem dX5_init_22 : decode cX5_init 22 = .ok (.putfield 19, 3) := by decide +kernel
theorem dX5_init_25 : decode cX5_init 25 = .ok (.return_, 1) := by decide +kernel
theorem dX5_copyFrom_0 : decode cX5_copyFrom 0 = .ok (.aload_n 1, 1) := by decide +kernel
theorem dX5_copyFrom_1 : decode cX5_copyFrom 1 = .ok (.getfield 9, 3) := by decide +kernel
theorem dX5_copyFrom_4 : decode cX5_copyFrom 4 = .ok (.iconst 0, 1) := by decide +kernel
theorem dX5_copyFrom_5 : decode cX5_copyFrom 5 = .ok (.aload_n 0, 1) := by decide +kernel
theorem dX5_copyFrom_6 : decode cX5_copyFrom 6 = .ok (.getfield 9, 3) := by decide +kernel
theorem dX5_copyFrom_9 : decode cX5_copyFrom 9 = .ok (.iconst 0, 1) := by decide +kernel
theorem dX5_copyFrom_10 : decode cX5_copyFrom 10 = .ok (.aload_n 0, 1) := by decide +kernel
theorem dX5_copyFrom_11 : decode cX5_copyFrom 11 = .ok (.getfield 9, 3) := by decide +kernel
theorem dX5_copyFrom_14 : decode cX5_copyFrom 14 = .ok (.arraylength, 1) := by decide +kernel
theorem dX5_copyFrom_15 : decode cX5_copyFrom 15 = .ok (.invokestatic 22, 3) := by decide +kernel
theorem dX5_copyFrom_18 : decode cX5_copyFrom 18 = .ok (.aload_n 0, 1) := by decide +kernel
theorem dX5_copyFrom_19 : decode cX5_copyFrom 19 = .ok (.aload_n 1, 1) := by decide +kernel
theorem dX5_copyFrom_20 : decode cX5_copyFrom 20 = .ok (.getfield 19, 3) := by decide +kernel
theorem dX5_copyFrom_23 : decode cX5_copyFrom 23 = .ok (.putfield 19, 3) := by decide +kernel
theorem dX5_copyFrom_26 : decode cX5_copyFrom 26 = .ok (.aload_n 0, 1) := by decide +kernel
theorem dX5_copyFrom_27 : decode cX5_copyFrom 27 = .ok (.aload_n 1, 1) := by decide +kernel
theorem dX5_copyFrom_28 : decode cX5_copyFrom 28 = .ok (.getfield 28, 3) := by decide +kernel
theorem dX5_copyFrom_31 : decode cX5_copyFrom 31 = .ok (.putfield 28, 3) := by decide +kernel
theorem dX5_copyFrom_34 : decode cX5_copyFrom 34 = .ok (.aload_n 0, 1) := by decide +kernel
theorem dX5_copyFrom_35 : decode cX5_copyFrom 35 = .ok (.aload_n 1, 1) := by decide +kernel
theorem dX5_copyFrom_36 : decode cX5_copyFrom 36 = .ok (.getfield 32, 3) := by decide +kernel
theorem dX5_copyFrom_39 : decode cX5_copyFrom 39 = .ok (.putfield 32, 3) := by decide +kernel
theorem dX5_copyFrom_42 : decode cX5_copyFrom 42 = .ok (.aload_n 0, 1) := by decide +kernel
theorem dX5_copyFrom_43 : decode cX5_copyFrom 43 = .ok (.aload_n 1, 1) := by decide +kernel
theorem dX5_copyFrom_44 : decode cX5_copyFrom 44 = .ok (.getfield 35, 3) := by decide +kernel
theorem dX5_copyFrom_47 : decode cX5_copyFrom 47 = .ok (.putfield 35, 3) := by decide +kernel
theorem dX5_copyFrom_50 : decode cX5_copyFrom 50 = .ok (.aload_n 0, 1) := by decide +kernel
theorem dX5_copyFrom_51 : decode cX5_copyFrom 51 = .ok (.aload_n 1, 1) := by decide +kernel
theorem dX5_copyFrom_52 : decode cX5_copyFrom 52 = .ok (.getfield 38, 3) := by decide +kernel
theorem dX5_copyFrom_55 : decode cX5_copyFrom 55 = .ok (.putfield 38, 3) := by decide +kernel
theorem dX5_copyFrom_58 : decode cX5_copyFrom 58 = .ok (.return_, 1) := by decide +kernel
theorem dX5_add_0 : decode cX5_add 0 = .ok (.aload_n 0, 1) := by decide +kernel
theorem dX5_add_1 : decode cX5_add 1 = .ok (.getfield 35, 3) := by decide +kernel
theorem dX5_add_4 : decode cX5_add 4 = .ok (.aload_n 0, 1) := by decide +kernel
theorem dX5_add_5 : decode cX5_add 5 = .ok (.getfield 19, 3) := by decide +kernel
theorem dX5_add_8 : decode cX5_add 8 = .ok (.if_icmp .lt 25, 3) := by decide +kernel
theorem dX5_add_11 : decode cX5_add 11 = .ok (.aload_n 0, 1) := by decide +kernel
theorem dX5_add_12 : decode cX5_add 12 = .ok (.dup, 1) := by decide +kernel
theorem dX5_add_13 : decode cX5_add 13 = .ok (.getfield 38, 3) := by decide +kernel
theorem dX5_add_16 : decode cX5_add 16 = .ok (.iconst 1, 1) := by decide +kernel
theorem dX5_add_17 : decode cX5_add 17 = .ok (.iadd, 1) := by decide +kernel
theorem dX5_add_18 : decode cX5_add 18 = .ok (.putfield 38, 3) := by decide +kernel
theorem dX5_add_21 : decode cX5_add 21 = .ok (.aload_n 0, 1) := by decide +kernel
theorem dX5_add_22 : decode cX5_add 22 = .ok (.getfield 28, 3) := by decide +kernel
theorem dX5_add_25 : decode cX5_add 25 = .ok (.ifCond .ne 4, 3) := by decide +kernel
theorem dX5_add_28 : decode cX5_add 28 = .ok (.return_, 1) := by decide +kernel
theorem dX5_add_29 : decode cX5_add 29 = .ok (.aload_n 0, 1) := by decide +kernel
theorem dX5_add_30 : decode cX5_add 30 = .ok (.invokevirtual 41, 3) := by decide +kernel
theorem dX5_add_33 : decode cX5_add 33 = .ok (.aload_n 0, 1) := by decide +kernel
theorem dX5_add_34 : decode cX5_add 34 = .ok (.aload_n 0, 1) := by decide +kernel
theorem dX5_add_35 : decode cX5_add 35 = .ok (.getfield 32, 3) := by decide +kernel
theorem dX5_add_38 : decode cX5_add 38 = .ok (.aload_n 0, 1) := by decide +kernel
theorem dX5_add_39 : decode cX5_add 39 = .ok (.getfield 35, 3) := by decide +kernel
theorem dX5_add_42 : decode cX5_add 42 = .ok (.iadd, 1) := by decide +kernel
theorem dX5_add_43 : decode cX5_add 43 = .ok (.iload_n 1, 1) := by decide +kernel
theorem dX5_add_44 : decode cX5_add 44 = .ok (.iload_n 2, 1) := by decide +kernel
theorem dX5_add_45 : decode cX5_add 45 = .ok (.iload_n 3, 1) := by decide +kernel
theorem dX5_add_46 : decode cX5_add 46 = .ok (.iload 4, 2) := by decide +kernel
theorem dX5_add_48 : decode cX5_add 48 = .ok (.invokevirtual 44, 3) := by decide +kernel
theorem dX5_add_51 : decode cX5_add 51 = .ok (.aload_n 0, 1) := by decide +kernel
theorem dX5_add_52 : decode cX5_add 52 = .ok (.dup, 1) := by decide +kernel
theorem dX5_add_53 : decode cX5_add 53 = .ok (.getfield 35, 3) := by decide +kernel
theorem dX5_add_56 : decode cX5_add 56 = .ok (.iconst 1, 1) := by decide +kernel
theorem dX5_add_57 : decode cX5_add 57 = .ok (.iadd, 1) := by decide +kernel
theorem dX5_add_58 : decode cX5_add 58 = .ok (.putfield 35, 3) := by decide +kernel
theorem dX5_add_61 : decode cX5_add 61 = .ok (.return_, 1) := by decide +kernel
theorem dX5_put_0 : decode cX5_put 0 = .ok (.iload_n 1, 1) := by decide +kernel
theorem dX5_put_1 : decode cX5_put 1 = .ok (.aload_n 0, 1) := by decide +kernel
theorem dX5_put_2 : decode cX5_put 2 = .ok (.getfield 15, 3) := by decide +kernel
theorem dX5_put_5 : decode cX5_put 5 = .ok (.iand, 1) := by decide +kernel
theorem dX5_put_6 : decode cX5_put 6 = .ok (.iconst 4, 1) := by decide +kernel
theorem dX5_put_7 : decode cX5_put 7 = .ok (.imul, 1) := by decide +kernel
theorem dX5_put_8 : decode cX5_put 8 = .ok (.istore 6, 2) := by decide +kernel
theorem dX5_put_10 : decode cX5_put 10 = .ok (.aload_n 0, 1) := by decide +kernel
theorem dX5_put_11 : decode cX5_put 11 = .ok (.getfield 9, 3) := by decide +kernel
theorem dX5_put_14 : decode cX5_put 14 = .ok (.iload 6, 2) := by decide +kernel
theorem dX5_put_16 : decode cX5_put 16 = .ok (.iload_n 2, 1) := by decide +kernel
theorem dX5_put_17 : decode cX5_put 17 = .ok (.iastore, 1) := by decide +kernel
theorem dX5_put_18 : decode cX5_put 18 = .ok (.aload_n 0, 1) := by decide +kernel
theorem dX5_put_19 : decode cX5_put 19 = .ok (.getfield 9, 3) := by decide +kernel
theorem dX5_put_22 : decode cX5_put 22 = .ok (.iload 6, 2) := by decide +kernel
theorem dX5_put_24 : decode cX5_put 24 = .ok (.iconst 1, 1) := by decide +kernel
theorem dX5_put_25 : decode cX5_put 25 = .ok (.iadd, 1) := by decide +kernel
theorem dX5_put_26 : decode cX5_put 26 = .ok (.iload_n 3, 1) := by decide +kernel
theorem dX5_put_27 : decode cX5_put 27 = .ok (.iastore, 1) := by decide +kernel
theorem dX5_put_28 : decode cX5_put 28 = .ok (.aload_n 0, 1) := by decide +kernel
theorem dX5_put_29 : decode cX5_put 29 = .ok (.getfield 9, 3) := by decide +kernel
theorem dX5_put_32 : decode cX5_put 32 = .ok (.iload 6, 2) := by decide +kernel
theorem dX5_put_34 : decode cX5_put 34 = .ok (.iconst 2, 1) := by decide +kernel
theorem dX5_put_35 : decode cX5_put 35 = .ok (.iadd, 1) := by decide +kernel
theorem dX5_put_36 : decode cX5_put 36 = .ok (.iload 4, 2) := by decide +kernel
theorem dX5_put_38 : decode cX5_put 38 = .ok (.iastore, 1) := by decide +kernel
theorem dX5_put_39 : decode cX5_put 39 = .ok (.aload_n 0, 1) := by decide +kernel
theorem dX5_put_40 : decode cX5_put 40 = .ok (.getfield 9, 3) := by decide +kernel
theorem dX5_put_43 : decode cX5_put 43 = .ok (.iload 6, 2) := by decide +kernel
theorem dX5_put_45 : decode cX5_put 45 = .ok (.iconst 3, 1) := by decide +kernel
theorem dX5_put_46 : decode cX5_put 46 = .ok (.iadd, 1) := by decide +kernel
theorem dX5_put_47 : decode cX5_put 47 = .ok (.iload 5, 2) := by decide +kernel
theorem dX5_put_49 : decode cX5_put 49 = .ok (.iastore, 1) := by decide +kernel
theorem dX5_put_50 : decode cX5_put 50 = .ok (.return_, 1) := by decide +kernel
theorem dX5_number_0 : decode cX5_number 0 = .ok (.aload_n 0, 1) := by decide +kernel
theorem dX5_number_1 : decode cX5_number 1 = .ok (.getfield 9, 3) := by decide +kernel
theorem dX5_number_4 : decode cX5_number 4 = .ok (.iload_n 1, 1) := by decide +kernel
theorem dX5_number_5 : decode cX5_number 5 = .ok (.aload_n 0, 1) := by decide +kernel
theorem dX5_number_6 : decode cX5_number 6 = .ok (.getfield 15, 3) := by decide +kernel
theorem dX5_number_9 : decode cX5_number 9 = .ok (.iand, 1) := by decide +kernel
theorem dX5_number_10 : decode cX5_number 10 = .ok (.iconst 4, 1) := by decide +kernel
theorem dX5_number_11 : decode cX5_number 11 = .ok (.imul, 1) := by decide +kernel
theorem dX5_number_12 : decode cX5_number 12 = .ok (.iload_n 2, 1) := by decide +kernel
theorem dX5_number_13 : decode cX5_number 13 = .ok (.iadd, 1) := by decide +kernel
theorem dX5_number_14 : decode cX5_number 14 = .ok (.iaload, 1) := by decide +kernel
theorem dX5_number_15 : decode cX5_number 15 = .ok (.ireturn, 1) := by decide +kernel
theorem dX5_oldestNumber_0 : decode cX5_oldestNumber 0 = .ok (.aload_n 0, 1) := by decide +kernel
theorem dX5_oldestNumber_1 : decode cX5_oldestNumber 1 = .ok (.aload_n 0, 1) := by decide +kernel
theorem dX5_oldestNumber_2 : decode cX5_oldestNumber 2 = .ok (.getfield 32, 3) := by decide +kernel
theorem dX5_oldestNumber_5 : decode cX5_oldestNumber 5 = .ok (.iload_n 1, 1) := by decide +kernel
theorem dX5_oldestNumber_6 : decode cX5_oldestNumber 6 = .ok (.invokevirtual 48, 3) := by decide +kernel
theorem dX5_oldestNumber_9 : decode cX5_oldestNumber 9 = .ok (.ireturn, 1) := by decide +kernel
theorem dX5_removeOldest_0 : decode cX5_removeOldest 0 = .ok (.aload_n 0, 1) := by decide +kernel
theorem dX5_removeOldest_1 : decode cX5_removeOldest 1 = .ok (.aload_n 0, 1) := by decide +kernel
theorem dX5_removeOldest_2 : decode cX5_removeOldest 2 = .ok (.getfield 32, 3) := by decide +kernel
theorem dX5_removeOldest_5 : decode cX5_removeOldest 5 = .ok (.iconst 1, 1) := by decide +kernel
theorem dX5_removeOldest_6 : decode cX5_removeOldest 6 = .ok (.iadd, 1) := by decide +kernel
theorem dX5_removeOldest_7 : decode cX5_removeOldest 7 = .ok (.aload_n 0, 1) := by decide +kernel
theorem dX5_removeOldest_8 : decode cX5_removeOldest 8 = .ok (.getfield 15, 3) := by decide +kernel
theorem dX5_removeOldest_11 : decode cX5_removeOldest 11 = .ok (.iand, 1) := by decide +kernel
theorem dX5_removeOldest_12 : decode cX5_removeOldest 12 = .ok (.putfield 32, 3) := by decide +kernel
theorem dX5_removeOldest_15 : decode cX5_removeOldest 15 = .ok (.aload_n 0, 1) := by decide +kernel
theorem dX5_removeOldest_16 : decode cX5_removeOldest 16 = .ok (.dup, 1) := by decide +kernel
theorem dX5_removeOldest_17 : decode cX5_removeOldest 17 = .ok (.getfield 35, 3) := by decide +kernel
theorem dX5_removeOldest_20 : decode cX5_removeOldest 20 = .ok (.iconst 1, 1) := by decide +kernel
theorem dX5_removeOldest_21 : decode cX5_removeOldest 21 = .ok (.isub, 1) := by decide +kernel
theorem dX5_removeOldest_22 : decode cX5_removeOldest 22 = .ok (.putfield 35, 3) := by decide +kernel
theorem dX5_removeOldest_25 : decode cX5_removeOldest 25 = .ok (.return_, 1) := by decide +kernel
theorem dX6_init_0 : decode cX6_init 0 = .ok (.aload_n 0, 1) := by decide +kernel
theorem dX6_init_1 : decode cX6_init 1 = .ok (.invokespecial 3, 3) := by decide +kernel
theorem dX6_init_4 : decode cX6_init 4 = .ok (.aload_n 0, 1) := by decide +kernel
theorem dX6_init_5 : decode cX6_init 5 = .ok (.iconst (-1), 1) := by decide +kernel
theorem dX6_init_6 : decode cX6_init 6 = .ok (.putfield 9, 3) := by decide +kernel
theorem dX6_init_9 : decode cX6_init 9 = .ok (.aload_n 0, 1) := by decide +kernel
theorem dX6_init_10 : decode cX6_init 10 = .ok (.iconst (-1), 1) := by decide +kernel
theorem dX6_init_11 : decode cX6_init 11 = .ok (.putfield 15, 3) := by decide +kernel
theorem dX6_init_14 : decode cX6_init 14 = .ok (.aload_n 0, 1) := by decide +kernel
theorem dX6_init_15 : decode cX6_init 15 = .ok (.iload_n 1, 1) := by decide +kernel
theorem dX6_init_16 : decode cX6_init 16 = .ok (.newarray .int, 2) := by decide +kernel
theorem dX6_init_18 : decode cX6_init 18 = .ok (.putfield 18, 3) := by decide +kernel
theorem dX6_init_21 : decode cX6_init 21 = .ok (.return_, 1) := by decide +kernel
theorem dX6_copyFrom_0 : decode cX6_copyFrom 0 = .ok (.aload_n 1, 1) := by decide +kernel
theorem dX6_copyFrom_1 : decode cX6_copyFrom 1 = .ok (.getfield 18, 3) := by decide +kernel
theorem dX6_copyFrom_4 : decode cX6_copyFrom 4 = .ok (.iconst 0, 1) := by decide +kernel
theorem dX6_copyFrom_5 : decode cX6_copyFrom 5 = .ok (.aload_n 0, 1) := by decide +kernel
theorem dX6_copyFrom_6 : decode cX6_copyFrom 6 = .ok (.getfield 18, 3) := by decide +kernel
theorem dX6_copyFrom_9 : decode cX6_copyFrom 9 = .ok (.iconst 0, 1) := by decide +kernel
theorem dX6_copyFrom_10 : decode cX6_copyFrom 10 = .ok (.aload_n 0, 1) := by decide +kernel
theorem dX6_copyFrom_11 : decode cX6_copyFrom 11 = .ok (.getfield 18, 3) := by decide +kernel
theorem dX6_copyFrom_14 : decode cX6_copyFrom 14 = .ok (.arraylength, 1) := by decide +kernel
theorem dX6_copyFrom_15 : decode cX6_copyFrom 15 = .ok (.invokestatic 22, 3) := by decide +kernel
theorem dX6_copyFrom_18 : decode cX6_copyFrom 18 = .ok (.aload_n 0, 1) := by decide +kernel
theorem dX6_copyFrom_19 : decode cX6_copyFrom 19 = .ok (.aload_n 1, 1) := by decide +kernel
theorem dX6_copyFrom_20 : decode cX6_copyFrom 20 = .ok (.getfield 28, 3) := by decide +kernel
theorem dX6_copyFrom_23 : decode cX6_copyFrom 23 = .ok (.putfield 28, 3) := by decide +kernel
theorem dX6_copyFrom_26 : decode cX6_copyFrom 26 = .ok (.aload_n 0, 1) := by decide +kernel
theorem dX6_copyFrom_27 : decode cX6_copyFrom 27 = .ok (.aload_n 1, 1) := by decide +kernel
theorem dX6_copyFrom_28 : decode cX6_copyFrom 28 = .ok (.getfield 31, 3) := by decide +kernel
theorem dX6_copyFrom_31 : decode cX6_copyFrom 31 = .ok (.putfield 31, 3) := by decide +kernel
theorem dX6_copyFrom_34 : decode cX6_copyFrom 34 = .ok (.aload_n 0, 1) := by decide +kernel
theorem dX6_copyFrom_35 : decode cX6_copyFrom 35 = .ok (.aload_n 1, 1) := by decide +kernel
theorem dX6_copyFrom_36 : decode cX6_copyFrom 36 = .ok (.getfield 34, 3) := by decide +kernel
theorem dX6_copyFrom_39 : decode cX6_copyFrom 39 = .ok (.putfield 34, 3) := by decide +kernel
theorem dX6_copyFrom_42 : decode cX6_copyFrom 42 = .ok (.aload_n 0, 1) := by decide +kernel
theorem dX6_copyFrom_43 : decode cX6_copyFrom 43 = .ok (.aload_n 1, 1) := by decide +kernel
theorem dX6_copyFrom_44 : decode cX6_copyFrom 44 = .ok (.getfield 38, 3) := by decide +kernel
theorem dX6_copyFrom_47 : decode cX6_copyFrom 47 = .ok (.putfield 38, 3) := by decide +kernel
theorem dX6_copyFrom_50 : decode cX6_copyFrom 50 = .ok (.aload_n 0, 1) := by decide +kernel
theorem dX6_copyFrom_51 : decode cX6_copyFrom 51 = .ok (.aload_n 1, 1) := by decide +kernel
theorem dX6_copyFrom_52 : decode cX6_copyFrom 52 = .ok (.getfield 41, 3) := by decide +kernel
theorem dX6_copyFrom_55 : decode cX6_copyFrom 55 = .ok (.putfield 41, 3) := by decide +kernel
theorem dX6_copyFrom_58 : decode cX6_copyFrom 58 = .ok (.aload_n 0, 1) := by decide +kernel
theorem dX6_copyFrom_59 : decode cX6_copyFrom 59 = .ok (.aload_n 1, 1) := by decide +kernel
theorem dX6_copyFrom_60 : decode cX6_copyFrom 60 = .ok (.getfield 9, 3) := by decide +kernel
theorem dX6_copyFrom_63 : decode cX6_copyFrom 63 = .ok (.putfield 9, 3) := by decide +kernel
theorem dX6_copyFrom_66 : decode cX6_copyFrom 66 = .ok (.aload_n 0, 1) := by decide +kernel
theorem dX6_copyFrom_67 : decode cX6_copyFrom 67 = .ok (.aload_n 1, 1) := by decide +kernel
theorem dX6_copyFrom_68 : decode cX6_copyFrom 68 = .ok (.getfield 15, 3) := by decide +kernel
theorem dX6_copyFrom_71 : decode cX6_copyFrom 71 = .ok (.putfield 15, 3) := by decide +kernel
theorem dX6_copyFrom_74 : decode cX6_copyFrom 74 = .ok (.aload_n 0, 1) := by decide +kernel
theorem dX6_copyFrom_75 : decode cX6_copyFrom 75 = .ok (.aload_n 1, 1) := by decide +kernel
theorem dX6_copyFrom_76 : decode cX6_copyFrom 76 = .ok (.getfield 44, 3) := by decide +kernel
theorem dX6_copyFrom_79 : decode cX6_copyFrom 79 = .ok (.putfield 44, 3) := by decide +kernel
theorem dX6_copyFrom_82 : decode cX6_copyFrom 82 = .ok (.aload_n 0, 1) := by decide +kernel
theorem dX6_copyFrom_83 : decode cX6_copyFrom 83 = .ok (.aload_n 1, 1) := by decide +kernel
theorem dX6_copyFrom_84 : decode cX6_copyFrom 84 = .ok (.getfield 47, 3) := by decide +kernel
theorem dX6_copyFrom_87 : decode cX6_copyFrom 87 = .ok (.putfield 47, 3) := by decide +kernel
theorem dX6_copyFrom_90 : decode cX6_copyFrom 90 = .ok (.aload_n 0, 1) := by decide +kernel
theorem dX6_copyFrom_91 : decode cX6_copyFrom 91 = .ok (.aload_n 1, 1) := by decide +kernel
theorem dX6_copyFrom_92 : decode cX6_copyFrom 92 = .ok (.getfield 50, 3) := by decide +kernel
theorem dX6_copyFrom_95 : decode cX6_copyFrom 95 = .ok (.putfield 50, 3) := by decide +kernel
theorem dX6_copyFrom_98 : decode cX6_copyFrom 98 = .ok (.aload_n 0, 1) := by decide +kernel
theorem dX6_copyFrom_99 : decode cX6_copyFrom 99 = .ok (.aload_n 1, 1) := by decide +kernel
theorem dX6_copyFrom_100 : decode cX6_copyFrom 100 = .ok (.getfield 53, 3) := by decide +kernel
theorem dX6_copyFrom_103 : decode cX6_copyFrom 103 = .ok (.putfield 53, 3) := by decide +kernel
theorem dX6_copyFrom_106 : decode cX6_copyFrom 106 = .ok (.aload_n 0, 1) := by decide +kernel
theorem dX6_copyFrom_107 : decode cX6_copyFrom 107 = .ok (.aload_n 1, 1) := by decide +kernel
theorem dX6_copyFrom_108 : decode cX6_copyFrom 108 = .ok (.getfield 56, 3) := by decide +kernel
theorem dX6_copyFrom_111 : decode cX6_copyFrom 111 = .ok (.putfield 56, 3) := by decide +kernel
theorem dX6_copyFrom_114 : decode cX6_copyFrom 114 = .ok (.return_, 1) := by decide +kernel
theorem dX6_isReady_0 : decode cX6_isReady 0 = .ok (.aload_n 0, 1) := by decide +kernel
theorem dX6_isReady_1 : decode cX6_isReady 1 = .ok (.getfield 28, 3) := by decide +kernel
theorem dX6_isReady_4 : decode cX6_isReady 4 = .ok (.ifCond .le 14, 3) := by decide +kernel
theorem dX6_isReady_7 : decode cX6_isReady 7 = .ok (.aload_n 0, 1) := by decide +kernel
theorem dX6_isReady_8 : decode cX6_isReady 8 = .ok (.getfield 34, 3) := by decide +kernel
theorem dX6_isReady_11 : decode cX6_isReady 11 = .ok (.ifCond .ne 7, 3) := by decide +kernel
theorem dX6_isReady_14 : decode cX6_isReady 14 = .ok (.iconst 1, 1) := by decide +kernel
theorem dX6_isReady_15 : decode cX6_isReady 15 = .ok (.goto 4, 3) := by decide +kernel
theorem dX6_isReady_18 : decode cX6_isReady 18 = .ok (.iconst 0, 1) := by decide +kernel
theorem dX6_isReady_19 : decode cX6_isReady 19 = .ok (.ireturn, 1) := by decide +kernel
theorem dX6_becomeBusy_0 : decode cX6_becomeBusy 0 = .ok (.aload_n 0, 1) := by decide +kernel
theorem dX6_becomeBusy_1 : decode cX6_becomeBusy 1 = .ok (.iconst 1, 1) := by decide +kernel
theorem dX6_becomeBusy_2 : decode cX6_becomeBusy 2 = .ok (.putfield 34, 3) := by decide +kernel
theorem dX6_becomeBusy_5 : decode cX6_becomeBusy 5 = .ok (.aload_n 0, 1) := by decide +kernel
theorem dX6_becomeBusy_6 : decode cX6_becomeBusy 6 = .ok (.iload_n 1, 1) := by decide +kernel
theorem dX6_becomeBusy_7 : decode cX6_becomeBusy 7 = .ok (.putfield 9, 3) := by decide +kernel
theorem dX6_becomeBusy_10 : decode cX6_becomeBusy 10 = .ok (.aload_n 0, 1) := by decide +kernel
theorem dX6_becomeBusy_11 : decode cX6_becomeBusy 11 = .ok (.iload_n 2, 1) := by decide +kernel
theorem dX6_becomeBusy_12 : decode cX6_becomeBusy 12 = .ok (.putfield 15, 3) := by decide +kernel
theorem dX6_becomeBusy_15 : decode cX6_becomeBusy 15 = .ok (.aload_n 0, 1) := by decide +kernel
theorem dX6_becomeBusy_16 : decode cX6_becomeBusy 16 = .ok (.invokevirtual 60, 3) := by decide +kernel
theorem dX6_becomeBusy_19 : decode cX6_becomeBusy 19 = .ok (.return_, 1) := by decide +kernel
theorem dX6_beginPass_0 : decode cX6_beginPass 0 = .ok (.aload_n 0, 1) := by decide +kernel
theorem dX6_beginPass_1 : decode cX6_beginPass 1 = .ok (.getfield 31, 3) := by decide +kernel
theorem dX6_beginPass_4 : decode cX6_beginPass 4 = .ok (.ifCond .le 23, 3) := by decide +kernel
theorem dX6_beginPass_7 : decode cX6_beginPass 7 = .ok (.aload_n 0, 1) := by decide +kernel
theorem dX6_beginPass_8 : decode cX6_beginPass 8 = .ok (.getfield 38, 3) := by decide +kernel
theorem dX6_beginPass_11 : decode cX6_beginPass 11 = .ok (.aload_n 0, 1) := by decide +kernel
theorem dX6_beginPass_12 : decode cX6_beginPass 12 = .ok (.getfield 31, 3) := by decide +kernel
theorem dX6_beginPass_15 : decode cX6_beginPass 15 = .ok (.iadd, 1) := by decide +kernel
theorem dX6_beginPass_16 : decode cX6_beginPass 16 = .ok (.aload_n 0, 1) := by decide +kernel
theorem dX6_beginPass_17 : decode cX6_beginPass 17 = .ok (.getfield 28, 3) := by decide +kernel
theorem dX6_beginPass_20 : decode cX6_beginPass 20 = .ok (.if_icmp .ge 7, 3) := by decide +kernel
theorem dX6_beginPass_23 : decode cX6_beginPass 23 = .ok (.iconst 1, 1) := by decide +kernel
theorem dX6_beginPass_24 : decode cX6_beginPass 24 = .ok (.goto 4, 3) := by decide +kernel
theorem dX6_beginPass_27 : decode cX6_beginPass 27 = .ok (.iconst 0, 1) := by decide +kernel
theorem dX6_beginPass_28 : decode cX6_beginPass 28 = .ok (.istore_n 1, 1) := by decide +kernel
theorem dX6_beginPass_29 : decode cX6_beginPass 29 = .ok (.aload_n 0, 1) := by decide +kernel
theorem dX6_beginPass_30 : decode cX6_beginPass 30 = .ok (.iload_n 1, 1) := by decide +kernel
theorem dX6_beginPass_31 : decode cX6_beginPass 31 = .ok (.ifCond .eq 15, 3) := by decide +kernel
theorem dX6_beginPass_34 : decode cX6_beginPass 34 = .ok (.aload_n 0, 1) := by decide +kernel
theorem dX6_beginPass_35 : decode cX6_beginPass 35 = .ok (.getfield 38, 3) := by decide +kernel
theorem dX6_beginPass_38 : decode cX6_beginPass 38 = .ok (.aload_n 0, 1) := by decide +kernel
theorem dX6_beginPass_39 : decode cX6_beginPass 39 = .ok (.getfield 31, 3) := by decide +kernel
theorem dX6_beginPass_42 : decode cX6_beginPass 42 = .ok (.iadd, 1) := by decide +kernel
theorem dX6_beginPass_43 : decode cX6_beginPass 43 = .ok (.goto 7, 3) := by decide +kernel
theorem dX6_beginPass_46 : decode cX6_beginPass 46 = .ok (.aload_n 0, 1) := by decide +kernel
theorem dX6_beginPass_47 : decode cX6_beginPass 47 = .ok (.getfield 28, 3) := by decide +kernel
theorem dX6_beginPass_50 : decode cX6_beginPass 50 = .ok (.putfield 41, 3) := by decide +kernel
theorem dX6_beginPass_53 : decode cX6_beginPass 53 = .ok (.return_, 1) := by decide +kernel
theorem dX6_becomeIdle_0 : decode cX6_becomeIdle 0 = .ok (.aload_n 0, 1) := by decide +kernel
theorem dX6_becomeIdle_1 : decode cX6_becomeIdle 1 = .ok (.iconst 0, 1) := by decide +kernel
theorem dX6_becomeIdle_2 : decode cX6_becomeIdle 2 = .ok (.putfield 34, 3) := by decide +kernel
theorem dX6_becomeIdle_5 : decode cX6_becomeIdle 5 = .ok (.aload_n 0, 1) := by decide +kernel
theorem dX6_becomeIdle_6 : decode cX6_becomeIdle 6 = .ok (.iconst (-1), 1) := by decide +kernel
theorem dX6_becomeIdle_7 : decode cX6_becomeIdle 7 = .ok (.putfield 9, 3) := by decide +kernel
theorem dX6_becomeIdle_10 : decode cX6_becomeIdle 10 = .ok (.aload_n 0, 1) := by decide +kernel
theorem dX6_becomeIdle_11 : decode cX6_becomeIdle 11 = .ok (.iconst (-1), 1) := by decide +kernel
theorem dX6_becomeIdle_12 : decode cX6_becomeIdle 12 = .ok (.putfield 15, 3) := by decide +kernel
theorem dX6_becomeIdle_15 : decode cX6_becomeIdle 15 = .ok (.return_, 1) := by decide +kernel
theorem dX6_nextChannel_0 : decode cX6_nextChannel 0 = .ok (.aload_n 0, 1) := by decide +kernel
theorem dX6_nextChannel_1 : decode cX6_nextChannel 1 = .ok (.getfield 38, 3) := by decide +kernel
theorem dX6_nextChannel_4 : decode cX6_nextChannel 4 = .ok (.ifCond .lt 27, 3) := by decide +kernel
theorem dX6_nextChannel_7 : decode cX6_nextChannel 7 = .ok (.aload_n 0, 1) := by decide +kernel
theorem dX6_nextChannel_8 : decode cX6_nextChannel 8 = .ok (.getfield 38, 3) := by decide +kernel
theorem dX6_nextChannel_11 : decode cX6_nextChannel 11 = .ok (.aload_n 0, 1) := by decide +kernel
theorem dX6_nextChannel_12 : decode cX6_nextChannel 12 = .ok (.getfield 18, 3) := by decide +kernel
theorem dX6_nextChannel_15 : decode cX6_nextChannel 15 = .ok (.arraylength, 1) := by decide +kernel
theorem dX6_nextChannel_16 : decode cX6_nextChannel 16 = .ok (.if_icmp .ge 15, 3) := by decide +kernel
theorem dX6_nextChannel_19 : decode cX6_nextChannel 19 = .ok (.aload_n 0, 1) := by decide +kernel
theorem dX6_nextChannel_20 : decode cX6_nextChannel 20 = .ok (.getfield 18, 3) := by decide +kernel
theorem dX6_nextChannel_23 : decode cX6_nextChannel 23 = .ok (.aload_n 0, 1) := by decide +kernel
theorem dX6_nextChannel_24 : decode cX6_nextChannel 24 = .ok (.getfield 38, 3) := by decide +kernel
theorem dX6_nextChannel_27 : decode cX6_nextChannel 27 = .ok (.iaload, 1) := by decide +kernel
theorem dX6_nextChannel_28 : decode cX6_nextChannel 28 = .ok (.goto 4, 3) := by decide +kernel
theorem dX6_nextChannel_31 : decode cX6_nextChannel 31 = .ok (.iconst 0, 1) := by decide +kernel
theorem dX6_nextChannel_32 : decode cX6_nextChannel 32 = .ok (.ireturn, 1) := by decide +kernel
theorem dX6_forgetConversions_0 : decode cX6_forgetConversions 0 = .ok (.aload_n 0, 1) := by decide +kernel
theorem dX6_forgetConversions_1 : decode cX6_forgetConversions 1 = .ok (.iconst 0, 1) := by decide +kernel
theorem dX6_forgetConversions_2 : decode cX6_forgetConversions 2 = .ok (.putfield 50, 3) := by decide +kernel
theorem dX6_forgetConversions_5 : decode cX6_forgetConversions 5 = .ok (.aload_n 0, 1) := by decide +kernel
theorem dX6_forgetConversions_6 : decode cX6_forgetConversions 6 = .ok (.iconst 0, 1) := by decide +kernel
theorem dX6_forgetConversions_7 : decode cX6_forgetConversions 7 = .ok (.putfield 53, 3) := by decide +kernel
theorem dX6_forgetConversions_10 : decode cX6_forgetConversions 10 = .ok (.return_, 1) := by decide +kernel
theorem dX7_init_0 : decode cX7_init 0 = .ok (.aload_n 0, 1) := by decide +kernel
theorem dX7_init_1 : decode cX7_init 1 = .ok (.invokespecial 3, 3) := by decide +kernel
theorem dX7_init_4 : decode cX7_init 4 = .ok (.aload_n 0, 1) := by decide +kernel
theorem dX7_init_5 : decode cX7_init 5 = .ok (.sipush 900, 3) := by decide +kernel
theorem dX7_init_8 : decode cX7_init 8 = .ok (.newarray .byte, 2) := by decide +kernel
theorem dX7_init_10 : decode cX7_init 10 = .ok (.putfield 9, 3) := by decide +kernel
theorem dX7_init_13 : decode cX7_init 13 = .ok (.aload_n 0, 1) := by decide +kernel
theorem dX7_init_14 : decode cX7_init 14 = .ok (.iconst 0, 1) := by decide +kernel
theorem dX7_init_15 : decode cX7_init 15 = .ok (.putfield 15, 3) := by decide +kernel
theorem dX7_init_18 : decode cX7_init 18 = .ok (.aload_n 0, 1) := by decide +kernel
theorem dX7_init_19 : decode cX7_init 19 = .ok (.getstatic 19, 3) := by decide +kernel
theorem dX7_init_22 : decode cX7_init 22 = .ok (.putfield 25, 3) := by decide +kernel
theorem dX7_init_25 : decode cX7_init 25 = .ok (.return_, 1) := by decide +kernel
theorem dX7_addBytes_0 : decode cX7_addBytes 0 = .ok (.bipush 24, 2) := by decide +kernel
theorem dX7_addBytes_2 : decode cX7_addBytes 2 = .ok (.istore_n 2, 1) := by decide +kernel
theorem dX7_addBytes_3 : decode cX7_addBytes 3 = .ok (.iload_n 2, 1) := by decide +kernel
theorem dX7_addBytes_4 : decode cX7_addBytes 4 = .ok (.ifCond .lt 44, 3) := by decide +kernel
theorem dX7_addBytes_7 : decode cX7_addBytes 7 = .ok (.aload_n 0, 1) := by decide +kernel
theorem dX7_addBytes_8 : decode cX7_addBytes 8 = .ok (.getfield 28, 3) := by decide +kernel
theorem dX7_addBytes_11 : decode cX7_addBytes 11 = .ok (.aload_n 0, 1) := by decide +kernel
theorem dX7_addBytes_12 : decode cX7_addBytes 12 = .ok (.getfield 9, 3) := by decide +kernel
theorem dX7_addBytes_15 : decode cX7_addBytes 15 = .ok (.arraylength, 1) := by decide +kernel
theorem dX7_addBytes_16 : decode cX7_addBytes 16 = .ok (.if_icmp .ge 32, 3) := by decide +kernel
theorem dX7_addBytes_19 : decode cX7_addBytes 19 = .ok (.aload_n 0, 1) := by decide +kernel
theorem dX7_addBytes_20 : decode cX7_addBytes 20 = .ok (.getfield 9, 3) := by decide +kernel
theorem dX7_addBytes_23 : decode cX7_addBytes 23 = .ok (.aload_n 0, 1) := by decide +kernel
theorem dX7_addBytes_24 : decode cX7_addBytes 24 = .ok (.getfield 28, 3) := by decide +kernel
theorem dX7_addBytes_27 : decode cX7_addBytes 27 = .ok (.iload_n 1, 1) := by decide +kernel
theorem dX7_addBytes_28 : decode cX7_addBytes 28 = .ok (.iload_n 2, 1) := by decide +kernel
theorem dX7_addBytes_29 : decode cX7_addBytes 29 = .ok (.ishr, 1) := by decide +kernel
theorem dX7_addBytes_30 : decode cX7_addBytes 30 = .ok (.i2b, 1) := by decide +kernel
theorem dX7_addBytes_31 : decode cX7_addBytes 31 = .ok (.bastore, 1) := by decide +kernel
theorem dX7_addBytes_32 : decode cX7_addBytes 32 = .ok (.aload_n 0, 1) := by decide +kernel
theorem dX7_addBytes_33 : decode cX7_addBytes 33 = .ok (.dup, 1) := by decide +kernel
theorem dX7_addBytes_34 : decode cX7_addBytes 34 = .ok (.getfield 28, 3) := by decide +kernel
theorem dX7_addBytes_37 : decode cX7_addBytes 37 = .ok (.iconst 1, 1) := by decide +kernel
theorem dX7_addBytes_38 : decode cX7_addBytes 38 = .ok (.iadd, 1) := by decide +kernel
theorem dX7_addBytes_39 : decode cX7_addBytes 39 = .ok (.putfield 28, 3) := by decide +kernel
theorem dX7_addBytes_42 : decode cX7_addBytes 42 = .ok (.iinc 2 (-8), 3) := by decide +kernel
theorem dX7_addBytes_45 : decode cX7_addBytes 45 = .ok (.goto (-42), 3) := by decide +kernel
theorem dX7_addBytes_48 : decode cX7_addBytes 48 = .ok (.return_, 1) := by decide +kernel
theorem dX7_begin_0 : decode cX7_begin 0 = .ok (.aload_n 0, 1) := by decide +kernel
theorem dX7_begin_1 : decode cX7_begin 1 = .ok (.iconst 0, 1) := by decide +kernel
theorem dX7_begin_2 : decode cX7_begin 2 = .ok (.putfield 31, 3) := by decide +kernel
theorem dX7_begin_5 : decode cX7_begin 5 = .ok (.aload_n 0, 1) := by decide +kernel
theorem dX7_begin_6 : decode cX7_begin 6 = .ok (.invokevirtual 34, 3) := by decide +kernel
theorem dX7_begin_9 : decode cX7_begin 9 = .ok (.return_, 1) := by decide +kernel
theorem dX7_next_0 : decode cX7_next 0 = .ok (.aload_n 0, 1) := by decide +kernel
theorem dX7_next_1 : decode cX7_next 1 = .ok (.getfield 31, 3) := by decide +kernel
theorem dX7_next_4 : decode cX7_next 4 = .ok (.istore_n 1, 1) := by decide +kernel
theorem dX7_next_5 : decode cX7_next 5 = .ok (.iload_n 1, 1) := by decide +kernel
theorem dX7_next_6 : decode cX7_next 6 = .ok (.aload_n 0, 1) := by decide +kernel
theorem dX7_next_7 : decode cX7_next 7 = .ok (.getfield 28, 3) := by decide +kernel
theorem dX7_next_10 : decode cX7_next 10 = .ok (.if_icmp .ge 31, 3) := by decide +kernel
theorem dX7_next_13 : decode cX7_next 13 = .ok (.aload_n 0, 1) := by decide +kernel
theorem dX7_next_14 : decode cX7_next 14 = .ok (.getfield 9, 3) := by decide +kernel
theorem dX7_next_17 : decode cX7_next 17 = .ok (.iload_n 1, 1) := by decide +kernel
theorem dX7_next_18 : decode cX7_next 18 = .ok (.baload, 1) := by decide +kernel
theorem dX7_next_19 : decode cX7_next 19 = .ok (.bipush 32, 2) := by decide +kernel
theorem dX7_next_21 : decode cX7_next 21 = .ok (.if_icmp .eq 14, 3) := by decide +kernel
theorem dX7_next_24 : decode cX7_next 24 = .ok (.aload_n 0, 1) := by decide +kernel
theorem dX7_next_25 : decode cX7_next 25 = .ok (.getfield 9, 3) := by decide +kernel
theorem dX7_next_28 : decode cX7_next 28 = .ok (.iload_n 1, 1) := by decide +kernel
theorem dX7_next_29 : decode cX7_next 29 = .ok (.baload, 1) := by decide +kernel
theorem dX7_next_30 : decode cX7_next 30 = .ok (.bipush 10, 2) := by decide +kernel
theorem dX7_next_32 : decode cX7_next 32 = .ok (.if_icmp .ne 9, 3) := by decide +kernel
theorem dX7_next_35 : decode cX7_next 35 = .ok (.iinc 1 1, 3) := by decide +kernel
theorem dX7_next_38 : decode cX7_next 38 = .ok (.goto (-33), 3) := by decide +kernel
theorem dX7_next_41 : decode cX7_next 41 = .ok (.aload_n 0, 1) := by decide +kernel
theorem dX7_next_42 : decode cX7_next 42 = .ok (.iload_n 1, 1) := by decide +kernel
theorem dX7_next_43 : decode cX7_next 43 = .ok (.putfield 37, 3) := by decide +kernel
theorem dX7_next_46 : decode cX7_next 46 = .ok (.aload_n 0, 1) := by decide +kernel
theorem dX7_next_47 : decode cX7_next 47 = .ok (.getstatic 19, 3) := by decide +kernel
theorem dX7_next_50 : decode cX7_next 50 = .ok (.putfield 25, 3) := by decide +kernel
theorem dX7_next_53 : decode cX7_next 53 = .ok (.iload_n 1, 1) := by decide +kernel
theorem dX7_next_54 : decode cX7_next 54 = .ok (.aload_n 0, 1) := by decide +kernel
theorem dX7_next_55 : decode cX7_next 55 = .ok (.getfield 28, 3) := by decide +kernel
theorem dX7_next_58 : decode cX7_next 58 = .ok (.if_icmp .lt 14, 3) := by decide +kernel
theorem dX7_next_61 : decode cX7_next 61 = .ok (.aload_n 0, 1) := by decide +kernel
theorem dX7_next_62 : decode cX7_next 62 = .ok (.iload_n 1, 1) := by decide +kernel
theorem dX7_next_63 : decode cX7_next 63 = .ok (.putfield 31, 3) := by decide +kernel
theorem dX7_next_66 : decode cX7_next 66 = .ok (.aload_n 0, 1) := by decide +kernel
theorem dX7_next_67 : decode cX7_next 67 = .ok (.iconst 0, 1) := by decide +kernel
theorem dX7_next_68 : decode cX7_next 68 = .ok (.putfield 15, 3) := by decide +kernel
theorem dX7_next_71 : decode cX7_next 71 = .ok (.return_, 1) := by decide +kernel
theorem dX7_next_72 : decode cX7_next 72 = .ok (.aload_n 0, 1) := by decide +kernel
theorem dX7_next_73 : decode cX7_next 73 = .ok (.aload_n 0, 1) := by decide +kernel
theorem dX7_next_74 : decode cX7_next 74 = .ok (.getfield 9, 3) := by decide +kernel
theorem dX7_next_77 : decode cX7_next 77 = .ok (.iload_n 1, 1) := by decide +kernel
theorem dX7_next_78 : decode cX7_next 78 = .ok (.baload, 1) := by decide +kernel
theorem dX7_next_79 : decode cX7_next 79 = .ok (.putfield 40, 3) := by decide +kernel
theorem dX7_next_82 : decode cX7_next 82 = .ok (.aload_n 0, 1) := by decide +kernel
theorem dX7_next_83 : decode cX7_next 83 = .ok (.getfield 40, 3) := by decide +kernel
theorem dX7_next_86 : decode cX7_next 86 = .ok (.bipush 97, 2) := by decide +kernel
theorem dX7_next_88 : decode cX7_next 88 = .ok (.if_icmp .lt 51, 3) := by decide +kernel
theorem dX7_next_91 : decode cX7_next 91 = .ok (.aload_n 0, 1) := by decide +kernel
theorem dX7_next_92 : decode cX7_next 92 = .ok (.getfield 40, 3) := by decide +kernel
theorem dX7_next_95 : decode cX7_next 95 = .ok (.bipush 122, 2) := by decide +kernel
theorem dX7_next_97 : decode cX7_next 97 = .ok (.if_icmp .gt 42, 3) := by decide +kernel
theorem dX7_next_100 : decode cX7_next 100 = .ok (.aload_n 0, 1) := by decide +kernel
theorem dX7_next_101 : decode cX7_next 101 = .ok (.iconst 1, 1) := by decide +kernel
theorem dX7_next_102 : decode cX7_next 102 = .ok (.bipush 97, 2) := by decide +kernel
theorem dX7_next_104 : decode cX7_next 104 = .ok (.bipush 122, 2) := by decide +kernel
theorem dX7_next_106 : decode cX7_next 106 = .ok (.bipush 10, 2) := by decide +kernel
theorem dX7_next_108 : decode cX7_next 108 = .ok (.invokevirtual 43, 3) := by decide +kernel
theorem dX7_next_111 : decode cX7_next 111 = .ok (.aload_n 0, 1) := by decide +kernel
theorem dX7_next_112 : decode cX7_next 112 = .ok (.aload_n 0, 1) := by decide +kernel
theorem dX7_next_113 : decode cX7_next 113 = .ok (.getfield 15, 3) := by decide +kernel
theorem dX7_next_116 : decode cX7_next 116 = .ok (.iconst 1, 1) := by decide +kernel
theorem dX7_next_117 : decode cX7_next 117 = .ok (.if_icmp .ne 13, 3) := by decide +kernel
theorem dX7_next_120 : decode cX7_next 120 = .ok (.aload_n 0, 1) := by decide +kernel
theorem dX7_next_121 : decode cX7_next 121 = .ok (.getfield 47, 3) := by decide +kernel
theorem dX7_next_124 : decode cX7_next 124 = .ok (.invokestatic 51, 3) := by decide +kernel
theorem dX7_next_127 : decode cX7_next 127 = .ok (.goto 6, 3) := by decide +kernel
theorem dX7_next_130 : decode cX7_next 130 = .ok (.getstatic 19, 3) := by decide +kernel
theorem dX7_next_133 : decode cX7_next 133 = .ok (.putfield 25, 3) := by decide +kernel
theorem dX7_next_136 : decode cX7_next 136 = .ok (.goto 46, 3) := by decide +kernel
theorem dX7_next_139 : decode cX7_next 139 = .ok (.aload_n 0, 1) := by decide +kernel
theorem dX7_next_140 : decode cX7_next 140 = .ok (.getfield 40, 3) := by decide +kernel
theorem dX7_next_143 : decode cX7_next 143 = .ok (.bipush 48, 2) := by decide +kernel
theorem dX7_next_145 : decode cX7_next 145 = .ok (.if_icmp .lt 25, 3) := by decide +kernel
theorem dX7_next_148 : decode cX7_next 148 = .ok (.aload_n 0, 1) := by decide +kernel
theorem dX7_next_149 : decode cX7_next 149 = .ok (.getfield 40, 3) := by decide +kernel
theorem dX7_next_152 : decode cX7_next 152 = .ok (.bipush 57, 2) := by decide +kernel
theorem dX7_next_154 : decode cX7_next 154 = .ok (.if_icmp .gt 16, 3) := by decide +kernel
theorem dX7_next_157 : decode cX7_next 157 = .ok (.aload_n 0, 1) := by decide +kernel
theorem dX7_next_158 : decode cX7_next 158 = .ok (.iconst 2, 1) := by decide +kernel
theorem dX7_next_159 : decode cX7_next 159 = .ok (.bipush 48, 2) := by decide +kernel
theorem dX7_next_161 : decode cX7_next 161 = .ok (.bipush 57, 2) := by decide +kernel
theorem dX7_next_163 : decode cX7_next 163 = .ok (.iconst 5, 1) := by decide +kernel
theorem dX7_next_164 : decode cX7_next 164 = .ok (.invokevirtual 43, 3) := by decide +kernel
theorem dX7_next_167 : decode cX7_next 167 = .ok (.goto 15, 3) := by decide +kernel
theorem dX7_next_170 : decode cX7_next 170 = .ok (.aload_n 0, 1) := by decide +kernel
theorem dX7_next_171 : decode cX7_next 171 = .ok (.iconst 3, 1) := by decide +kernel
theorem dX7_next_172 : decode cX7_next 172 = .ok (.putfield 15, 3) := by decide +kernel
theorem dX7_next_175 : decode cX7_next 175 = .ok (.aload_n 0, 1) := by decide +kernel
theorem dX7_next_176 : decode cX7_next 176 = .ok (.iload_n 1, 1) := by decide +kernel
theorem dX7_next_177 : decode cX7_next 177 = .ok (.iconst 1, 1) := by decide +kernel
theorem dX7_next_178 : decode cX7_next 178 = .ok (.iadd, 1) := by decide +kernel
theorem dX7_next_179 : decode cX7_next 179 = .ok (.putfield 31, 3) := by decide +kernel
theorem dX7_next_182 : decode cX7_next 182 = .ok (.return_, 1) := by decide +kernel
theorem dX7_readRun_0 : decode cX7_readRun 0 = .ok (.aload_n 0, 1) := by decide +kernel
theorem dX7_readRun_1 : decode cX7_readRun 1 = .ok (.lconst 0, 1) := by decide +kernel
theorem dX7_readRun_2 : decode cX7_readRun 2 = .ok (.putfield 47, 3) := by decide +kernel
theorem dX7_readRun_5 : decode cX7_readRun 5 = .ok (.aload_n 0, 1) := by decide +kernel
theorem dX7_readRun_6 : decode cX7_readRun 6 = .ok (.iconst 0, 1) := by decide +kernel
theorem dX7_readRun_7 : decode cX7_readRun 7 = .ok (.putfield 40, 3) := by decide +kernel
theorem dX7_readRun_10 : decode cX7_readRun 10 = .ok (.aload_n 0, 1) := by decide +kernel
theorem dX7_readRun_11 : decode cX7_readRun 11 = .ok (.getfield 37, 3) := by decide +kernel
theorem dX7_readRun_14 : decode cX7_readRun 14 = .ok (.istore 5, 2) := by decide +kernel
theorem dX7_readRun_16 : decode cX7_readRun 16 = .ok (.iload 5, 2) := by decide +kernel
theorem dX7_readRun_18 : decode cX7_readRun 18 = .ok (.aload_n 0, 1) := by decide +kernel
theorem dX7_readRun_19 : decode cX7_readRun 19 = .ok (.getfield 28, 3) := by decide +kernel
theorem dX7_readRun_22 : decode cX7_readRun 22 = .ok (.if_icmp .ge 77, 3) := by decide +kernel
theorem dX7_readRun_25 : decode cX7_readRun 25 = .ok (.aload_n 0, 1) := by decide +kernel
theorem dX7_readRun_26 : decode cX7_readRun 26 = .ok (.getfield 9, 3) := by decide +kernel
theorem dX7_readRun_29 : decode cX7_readRun 29 = .ok (.iload 5, 2) := by decide +kernel
theorem dX7_readRun_31 : decode cX7_readRun 31 = .ok (.baload, 1) := by decide +kernel
theorem dX7_readRun_32 : decode cX7_readRun 32 = .ok (.iload_n 2, 1) := by decide +kernel
theorem dX7_readRun_33 : decode cX7_readRun 33 = .ok (.if_icmp .lt 66, 3) := by decide +kernel
theorem dX7_readRun_36 : decode cX7_readRun 36 = .ok (.aload_n 0, 1) := by decide +kernel
theorem dX7_readRun_37 : decode cX7_readRun 37 = .ok (.getfield 9, 3) := by decide +kernel
theorem dX7_readRun_40 : decode cX7_readRun 40 = .ok (.iload 5, 2) := by decide +kernel
theorem dX7_readRun_42 : decode cX7_readRun 42 = .ok (.baload, 1) := by decide +kernel
theorem dX7_readRun_43 : decode cX7_readRun 43 = .ok (.iload_n 3, 1) := by decide +kernel
theorem dX7_readRun_44 : decode cX7_readRun 44 = .ok (.if_icmp .gt 55, 3) := by decide +kernel
theorem dX7_readRun_47 : decode cX7_readRun 47 = .ok (.aload_n 0, 1) := by decide +kernel
theorem dX7_readRun_48 : decode cX7_readRun 48 = .ok (.ldc2_w 55, 3) := by decide +kernel
theorem dX7_readRun_51 : decode cX7_readRun 51 = .ok (.aload_n 0, 1) := by decide +kernel
theorem dX7_readRun_52 : decode cX7_readRun 52 = .ok (.getfield 47, 3) := by decide +kernel
theorem dX7_readRun_55 : decode cX7_readRun 55 = .ok (.lmul, 1) := by decide +kernel
theorem dX7_readRun_56 : decode cX7_readRun 56 = .ok (.aload_n 0, 1) := by decide +kernel
theorem dX7_readRun_57 : decode cX7_readRun 57 = .ok (.getfield 9, 3) := by decide +kernel
theorem dX7_readRun_60 : decode cX7_readRun 60 = .ok (.iload 5, 2) := by decide +kernel
theorem dX7_readRun_62 : decode cX7_readRun 62 = .ok (.baload, 1) := by decide +kernel
theorem dX7_readRun_63 : decode cX7_readRun 63 = .ok (.iload_n 2, 1) := by decide +kernel
theorem dX7_readRun_64 : decode cX7_readRun 64 = .ok (.isub, 1) := by decide +kernel
theorem dX7_readRun_65 : decode cX7_readRun 65 = .ok (.iconst 1, 1) := by decide +kernel
theorem dX7_readRun_66 : decode cX7_readRun 66 = .ok (.iadd, 1) := by decide +kernel
theorem dX7_readRun_67 : decode cX7_readRun 67 = .ok (.i2l, 1) := by decide +kernel
theorem dX7_readRun_68 : decode cX7_readRun 68 = .ok (.ladd, 1) := by decide +kernel
theorem dX7_readRun_69 : decode cX7_readRun 69 = .ok (.putfield 47, 3) := by decide +kernel
theorem dX7_readRun_72 : decode cX7_readRun 72 = .ok (.aload_n 0, 1) := by decide +kernel
theorem dX7_readRun_73 : decode cX7_readRun 73 = .ok (.bipush 10, 2) := by decide +kernel
theorem dX7_readRun_75 : decode cX7_readRun 75 = .ok (.aload_n 0, 1) := by decide +kernel
theorem dX7_readRun_76 : decode cX7_readRun 76 = .ok (.getfield 40, 3) := by decide +kernel
theorem dX7_readRun_79 : decode cX7_readRun 79 = .ok (.imul, 1) := by decide +kernel
theorem dX7_readRun_80 : decode cX7_readRun 80 = .ok (.aload_n 0, 1) := by decide +kernel
theorem dX7_readRun_81 : decode cX7_readRun 81 = .ok (.getfield 9, 3) := by decide +kernel
theorem dX7_readRun_84 : decode cX7_readRun 84 = .ok (.iload 5, 2) := by decide +kernel
theorem dX7_readRun_86 : decode cX7_readRun 86 = .ok (.baload, 1) := by decide +kernel
theorem dX7_readRun_87 : decode cX7_readRun 87 = .ok (.iload_n 2, 1) := by decide +kernel
theorem dX7_readRun_88 : decode cX7_readRun 88 = .ok (.isub, 1) := by decide +kernel
theorem dX7_readRun_89 : decode cX7_readRun 89 = .ok (.iadd, 1) := by decide +kernel
theorem dX7_readRun_90 : decode cX7_readRun 90 = .ok (.putfield 40, 3) := by decide +kernel
theorem dX7_readRun_93 : decode cX7_readRun 93 = .ok (.iinc 5 1, 3) := by decide +kernel
theorem dX7_readRun_96 : decode cX7_readRun 96 = .ok (.goto (-80), 3) := by decide +kernel
theorem dX7_readRun_99 : decode cX7_readRun 99 = .ok (.aload_n 0, 1) := by decide +kernel
theorem dX7_readRun_100 : decode cX7_readRun 100 = .ok (.iload 5, 2) := by decide +kernel
theorem dX7_readRun_102 : decode cX7_readRun 102 = .ok (.putfield 31, 3) := by decide +kernel
theorem dX7_readRun_105 : decode cX7_readRun 105 = .ok (.aload_n 0, 1) := by decide +kernel
theorem dX7_readRun_106 : decode cX7_readRun 106 = .ok (.iload 5, 2) := by decide +kernel
theorem dX7_readRun_108 : decode cX7_readRun 108 = .ok (.aload_n 0, 1) := by decide +kernel
theorem dX7_readRun_109 : decode cX7_readRun 109 = .ok (.getfield 37, 3) := by decide +kernel
theorem dX7_readRun_112 : decode cX7_readRun 112 = .ok (.isub, 1) := by decide +kernel
theorem dX7_readRun_113 : decode cX7_readRun 113 = .ok (.iload 4, 2) := by decide +kernel
theorem dX7_readRun_115 : decode cX7_readRun 115 = .ok (.if_icmp .le 7, 3) := by decide +kernel
theorem dX7_readRun_118 : decode cX7_readRun 118 = .ok (.iconst 4, 1) := by decide +kernel
theorem dX7_readRun_119 : decode cX7_readRun 119 = .ok (.goto 4, 3) := by decide +kernel
theorem dX7_readRun_122 : decode cX7_readRun 122 = .ok (.iload_n 1, 1) := by decide +kernel
theorem dX7_readRun_123 : decode cX7_readRun 123 = .ok (.putfield 15, 3) := by decide +kernel
theorem dX7_readRun_126 : decode cX7_readRun 126 = .ok (.return_, 1) := by decide +kernel
theorem dX8_init_0 : decode cX8_init 0 = .ok (.aload_n 0, 1) := by decide +kernel
theorem dX8_init_1 : decode cX8_init 1 = .ok (.invokespecial 3, 3) := by decide +kernel
theorem dX8_init_4 : decode cX8_init 4 = .ok (.aload_n 0, 1) := by decide +kernel
theorem dX8_init_5 : decode cX8_init 5 = .ok (.iconst 0, 1) := by decide +kernel
theorem dX8_init_6 : decode cX8_init 6 = .ok (.putfield 9, 3) := by decide +kernel
theorem dX8_init_9 : decode cX8_init 9 = .ok (.return_, 1) := by decide +kernel
theorem dX8_copyFrom_0 : decode cX8_copyFrom 0 = .ok (.aload_n 0, 1) := by decide +kernel
theorem dX8_copyFrom_1 : decode cX8_copyFrom 1 = .ok (.aload_n 1, 1) := by decide +kernel
theorem dX8_copyFrom_2 : decode cX8_copyFrom 2 = .ok (.getfield 9, 3) := by decide +kernel
theorem dX8_copyFrom_5 : decode cX8_copyFrom 5 = .ok (.putfield 9, 3) := by decide +kernel
theorem dX8_copyFrom_8 : decode cX8_copyFrom 8 = .ok (.aload_n 0, 1) := by decide +kernel
theorem dX8_copyFrom_9 : decode cX8_copyFrom 9 = .ok (.aload_n 1, 1) := by decide +kernel
theorem dX8_copyFrom_10 : decode cX8_copyFrom 10 = .ok (.getfield 15, 3) := by decide +kernel
theorem dX8_copyFrom_13 : decode cX8_copyFrom 13 = .ok (.putfield 15, 3) := by decide +kernel
theorem dX8_copyFrom_16 : decode cX8_copyFrom 16 = .ok (.aload_n 0, 1) := by decide +kernel
theorem dX8_copyFrom_17 : decode cX8_copyFrom 17 = .ok (.aload_n 1, 1) := by decide +kernel
theorem dX8_copyFrom_18 : decode cX8_copyFrom 18 = .ok (.getfield 18, 3) := by decide +kernel
theorem dX8_copyFrom_21 : decode cX8_copyFrom 21 = .ok (.putfield 18, 3) := by decide +kernel
theorem dX8_copyFrom_24 : decode cX8_copyFrom 24 = .ok (.aload_n 0, 1) := by decide +kernel
theorem dX8_copyFrom_25 : decode cX8_copyFrom 25 = .ok (.aload_n 1, 1) := by decide +kernel
theorem dX8_copyFrom_26 : decode cX8_copyFrom 26 = .ok (.getfield 21, 3) := by decide +kernel
theorem dX8_copyFrom_29 : decode cX8_copyFrom 29 = .ok (.putfield 21, 3) := by decide +kernel
theorem dX8_copyFrom_32 : decode cX8_copyFrom 32 = .ok (.aload_n 0, 1) := by decide +kernel
theorem dX8_copyFrom_33 : decode cX8_copyFrom 33 = .ok (.aload_n 1, 1) := by decide +kernel
theorem dX8_copyFrom_34 : decode cX8_copyFrom 34 = .ok (.getfield 24, 3) := by decide +kernel
theorem dX8_copyFrom_37 : decode cX8_copyFrom 37 = .ok (.putfield 24, 3) := by decide +kernel
theorem dX8_copyFrom_40 : decode cX8_copyFrom 40 = .ok (.return_, 1) := by decide +kernel
theorem dX8_isDue_0 : decode cX8_isDue 0 = .ok (.aload_n 0, 1) := by decide +kernel
theorem dX8_isDue_1 : decode cX8_isDue 1 = .ok (.getfield 15, 3) := by decide +kernel
theorem dX8_isDue_4 : decode cX8_isDue 4 = .ok (.ifCond .le 29, 3) := by decide +kernel
theorem dX8_isDue_7 : decode cX8_isDue 7 = .ok (.iload_n 1, 1) := by decide +kernel
theorem dX8_isDue_8 : decode cX8_isDue 8 = .ok (.aload_n 0, 1) := by decide +kernel
theorem dX8_isDue_9 : decode cX8_isDue 9 = .ok (.getfield 18, 3) := by decide +kernel
theorem dX8_isDue_12 : decode cX8_isDue 12 = .ok (.if_icmp .lt 21, 3) := by decide +kernel
theorem dX8_isDue_15 : decode cX8_isDue 15 = .ok (.iload_n 1, 1) := by decide +kernel
theorem dX8_isDue_16 : decode cX8_isDue 16 = .ok (.aload_n 0, 1) := by decide +kernel
theorem dX8_isDue_17 : decode cX8_isDue 17 = .ok (.getfield 18, 3) := by decide +kernel
theorem dX8_isDue_20 : decode cX8_isDue 20 = .ok (.isub, 1) := by decide +kernel
theorem dX8_isDue_21 : decode cX8_isDue 21 = .ok (.aload_n 0, 1) := by decide +kernel
theorem dX8_isDue_22 : decode cX8_isDue 22 = .ok (.getfield 15, 3) := by decide +kernel
theorem dX8_isDue_25 : decode cX8_isDue 25 = .ok (.irem, 1) := by decide +kernel
theorem dX8_isDue_26 : decode cX8_isDue 26 = .ok (.ifCond .ne 7, 3) := by decide +kernel
theorem dX8_isDue_29 : decode cX8_isDue 29 = .ok (.iconst 1, 1) := by decide +kernel
theorem dX8_isDue_30 : decode cX8_isDue 30 = .ok (.goto 4, 3) := by decide +kernel
theorem dX8_isDue_33 : decode cX8_isDue 33 = .ok (.iconst 0, 1) := by decide +kernel
theorem dX8_isDue_34 : decode cX8_isDue 34 = .ok (.ireturn, 1) := by decide +kernel
theorem dX9_init_0 : decode cX9_init 0 = .ok (.aload_n 0, 1) := by decide +kernel
theorem dX9_init_1 : decode cX9_init 1 = .ok (.invokespecial 3, 3) := by decide +kernel
theorem dX9_init_4 : decode cX9_init 4 = .ok (.aload_n 0, 1) := by decide +kernel
theorem dX9_init_5 : decode cX9_init 5 = .ok (.iconst (-1), 1) := by decide +kernel
theorem dX9_init_6 : decode cX9_init 6 = .ok (.putfield 9, 3) := by decide +kernel
theorem dX9_init_9 : decode cX9_init 9 = .ok (.aload_n 0, 1) := by decide +kernel
theorem dX9_init_10 : decode cX9_init 10 = .ok (.iconst (-1), 1) := by decide +kernel
theorem dX9_init_11 : decode cX9_init 11 = .ok (.putfield 15, 3) := by decide +kernel
theorem dX9_init_14 : decode cX9_init 14 = .ok (.aload_n 0, 1) := by decide +kernel
theorem dX9_init_15 : decode cX9_init 15 = .ok (.iconst (-1), 1) := by decide +kernel
theorem dX9_init_16 : decode cX9_init 16 = .ok (.putfield 18, 3) := by decide +kernel
theorem dX9_init_19 : decode cX9_init 19 = .ok (.return_, 1) := by decide +kernel
theorem dX9_copyFrom_0 : decode cX9_copyFrom 0 = .ok (.aload_n 0, 1) := by decide +kernel
theorem dX9_copyFrom_1 : decode cX9_copyFrom 1 = .ok (.aload_n 1, 1) := by decide +kernel
theorem dX9_copyFrom_2 : decode cX9_copyFrom 2 = .ok (.getfield 21, 3) := by decide +kernel
theorem dX9_copyFrom_5 : decode cX9_copyFrom 5 = .ok (.putfield 21, 3) := by decide +kernel
theorem dX9_copyFrom_8 : decode cX9_copyFrom 8 = .ok (.aload_n 0, 1) := by decide +kernel
theorem dX9_copyFrom_9 : decode cX9_copyFrom 9 = .ok (.aload_n 1, 1) := by decide +kernel
theorem dX9_copyFrom_10 : decode cX9_copyFrom 10 = .ok (.getfield 25, 3) := by decide +kernel
theorem dX9_copyFrom_13 : decode cX9_copyFrom 13 = .ok (.putfield 25, 3) := by decide +kernel
theorem dX9_copyFrom_16 : decode cX9_copyFrom 16 = .ok (.aload_n 0, 1) := by decide +kernel
theorem dX9_copyFrom_17 : decode cX9_copyFrom 17 = .ok (.aload_n 1, 1) := by decide +kernel
theorem dX9_copyFrom_18 : decode cX9_copyFrom 18 = .ok (.getfield 28, 3) := by decide +kernel
theorem dX9_copyFrom_21 : decode cX9_copyFrom 21 = .ok (.putfield 28, 3) := by decide +kernel
theorem dX9_copyFrom_24 : decode cX9_copyFrom 24 = .ok (.aload_n 0, 1) := by decide +kernel
theorem dX9_copyFrom_25 : decode cX9_copyFrom 25 = .ok (.aload_n 1, 1) := by decide +kernel
theorem dX9_copyFrom_26 : decode cX9_copyFrom 26 = .ok (.getfield 31, 3) := by decide +kernel
theorem dX9_copyFrom_29 : decode cX9_copyFrom 29 = .ok (.putfield 31, 3) := by decide +kernel
theorem dX9_copyFrom_32 : decode cX9_copyFrom 32 = .ok (.aload_n 0, 1) := by decide +kernel
theorem dX9_copyFrom_33 : decode cX9_copyFrom 33 = .ok (.aload_n 1, 1) := by decide +kernel
theorem dX9_copyFrom_34 : decode cX9_copyFrom 34 = .ok (.getfield 34, 3) := by decide +kernel
theorem dX9_copyFrom_37 : decode cX9_copyFrom 37 = .ok (.putfield 34, 3) := by decide +kernel
theorem dX9_copyFrom_40 : decode cX9_copyFrom 40 = .ok (.aload_n 0, 1) := by decide +kernel
theorem dX9_copyFrom_41 : decode cX9_copyFrom 41 = .ok (.aload_n 1, 1) := by decide +kernel
theorem dX9_copyFrom_42 : decode cX9_copyFrom 42 = .ok (.getfield 37, 3) := by decide +kernel
theorem dX9_copyFrom_45 : decode cX9_copyFrom 45 = .ok (.putfield 37, 3) := by decide +kernel
theorem dX9_copyFrom_48 : decode cX9_copyFrom 48 = .ok (.aload_n 0, 1) := by decide +kernel
theorem dX9_copyFrom_49 : decode cX9_copyFrom 49 = .ok (.aload_n 1, 1) := by decide +kernel
theorem dX9_copyFrom_50 : decode cX9_copyFrom 50 = .ok (.getfield 40, 3) := by decide +kernel
theorem dX9_copyFrom_53 : decode cX9_copyFrom 53 = .ok (.putfield 40, 3) := by decide +kernel
theorem dX9_copyFrom_56 : decode cX9_copyFrom 56 = .ok (.aload_n 0, 1) := by decide +kernel
theorem dX9_copyFrom_57 : decode cX9_copyFrom 57 = .ok (.aload_n 1, 1) := by decide +kernel
theorem dX9_copyFrom_58 : decode cX9_copyFrom 58 = .ok (.getfield 9, 3) := by decide +kernel
theorem dX9_copyFrom_61 : decode cX9_copyFrom 61 = .ok (.putfield 9, 3) := by decide +kernel
theorem dX9_copyFrom_64 : decode cX9_copyFrom 64 = .ok (.aload_n 0, 1) := by decide +kernel
theorem dX9_copyFrom_65 : decode cX9_copyFrom 65 = .ok (.aload_n 1, 1) := by decide +kernel
theorem dX9_copyFrom_66 : decode cX9_copyFrom 66 = .ok (.getfield 15, 3) := by decide +kernel
theorem dX9_copyFrom_69 : decode cX9_copyFrom 69 = .ok (.putfield 15, 3) := by decide +kernel
theorem dX9_copyFrom_72 : decode cX9_copyFrom 72 = .ok (.aload_n 0, 1) := by decide +kernel
theorem dX9_copyFrom_73 : decode cX9_copyFrom 73 = .ok (.aload_n 1, 1) := by decide +kernel
theorem dX9_copyFrom_74 : decode cX9_copyFrom 74 = .ok (.getfield 18, 3) := by decide +kernel
theorem dX9_copyFrom_77 : decode cX9_copyFrom 77 = .ok (.putfield 18, 3) := by decide +kernel
theorem dX9_copyFrom_80 : decode cX9_copyFrom 80 = .ok (.return_, 1) := by decide +kernel
theorem dX9_look_0 : decode cX9_look 0 = .ok (.aload_n 0, 1) := by decide +kernel
theorem dX9_look_1 : decode cX9_look 1 = .ok (.getfield 34, 3) := by decide +kernel
theorem dX9_look_4 : decode cX9_look 4 = .ok (.iload_n 1, 1) := by decide +kernel
theorem dX9_look_5 : decode cX9_look 5 = .ok (.ishr, 1) := by decide +kernel
theorem dX9_look_6 : decode cX9_look 6 = .ok (.iconst 1, 1) := by decide +kernel
theorem dX9_look_7 : decode cX9_look 7 = .ok (.iand, 1) := by decide +kernel
theorem dX9_look_8 : decode cX9_look 8 = .ok (.ifCond .ne 4, 3) := by decide +kernel
theorem dX9_look_11 : decode cX9_look 11 = .ok (.return_, 1) := by decide +kernel
theorem dX9_look_12 : decode cX9_look 12 = .ok (.aload_n 0, 1) := by decide +kernel
theorem dX9_look_13 : decode cX9_look 13 = .ok (.iload 4, 2) := by decide +kernel
theorem dX9_look_15 : decode cX9_look 15 = .ok (.aload_n 0, 1) := by decide +kernel
theorem dX9_look_16 : decode cX9_look 16 = .ok (.getfield 25, 3) := by decide +kernel
theorem dX9_look_19 : decode cX9_look 19 = .ok (.if_icmp .lt 12, 3) := by decide +kernel
theorem dX9_look_22 : decode cX9_look 22 = .ok (.iload 4, 2) := by decide +kernel
theorem dX9_look_24 : decode cX9_look 24 = .ok (.aload_n 0, 1) := by decide +kernel
