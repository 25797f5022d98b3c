theorem dX8_played_46 : decode cX8_played 46 = .ok (.athrow, 1) := by decide +kernel
theorem dX8_played_47 : decode cX8_played 47 = .ok (.aload 5, 2) := by decide +kernel
theorem dX8_played_49 : decode cX8_played 49 = .ok (.iload_n 2, 1) := by decide +kernel
theorem dX8_played_50 : decode cX8_played 50 = .ok (.invokevirtual 311, 3) := by decide +kernel
theorem dX8_played_53 : decode cX8_played 53 = .ok (.aload 5, 2) := by decide +kernel
theorem dX8_played_55 : decode cX8_played 55 = .ok (.getfield 315, 3) := by decide +kernel
theorem dX8_played_58 : decode cX8_played 58 = .ok (.iload 6, 2) := by decide +kernel
theorem dX8_played_60 : decode cX8_played 60 = .ok (.iaload, 1) := by decide +kernel
theorem dX8_played_61 : decode cX8_played 61 = .ok (.ireturn, 1) := by decide +kernel
theorem dX8_noted_0 : decode cX8_noted 0 = .ok (.aload_n 0, 1) := by decide +kernel
theorem dX8_noted_1 : decode cX8_noted 1 = .ok (.iload_n 1, 1) := by decide +kernel
theorem dX8_noted_2 : decode cX8_noted 2 = .ok (.invokevirtual 37, 3) := by decide +kernel
theorem dX8_noted_5 : decode cX8_noted 5 = .ok (.getfield 298, 3) := by decide +kernel
theorem dX8_noted_8 : decode cX8_noted 8 = .ok (.astore_n 2, 1) := by decide +kernel
theorem dX8_noted_9 : decode cX8_noted 9 = .ok (.aload_n 2, 1) := by decide +kernel
theorem dX8_noted_10 : decode cX8_noted 10 = .ok (.ifnonnull 14, 3) := by decide +kernel
theorem dX8_noted_13 : decode cX8_noted 13 = .ok (.new 258, 3) := by decide +kernel
theorem dX8_noted_16 : decode cX8_noted 16 = .ok (.dup, 1) := by decide +kernel
theorem dX8_noted_17 : decode cX8_noted 17 = .ok (.ldc_w 318, 3) := by decide +kernel
theorem dX8_noted_20 : decode cX8_noted 20 = .ok (.invokespecial 262, 3) := by decide +kernel
theorem dX8_noted_23 : decode cX8_noted 23 = .ok (.athrow, 1) := by decide +kernel
theorem dX8_noted_24 : decode cX8_noted 24 = .ok (.aload_n 2, 1) := by decide +kernel
theorem dX8_noted_25 : decode cX8_noted 25 = .ok (.getfield 320, 3) := by decide +kernel
theorem dX8_noted_28 : decode cX8_noted 28 = .ok (.ireturn, 1) := by decide +kernel
theorem dX8_isConsistent_0 : decode cX8_isConsistent 0 = .ok (.aload_n 0, 1) := by decide +kernel
theorem dX8_isConsistent_1 : decode cX8_isConsistent 1 = .ok (.getfield 11, 3) := by decide +kernel
theorem dX8_isConsistent_4 : decode cX8_isConsistent 4 = .ok (.astore_n 1, 1) := by decide +kernel
theorem dX8_isConsistent_5 : decode cX8_isConsistent 5 = .ok (.aload_n 1, 1) := by decide +kernel
theorem dX8_isConsistent_6 : decode cX8_isConsistent 6 = .ok (.arraylength, 1) := by decide +kernel
theorem dX8_isConsistent_7 : decode cX8_isConsistent 7 = .ok (.istore_n 2, 1) := by decide +kernel
theorem dX8_isConsistent_8 : decode cX8_isConsistent 8 = .ok (.iconst 0, 1) := by decide +kernel
theorem dX8_isConsistent_9 : decode cX8_isConsistent 9 = .ok (.istore_n 3, 1) := by decide +kernel
theorem dX8_isConsistent_10 : decode cX8_isConsistent 10 = .ok (.iload_n 3, 1) := by decide +kernel
theorem dX8_isConsistent_11 : decode cX8_isConsistent 11 = .ok (.iload_n 2, 1) := by decide +kernel
theorem dX8_isConsistent_12 : decode cX8_isConsistent 12 = .ok (.if_icmp .ge 29, 3) := by decide +kernel
theorem dX8_isConsistent_15 : decode cX8_isConsistent 15 = .ok (.aload_n 1, 1) := by decide +kernel
theorem dX8_isConsistent_16 : decode cX8_isConsistent 16 = .ok (.iload_n 3, 1) := by decide +kernel
theorem dX8_isConsistent_17 : decode cX8_isConsistent 17 = .ok (.aaload, 1) := by decide +kernel
theorem dX8_isConsistent_18 : decode cX8_isConsistent 18 = .ok (.astore 4, 2) := by decide +kernel
theorem dX8_isConsistent_20 : decode cX8_isConsistent 20 = .ok (.aload 4, 2) := by decide +kernel
theorem dX8_isConsistent_22 : decode cX8_isConsistent 22 = .ok (.ifnull 13, 3) := by decide +kernel
theorem dX8_isConsistent_25 : decode cX8_isConsistent 25 = .ok (.aload 4, 2) := by decide +kernel
theorem dX8_isConsistent_27 : decode cX8_isConsistent 27 = .ok (.invokevirtual 325, 3) := by decide +kernel
theorem dX8_isConsistent_30 : decode cX8_isConsistent 30 = .ok (.ifCond .ne 5, 3) := by decide +kernel
theorem dX8_isConsistent_33 : decode cX8_isConsistent 33 = .ok (.iconst 0, 1) := by decide +kernel
theorem dX8_isConsistent_34 : decode cX8_isConsistent 34 = .ok (.ireturn, 1) := by decide +kernel
theorem dX8_isConsistent_35 : decode cX8_isConsistent 35 = .ok (.iinc 3 1, 3) := by decide +kernel
theorem dX8_isConsistent_38 : decode cX8_isConsistent 38 = .ok (.goto (-28), 3) := by decide +kernel
theorem dX8_isConsistent_41 : decode cX8_isConsistent 41 = .ok (.aload_n 0, 1) := by decide +kernel
theorem dX8_isConsistent_42 : decode cX8_isConsistent 42 = .ok (.getfield 17, 3) := by decide +kernel
theorem dX8_isConsistent_45 : decode cX8_isConsistent 45 = .ok (.astore_n 1, 1) := by decide +kernel
theorem dX8_isConsistent_46 : decode cX8_isConsistent 46 = .ok (.aload_n 1, 1) := by decide +kernel
theorem dX8_isConsistent_47 : decode cX8_isConsistent 47 = .ok (.arraylength, 1) := by decide +kernel
theorem dX8_isConsistent_48 : decode cX8_isConsistent 48 = .ok (.istore_n 2, 1) := by decide +kernel
theorem dX8_isConsistent_49 : decode cX8_isConsistent 49 = .ok (.iconst 0, 1) := by decide +kernel
theorem dX8_isConsistent_50 : decode cX8_isConsistent 50 = .ok (.istore_n 3, 1) := by decide +kernel
theorem dX8_isConsistent_51 : decode cX8_isConsistent 51 = .ok (.iload_n 3, 1) := by decide +kernel
theorem dX8_isConsistent_52 : decode cX8_isConsistent 52 = .ok (.iload_n 2, 1) := by decide +kernel
theorem dX8_isConsistent_53 : decode cX8_isConsistent 53 = .ok (.if_icmp .ge 35, 3) := by decide +kernel
theorem dX8_isConsistent_56 : decode cX8_isConsistent 56 = .ok (.aload_n 1, 1) := by decide +kernel
theorem dX8_isConsistent_57 : decode cX8_isConsistent 57 = .ok (.iload_n 3, 1) := by decide +kernel
theorem dX8_isConsistent_58 : decode cX8_isConsistent 58 = .ok (.aaload, 1) := by decide +kernel
theorem dX8_isConsistent_59 : decode cX8_isConsistent 59 = .ok (.astore 4, 2) := by decide +kernel
theorem dX8_isConsistent_61 : decode cX8_isConsistent 61 = .ok (.aload 4, 2) := by decide +kernel
theorem dX8_isConsistent_63 : decode cX8_isConsistent 63 = .ok (.ifnull 19, 3) := by decide +kernel
theorem dX8_isConsistent_66 : decode cX8_isConsistent 66 = .ok (.aload 4, 2) := by decide +kernel
theorem dX8_isConsistent_68 : decode cX8_isConsistent 68 = .ok (.getfield 146, 3) := by decide +kernel
theorem dX8_isConsistent_71 : decode cX8_isConsistent 71 = .ok (.iconst 0, 1) := by decide +kernel
theorem dX8_isConsistent_72 : decode cX8_isConsistent 72 = .ok (.bipush 60, 2) := by decide +kernel
theorem dX8_isConsistent_74 : decode cX8_isConsistent 74 = .ok (.invokestatic 116, 3) := by decide +kernel
theorem dX8_isConsistent_77 : decode cX8_isConsistent 77 = .ok (.ifCond .ne 5, 3) := by decide +kernel
theorem dX8_isConsistent_80 : decode cX8_isConsistent 80 = .ok (.iconst 0, 1) := by decide +kernel
theorem dX8_isConsistent_81 : decode cX8_isConsistent 81 = .ok (.ireturn, 1) := by decide +kernel
theorem dX8_isConsistent_82 : decode cX8_isConsistent 82 = .ok (.iinc 3 1, 3) := by decide +kernel
theorem dX8_isConsistent_85 : decode cX8_isConsistent 85 = .ok (.goto (-34), 3) := by decide +kernel
theorem dX8_isConsistent_88 : decode cX8_isConsistent 88 = .ok (.iconst 1, 1) := by decide +kernel
theorem dX8_isConsistent_89 : decode cX8_isConsistent 89 = .ok (.ireturn, 1) := by decide +kernel
theorem dX8_isWithin_0 : decode cX8_isWithin 0 = .ok (.iload_n 0, 1) := by decide +kernel
theorem dX8_isWithin_1 : decode cX8_isWithin 1 = .ok (.iload_n 1, 1) := by decide +kernel
theorem dX8_isWithin_2 : decode cX8_isWithin 2 = .ok (.if_icmp .lt 12, 3) := by decide +kernel
theorem dX8_isWithin_5 : decode cX8_isWithin 5 = .ok (.iload_n 0, 1) := by decide +kernel
theorem dX8_isWithin_6 : decode cX8_isWithin 6 = .ok (.iload_n 2, 1) := by decide +kernel
theorem dX8_isWithin_7 : decode cX8_isWithin 7 = .ok (.if_icmp .gt 7, 3) := by decide +kernel
theorem dX8_isWithin_10 : decode cX8_isWithin 10 = .ok (.iconst 1, 1) := by decide +kernel
theorem dX8_isWithin_11 : decode cX8_isWithin 11 = .ok (.goto 4, 3) := by decide +kernel
theorem dX8_isWithin_14 : decode cX8_isWithin 14 = .ok (.iconst 0, 1) := by decide +kernel
theorem dX8_isWithin_15 : decode cX8_isWithin 15 = .ok (.ireturn, 1) := by decide +kernel
theorem dX8_isScreenCell_0 : decode cX8_isScreenCell 0 = .ok (.iload_n 0, 1) := by decide +kernel
theorem dX8_isScreenCell_1 : decode cX8_isScreenCell 1 = .ok (.iconst 0, 1) := by decide +kernel
theorem dX8_isScreenCell_2 : decode cX8_isScreenCell 2 = .ok (.bipush 11, 2) := by decide +kernel
theorem dX8_isScreenCell_4 : decode cX8_isScreenCell 4 = .ok (.invokestatic 116, 3) := by decide +kernel
theorem dX8_isScreenCell_7 : decode cX8_isScreenCell 7 = .ok (.ifCond .eq 17, 3) := by decide +kernel
theorem dX8_isScreenCell_10 : decode cX8_isScreenCell 10 = .ok (.iload_n 1, 1) := by decide +kernel
theorem dX8_isScreenCell_11 : decode cX8_isScreenCell 11 = .ok (.iconst 0, 1) := by decide +kernel
theorem dX8_isScreenCell_12 : decode cX8_isScreenCell 12 = .ok (.bipush 7, 2) := by decide +kernel
theorem dX8_isScreenCell_14 : decode cX8_isScreenCell 14 = .ok (.invokestatic 116, 3) := by decide +kernel
theorem dX8_isScreenCell_17 : decode cX8_isScreenCell 17 = .ok (.ifCond .eq 7, 3) := by decide +kernel
theorem dX8_isScreenCell_20 : decode cX8_isScreenCell 20 = .ok (.iconst 1, 1) := by decide +kernel
theorem dX8_isScreenCell_21 : decode cX8_isScreenCell 21 = .ok (.goto 4, 3) := by decide +kernel
theorem dX8_isScreenCell_24 : decode cX8_isScreenCell 24 = .ok (.iconst 0, 1) := by decide +kernel
theorem dX8_isScreenCell_25 : decode cX8_isScreenCell 25 = .ok (.ireturn, 1) := by decide +kernel
theorem dX8_isWindowPlace_0 : decode cX8_isWindowPlace 0 = .ok (.iload_n 0, 1) := by decide +kernel
theorem dX8_isWindowPlace_1 : decode cX8_isWindowPlace 1 = .ok (.bipush (-5), 2) := by decide +kernel
theorem dX8_isWindowPlace_3 : decode cX8_isWindowPlace 3 = .ok (.bipush 11, 2) := by decide +kernel
theorem dX8_isWindowPlace_5 : decode cX8_isWindowPlace 5 = .ok (.invokestatic 116, 3) := by decide +kernel
theorem dX8_isWindowPlace_8 : decode cX8_isWindowPlace 8 = .ok (.ifCond .eq 18, 3) := by decide +kernel
theorem dX8_isWindowPlace_11 : decode cX8_isWindowPlace 11 = .ok (.iload_n 1, 1) := by decide +kernel
theorem dX8_isWindowPlace_12 : decode cX8_isWindowPlace 12 = .ok (.bipush (-5), 2) := by decide +kernel
theorem dX8_isWindowPlace_14 : decode cX8_isWindowPlace 14 = .ok (.bipush 7, 2) := by decide +kernel
theorem dX8_isWindowPlace_16 : decode cX8_isWindowPlace 16 = .ok (.invokestatic 116, 3) := by decide +kernel
theorem dX8_isWindowPlace_19 : decode cX8_isWindowPlace 19 = .ok (.ifCond .eq 7, 3) := by decide +kernel
theorem dX8_isWindowPlace_22 : decode cX8_isWindowPlace 22 = .ok (.iconst 1, 1) := by decide +kernel
theorem dX8_isWindowPlace_23 : decode cX8_isWindowPlace 23 = .ok (.goto 4, 3) := by decide +kernel
theorem dX8_isWindowPlace_26 : decode cX8_isWindowPlace 26 = .ok (.iconst 0, 1) := by decide +kernel
theorem dX8_isWindowPlace_27 : decode cX8_isWindowPlace 27 = .ok (.ireturn, 1) := by decide +kernel
theorem dX8_isSize_0 : decode cX8_isSize 0 = .ok (.iload_n 0, 1) := by decide +kernel
theorem dX8_isSize_1 : decode cX8_isSize 1 = .ok (.iconst 1, 1) := by decide +kernel
theorem dX8_isSize_2 : decode cX8_isSize 2 = .ok (.bipush 12, 2) := by decide +kernel
theorem dX8_isSize_4 : decode cX8_isSize 4 = .ok (.invokestatic 116, 3) := by decide +kernel
theorem dX8_isSize_7 : decode cX8_isSize 7 = .ok (.ifCond .eq 17, 3) := by decide +kernel
theorem dX8_isSize_10 : decode cX8_isSize 10 = .ok (.iload_n 1, 1) := by decide +kernel
theorem dX8_isSize_11 : decode cX8_isSize 11 = .ok (.iconst 1, 1) := by decide +kernel
theorem dX8_isSize_12 : decode cX8_isSize 12 = .ok (.bipush 8, 2) := by decide +kernel
theorem dX8_isSize_14 : decode cX8_isSize 14 = .ok (.invokestatic 116, 3) := by decide +kernel
theorem dX8_isSize_17 : decode cX8_isSize 17 = .ok (.ifCond .eq 7, 3) := by decide +kernel
theorem dX8_isSize_20 : decode cX8_isSize 20 = .ok (.iconst 1, 1) := by decide +kernel
theorem dX8_isSize_21 : decode cX8_isSize 21 = .ok (.goto 4, 3) := by decide +kernel
theorem dX8_isSize_24 : decode cX8_isSize 24 = .ok (.iconst 0, 1) := by decide +kernel
theorem dX8_isSize_25 : decode cX8_isSize 25 = .ok (.ireturn, 1) := by decide +kernel
theorem dX8_screenCell_0 : decode cX8_screenCell 0 = .ok (.iload_n 0, 1) := by decide +kernel
theorem dX8_screenCell_1 : decode cX8_screenCell 1 = .ok (.iload_n 1, 1) := by decide +kernel
theorem dX8_screenCell_2 : decode cX8_screenCell 2 = .ok (.invokestatic 113, 3) := by decide +kernel
theorem dX8_screenCell_5 : decode cX8_screenCell 5 = .ok (.ifCond .ne 14, 3) := by decide +kernel
theorem dX8_screenCell_8 : decode cX8_screenCell 8 = .ok (.new 245, 3) := by decide +kernel
theorem dX8_screenCell_11 : decode cX8_screenCell 11 = .ok (.dup, 1) := by decide +kernel
theorem dX8_screenCell_12 : decode cX8_screenCell 12 = .ok (.ldc_w 329, 3) := by decide +kernel
theorem dX8_screenCell_15 : decode cX8_screenCell 15 = .ok (.invokespecial 249, 3) := by decide +kernel
theorem dX8_screenCell_18 : decode cX8_screenCell 18 = .ok (.athrow, 1) := by decide +kernel
theorem dX8_screenCell_19 : decode cX8_screenCell 19 = .ok (.iload_n 1, 1) := by decide +kernel
theorem dX8_screenCell_20 : decode cX8_screenCell 20 = .ok (.bipush 12, 2) := by decide +kernel
theorem dX8_screenCell_22 : decode cX8_screenCell 22 = .ok (.imul, 1) := by decide +kernel
theorem dX8_screenCell_23 : decode cX8_screenCell 23 = .ok (.iload_n 0, 1) := by decide +kernel
theorem dX8_screenCell_24 : decode cX8_screenCell 24 = .ok (.iadd, 1) := by decide +kernel
theorem dX8_screenCell_25 : decode cX8_screenCell 25 = .ok (.ireturn, 1) := by decide +kernel
theorem dX8_rightNumber_0 : decode cX8_rightNumber 0 = .ok (.iload_n 0, 1) := by decide +kernel
theorem dX8_rightNumber_1 : decode cX8_rightNumber 1 = .ok (.iconst 4, 1) := by decide +kernel
theorem dX8_rightNumber_2 : decode cX8_rightNumber 2 = .ok (.imul, 1) := by decide +kernel
theorem dX8_rightNumber_3 : decode cX8_rightNumber 3 = .ok (.iload_n 1, 1) := by decide +kernel
theorem dX8_rightNumber_4 : decode cX8_rightNumber 4 = .ok (.iadd, 1) := by decide +kernel
theorem dX8_rightNumber_5 : decode cX8_rightNumber 5 = .ok (.iconst 3, 1) := by decide +kernel
theorem dX8_rightNumber_6 : decode cX8_rightNumber 6 = .ok (.imul, 1) := by decide +kernel
theorem dX8_rightNumber_7 : decode cX8_rightNumber 7 = .ok (.iload_n 2, 1) := by decide +kernel
theorem dX8_rightNumber_8 : decode cX8_rightNumber 8 = .ok (.iadd, 1) := by decide +kernel
theorem dX8_rightNumber_9 : decode cX8_rightNumber 9 = .ok (.ireturn, 1) := by decide +kernel
theorem dX8_isSession_0 : decode cX8_isSession 0 = .ok (.iload_n 1, 1) := by decide +kernel
theorem dX8_isSession_1 : decode cX8_isSession 1 = .ok (.iconst 0, 1) := by decide +kernel
theorem dX8_isSession_2 : decode cX8_isSession 2 = .ok (.iconst 3, 1) := by decide +kernel
theorem dX8_isSession_3 : decode cX8_isSession 3 = .ok (.invokestatic 116, 3) := by decide +kernel
theorem dX8_isSession_6 : decode cX8_isSession 6 = .ok (.ifCond .eq 16, 3) := by decide +kernel
theorem dX8_isSession_9 : decode cX8_isSession 9 = .ok (.aload_n 0, 1) := by decide +kernel
theorem dX8_isSession_10 : decode cX8_isSession 10 = .ok (.getfield 11, 3) := by decide +kernel
theorem dX8_isSession_13 : decode cX8_isSession 13 = .ok (.iload_n 1, 1) := by decide +kernel
theorem dX8_isSession_14 : decode cX8_isSession 14 = .ok (.aaload, 1) := by decide +kernel
theorem dX8_isSession_15 : decode cX8_isSession 15 = .ok (.ifnull 7, 3) := by decide +kernel
theorem dX8_isSession_18 : decode cX8_isSession 18 = .ok (.iconst 1, 1) := by decide +kernel
theorem dX8_isSession_19 : decode cX8_isSession 19 = .ok (.goto 4, 3) := by decide +kernel
theorem dX8_isSession_22 : decode cX8_isSession 22 = .ok (.iconst 0, 1) := by decide +kernel
theorem dX8_isSession_23 : decode cX8_isSession 23 = .ok (.ireturn, 1) := by decide +kernel
theorem dX8_sessionAt_0 : decode cX8_sessionAt 0 = .ok (.aload_n 0, 1) := by decide +kernel
theorem dX8_sessionAt_1 : decode cX8_sessionAt 1 = .ok (.iload_n 1, 1) := by decide +kernel
theorem dX8_sessionAt_2 : decode cX8_sessionAt 2 = .ok (.invokevirtual 241, 3) := by decide +kernel
theorem dX8_sessionAt_5 : decode cX8_sessionAt 5 = .ok (.ifCond .ne 13, 3) := by decide +kernel
theorem dX8_sessionAt_8 : decode cX8_sessionAt 8 = .ok (.new 245, 3) := by decide +kernel
theorem dX8_sessionAt_11 : decode cX8_sessionAt 11 = .ok (.dup, 1) := by decide +kernel
theorem dX8_sessionAt_12 : decode cX8_sessionAt 12 = .ok (.ldc 247, 2) := by decide +kernel
theorem dX8_sessionAt_14 : decode cX8_sessionAt 14 = .ok (.invokespecial 249, 3) := by decide +kernel
theorem dX8_sessionAt_17 : decode cX8_sessionAt 17 = .ok (.athrow, 1) := by decide +kernel
theorem dX8_sessionAt_18 : decode cX8_sessionAt 18 = .ok (.aload_n 0, 1) := by decide +kernel
theorem dX8_sessionAt_19 : decode cX8_sessionAt 19 = .ok (.getfield 11, 3) := by decide +kernel
theorem dX8_sessionAt_22 : decode cX8_sessionAt 22 = .ok (.iload_n 1, 1) := by decide +kernel
theorem dX8_sessionAt_23 : decode cX8_sessionAt 23 = .ok (.aaload, 1) := by decide +kernel
theorem dX8_sessionAt_24 : decode cX8_sessionAt 24 = .ok (.areturn, 1) := by decide +kernel
theorem dX8_windowAt_0 : decode cX8_windowAt 0 = .ok (.iload_n 1, 1) := by decide +kernel
theorem dX8_windowAt_1 : decode cX8_windowAt 1 = .ok (.iconst 0, 1) := by decide +kernel
theorem dX8_windowAt_2 : decode cX8_windowAt 2 = .ok (.aload_n 0, 1) := by decide +kernel
theorem dX8_windowAt_3 : decode cX8_windowAt 3 = .ok (.getfield 53, 3) := by decide +kernel
theorem dX8_windowAt_6 : decode cX8_windowAt 6 = .ok (.iconst 1, 1) := by decide +kernel
theorem dX8_windowAt_7 : decode cX8_windowAt 7 = .ok (.isub, 1) := by decide +kernel
theorem dX8_windowAt_8 : decode cX8_windowAt 8 = .ok (.invokestatic 116, 3) := by decide +kernel
theorem dX8_windowAt_11 : decode cX8_windowAt 11 = .ok (.ifCond .ne 14, 3) := by decide +kernel
theorem dX8_windowAt_14 : decode cX8_windowAt 14 = .ok (.new 245, 3) := by decide +kernel
theorem dX8_windowAt_17 : decode cX8_windowAt 17 = .ok (.dup, 1) := by decide +kernel
theorem dX8_windowAt_18 : decode cX8_windowAt 18 = .ok (.ldc_w 331, 3) := by decide +kernel
theorem dX8_windowAt_21 : decode cX8_windowAt 21 = .ok (.invokespecial 249, 3) := by decide +kernel
theorem dX8_windowAt_24 : decode cX8_windowAt 24 = .ok (.athrow, 1) := by decide +kernel
theorem dX8_windowAt_25 : decode cX8_windowAt 25 = .ok (.aload_n 0, 1) := by decide +kernel
theorem dX8_windowAt_26 : decode cX8_windowAt 26 = .ok (.getfield 333, 3) := by decide +kernel
theorem dX8_windowAt_29 : decode cX8_windowAt 29 = .ok (.iload_n 1, 1) := by decide +kernel
theorem dX8_windowAt_30 : decode cX8_windowAt 30 = .ok (.aaload, 1) := by decide +kernel
theorem dX8_windowAt_31 : decode cX8_windowAt 31 = .ok (.astore_n 2, 1) := by decide +kernel
theorem dX8_windowAt_32 : decode cX8_windowAt 32 = .ok (.aload_n 2, 1) := by decide +kernel
theorem dX8_windowAt_33 : decode cX8_windowAt 33 = .ok (.ifnull 10, 3) := by decide +kernel
theorem dX8_windowAt_36 : decode cX8_windowAt 36 = .ok (.aload_n 2, 1) := by decide +kernel
theorem dX8_windowAt_37 : decode cX8_windowAt 37 = .ok (.getfield 72, 3) := by decide +kernel
theorem dX8_windowAt_40 : decode cX8_windowAt 40 = .ok (.ifCond .ne 14, 3) := by decide +kernel
theorem dX8_windowAt_43 : decode cX8_windowAt 43 = .ok (.new 245, 3) := by decide +kernel
theorem dX8_windowAt_46 : decode cX8_windowAt 46 = .ok (.dup, 1) := by decide +kernel
theorem dX8_windowAt_47 : decode cX8_windowAt 47 = .ok (.ldc_w 337, 3) := by decide +kernel
theorem dX8_windowAt_50 : decode cX8_windowAt 50 = .ok (.invokespecial 249, 3) := by decide +kernel
theorem dX8_windowAt_53 : decode cX8_windowAt 53 = .ok (.athrow, 1) := by decide +kernel
theorem dX8_windowAt_54 : decode cX8_windowAt 54 = .ok (.aload_n 2, 1) := by decide +kernel
theorem dX8_windowAt_55 : decode cX8_windowAt 55 = .ok (.areturn, 1) := by decide +kernel
theorem dX8_clientAt_0 : decode cX8_clientAt 0 = .ok (.iload_n 1, 1) := by decide +kernel
theorem dX8_clientAt_1 : decode cX8_clientAt 1 = .ok (.iconst 0, 1) := by decide +kernel
theorem dX8_clientAt_2 : decode cX8_clientAt 2 = .ok (.iconst 5, 1) := by decide +kernel
theorem dX8_clientAt_3 : decode cX8_clientAt 3 = .ok (.invokestatic 116, 3) := by decide +kernel
theorem dX8_clientAt_6 : decode cX8_clientAt 6 = .ok (.ifCond .eq 12, 3) := by decide +kernel
theorem dX8_clientAt_9 : decode cX8_clientAt 9 = .ok (.aload_n 0, 1) := by decide +kernel
theorem dX8_clientAt_10 : decode cX8_clientAt 10 = .ok (.getfield 17, 3) := by decide +kernel
theorem dX8_clientAt_13 : decode cX8_clientAt 13 = .ok (.iload_n 1, 1) := by decide +kernel
theorem dX8_clientAt_14 : decode cX8_clientAt 14 = .ok (.aaload, 1) := by decide +kernel
theorem dX8_clientAt_15 : decode cX8_clientAt 15 = .ok (.ifnonnull 14, 3) := by decide +kernel
theorem dX8_clientAt_18 : decode cX8_clientAt 18 = .ok (.new 245, 3) := by decide +kernel
theorem dX8_clientAt_21 : decode cX8_clientAt 21 = .ok (.dup, 1) := by decide +kernel
theorem dX8_clientAt_22 : decode cX8_clientAt 22 = .ok (.ldc_w 339, 3) := by decide +kernel
theorem dX8_clientAt_25 : decode cX8_clientAt 25 = .ok (.invokespecial 249, 3) := by decide +kernel
theorem dX8_clientAt_28 : decode cX8_clientAt 28 = .ok (.athrow, 1) := by decide +kernel
theorem dX8_clientAt_29 : decode cX8_clientAt 29 = .ok (.aload_n 0, 1) := by decide +kernel
theorem dX8_clientAt_30 : decode cX8_clientAt 30 = .ok (.getfield 17, 3) := by decide +kernel
theorem dX8_clientAt_33 : decode cX8_clientAt 33 = .ok (.iload_n 1, 1) := by decide +kernel
theorem dX8_clientAt_34 : decode cX8_clientAt 34 = .ok (.aaload, 1) := by decide +kernel
theorem dX8_clientAt_35 : decode cX8_clientAt 35 = .ok (.areturn, 1) := by decide +kernel
theorem dX8_nextChange_0 : decode cX8_nextChange 0 = .ok (.aload_n 0, 1) := by decide +kernel
theorem dX8_nextChange_1 : decode cX8_nextChange 1 = .ok (.iload_n 1, 1) := by decide +kernel
theorem dX8_nextChange_2 : decode cX8_nextChange 2 = .ok (.invokevirtual 139, 3) := by decide +kernel
theorem dX8_nextChange_5 : decode cX8_nextChange 5 = .ok (.getfield 341, 3) := by decide +kernel
theorem dX8_nextChange_8 : decode cX8_nextChange 8 = .ok (.astore_n 2, 1) := by decide +kernel
theorem dX8_nextChange_9 : decode cX8_nextChange 9 = .ok (.aload_n 2, 1) := by decide +kernel
theorem dX8_nextChange_10 : decode cX8_nextChange 10 = .ok (.invokevirtual 345, 3) := by decide +kernel
theorem dX8_nextChange_13 : decode cX8_nextChange 13 = .ok (.aload_n 2, 1) := by decide +kernel
theorem dX8_nextChange_14 : decode cX8_nextChange 14 = .ok (.getfield 170, 3) := by decide +kernel
theorem dX8_nextChange_17 : decode cX8_nextChange 17 = .ok (.bipush 32, 2) := by decide +kernel
theorem dX8_nextChange_19 : decode cX8_nextChange 19 = .ok (.if_icmp .ne 14, 3) := by decide +kernel
theorem dX8_nextChange_22 : decode cX8_nextChange 22 = .ok (.new 258, 3) := by decide +kernel
theorem dX8_nextChange_25 : decode cX8_nextChange 25 = .ok (.dup, 1) := by decide +kernel
theorem dX8_nextChange_26 : decode cX8_nextChange 26 = .ok (.ldc_w 348, 3) := by decide +kernel
theorem dX8_nextChange_29 : decode cX8_nextChange 29 = .ok (.invokespecial 262, 3) := by decide +kernel
theorem dX8_nextChange_32 : decode cX8_nextChange 32 = .ok (.athrow, 1) := by decide +kernel
theorem dX8_nextChange_33 : decode cX8_nextChange 33 = .ok (.aload_n 2, 1) := by decide +kernel
theorem dX8_nextChange_34 : decode cX8_nextChange 34 = .ok (.areturn, 1) := by decide +kernel
theorem dX8_canPass_0 : decode cX8_canPass 0 = .ok (.iconst 0, 1) := by decide +kernel
theorem dX8_canPass_1 : decode cX8_canPass 1 = .ok (.istore_n 3, 1) := by decide +kernel
theorem dX8_canPass_2 : decode cX8_canPass 2 = .ok (.iload_n 3, 1) := by decide +kernel
theorem dX8_canPass_3 : decode cX8_canPass 3 = .ok (.iconst 4, 1) := by decide +kernel
theorem dX8_canPass_4 : decode cX8_canPass 4 = .ok (.if_icmp .ge 56, 3) := by decide +kernel
theorem dX8_canPass_7 : decode cX8_canPass 7 = .ok (.aload_n 1, 1) := by decide +kernel
theorem dX8_canPass_8 : decode cX8_canPass 8 = .ok (.getfield 272, 3) := by decide +kernel
theorem dX8_canPass_11 : decode cX8_canPass 11 = .ok (.iconst 1, 1) := by decide +kernel
theorem dX8_canPass_12 : decode cX8_canPass 12 = .ok (.iload_n 3, 1) := by decide +kernel
theorem dX8_canPass_13 : decode cX8_canPass 13 = .ok (.ishl, 1) := by decide +kernel
theorem dX8_canPass_14 : decode cX8_canPass 14 = .ok (.iand, 1) := by decide +kernel
theorem dX8_canPass_15 : decode cX8_canPass 15 = .ok (.ifCond .eq 7, 3) := by decide +kernel
theorem dX8_canPass_18 : decode cX8_canPass 18 = .ok (.iconst 1, 1) := by decide +kernel
theorem dX8_canPass_19 : decode cX8_canPass 19 = .ok (.goto 4, 3) := by decide +kernel
theorem dX8_canPass_22 : decode cX8_canPass 22 = .ok (.iconst 0, 1) := by decide +kernel
theorem dX8_canPass_23 : decode cX8_canPass 23 = .ok (.istore 4, 2) := by decide +kernel
theorem dX8_canPass_25 : decode cX8_canPass 25 = .ok (.iload 4, 2) := by decide +kernel
theorem dX8_canPass_27 : decode cX8_canPass 27 = .ok (.ifCond .eq 27, 3) := by decide +kernel
theorem dX8_canPass_30 : decode cX8_canPass 30 = .ok (.iload_n 3, 1) := by decide +kernel
theorem dX8_canPass_31 : decode cX8_canPass 31 = .ok (.iload_n 2, 1) := by decide +kernel
theorem dX8_canPass_32 : decode cX8_canPass 32 = .ok (.if_icmp .eq 22, 3) := by decide +kernel
theorem dX8_canPass_35 : decode cX8_canPass 35 = .ok (.aload_n 0, 1) := by decide +kernel
theorem dX8_canPass_36 : decode cX8_canPass 36 = .ok (.getfield 21, 3) := by decide +kernel
theorem dX8_canPass_39 : decode cX8_canPass 39 = .ok (.iload_n 3, 1) := by decide +kernel
theorem dX8_canPass_40 : decode cX8_canPass 40 = .ok (.iload_n 2, 1) := by decide +kernel
theorem dX8_canPass_41 : decode cX8_canPass 41 = .ok (.aload_n 1, 1) := by decide +kernel
theorem dX8_canPass_42 : decode cX8_canPass 42 = .ok (.getfield 269, 3) := by decide +kernel
theorem dX8_canPass_45 : decode cX8_canPass 45 = .ok (.invokestatic 252, 3) := by decide +kernel
theorem dX8_canPass_48 : decode cX8_canPass 48 = .ok (.baload, 1) := by decide +kernel
theorem dX8_canPass_49 : decode cX8_canPass 49 = .ok (.ifCond .ne 5, 3) := by decide +kernel
theorem dX8_canPass_52 : decode cX8_canPass 52 = .ok (.iconst 0, 1) := by decide +kernel
theorem dX8_canPass_53 : decode cX8_canPass 53 = .ok (.ireturn, 1) := by decide +kernel
theorem dX8_canPass_54 : decode cX8_canPass 54 = .ok (.iinc 3 1, 3) := by decide +kernel
theorem dX8_canPass_57 : decode cX8_canPass 57 = .ok (.goto (-55), 3) := by decide +kernel
theorem dX8_canPass_60 : decode cX8_canPass 60 = .ok (.iconst 1, 1) := by decide +kernel
theorem dX8_canPass_61 : decode cX8_canPass 61 = .ok (.ireturn, 1) := by decide +kernel
theorem dX8_passTick_0 : decode cX8_passTick 0 = .ok (.aload_n 0, 1) := by decide +kernel
theorem dX8_passTick_1 : decode cX8_passTick 1 = .ok (.getfield 11, 3) := by decide +kernel
theorem dX8_passTick_4 : decode cX8_passTick 4 = .ok (.astore_n 1, 1) := by decide +kernel
theorem dX8_passTick_5 : decode cX8_passTick 5 = .ok (.aload_n 1, 1) := by decide +kernel
theorem dX8_passTick_6 : decode cX8_passTick 6 = .ok (.arraylength, 1) := by decide +kernel
theorem dX8_passTick_7 : decode cX8_passTick 7 = .ok (.istore_n 2, 1) := by decide +kernel
theorem dX8_passTick_8 : decode cX8_passTick 8 = .ok (.iconst 0, 1) := by decide +kernel
theorem dX8_passTick_9 : decode cX8_passTick 9 = .ok (.istore_n 3, 1) := by decide +kernel
theorem dX8_passTick_10 : decode cX8_passTick 10 = .ok (.iload_n 3, 1) := by decide +kernel
theorem dX8_passTick_11 : decode cX8_passTick 11 = .ok (.iload_n 2, 1) := by decide +kernel
theorem dX8_passTick_12 : decode cX8_passTick 12 = .ok (.if_icmp .ge 24, 3) := by decide +kernel
theorem dX8_passTick_15 : decode cX8_passTick 15 = .ok (.aload_n 1, 1) := by decide +kernel
theorem dX8_passTick_16 : decode cX8_passTick 16 = .ok (.iload_n 3, 1) := by decide +kernel
theorem dX8_passTick_17 : decode cX8_passTick 17 = .ok (.aaload, 1) := by decide +kernel
theorem dX8_passTick_18 : decode cX8_passTick 18 = .ok (.astore 4, 2) := by decide +kernel
theorem dX8_passTick_20 : decode cX8_passTick 20 = .ok (.aload 4, 2) := by decide +kernel
theorem dX8_passTick_22 : decode cX8_passTick 22 = .ok (.ifnull 8, 3) := by decide +kernel
theorem dX8_passTick_25 : decode cX8_passTick 25 = .ok (.aload 4, 2) := by decide +kernel
theorem dX8_passTick_27 : decode cX8_passTick 27 = .ok (.invokevirtual 350, 3) := by decide +kernel
theorem dX8_passTick_30 : decode cX8_passTick 30 = .ok (.iinc 3 1, 3) := by decide +kernel
theorem dX8_passTick_33 : decode cX8_passTick 33 = .ok (.goto (-23), 3) := by decide +kernel
theorem dX8_passTick_36 : decode cX8_passTick 36 = .ok (.aload_n 0, 1) := by decide +kernel
theorem dX8_passTick_37 : decode cX8_passTick 37 = .ok (.invokevirtual 353, 3) := by decide +kernel
theorem dX8_passTick_40 : decode cX8_passTick 40 = .ok (.istore_n 1, 1) := by decide +kernel
theorem dX8_passTick_41 : decode cX8_passTick 41 = .ok (.aload_n 0, 1) := by decide +kernel
theorem dX8_passTick_42 : decode cX8_passTick 42 = .ok (.getfield 11, 3) := by decide +kernel
theorem dX8_passTick_45 : decode cX8_passTick 45 = .ok (.astore_n 2, 1) := by decide +kernel
theorem dX8_passTick_46 : decode cX8_passTick 46 = .ok (.aload_n 2, 1) := by decide +kernel
theorem dX8_passTick_47 : decode cX8_passTick 47 = .ok (.arraylength, 1) := by decide +kernel
theorem dX8_passTick_48 : decode cX8_passTick 48 = .ok (.istore_n 3, 1) := by decide +kernel
theorem dX8_passTick_49 : decode cX8_passTick 49 = .ok (.iconst 0, 1) := by decide +kernel
theorem dX8_passTick_50 : decode cX8_passTick 50 = .ok (.istore 4, 2) := by decide +kernel
theorem dX8_passTick_52 : decode cX8_passTick 52 = .ok (.iload 4, 2) := by decide +kernel
theorem dX8_passTick_54 : decode cX8_passTick 54 = .ok (.iload_n 3, 1) := by decide +kernel
theorem dX8_passTick_55 : decode cX8_passTick 55 = .ok (.if_icmp .ge 30, 3) := by decide +kernel
theorem dX8_passTick_58 : decode cX8_passTick 58 = .ok (.aload_n 2, 1) := by decide +kernel
theorem dX8_passTick_59 : decode cX8_passTick 59 = .ok (.iload 4, 2) := by decide +kernel
theorem dX8_passTick_61 : decode cX8_passTick 61 = .ok (.aaload, 1) := by decide +kernel
theorem dX8_passTick_62 : decode cX8_passTick 62 = .ok (.astore 5, 2) := by decide +kernel
theorem dX8_passTick_64 : decode cX8_passTick 64 = .ok (.aload 5, 2) := by decide +kernel
theorem dX8_passTick_66 : decode cX8_passTick 66 = .ok (.ifnull 13, 3) := by decide +kernel
theorem dX8_passTick_69 : decode cX8_passTick 69 = .ok (.aload 5, 2) := by decide +kernel
theorem dX8_passTick_71 : decode cX8_passTick 71 = .ok (.invokevirtual 356, 3) := by decide +kernel
theorem dX8_passTick_74 : decode cX8_passTick 74 = .ok (.aload 5, 2) := by decide +kernel
theorem dX8_passTick_76 : decode cX8_passTick 76 = .ok (.invokevirtual 359, 3) := by decide +kernel
theorem dX8_passTick_79 : decode cX8_passTick 79 = .ok (.iinc 4 1, 3) := by decide +kernel
theorem dX8_passTick_82 : decode cX8_passTick 82 = .ok (.goto (-30), 3) := by decide +kernel
theorem dX8_passTick_85 : decode cX8_passTick 85 = .ok (.iload_n 1, 1) := by decide +kernel
theorem dX8_passTick_86 : decode cX8_passTick 86 = .ok (.ireturn, 1) := by decide +kernel
theorem dX8_runLine_0 : decode cX8_runLine 0 = .ok (.aload_n 0, 1) := by decide +kernel
theorem dX8_runLine_1 : decode cX8_runLine 1 = .ok (.getfield 17, 3) := by decide +kernel
theorem dX8_runLine_4 : decode cX8_runLine 4 = .ok (.astore_n 1, 1) := by decide +kernel
theorem dX8_runLine_5 : decode cX8_runLine 5 = .ok (.aload_n 1, 1) := by decide +kernel
theorem dX8_runLine_6 : decode cX8_runLine 6 = .ok (.arraylength, 1) := by decide +kernel
theorem dX8_runLine_7 : decode cX8_runLine 7 = .ok (.istore_n 2, 1) := by decide +kernel
theorem dX8_runLine_8 : decode cX8_runLine 8 = .ok (.iconst 0, 1) := by decide +kernel
theorem dX8_runLine_9 : decode cX8_runLine 9 = .ok (.istore_n 3, 1) := by decide +kernel
theorem dX8_runLine_10 : decode cX8_runLine 10 = .ok (.iload_n 3, 1) := by decide +kernel
theorem dX8_runLine_11 : decode cX8_runLine 11 = .ok (.iload_n 2, 1) := by decide +kernel
theorem dX8_runLine_12 : decode cX8_runLine 12 = .ok (.if_icmp .ge 48, 3) := by decide +kernel
theorem dX8_runLine_15 : decode cX8_runLine 15 = .ok (.aload_n 1, 1) := by decide +kernel
theorem dX8_runLine_16 : decode cX8_runLine 16 = .ok (.iload_n 3, 1) := by decide +kernel
theorem dX8_runLine_17 : decode cX8_runLine 17 = .ok (.aaload, 1) := by decide +kernel
theorem dX8_runLine_18 : decode cX8_runLine 18 = .ok (.astore 4, 2) := by decide +kernel
theorem dX8_runLine_20 : decode cX8_runLine 20 = .ok (.aload 4, 2) := by decide +kernel
theorem dX8_runLine_22 : decode cX8_runLine 22 = .ok (.ifnull 32, 3) := by decide +kernel
theorem dX8_runLine_25 : decode cX8_runLine 25 = .ok (.aload 4, 2) := by decide +kernel
theorem dX8_runLine_27 : decode cX8_runLine 27 = .ok (.aload 4, 2) := by decide +kernel
theorem dX8_runLine_29 : decode cX8_runLine 29 = .ok (.getfield 146, 3) := by decide +kernel
theorem dX8_runLine_32 : decode cX8_runLine 32 = .ok (.aload 4, 2) := by decide +kernel
theorem dX8_runLine_34 : decode cX8_runLine 34 = .ok (.getfield 143, 3) := by decide +kernel
theorem dX8_runLine_37 : decode cX8_runLine 37 = .ok (.iadd, 1) := by decide +kernel
theorem dX8_runLine_38 : decode cX8_runLine 38 = .ok (.bipush 60, 2) := by decide +kernel
theorem dX8_runLine_40 : decode cX8_runLine 40 = .ok (.invokestatic 362, 3) := by decide +kernel
theorem dX8_runLine_43 : decode cX8_runLine 43 = .ok (.putfield 146, 3) := by decide +kernel
theorem dX8_runLine_46 : decode cX8_runLine 46 = .ok (.aload 4, 2) := by decide +kernel
theorem dX8_runLine_48 : decode cX8_runLine 48 = .ok (.getfield 341, 3) := by decide +kernel
theorem dX8_runLine_51 : decode cX8_runLine 51 = .ok (.invokevirtual 345, 3) := by decide +kernel
theorem dX8_runLine_54 : decode cX8_runLine 54 = .ok (.iinc 3 1, 3) := by decide +kernel
theorem dX8_runLine_57 : decode cX8_runLine 57 = .ok (.goto (-47), 3) := by decide +kernel
theorem dX8_runLine_60 : decode cX8_runLine 60 = .ok (.bipush 24, 2) := by decide +kernel
theorem dX8_runLine_62 : decode cX8_runLine 62 = .ok (.istore_n 1, 1) := by decide +kernel
theorem dX8_runLine_63 : decode cX8_runLine 63 = .ok (.iconst 0, 1) := by decide +kernel
theorem dX8_runLine_64 : decode cX8_runLine 64 = .ok (.istore_n 2, 1) := by decide +kernel
theorem dX8_runLine_65 : decode cX8_runLine 65 = .ok (.iload_n 2, 1) := by decide +kernel
theorem dX8_runLine_66 : decode cX8_runLine 66 = .ok (.bipush 24, 2) := by decide +kernel
theorem dX8_runLine_68 : decode cX8_runLine 68 = .ok (.if_icmp .ge 64, 3) := by decide +kernel
theorem dX8_runLine_71 : decode cX8_runLine 71 = .ok (.aload_n 0, 1) := by decide +kernel
theorem dX8_runLine_72 : decode cX8_runLine 72 = .ok (.iload_n 1, 1) := by decide +kernel
theorem dX8_runLine_73 : decode cX8_runLine 73 = .ok (.invokevirtual 367, 3) := by decide +kernel
theorem dX8_runLine_76 : decode cX8_runLine 76 = .ok (.astore_n 3, 1) := by decide +kernel
theorem dX8_runLine_77 : decode cX8_runLine 77 = .ok (.aload_n 3, 1) := by decide +kernel
theorem dX8_runLine_78 : decode cX8_runLine 78 = .ok (.ifnonnull 6, 3) := by decide +kernel
theorem dX8_runLine_81 : decode cX8_runLine 81 = .ok (.goto 51, 3) := by decide +kernel
theorem dX8_runLine_84 : decode cX8_runLine 84 = .ok (.aload_n 3, 1) := by decide +kernel
theorem dX8_runLine_85 : decode cX8_runLine 85 = .ok (.getfield 341, 3) := by decide +kernel
theorem dX8_runLine_88 : decode cX8_runLine 88 = .ok (.astore 4, 2) := by decide +kernel
theorem dX8_runLine_90 : decode cX8_runLine 90 = .ok (.iload_n 1, 1) := by decide +kernel
theorem dX8_runLine_91 : decode cX8_runLine 91 = .ok (.aload 4, 2) := by decide +kernel
theorem dX8_runLine_93 : decode cX8_runLine 93 = .ok (.getfield 176, 3) := by decide +kernel
theorem dX8_runLine_96 : decode cX8_runLine 96 = .ok (.isub, 1) := by decide +kernel
theorem dX8_runLine_97 : decode cX8_runLine 97 = .ok (.istore_n 1, 1) := by decide +kernel
theorem dX8_runLine_98 : decode cX8_runLine 98 = .ok (.aload_n 3, 1) := by decide +kernel
theorem dX8_runLine_99 : decode cX8_runLine 99 = .ok (.aload_n 3, 1) := by decide +kernel
theorem dX8_runLine_100 : decode cX8_runLine 100 = .ok (.getfield 146, 3) := by decide +kernel
theorem dX8_runLine_103 : decode cX8_runLine 103 = .ok (.aload 4, 2) := by decide +kernel
theorem dX8_runLine_105 : decode cX8_runLine 105 = .ok (.getfield 176, 3) := by decide +kernel
theorem dX8_runLine_108 : decode cX8_runLine 108 = .ok (.isub, 1) := by decide +kernel
theorem dX8_runLine_109 : decode cX8_runLine 109 = .ok (.iconst 0, 1) := by decide +kernel
theorem dX8_runLine_110 : decode cX8_runLine 110 = .ok (.invokestatic 370, 3) := by decide +kernel
theorem dX8_runLine_113 : decode cX8_runLine 113 = .ok (.putfield 146, 3) := by decide +kernel
theorem dX8_runLine_116 : decode cX8_runLine 116 = .ok (.aload 4, 2) := by decide +kernel
theorem dX8_runLine_118 : decode cX8_runLine 118 = .ok (.invokevirtual 373, 3) := by decide +kernel
theorem dX8_runLine_121 : decode cX8_runLine 121 = .ok (.aload 4, 2) := by decide +kernel
theorem dX8_runLine_123 : decode cX8_runLine 123 = .ok (.invokevirtual 345, 3) := by decide +kernel
theorem dX8_runLine_126 : decode cX8_runLine 126 = .ok (.iinc 2 1, 3) := by decide +kernel
theorem dX8_runLine_129 : decode cX8_runLine 129 = .ok (.goto (-64), 3) := by decide +kernel
theorem dX8_runLine_132 : decode cX8_runLine 132 = .ok (.bipush 24, 2) := by decide +kernel
theorem dX8_runLine_134 : decode cX8_runLine 134 = .ok (.iload_n 1, 1) := by decide +kernel
theorem dX8_runLine_135 : decode cX8_runLine 135 = .ok (.isub, 1) := by decide +kernel
theorem dX8_runLine_136 : decode cX8_runLine 136 = .ok (.ireturn, 1) := by decide +kernel
theorem dX8_richestServed_0 : decode cX8_richestServed 0 = .ok (.aconst_null, 1) := by decide +kernel
theorem dX8_richestServed_1 : decode cX8_richestServed 1 = .ok (.astore_n 2, 1) := by decide +kernel
theorem dX8_richestServed_2 : decode cX8_richestServed 2 = .ok (.aload_n 0, 1) := by decide +kernel
theorem dX8_richestServed_3 : decode cX8_richestServed 3 = .ok (.getfield 17, 3) := by decide +kernel
theorem dX8_richestServed_6 : decode cX8_richestServed 6 = .ok (.astore_n 3, 1) := by decide +kernel
theorem dX8_richestServed_7 : decode cX8_richestServed 7 = .ok (.aload_n 3, 1) := by decide +kernel
theorem dX8_richestServed_8 : decode cX8_richestServed 8 = .ok (.arraylength, 1) := by decide +kernel
theorem dX8_richestServed_9 : decode cX8_richestServed 9 = .ok (.istore 4, 2) := by decide +kernel
theorem dX8_richestServed_11 : decode cX8_richestServed 11 = .ok (.iconst 0, 1) := by decide +kernel
theorem dX8_richestServed_12 : decode cX8_richestServed 12 = .ok (.istore 5, 2) := by decide +kernel
theorem dX8_richestServed_14 : decode cX8_richestServed 14 = .ok (.iload 5, 2) := by decide +kernel
theorem dX8_richestServed_16 : decode cX8_richestServed 16 = .ok (.iload 4, 2) := by decide +kernel
theorem dX8_richestServed_18 : decode cX8_richestServed 18 = .ok (.if_icmp .ge 64, 3) := by decide +kernel
theorem dX8_richestServed_21 : decode cX8_richestServed 21 = .ok (.aload_n 3, 1) := by decide +kernel
theorem dX8_richestServed_22 : decode cX8_richestServed 22 = .ok (.iload 5, 2) := by decide +kernel
theorem dX8_richestServed_24 : decode cX8_richestServed 24 = .ok (.aaload, 1) := by decide +kernel
theorem dX8_richestServed_25 : decode cX8_richestServed 25 = .ok (.astore 6, 2) := by decide +kernel
theorem dX8_richestServed_27 : decode cX8_richestServed 27 = .ok (.aload 6, 2) := by decide +kernel
theorem dX8_richestServed_29 : decode cX8_richestServed 29 = .ok (.ifnull 47, 3) := by decide +kernel
theorem dX8_richestServed_32 : decode cX8_richestServed 32 = .ok (.aload 6, 2) := by decide +kernel
theorem dX8_richestServed_34 : decode cX8_richestServed 34 = .ok (.getfield 341, 3) := by decide +kernel
theorem dX8_richestServed_37 : decode cX8_richestServed 37 = .ok (.getfield 170, 3) := by decide +kernel
theorem dX8_richestServed_40 : decode cX8_richestServed 40 = .ok (.bipush 32, 2) := by decide +kernel
theorem dX8_richestServed_42 : decode cX8_richestServed 42 = .ok (.if_icmp .eq 34, 3) := by decide +kernel
theorem dX8_richestServed_45 : decode cX8_richestServed 45 = .ok (.aload 6, 2) := by decide +kernel
theorem dX8_richestServed_47 : decode cX8_richestServed 47 = .ok (.getfield 341, 3) := by decide +kernel
theorem dX8_richestServed_50 : decode cX8_richestServed 50 = .ok (.getfield 176, 3) := by decide +kernel
theorem dX8_richestServed_53 : decode cX8_richestServed 53 = .ok (.iload_n 1, 1) := by decide +kernel
theorem dX8_richestServed_54 : decode cX8_richestServed 54 = .ok (.if_icmp .gt 22, 3) := by decide +kernel
theorem dX8_richestServed_57 : decode cX8_richestServed 57 = .ok (.aload_n 2, 1) := by decide +kernel
theorem dX8_richestServed_58 : decode cX8_richestServed 58 = .ok (.ifnull 15, 3) := by decide +kernel
theorem dX8_richestServed_61 : decode cX8_richestServed 61 = .ok (.aload 6, 2) := by decide +kernel
theorem dX8_richestServed_63 : decode cX8_richestServed 63 = .ok (.getfield 146, 3) := by decide +kernel
theorem dX8_richestServed_66 : decode cX8_richestServed 66 = .ok (.aload_n 2, 1) := by decide +kernel
theorem dX8_richestServed_67 : decode cX8_richestServed 67 = .ok (.getfield 146, 3) := by decide +kernel
theorem dX8_richestServed_70 : decode cX8_richestServed 70 = .ok (.if_icmp .le 6, 3) := by decide +kernel
theorem dX8_richestServed_73 : decode cX8_richestServed 73 = .ok (.aload 6, 2) := by decide +kernel
theorem dX8_richestServed_75 : decode cX8_richestServed 75 = .ok (.astore_n 2, 1) := by decide +kernel
theorem dX8_richestServed_76 : decode cX8_richestServed 76 = .ok (.iinc 5 1, 3) := by decide +kernel
theorem dX8_richestServed_79 : decode cX8_richestServed 79 = .ok (.goto (-65), 3) := by decide +kernel
theorem dX8_richestServed_82 : decode cX8_richestServed 82 = .ok (.aload_n 2, 1) := by decide +kernel
theorem dX8_richestServed_83 : decode cX8_richestServed 83 = .ok (.areturn, 1) := by decide +kernel
theorem dJx00060_init_a7421_0 : decode cJx00060_init_a7421 0 = .ok (.aload_n 0, 1) := by decide +kernel
theorem dJx00060_init_a7421_1 : decode cJx00060_init_a7421 1 = .ok (.aload_n 1, 1) := by decide +kernel
theorem dJx00060_init_a7421_2 : decode cJx00060_init_a7421 2 = .ok (.invokespecial 7, 3) := by decide +kernel
theorem dJx00060_init_a7421_5 : decode cJx00060_init_a7421 5 = .ok (.return_, 1) := by decide +kernel
theorem dJ9_max_7cf53_0 : decode cJ9_max_7cf53 0 = .ok (.iload_n 0, 1) := by decide +kernel
theorem dJ9_max_7cf53_1 : decode cJ9_max_7cf53 1 = .ok (.iload_n 1, 1) := by decide +kernel
theorem dJ9_max_7cf53_2 : decode cJ9_max_7cf53 2 = .ok (.if_icmp .lt 7, 3) := by decide +kernel
theorem dJ9_max_7cf53_5 : decode cJ9_max_7cf53 5 = .ok (.iload_n 0, 1) := by decide +kernel
theorem dJ9_max_7cf53_6 : decode cJ9_max_7cf53 6 = .ok (.goto 4, 3) := by decide +kernel
theorem dJ9_max_7cf53_9 : decode cJ9_max_7cf53 9 = .ok (.iload_n 1, 1) := by decide +kernel
theorem dJ9_max_7cf53_10 : decode cJ9_max_7cf53 10 = .ok (.ireturn, 1) := by decide +kernel
theorem dJ9_min_7cf53_0 : decode cJ9_min_7cf53 0 = .ok (.iload_n 0, 1) := by decide +kernel
theorem dJ9_min_7cf53_1 : decode cJ9_min_7cf53 1 = .ok (.iload_n 1, 1) := by decide +kernel
theorem dJ9_min_7cf53_2 : decode cJ9_min_7cf53 2 = .ok (.if_icmp .gt 7, 3) := by decide +kernel
theorem dJ9_min_7cf53_5 : decode cJ9_min_7cf53 5 = .ok (.iload_n 0, 1) := by decide +kernel
theorem dJ9_min_7cf53_6 : decode cJ9_min_7cf53 6 = .ok (.goto 4, 3) := by decide +kernel
theorem dJ9_min_7cf53_9 : decode cJ9_min_7cf53 9 = .ok (.iload_n 1, 1) := by decide +kernel
theorem dJ9_min_7cf53_10 : decode cJ9_min_7cf53 10 = .ok (.ireturn, 1) := by decide +kernel
theorem dJ0_charAt_5068e_0 : decode cJ0_charAt_5068e 0 = .ok (.aload_n 0, 1) := by decide +kernel
theorem dJ0_charAt_5068e_1 : decode cJ0_charAt_5068e 1 = .ok (.invokevirtual 492, 3) := by decide +kernel
theorem dJ0_charAt_5068e_4 : decode cJ0_charAt_5068e 4 = .ok (.ifCond .eq 12, 3) := by decide +kernel
theorem dJ0_charAt_5068e_7 : decode cJ0_charAt_5068e 7 = .ok (.aload_n 0, 1) := by decide +kernel
theorem dJ0_charAt_5068e_8 : decode cJ0_charAt_5068e 8 = .ok (.getfield 9, 3) := by decide +kernel
theorem dJ0_charAt_5068e_11 : decode cJ0_charAt_5068e 11 = .ok (.iload_n 1, 1) := by decide +kernel
theorem dJ0_charAt_5068e_12 : decode cJ0_charAt_5068e 12 = .ok (.invokestatic 495, 3) := by decide +kernel
theorem dJ0_charAt_5068e_15 : decode cJ0_charAt_5068e 15 = .ok (.ireturn, 1) := by decide +kernel
theorem dJ0_charAt_5068e_16 : decode cJ0_charAt_5068e 16 = .ok (.aload_n 0, 1) := by decide +kernel
theorem dJ0_charAt_5068e_17 : decode cJ0_charAt_5068e 17 = .ok (.getfield 9, 3) := by decide +kernel
theorem dJ0_charAt_5068e_20 : decode cJ0_charAt_5068e 20 = .ok (.iload_n 1, 1) := by decide +kernel
theorem dJ0_charAt_5068e_21 : decode cJ0_charAt_5068e 21 = .ok (.invokestatic 498, 3) := by decide +kernel
theorem dJ0_charAt_5068e_24 : decode cJ0_charAt_5068e 24 = .ok (.ireturn, 1) := by decide +kernel
theorem dJ0_isLatin1_aae02_0 : decode cJ0_isLatin1_aae02 0 = .ok (.getstatic 38, 3) := by decide +kernel
theorem dJ0_isLatin1_aae02_3 : decode cJ0_isLatin1_aae02 3 = .ok (.ifCond .eq 14, 3) := by decide +kernel
theorem dJ0_isLatin1_aae02_6 : decode cJ0_isLatin1_aae02 6 = .ok (.aload_n 0, 1) := by decide +kernel
theorem dJ0_isLatin1_aae02_7 : decode cJ0_isLatin1_aae02 7 = .ok (.getfield 15, 3) := by decide +kernel
theorem dJ0_isLatin1_aae02_10 : decode cJ0_isLatin1_aae02 10 = .ok (.ifCond .ne 7, 3) := by decide +kernel
theorem dJ0_isLatin1_aae02_13 : decode cJ0_isLatin1_aae02 13 = .ok (.iconst 1, 1) := by decide +kernel
theorem dJ0_isLatin1_aae02_14 : decode cJ0_isLatin1_aae02 14 = .ok (.goto 4, 3) := by decide +kernel
theorem dJ0_isLatin1_aae02_17 : decode cJ0_isLatin1_aae02 17 = .ok (.iconst 0, 1) := by decide +kernel
theorem dJ0_isLatin1_aae02_18 : decode cJ0_isLatin1_aae02 18 = .ok (.ireturn, 1) := by decide +kernel
theorem dJ0_checkIndex_df160_0 : decode cJ0_checkIndex_df160 0 = .ok (.iload_n 0, 1) := by decide +kernel
theorem dJ0_checkIndex_df160_1 : decode cJ0_checkIndex_df160 1 = .ok (.iload_n 1, 1) := by decide +kernel
theorem dJ0_checkIndex_df160_2 : decode cJ0_checkIndex_df160 2 = .ok (.getstatic 1053, 3) := by decide +kernel
theorem dJ0_checkIndex_df160_5 : decode cJ0_checkIndex_df160 5 = .ok (.invokestatic 1059, 3) := by decide +kernel
theorem dJ0_checkIndex_df160_8 : decode cJ0_checkIndex_df160 8 = .ok (.pop, 1) := by decide +kernel
theorem dJ0_checkIndex_df160_9 : decode cJ0_checkIndex_df160 9 = .ok (.return_, 1) := by decide +kernel
theorem dJ1_charAt_3b067_0 : decode cJ1_charAt_3b067 0 = .ok (.iload_n 1, 1) := by decide +kernel
theorem dJ1_charAt_3b067_1 : decode cJ1_charAt_3b067 1 = .ok (.aload_n 0, 1) := by decide +kernel
theorem dJ1_charAt_3b067_2 : decode cJ1_charAt_3b067 2 = .ok (.arraylength, 1) := by decide +kernel
theorem dJ1_charAt_3b067_3 : decode cJ1_charAt_3b067 3 = .ok (.invokestatic 9, 3) := by decide +kernel
theorem dJ1_charAt_3b067_6 : decode cJ1_charAt_3b067 6 = .ok (.aload_n 0, 1) := by decide +kernel
theorem dJ1_charAt_3b067_7 : decode cJ1_charAt_3b067 7 = .ok (.iload_n 1, 1) := by decide +kernel
theorem dJ1_charAt_3b067_8 : decode cJ1_charAt_3b067 8 = .ok (.baload, 1) := by decide +kernel
theorem dJ1_charAt_3b067_9 : decode cJ1_charAt_3b067 9 = .ok (.sipush 255, 3) := by decide +kernel
theorem dJ1_charAt_3b067_12 : decode cJ1_charAt_3b067 12 = .ok (.iand, 1) := by decide +kernel
theorem dJ1_charAt_3b067_13 : decode cJ1_charAt_3b067 13 = .ok (.i2c, 1) := by decide +kernel
theorem dJ1_charAt_3b067_14 : decode cJ1_charAt_3b067 14 = .ok (.ireturn, 1) := by decide +kernel
theorem dJ2_getChar_3b067_0 : decode cJ2_getChar_3b067 0 = .ok (.getstatic 44, 3) := by decide +kernel
theorem dJ2_getChar_3b067_3 : decode cJ2_getChar_3b067 3 = .ok (.ifCond .ne 25, 3) := by decide +kernel
theorem dJ2_getChar_3b067_6 : decode cJ2_getChar_3b067 6 = .ok (.iload_n 1, 1) := by decide +kernel
theorem dJ2_getChar_3b067_7 : decode cJ2_getChar_3b067 7 = .ok (.ifCond .lt 11, 3) := by decide +kernel
theorem dJ2_getChar_3b067_10 : decode cJ2_getChar_3b067 10 = .ok (.iload_n 1, 1) := by decide +kernel
theorem dJ2_getChar_3b067_11 : decode cJ2_getChar_3b067 11 = .ok (.aload_n 0, 1) := by decide +kernel
theorem dJ2_getChar_3b067_12 : decode cJ2_getChar_3b067 12 = .ok (.invokestatic 48, 3) := by decide +kernel
theorem dJ2_getChar_3b067_15 : decode cJ2_getChar_3b067 15 = .ok (.if_icmp .lt 13, 3) := by decide +kernel
theorem dJ2_getChar_3b067_18 : decode cJ2_getChar_3b067 18 = .ok (.new 52, 3) := by decide +kernel
theorem dJ2_getChar_3b067_21 : decode cJ2_getChar_3b067 21 = .ok (.dup, 1) := by decide +kernel
theorem dJ2_getChar_3b067_22 : decode cJ2_getChar_3b067 22 = .ok (.ldc 54, 2) := by decide +kernel
theorem dJ2_getChar_3b067_24 : decode cJ2_getChar_3b067 24 = .ok (.invokespecial 56, 3) := by decide +kernel
theorem dJ2_getChar_3b067_27 : decode cJ2_getChar_3b067 27 = .ok (.athrow, 1) := by decide +kernel
theorem dJ2_getChar_3b067_28 : decode cJ2_getChar_3b067 28 = .ok (.iload_n 1, 1) := by decide +kernel
theorem dJ2_getChar_3b067_29 : decode cJ2_getChar_3b067 29 = .ok (.iconst 1, 1) := by decide +kernel
theorem dJ2_getChar_3b067_30 : decode cJ2_getChar_3b067 30 = .ok (.ishl, 1) := by decide +kernel
theorem dJ2_getChar_3b067_31 : decode cJ2_getChar_3b067 31 = .ok (.istore_n 1, 1) := by decide +kernel
theorem dJ2_getChar_3b067_32 : decode cJ2_getChar_3b067 32 = .ok (.aload_n 0, 1) := by decide +kernel
theorem dJ2_getChar_3b067_33 : decode cJ2_getChar_3b067 33 = .ok (.iload_n 1, 1) := by decide +kernel
theorem dJ2_getChar_3b067_34 : decode cJ2_getChar_3b067 34 = .ok (.iinc 1 1, 3) := by decide +kernel
theorem dJ2_getChar_3b067_37 : decode cJ2_getChar_3b067 37 = .ok (.baload, 1) := by decide +kernel
theorem dJ2_getChar_3b067_38 : decode cJ2_getChar_3b067 38 = .ok (.sipush 255, 3) := by decide +kernel
theorem dJ2_getChar_3b067_41 : decode cJ2_getChar_3b067 41 = .ok (.iand, 1) := by decide +kernel
theorem dJ2_getChar_3b067_42 : decode cJ2_getChar_3b067 42 = .ok (.getstatic 59, 3) := by decide +kernel
theorem dJ2_getChar_3b067_45 : decode cJ2_getChar_3b067 45 = .ok (.ishl, 1) := by decide +kernel
theorem dJ2_getChar_3b067_46 : decode cJ2_getChar_3b067 46 = .ok (.aload_n 0, 1) := by decide +kernel
theorem dJ2_getChar_3b067_47 : decode cJ2_getChar_3b067 47 = .ok (.iload_n 1, 1) := by decide +kernel
theorem dJ2_getChar_3b067_48 : decode cJ2_getChar_3b067 48 = .ok (.baload, 1) := by decide +kernel
theorem dJ2_getChar_3b067_49 : decode cJ2_getChar_3b067 49 = .ok (.sipush 255, 3) := by decide +kernel
theorem dJ2_getChar_3b067_52 : decode cJ2_getChar_3b067 52 = .ok (.iand, 1) := by decide +kernel
theorem dJ2_getChar_3b067_53 : decode cJ2_getChar_3b067 53 = .ok (.getstatic 63, 3) := by decide +kernel
theorem dJ2_getChar_3b067_56 : decode cJ2_getChar_3b067 56 = .ok (.ishl, 1) := by decide +kernel
theorem dJ2_getChar_3b067_57 : decode cJ2_getChar_3b067 57 = .ok (.ior, 1) := by decide +kernel
theorem dJ2_getChar_3b067_58 : decode cJ2_getChar_3b067 58 = .ok (.i2c, 1) := by decide +kernel
theorem dJ2_getChar_3b067_59 : decode cJ2_getChar_3b067 59 = .ok (.ireturn, 1) := by decide +kernel
theorem dJ2_length_9d52b_0 : decode cJ2_length_9d52b 0 = .ok (.aload_n 0, 1) := by decide +kernel
theorem dJ2_length_9d52b_1 : decode cJ2_length_9d52b 1 = .ok (.arraylength, 1) := by decide +kernel
theorem dJ2_length_9d52b_2 : decode cJ2_length_9d52b 2 = .ok (.iconst 1, 1) := by decide +kernel
theorem dJ2_length_9d52b_3 : decode cJ2_length_9d52b 3 = .ok (.ishr, 1) := by decide +kernel
theorem dJ2_length_9d52b_4 : decode cJ2_length_9d52b 4 = .ok (.ireturn, 1) := by decide +kernel
theorem dJ2_charAt_3b067_0 : decode cJ2_charAt_3b067 0 = .ok (.iload_n 1, 1) := by decide +kernel
theorem dJ2_charAt_3b067_1 : decode cJ2_charAt_3b067 1 = .ok (.aload_n 0, 1) := by decide +kernel
theorem dJ2_charAt_3b067_2 : decode cJ2_charAt_3b067 2 = .ok (.invokestatic 67, 3) := by decide +kernel
theorem dJ2_charAt_3b067_5 : decode cJ2_charAt_3b067 5 = .ok (.aload_n 0, 1) := by decide +kernel
theorem dJ2_charAt_3b067_6 : decode cJ2_charAt_3b067 6 = .ok (.iload_n 1, 1) := by decide +kernel
theorem dJ2_charAt_3b067_7 : decode cJ2_charAt_3b067 7 = .ok (.invokestatic 71, 3) := by decide +kernel
theorem dJ2_charAt_3b067_10 : decode cJ2_charAt_3b067 10 = .ok (.ireturn, 1) := by decide +kernel
theorem dJ2_checkIndex_2214a_0 : decode cJ2_checkIndex_2214a 0 = .ok (.iload_n 0, 1) := by decide +kernel
theorem dJ2_checkIndex_2214a_1 : decode cJ2_checkIndex_2214a 1 = .ok (.aload_n 1, 1) := by decide +kernel
theorem dJ2_checkIndex_2214a_2 : decode cJ2_checkIndex_2214a 2 = .ok (.invokestatic 48, 3) := by decide +kernel
theorem dJ2_checkIndex_2214a_5 : decode cJ2_checkIndex_2214a 5 = .ok (.invokestatic 414, 3) := by decide +kernel
theorem dJ2_checkIndex_2214a_8 : decode cJ2_checkIndex_2214a 8 = .ok (.return_, 1) := by decide +kernel
theorem dJxa1e45_init_da8c8_0 : decode cJxa1e45_init_da8c8 0 = .ok (.aload_n 0, 1) := by decide +kernel
theorem dJxa1e45_init_da8c8_1 : decode cJxa1e45_init_da8c8 1 = .ok (.invokespecial 1, 3) := by decide +kernel
theorem dJxa1e45_init_da8c8_4 : decode cJxa1e45_init_da8c8 4 = .ok (.return_, 1) := by decide +kernel
theorem dJxc12de_init_da8c8_0 : decode cJxc12de_init_da8c8 0 = .ok (.aload_n 0, 1) := by decide +kernel
theorem dJxc12de_init_da8c8_1 : decode cJxc12de_init_da8c8 1 = .ok (.invokespecial 1, 3) := by decide +kernel
theorem dJxc12de_init_da8c8_4 : decode cJxc12de_init_da8c8 4 = .ok (.aload_n 0, 1) := by decide +kernel
theorem dJxc12de_init_da8c8_5 : decode cJxc12de_init_da8c8 5 = .ok (.iconst 0, 1) := by decide +kernel
theorem dJxc12de_init_da8c8_6 : decode cJxc12de_init_da8c8 6 = .ok (.putfield 7, 3) := by decide +kernel
theorem dJxc12de_init_da8c8_9 : decode cJxc12de_init_da8c8 9 = .ok (.return_, 1) := by decide +kernel
theorem dJx4a65c_init_da8c8_0 : decode cJx4a65c_init_da8c8 0 = .ok (.aload_n 0, 1) := by decide +kernel
theorem dJx4a65c_init_da8c8_1 : decode cJx4a65c_init_da8c8 1 = .ok (.invokespecial 1, 3) := by decide +kernel
theorem dJx4a65c_init_da8c8_4 : decode cJx4a65c_init_da8c8 4 = .ok (.aload_n 0, 1) := by decide +kernel
theorem dJx4a65c_init_da8c8_5 : decode cJx4a65c_init_da8c8 5 = .ok (.getstatic 39, 3) := by decide +kernel
theorem dJx4a65c_init_da8c8_8 : decode cJx4a65c_init_da8c8 8 = .ok (.putfield 9, 3) := by decide +kernel
theorem dJx4a65c_init_da8c8_11 : decode cJx4a65c_init_da8c8 11 = .ok (.return_, 1) := by decide +kernel
theorem dJx4a65c_grow_92f84_0 : decode cJx4a65c_grow_92f84 0 = .ok (.aload_n 0, 1) := by decide +kernel
theorem dJx4a65c_grow_92f84_1 : decode cJx4a65c_grow_92f84 1 = .ok (.getfield 9, 3) := by decide +kernel
theorem dJx4a65c_grow_92f84_4 : decode cJx4a65c_grow_92f84 4 = .ok (.arraylength, 1) := by decide +kernel
theorem dJx4a65c_grow_92f84_5 : decode cJx4a65c_grow_92f84 5 = .ok (.istore_n 2, 1) := by decide +kernel
theorem dJx4a65c_grow_92f84_6 : decode cJx4a65c_grow_92f84 6 = .ok (.iload_n 2, 1) := by decide +kernel
theorem dJx4a65c_grow_92f84_7 : decode cJx4a65c_grow_92f84 7 = .ok (.ifCond .gt 13, 3) := by decide +kernel
theorem dJx4a65c_grow_92f84_10 : decode cJx4a65c_grow_92f84 10 = .ok (.aload_n 0, 1) := by decide +kernel
theorem dJx4a65c_grow_92f84_11 : decode cJx4a65c_grow_92f84 11 = .ok (.getfield 9, 3) := by decide +kernel
theorem dJx4a65c_grow_92f84_14 : decode cJx4a65c_grow_92f84 14 = .ok (.getstatic 39, 3) := by decide +kernel
theorem dJx4a65c_grow_92f84_17 : decode cJx4a65c_grow_92f84 17 = .ok (.if_acmp .eq 28, 3) := by decide +kernel
theorem dJx4a65c_grow_92f84_20 : decode cJx4a65c_grow_92f84 20 = .ok (.iload_n 2, 1) := by decide +kernel
theorem dJx4a65c_grow_92f84_21 : decode cJx4a65c_grow_92f84 21 = .ok (.iload_n 1, 1) := by decide +kernel
theorem dJx4a65c_grow_92f84_22 : decode cJx4a65c_grow_92f84 22 = .ok (.iload_n 2, 1) := by decide +kernel
theorem dJx4a65c_grow_92f84_23 : decode cJx4a65c_grow_92f84 23 = .ok (.isub, 1) := by decide +kernel
theorem dJx4a65c_grow_92f84_24 : decode cJx4a65c_grow_92f84 24 = .ok (.iload_n 2, 1) := by decide +kernel
theorem dJx4a65c_grow_92f84_25 : decode cJx4a65c_grow_92f84 25 = .ok (.iconst 1, 1) := by decide +kernel
theorem dJx4a65c_grow_92f84_26 : decode cJx4a65c_grow_92f84 26 = .ok (.ishr, 1) := by decide +kernel
theorem dJx4a65c_grow_92f84_27 : decode cJx4a65c_grow_92f84 27 = .ok (.invokestatic 73, 3) := by decide +kernel
theorem dJx4a65c_grow_92f84_30 : decode cJx4a65c_grow_92f84 30 = .ok (.istore_n 3, 1) := by decide +kernel
theorem dJx4a65c_grow_92f84_31 : decode cJx4a65c_grow_92f84 31 = .ok (.aload_n 0, 1) := by decide +kernel
theorem dJx4a65c_grow_92f84_32 : decode cJx4a65c_grow_92f84 32 = .ok (.aload_n 0, 1) := by decide +kernel
theorem dJx4a65c_grow_92f84_33 : decode cJx4a65c_grow_92f84 33 = .ok (.getfield 9, 3) := by decide +kernel
theorem dJx4a65c_grow_92f84_36 : decode cJx4a65c_grow_92f84 36 = .ok (.iload_n 3, 1) := by decide +kernel
theorem dJx4a65c_grow_92f84_37 : decode cJx4a65c_grow_92f84 37 = .ok (.invokestatic 66, 3) := by decide +kernel
theorem dJx4a65c_grow_92f84_40 : decode cJx4a65c_grow_92f84 40 = .ok (.dup_x1, 1) := by decide +kernel
theorem dJx4a65c_grow_92f84_41 : decode cJx4a65c_grow_92f84 41 = .ok (.putfield 9, 3) := by decide +kernel
theorem dJx4a65c_grow_92f84_44 : decode cJx4a65c_grow_92f84 44 = .ok (.areturn, 1) := by decide +kernel
theorem dJx4a65c_grow_92f84_45 : decode cJx4a65c_grow_92f84 45 = .ok (.aload_n 0, 1) := by decide +kernel
theorem dJx4a65c_grow_92f84_46 : decode cJx4a65c_grow_92f84 46 = .ok (.bipush 10, 2) := by decide +kernel
theorem dJx4a65c_grow_92f84_48 : decode cJx4a65c_grow_92f84 48 = .ok (.iload_n 1, 1) := by decide +kernel
theorem dJx4a65c_grow_92f84_49 : decode cJx4a65c_grow_92f84 49 = .ok (.invokestatic 79, 3) := by decide +kernel
theorem dJx4a65c_grow_92f84_52 : decode cJx4a65c_grow_92f84 52 = .ok (.anewarray 7, 3) := by decide +kernel
theorem dJx4a65c_grow_92f84_55 : decode cJx4a65c_grow_92f84 55 = .ok (.dup_x1, 1) := by decide +kernel
theorem dJx4a65c_grow_92f84_56 : decode cJx4a65c_grow_92f84 56 = .ok (.putfield 9, 3) := by decide +kernel
theorem dJx4a65c_grow_92f84_59 : decode cJx4a65c_grow_92f84 59 = .ok (.areturn, 1) := by decide +kernel
theorem dJx4a65c_grow_d5877_0 : decode cJx4a65c_grow_d5877 0 = .ok (.aload_n 0, 1) := by decide +kernel
theorem dJx4a65c_grow_d5877_1 : decode cJx4a65c_grow_d5877 1 = .ok (.aload_n 0, 1) := by decide +kernel
theorem dJx4a65c_grow_d5877_2 : decode cJx4a65c_grow_d5877 2 = .ok (.getfield 48, 3) := by decide +kernel
theorem dJx4a65c_grow_d5877_5 : decode cJx4a65c_grow_d5877 5 = .ok (.iconst 1, 1) := by decide +kernel
theorem dJx4a65c_grow_d5877_6 : decode cJx4a65c_grow_d5877 6 = .ok (.iadd, 1) := by decide +kernel
theorem dJx4a65c_grow_d5877_7 : decode cJx4a65c_grow_d5877 7 = .ok (.invokevirtual 69, 3) := by decide +kernel
theorem dJx4a65c_grow_d5877_10 : decode cJx4a65c_grow_d5877 10 = .ok (.areturn, 1) := by decide +kernel
theorem dJx4a65c_size_8abf5_0 : decode cJx4a65c_size_8abf5 0 = .ok (.aload_n 0, 1) := by decide +kernel
theorem dJx4a65c_size_8abf5_1 : decode cJx4a65c_size_8abf5 1 = .ok (.getfield 48, 3) := by decide +kernel
theorem dJx4a65c_size_8abf5_4 : decode cJx4a65c_size_8abf5 4 = .ok (.ireturn, 1) := by decide +kernel
theorem dJx4a65c_elementData_915e3_0 : decode cJx4a65c_elementData_915e3 0 = .ok (.aload_n 0, 1) := by decide +kernel
theorem dJx4a65c_elementData_915e3_1 : decode cJx4a65c_elementData_915e3 1 = .ok (.getfield 9, 3) := by decide +kernel
theorem dJx4a65c_elementData_915e3_4 : decode cJx4a65c_elementData_915e3 4 = .ok (.iload_n 1, 1) := by decide +kernel
theorem dJx4a65c_elementData_915e3_5 : decode cJx4a65c_elementData_915e3 5 = .ok (.aaload, 1) := by decide +kernel
theorem dJx4a65c_elementData_915e3_6 : decode cJx4a65c_elementData_915e3 6 = .ok (.areturn, 1) := by decide +kernel
theorem dJx4a65c_get_915e3_0 : decode cJx4a65c_get_915e3 0 = .ok (.iload_n 1, 1) := by decide +kernel
theorem dJx4a65c_get_915e3_1 : decode cJx4a65c_get_915e3 1 = .ok (.aload_n 0, 1) := by decide +kernel
theorem dJx4a65c_get_915e3_2 : decode cJx4a65c_get_915e3 2 = .ok (.getfield 48, 3) := by decide +kernel
theorem dJx4a65c_get_915e3_5 : decode cJx4a65c_get_915e3 5 = .ok (.invokestatic 118, 3) := by decide +kernel
theorem dJx4a65c_get_915e3_8 : decode cJx4a65c_get_915e3 8 = .ok (.pop, 1) := by decide +kernel
theorem dJx4a65c_get_915e3_9 : decode cJx4a65c_get_915e3 9 = .ok (.aload_n 0, 1) := by decide +kernel
theorem dJx4a65c_get_915e3_10 : decode cJx4a65c_get_915e3 10 = .ok (.iload_n 1, 1) := by decide +kernel
theorem dJx4a65c_get_915e3_11 : decode cJx4a65c_get_915e3 11 = .ok (.invokevirtual 123, 3) := by decide +kernel
theorem dJx4a65c_get_915e3_14 : decode cJx4a65c_get_915e3 14 = .ok (.areturn, 1) := by decide +kernel
theorem dJx4a65c_add_72be8_0 : decode cJx4a65c_add_72be8 0 = .ok (.iload_n 3, 1) := by decide +kernel
theorem dJx4a65c_add_72be8_1 : decode cJx4a65c_add_72be8 1 = .ok (.aload_n 2, 1) := by decide +kernel
theorem dJx4a65c_add_72be8_2 : decode cJx4a65c_add_72be8 2 = .ok (.arraylength, 1) := by decide +kernel
theorem dJx4a65c_add_72be8_3 : decode cJx4a65c_add_72be8 3 = .ok (.if_icmp .ne 8, 3) := by decide +kernel
theorem dJx4a65c_add_72be8_6 : decode cJx4a65c_add_72be8 6 = .ok (.aload_n 0, 1) := by decide +kernel
theorem dJx4a65c_add_72be8_7 : decode cJx4a65c_add_72be8 7 = .ok (.invokevirtual 129, 3) := by decide +kernel
theorem dJx4a65c_add_72be8_10 : decode cJx4a65c_add_72be8 10 = .ok (.astore_n 2, 1) := by decide +kernel
theorem dJx4a65c_add_72be8_11 : decode cJx4a65c_add_72be8 11 = .ok (.aload_n 2, 1) := by decide +kernel
theorem dJx4a65c_add_72be8_12 : decode cJx4a65c_add_72be8 12 = .ok (.iload_n 3, 1) := by decide +kernel
theorem dJx4a65c_add_72be8_13 : decode cJx4a65c_add_72be8 13 = .ok (.aload_n 1, 1) := by decide +kernel
theorem dJx4a65c_add_72be8_14 : decode cJx4a65c_add_72be8 14 = .ok (.aastore, 1) := by decide +kernel
theorem dJx4a65c_add_72be8_15 : decode cJx4a65c_add_72be8 15 = .ok (.aload_n 0, 1) := by decide +kernel
theorem dJx4a65c_add_72be8_16 : decode cJx4a65c_add_72be8 16 = .ok (.iload_n 3, 1) := by decide +kernel
theorem dJx4a65c_add_72be8_17 : decode cJx4a65c_add_72be8 17 = .ok (.iconst 1, 1) := by decide +kernel
theorem dJx4a65c_add_72be8_18 : decode cJx4a65c_add_72be8 18 = .ok (.iadd, 1) := by decide +kernel
theorem dJx4a65c_add_72be8_19 : decode cJx4a65c_add_72be8 19 = .ok (.putfield 48, 3) := by decide +kernel
theorem dJx4a65c_add_72be8_22 : decode cJx4a65c_add_72be8 22 = .ok (.return_, 1) := by decide +kernel
theorem dJx4a65c_add_9ea2d_0 : decode cJx4a65c_add_9ea2d 0 = .ok (.aload_n 0, 1) := by decide +kernel
theorem dJx4a65c_add_9ea2d_1 : decode cJx4a65c_add_9ea2d 1 = .ok (.dup, 1) := by decide +kernel
theorem dJx4a65c_add_9ea2d_2 : decode cJx4a65c_add_9ea2d 2 = .ok (.getfield 63, 3) := by decide +kernel
theorem dJx4a65c_add_9ea2d_5 : decode cJx4a65c_add_9ea2d 5 = .ok (.iconst 1, 1) := by decide +kernel
theorem dJx4a65c_add_9ea2d_6 : decode cJx4a65c_add_9ea2d 6 = .ok (.iadd, 1) := by decide +kernel
theorem dJx4a65c_add_9ea2d_7 : decode cJx4a65c_add_9ea2d 7 = .ok (.putfield 63, 3) := by decide +kernel
theorem dJx4a65c_add_9ea2d_10 : decode cJx4a65c_add_9ea2d 10 = .ok (.aload_n 0, 1) := by decide +kernel
theorem dJx4a65c_add_9ea2d_11 : decode cJx4a65c_add_9ea2d 11 = .ok (.aload_n 1, 1) := by decide +kernel
theorem dJx4a65c_add_9ea2d_12 : decode cJx4a65c_add_9ea2d 12 = .ok (.aload_n 0, 1) := by decide +kernel
theorem dJx4a65c_add_9ea2d_13 : decode cJx4a65c_add_9ea2d 13 = .ok (.getfield 9, 3) := by decide +kernel
theorem dJx4a65c_add_9ea2d_16 : decode cJx4a65c_add_9ea2d 16 = .ok (.aload_n 0, 1) := by decide +kernel
theorem dJx4a65c_add_9ea2d_17 : decode cJx4a65c_add_9ea2d 17 = .ok (.getfield 48, 3) := by decide +kernel
theorem dJx4a65c_add_9ea2d_20 : decode cJx4a65c_add_9ea2d 20 = .ok (.invokevirtual 131, 3) := by decide +kernel
theorem dJx4a65c_add_9ea2d_23 : decode cJx4a65c_add_9ea2d 23 = .ok (.iconst 1, 1) := by decide +kernel
theorem dJx4a65c_add_9ea2d_24 : decode cJx4a65c_add_9ea2d 24 = .ok (.ireturn, 1) := by decide +kernel
theorem dJx4a65c_remove_915e3_0 : decode cJx4a65c_remove_915e3 0 = .ok (.iload_n 1, 1) := by decide +kernel
theorem dJx4a65c_remove_915e3_1 : decode cJx4a65c_remove_915e3 1 = .ok (.aload_n 0, 1) := by decide +kernel
theorem dJx4a65c_remove_915e3_2 : decode cJx4a65c_remove_915e3 2 = .ok (.getfield 48, 3) := by decide +kernel
theorem dJx4a65c_remove_915e3_5 : decode cJx4a65c_remove_915e3 5 = .ok (.invokestatic 118, 3) := by decide +kernel
theorem dJx4a65c_remove_915e3_8 : decode cJx4a65c_remove_915e3 8 = .ok (.pop, 1) := by decide +kernel
theorem dJx4a65c_remove_915e3_9 : decode cJx4a65c_remove_915e3 9 = .ok (.aload_n 0, 1) := by decide +kernel
theorem dJx4a65c_remove_915e3_10 : decode cJx4a65c_remove_915e3 10 = .ok (.getfield 9, 3) := by decide +kernel
theorem dJx4a65c_remove_915e3_13 : decode cJx4a65c_remove_915e3 13 = .ok (.astore_n 2, 1) := by decide +kernel
theorem dJx4a65c_remove_915e3_14 : decode cJx4a65c_remove_915e3 14 = .ok (.aload_n 2, 1) := by decide +kernel
theorem dJx4a65c_remove_915e3_15 : decode cJx4a65c_remove_915e3 15 = .ok (.iload_n 1, 1) := by decide +kernel
theorem dJx4a65c_remove_915e3_16 : decode cJx4a65c_remove_915e3 16 = .ok (.aaload, 1) := by decide +kernel
theorem dJx4a65c_remove_915e3_17 : decode cJx4a65c_remove_915e3 17 = .ok (.astore_n 3, 1) := by decide +kernel
theorem dJx4a65c_remove_915e3_18 : decode cJx4a65c_remove_915e3 18 = .ok (.aload_n 0, 1) := by decide +kernel
theorem dJx4a65c_remove_915e3_19 : decode cJx4a65c_remove_915e3 19 = .ok (.aload_n 2, 1) := by decide +kernel
theorem dJx4a65c_remove_915e3_20 : decode cJx4a65c_remove_915e3 20 = .ok (.iload_n 1, 1) := by decide +kernel
theorem dJx4a65c_remove_915e3_21 : decode cJx4a65c_remove_915e3 21 = .ok (.invokevirtual 144, 3) := by decide +kernel
theorem dJx4a65c_remove_915e3_24 : decode cJx4a65c_remove_915e3 24 = .ok (.aload_n 3, 1) := by decide +kernel
theorem dJx4a65c_remove_915e3_25 : decode cJx4a65c_remove_915e3 25 = .ok (.areturn, 1) := by decide +kernel
theorem dJx4a65c_fastRemove_b59b0_0 : decode cJx4a65c_fastRemove_b59b0 0 = .ok (.aload_n 0, 1) := by decide +kernel
theorem dJx4a65c_fastRemove_b59b0_1 : decode cJx4a65c_fastRemove_b59b0 1 = .ok (.dup, 1) := by decide +kernel
theorem dJx4a65c_fastRemove_b59b0_2 : decode cJx4a65c_fastRemove_b59b0 2 = .ok (.getfield 63, 3) := by decide +kernel
theorem dJx4a65c_fastRemove_b59b0_5 : decode cJx4a65c_fastRemove_b59b0 5 = .ok (.iconst 1, 1) := by decide +kernel
theorem dJx4a65c_fastRemove_b59b0_6 : decode cJx4a65c_fastRemove_b59b0 6 = .ok (.iadd, 1) := by decide +kernel
theorem dJx4a65c_fastRemove_b59b0_7 : decode cJx4a65c_fastRemove_b59b0 7 = .ok (.putfield 63, 3) := by decide +kernel
theorem dJx4a65c_fastRemove_b59b0_10 : decode cJx4a65c_fastRemove_b59b0 10 = .ok (.aload_n 0, 1) := by decide +kernel
theorem dJx4a65c_fastRemove_b59b0_11 : decode cJx4a65c_fastRemove_b59b0 11 = .ok (.getfield 48, 3) := by decide +kernel
theorem dJx4a65c_fastRemove_b59b0_14 : decode cJx4a65c_fastRemove_b59b0 14 = .ok (.iconst 1, 1) := by decide +kernel
theorem dJx4a65c_fastRemove_b59b0_15 : decode cJx4a65c_fastRemove_b59b0 15 = .ok (.isub, 1) := by decide +kernel
theorem dJx4a65c_fastRemove_b59b0_16 : decode cJx4a65c_fastRemove_b59b0 16 = .ok (.dup, 1) := by decide +kernel
theorem dJx4a65c_fastRemove_b59b0_17 : decode cJx4a65c_fastRemove_b59b0 17 = .ok (.istore_n 3, 1) := by decide +kernel
theorem dJx4a65c_fastRemove_b59b0_18 : decode cJx4a65c_fastRemove_b59b0 18 = .ok (.iload_n 2, 1) := by decide +kernel
theorem dJx4a65c_fastRemove_b59b0_19 : decode cJx4a65c_fastRemove_b59b0 19 = .ok (.if_icmp .le 15, 3) := by decide +kernel
theorem dJx4a65c_fastRemove_b59b0_22 : decode cJx4a65c_fastRemove_b59b0 22 = .ok (.aload_n 1, 1) := by decide +kernel
theorem dJx4a65c_fastRemove_b59b0_23 : decode cJx4a65c_fastRemove_b59b0 23 = .ok (.iload_n 2, 1) := by decide +kernel
theorem dJx4a65c_fastRemove_b59b0_24 : decode cJx4a65c_fastRemove_b59b0 24 = .ok (.iconst 1, 1) := by decide +kernel
theorem dJx4a65c_fastRemove_b59b0_25 : decode cJx4a65c_fastRemove_b59b0 25 = .ok (.iadd, 1) := by decide +kernel
theorem dJx4a65c_fastRemove_b59b0_26 : decode cJx4a65c_fastRemove_b59b0 26 = .ok (.aload_n 1, 1) := by decide +kernel
theorem dJx4a65c_fastRemove_b59b0_27 : decode cJx4a65c_fastRemove_b59b0 27 = .ok (.iload_n 2, 1) := by decide +kernel
theorem dJx4a65c_fastRemove_b59b0_28 : decode cJx4a65c_fastRemove_b59b0 28 = .ok (.iload_n 3, 1) := by decide +kernel
theorem dJx4a65c_fastRemove_b59b0_29 : decode cJx4a65c_fastRemove_b59b0 29 = .ok (.iload_n 2, 1) := by decide +kernel
theorem dJx4a65c_fastRemove_b59b0_30 : decode cJx4a65c_fastRemove_b59b0 30 = .ok (.isub, 1) := by decide +kernel
theorem dJx4a65c_fastRemove_b59b0_31 : decode cJx4a65c_fastRemove_b59b0 31 = .ok (.invokestatic 112, 3) := by decide +kernel
theorem dJx4a65c_fastRemove_b59b0_34 : decode cJx4a65c_fastRemove_b59b0 34 = .ok (.aload_n 1, 1) := by decide +kernel
theorem dJx4a65c_fastRemove_b59b0_35 : decode cJx4a65c_fastRemove_b59b0 35 = .ok (.aload_n 0, 1) := by decide +kernel
theorem dJx4a65c_fastRemove_b59b0_36 : decode cJx4a65c_fastRemove_b59b0 36 = .ok (.iload_n 3, 1) := by decide +kernel
theorem dJx4a65c_fastRemove_b59b0_37 : decode cJx4a65c_fastRemove_b59b0 37 = .ok (.dup_x1, 1) := by decide +kernel
theorem dJx4a65c_fastRemove_b59b0_38 : decode cJx4a65c_fastRemove_b59b0 38 = .ok (.putfield 48, 3) := by decide +kernel
theorem dJx4a65c_fastRemove_b59b0_41 : decode cJx4a65c_fastRemove_b59b0 41 = .ok (.aconst_null, 1) := by decide +kernel
theorem dJx4a65c_fastRemove_b59b0_42 : decode cJx4a65c_fastRemove_b59b0 42 = .ok (.aastore, 1) := by decide +kernel
theorem dJx4a65c_fastRemove_b59b0_43 : decode cJx4a65c_fastRemove_b59b0 43 = .ok (.return_, 1) := by decide +kernel
theorem dJx4a65c_clear_da8c8_0 : decode cJx4a65c_clear_da8c8 0 = .ok (.aload_n 0, 1) := by decide +kernel
theorem dJx4a65c_clear_da8c8_1 : decode cJx4a65c_clear_da8c8 1 = .ok (.dup, 1) := by decide +kernel
theorem dJx4a65c_clear_da8c8_2 : decode cJx4a65c_clear_da8c8 2 = .ok (.getfield 63, 3) := by decide +kernel
theorem dJx4a65c_clear_da8c8_5 : decode cJx4a65c_clear_da8c8 5 = .ok (.iconst 1, 1) := by decide +kernel
theorem dJx4a65c_clear_da8c8_6 : decode cJx4a65c_clear_da8c8 6 = .ok (.iadd, 1) := by decide +kernel
theorem dJx4a65c_clear_da8c8_7 : decode cJx4a65c_clear_da8c8 7 = .ok (.putfield 63, 3) := by decide +kernel
theorem dJx4a65c_clear_da8c8_10 : decode cJx4a65c_clear_da8c8 10 = .ok (.aload_n 0, 1) := by decide +kernel
theorem dJx4a65c_clear_da8c8_11 : decode cJx4a65c_clear_da8c8 11 = .ok (.getfield 9, 3) := by decide +kernel
theorem dJx4a65c_clear_da8c8_14 : decode cJx4a65c_clear_da8c8 14 = .ok (.astore_n 1, 1) := by decide +kernel
theorem dJx4a65c_clear_da8c8_15 : decode cJx4a65c_clear_da8c8 15 = .ok (.aload_n 0, 1) := by decide +kernel
theorem dJx4a65c_clear_da8c8_16 : decode cJx4a65c_clear_da8c8 16 = .ok (.getfield 48, 3) := by decide +kernel
theorem dJx4a65c_clear_da8c8_19 : decode cJx4a65c_clear_da8c8 19 = .ok (.istore_n 2, 1) := by decide +kernel
theorem dJx4a65c_clear_da8c8_20 : decode cJx4a65c_clear_da8c8 20 = .ok (.aload_n 0, 1) := by decide +kernel
theorem dJx4a65c_clear_da8c8_21 : decode cJx4a65c_clear_da8c8 21 = .ok (.iconst 0, 1) := by decide +kernel
theorem dJx4a65c_clear_da8c8_22 : decode cJx4a65c_clear_da8c8 22 = .ok (.dup_x1, 1) := by decide +kernel
theorem dJx4a65c_clear_da8c8_23 : decode cJx4a65c_clear_da8c8 23 = .ok (.putfield 48, 3) := by decide +kernel
theorem dJx4a65c_clear_da8c8_26 : decode cJx4a65c_clear_da8c8 26 = .ok (.istore_n 3, 1) := by decide +kernel
theorem dJx4a65c_clear_da8c8_27 : decode cJx4a65c_clear_da8c8 27 = .ok (.iload_n 3, 1) := by decide +kernel
theorem dJx4a65c_clear_da8c8_28 : decode cJx4a65c_clear_da8c8 28 = .ok (.iload_n 2, 1) := by decide +kernel
theorem dJx4a65c_clear_da8c8_29 : decode cJx4a65c_clear_da8c8 29 = .ok (.if_icmp .ge 13, 3) := by decide +kernel
theorem dJx4a65c_clear_da8c8_32 : decode cJx4a65c_clear_da8c8 32 = .ok (.aload_n 1, 1) := by decide +kernel
theorem dJx4a65c_clear_da8c8_33 : decode cJx4a65c_clear_da8c8 33 = .ok (.iload_n 3, 1) := by decide +kernel
theorem dJx4a65c_clear_da8c8_34 : decode cJx4a65c_clear_da8c8 34 = .ok (.aconst_null, 1) := by decide +kernel
theorem dJx4a65c_clear_da8c8_35 : decode cJx4a65c_clear_da8c8 35 = .ok (.aastore, 1) := by decide +kernel
theorem dJx4a65c_clear_da8c8_36 : decode cJx4a65c_clear_da8c8 36 = .ok (.iinc 3 1, 3) := by decide +kernel
theorem dJx4a65c_clear_da8c8_39 : decode cJx4a65c_clear_da8c8 39 = .ok (.goto (-12), 3) := by decide +kernel
theorem dJx4a65c_clear_da8c8_42 : decode cJx4a65c_clear_da8c8 42 = .ok (.return_, 1) := by decide +kernel
theorem dJ7_fill_53178_0 : decode cJ7_fill_53178 0 = .ok (.iconst 0, 1) := by decide +kernel
theorem dJ7_fill_53178_1 : decode cJ7_fill_53178 1 = .ok (.istore_n 2, 1) := by decide +kernel
theorem dJ7_fill_53178_2 : decode cJ7_fill_53178 2 = .ok (.aload_n 0, 1) := by decide +kernel
theorem dJ7_fill_53178_3 : decode cJ7_fill_53178 3 = .ok (.arraylength, 1) := by decide +kernel
theorem dJ7_fill_53178_4 : decode cJ7_fill_53178 4 = .ok (.istore_n 3, 1) := by decide +kernel
theorem dJ7_fill_53178_5 : decode cJ7_fill_53178 5 = .ok (.iload_n 2, 1) := by decide +kernel
theorem dJ7_fill_53178_6 : decode cJ7_fill_53178 6 = .ok (.iload_n 3, 1) := by decide +kernel
theorem dJ7_fill_53178_7 : decode cJ7_fill_53178 7 = .ok (.if_icmp .ge 13, 3) := by decide +kernel
theorem dJ7_fill_53178_10 : decode cJ7_fill_53178 10 = .ok (.aload_n 0, 1) := by decide +kernel
theorem dJ7_fill_53178_11 : decode cJ7_fill_53178 11 = .ok (.iload_n 2, 1) := by decide +kernel
theorem dJ7_fill_53178_12 : decode cJ7_fill_53178 12 = .ok (.iload_n 1, 1) := by decide +kernel
theorem dJ7_fill_53178_13 : decode cJ7_fill_53178 13 = .ok (.iastore, 1) := by decide +kernel
theorem dJ7_fill_53178_14 : decode cJ7_fill_53178 14 = .ok (.iinc 2 1, 3) := by decide +kernel
theorem dJ7_fill_53178_17 : decode cJ7_fill_53178 17 = .ok (.goto (-12), 3) := by decide +kernel
theorem dJ7_fill_53178_20 : decode cJ7_fill_53178 20 = .ok (.return_, 1) := by decide +kernel
theorem dJ7_copyOf_1904c_0 : decode cJ7_copyOf_1904c 0 = .ok (.aload_n 0, 1) := by decide +kernel
theorem dJ7_copyOf_1904c_1 : decode cJ7_copyOf_1904c 1 = .ok (.iload_n 1, 1) := by decide +kernel
theorem dJ7_copyOf_1904c_2 : decode cJ7_copyOf_1904c 2 = .ok (.aload_n 0, 1) := by decide +kernel
theorem dJ7_copyOf_1904c_3 : decode cJ7_copyOf_1904c 3 = .ok (.invokevirtual 86, 3) := by decide +kernel
theorem dJ7_copyOf_1904c_6 : decode cJ7_copyOf_1904c 6 = .ok (.invokestatic 300, 3) := by decide +kernel
theorem dJ7_copyOf_1904c_9 : decode cJ7_copyOf_1904c 9 = .ok (.areturn, 1) := by decide +kernel
theorem dJ7_copyOf_6403c_0 : decode cJ7_copyOf_6403c 0 = .ok (.aload_n 2, 1) := by decide +kernel
theorem dJ7_copyOf_6403c_1 : decode cJ7_copyOf_6403c 1 = .ok (.ldc 110, 2) := by decide +kernel
theorem dJ7_copyOf_6403c_3 : decode cJ7_copyOf_6403c 3 = .ok (.if_acmp .ne 10, 3) := by decide +kernel
theorem dJ7_copyOf_6403c_6 : decode cJ7_copyOf_6403c 6 = .ok (.iload_n 1, 1) := by decide +kernel
theorem dJ7_copyOf_6403c_7 : decode cJ7_copyOf_6403c 7 = .ok (.anewarray 2, 3) := by decide +kernel
theorem dJ7_copyOf_6403c_10 : decode cJ7_copyOf_6403c 10 = .ok (.goto 14, 3) := by decide +kernel
theorem dJ7_copyOf_6403c_13 : decode cJ7_copyOf_6403c 13 = .ok (.aload_n 2, 1) := by decide +kernel
theorem dJ7_copyOf_6403c_14 : decode cJ7_copyOf_6403c 14 = .ok (.invokevirtual 90, 3) := by decide +kernel
theorem dJ7_copyOf_6403c_17 : decode cJ7_copyOf_6403c 17 = .ok (.iload_n 1, 1) := by decide +kernel
theorem dJ7_copyOf_6403c_18 : decode cJ7_copyOf_6403c 18 = .ok (.invokestatic 95, 3) := by decide +kernel
theorem dJ7_copyOf_6403c_21 : decode cJ7_copyOf_6403c 21 = .ok (.checkcast 110, 3) := by decide +kernel
theorem dJ7_copyOf_6403c_24 : decode cJ7_copyOf_6403c 24 = .ok (.astore_n 3, 1) := by decide +kernel
theorem dJ7_copyOf_6403c_25 : decode cJ7_copyOf_6403c 25 = .ok (.aload_n 0, 1) := by decide +kernel
theorem dJ7_copyOf_6403c_26 : decode cJ7_copyOf_6403c 26 = .ok (.iconst 0, 1) := by decide +kernel
theorem dJ7_copyOf_6403c_27 : decode cJ7_copyOf_6403c 27 = .ok (.aload_n 3, 1) := by decide +kernel
theorem dJ7_copyOf_6403c_28 : decode cJ7_copyOf_6403c 28 = .ok (.iconst 0, 1) := by decide +kernel
theorem dJ7_copyOf_6403c_29 : decode cJ7_copyOf_6403c 29 = .ok (.aload_n 0, 1) := by decide +kernel
theorem dJ7_copyOf_6403c_30 : decode cJ7_copyOf_6403c 30 = .ok (.arraylength, 1) := by decide +kernel
theorem dJ7_copyOf_6403c_31 : decode cJ7_copyOf_6403c 31 = .ok (.iload_n 1, 1) := by decide +kernel
theorem dJ7_copyOf_6403c_32 : decode cJ7_copyOf_6403c 32 = .ok (.invokestatic 304, 3) := by decide +kernel
theorem dJ7_copyOf_6403c_35 : decode cJ7_copyOf_6403c 35 = .ok (.invokestatic 150, 3) := by decide +kernel
theorem dJ7_copyOf_6403c_38 : decode cJ7_copyOf_6403c 38 = .ok (.aload_n 3, 1) := by decide +kernel
theorem dJ7_copyOf_6403c_39 : decode cJ7_copyOf_6403c 39 = .ok (.areturn, 1) := by decide +kernel
theorem dJ15_checkIndex_7cf53_0 : decode cJ15_checkIndex_7cf53 0 = .ok (.iload_n 0, 1) := by decide +kernel
theorem dJ15_checkIndex_7cf53_1 : decode cJ15_checkIndex_7cf53 1 = .ok (.iload_n 1, 1) := by decide +kernel
theorem dJ15_checkIndex_7cf53_2 : decode cJ15_checkIndex_7cf53 2 = .ok (.aconst_null, 1) := by decide +kernel
theorem dJ15_checkIndex_7cf53_3 : decode cJ15_checkIndex_7cf53 3 = .ok (.invokestatic 105, 3) := by decide +kernel
theorem dJ15_checkIndex_7cf53_6 : decode cJ15_checkIndex_7cf53 6 = .ok (.ireturn, 1) := by decide +kernel
theorem dJ8_newLength_cabcc_0 : decode cJ8_newLength_cabcc 0 = .ok (.iload_n 0, 1) := by decide +kernel
theorem dJ8_newLength_cabcc_1 : decode cJ8_newLength_cabcc 1 = .ok (.iload_n 1, 1) := by decide +kernel
theorem dJ8_newLength_cabcc_2 : decode cJ8_newLength_cabcc 2 = .ok (.iload_n 2, 1) := by decide +kernel
theorem dJ8_newLength_cabcc_3 : decode cJ8_newLength_cabcc 3 = .ok (.invokestatic 194, 3) := by decide +kernel
theorem dJ8_newLength_cabcc_6 : decode cJ8_newLength_cabcc 6 = .ok (.iadd, 1) := by decide +kernel
theorem dJ8_newLength_cabcc_7 : decode cJ8_newLength_cabcc 7 = .ok (.istore_n 3, 1) := by decide +kernel
theorem dJ8_newLength_cabcc_8 : decode cJ8_newLength_cabcc 8 = .ok (.iconst 0, 1) := by decide +kernel
theorem dJ8_newLength_cabcc_9 : decode cJ8_newLength_cabcc 9 = .ok (.iload_n 3, 1) := by decide +kernel
theorem dJ8_newLength_cabcc_10 : decode cJ8_newLength_cabcc 10 = .ok (.if_icmp .ge 11, 3) := by decide +kernel
theorem dJ8_newLength_cabcc_13 : decode cJ8_newLength_cabcc 13 = .ok (.iload_n 3, 1) := by decide +kernel
theorem dJ8_newLength_cabcc_14 : decode cJ8_newLength_cabcc 14 = .ok (.ldc 200, 2) := by decide +kernel
theorem dJ8_newLength_cabcc_16 : decode cJ8_newLength_cabcc 16 = .ok (.if_icmp .gt 5, 3) := by decide +kernel
theorem dJ8_newLength_cabcc_19 : decode cJ8_newLength_cabcc 19 = .ok (.iload_n 3, 1) := by decide +kernel
theorem dJ8_newLength_cabcc_20 : decode cJ8_newLength_cabcc 20 = .ok (.ireturn, 1) := by decide +kernel
theorem dJ8_newLength_cabcc_21 : decode cJ8_newLength_cabcc 21 = .ok (.iload_n 0, 1) := by decide +kernel
theorem dJ8_newLength_cabcc_22 : decode cJ8_newLength_cabcc 22 = .ok (.iload_n 1, 1) := by decide +kernel
theorem dJ8_newLength_cabcc_23 : decode cJ8_newLength_cabcc 23 = .ok (.invokestatic 201, 3) := by decide +kernel
theorem dJ8_newLength_cabcc_26 : decode cJ8_newLength_cabcc 26 = .ok (.ireturn, 1) := by decide +kernel
theorem dJ8_hugeLength_7cf53_0 : decode cJ8_hugeLength_7cf53 0 = .ok (.iload_n 0, 1) := by decide +kernel
theorem dJ8_hugeLength_7cf53_1 : decode cJ8_hugeLength_7cf53 1 = .ok (.iload_n 1, 1) := by decide +kernel
theorem dJ8_hugeLength_7cf53_2 : decode cJ8_hugeLength_7cf53 2 = .ok (.iadd, 1) := by decide +kernel
theorem dJ8_hugeLength_7cf53_3 : decode cJ8_hugeLength_7cf53 3 = .ok (.istore_n 2, 1) := by decide +kernel
theorem dJ8_hugeLength_7cf53_4 : decode cJ8_hugeLength_7cf53 4 = .ok (.iload_n 2, 1) := by decide +kernel
theorem dJ8_hugeLength_7cf53_5 : decode cJ8_hugeLength_7cf53 5 = .ok (.ifCond .ge 44, 3) := by decide +kernel
theorem dJ8_hugeLength_7cf53_8 : decode cJ8_hugeLength_7cf53 8 = .ok (.new 204, 3) := by decide +kernel
theorem dJ8_hugeLength_7cf53_11 : decode cJ8_hugeLength_7cf53 11 = .ok (.dup, 1) := by decide +kernel
theorem dJ8_hugeLength_7cf53_12 : decode cJ8_hugeLength_7cf53 12 = .ok (.new 89, 3) := by decide +kernel
theorem dJ8_hugeLength_7cf53_15 : decode cJ8_hugeLength_7cf53 15 = .ok (.dup, 1) := by decide +kernel
theorem dJ8_hugeLength_7cf53_16 : decode cJ8_hugeLength_7cf53 16 = .ok (.invokespecial 91, 3) := by decide +kernel
theorem dJ8_hugeLength_7cf53_19 : decode cJ8_hugeLength_7cf53 19 = .ok (.ldc 206, 2) := by decide +kernel
theorem dJ8_hugeLength_7cf53_21 : decode cJ8_hugeLength_7cf53 21 = .ok (.invokevirtual 94, 3) := by decide +kernel
theorem dJ8_hugeLength_7cf53_24 : decode cJ8_hugeLength_7cf53 24 = .ok (.iload_n 0, 1) := by decide +kernel
theorem dJ8_hugeLength_7cf53_25 : decode cJ8_hugeLength_7cf53 25 = .ok (.invokevirtual 98, 3) := by decide +kernel
theorem dJ8_hugeLength_7cf53_28 : decode cJ8_hugeLength_7cf53 28 = .ok (.ldc 208, 2) := by decide +kernel
theorem dJ8_hugeLength_7cf53_30 : decode cJ8_hugeLength_7cf53 30 = .ok (.invokevirtual 94, 3) := by decide +kernel
theorem dJ8_hugeLength_7cf53_33 : decode cJ8_hugeLength_7cf53 33 = .ok (.iload_n 1, 1) := by decide +kernel
theorem dJ8_hugeLength_7cf53_34 : decode cJ8_hugeLength_7cf53 34 = .ok (.invokevirtual 98, 3) := by decide +kernel
theorem dJ8_hugeLength_7cf53_37 : decode cJ8_hugeLength_7cf53 37 = .ok (.ldc 210, 2) := by decide +kernel
theorem dJ8_hugeLength_7cf53_39 : decode cJ8_hugeLength_7cf53 39 = .ok (.invokevirtual 94, 3) := by decide +kernel
theorem dJ8_hugeLength_7cf53_42 : decode cJ8_hugeLength_7cf53 42 = .ok (.invokevirtual 101, 3) := by decide +kernel
theorem dJ8_hugeLength_7cf53_45 : decode cJ8_hugeLength_7cf53 45 = .ok (.invokespecial 212, 3) := by decide +kernel
theorem dJ8_hugeLength_7cf53_48 : decode cJ8_hugeLength_7cf53 48 = .ok (.athrow, 1) := by decide +kernel
theorem dJ8_hugeLength_7cf53_49 : decode cJ8_hugeLength_7cf53 49 = .ok (.iload_n 2, 1) := by decide +kernel
theorem dJ8_hugeLength_7cf53_50 : decode cJ8_hugeLength_7cf53 50 = .ok (.ldc 200, 2) := by decide +kernel
theorem dJ8_hugeLength_7cf53_52 : decode cJ8_hugeLength_7cf53 52 = .ok (.if_icmp .gt 6, 3) := by decide +kernel
theorem dJ8_hugeLength_7cf53_55 : decode cJ8_hugeLength_7cf53 55 = .ok (.ldc 200, 2) := by decide +kernel
theorem dJ8_hugeLength_7cf53_57 : decode cJ8_hugeLength_7cf53 57 = .ok (.ireturn, 1) := by decide +kernel
theorem dJ8_hugeLength_7cf53_58 : decode cJ8_hugeLength_7cf53 58 = .ok (.iload_n 2, 1) := by decide +kernel
theorem dJ8_hugeLength_7cf53_59 : decode cJ8_hugeLength_7cf53 59 = .ok (.ireturn, 1) := by decide +kernel
theorem dJ3_checkIndex_8e157_0 : decode cJ3_checkIndex_8e157 0 = .ok (.iload_n 0, 1) := by decide +kernel
theorem dJ3_checkIndex_8e157_1 : decode cJ3_checkIndex_8e157 1 = .ok (.ifCond .lt 8, 3) := by decide +kernel
theorem dJ3_checkIndex_8e157_4 : decode cJ3_checkIndex_8e157 4 = .ok (.iload_n 0, 1) := by decide +kernel
theorem dJ3_checkIndex_8e157_5 : decode cJ3_checkIndex_8e157 5 = .ok (.iload_n 1, 1) := by decide +kernel
theorem dJ3_checkIndex_8e157_6 : decode cJ3_checkIndex_8e157 6 = .ok (.if_icmp .lt 10, 3) := by decide +kernel
theorem dJ3_checkIndex_8e157_9 : decode cJ3_checkIndex_8e157 9 = .ok (.aload_n 2, 1) := by decide +kernel
theorem dJ3_checkIndex_8e157_10 : decode cJ3_checkIndex_8e157 10 = .ok (.iload_n 0, 1) := by decide +kernel
theorem dJ3_checkIndex_8e157_11 : decode cJ3_checkIndex_8e157 11 = .ok (.iload_n 1, 1) := by decide +kernel
theorem dJ3_checkIndex_8e157_12 : decode cJ3_checkIndex_8e157 12 = .ok (.invokestatic 95, 3) := by decide +kernel
theorem dJ3_checkIndex_8e157_15 : decode cJ3_checkIndex_8e157 15 = .ok (.athrow, 1) := by decide +kernel
theorem dJ3_checkIndex_8e157_16 : decode cJ3_checkIndex_8e157 16 = .ok (.iload_n 0, 1) := by decide +kernel
theorem dJ3_checkIndex_8e157_17 : decode cJ3_checkIndex_8e157 17 = .ok (.ireturn, 1) := by decide +kernel
theorem dL_cell_0 : decode cL_cell 0 = .ok (.iload_n 1, 1) := by decide +kernel
theorem dL_cell_1 : decode cL_cell 1 = .ok (.aload_n 0, 1) := by decide +kernel
theorem dL_cell_2 : decode cL_cell 2 = .ok (.arraylength, 1) := by decide +kernel
theorem dL_cell_3 : decode cL_cell 3 = .ok (.if_icmp .ge 9, 3) := by decide +kernel
theorem dL_cell_6 : decode cL_cell 6 = .ok (.aload_n 0, 1) := by decide +kernel
theorem dL_cell_7 : decode cL_cell 7 = .ok (.iload_n 1, 1) := by decide +kernel
theorem dL_cell_8 : decode cL_cell 8 = .ok (.iaload, 1) := by decide +kernel
theorem dL_cell_9 : decode cL_cell 9 = .ok (.goto 11, 3) := by decide +kernel
theorem dL_cell_12 : decode cL_cell 12 = .ok (.sipush 7919, 3) := by decide +kernel
theorem dL_cell_15 : decode cL_cell 15 = .ok (.iload_n 1, 1) := by decide +kernel
theorem dL_cell_16 : decode cL_cell 16 = .ok (.imul, 1) := by decide +kernel
theorem dL_cell_17 : decode cL_cell 17 = .ok (.bipush 12, 2) := by decide +kernel
theorem dL_cell_19 : decode cL_cell 19 = .ok (.iadd, 1) := by decide +kernel
theorem dL_cell_20 : decode cL_cell 20 = .ok (.ireturn, 1) := by decide +kernel
theorem dL_some_0 : decode cL_some 0 = .ok (.aload_n 0, 1) := by decide +kernel
theorem dL_some_1 : decode cL_some 1 = .ok (.iload_n 1, 1) := by decide +kernel
theorem dL_some_2 : decode cL_some 2 = .ok (.invokestatic 7, 3) := by decide +kernel
theorem dL_some_5 : decode cL_some 5 = .ok (.iconst 3, 1) := by decide +kernel
theorem dL_some_6 : decode cL_some 6 = .ok (.iushr, 1) := by decide +kernel
theorem dL_some_7 : decode cL_some 7 = .ok (.iload_n 2, 1) := by decide +kernel
theorem dL_some_8 : decode cL_some 8 = .ok (.irem, 1) := by decide +kernel
theorem dL_some_9 : decode cL_some 9 = .ok (.ireturn, 1) := by decide +kernel
theorem dL_openSession_0 : decode cL_openSession 0 = .ok (.aload_n 0, 1) := by decide +kernel
theorem dL_openSession_1 : decode cL_openSession 1 = .ok (.invokevirtual 13, 3) := by decide +kernel
theorem dL_openSession_4 : decode cL_openSession 4 = .ok (.ireturn, 1) := by decide +kernel
theorem dL_openSession_5 : decode cL_openSession 5 = .ok (.astore_n 1, 1) := by decide +kernel
theorem dL_openSession_6 : decode cL_openSession 6 = .ok (.ldc 21, 2) := by decide +kernel
theorem dL_openSession_8 : decode cL_openSession 8 = .ok (.ireturn, 1) := by decide +kernel
theorem dL_openWindow_0 : decode cL_openWindow 0 = .ok (.aload_n 0, 1) := by decide +kernel
theorem dL_openWindow_1 : decode cL_openWindow 1 = .ok (.iload_n 1, 1) := by decide +kernel
theorem dL_openWindow_2 : decode cL_openWindow 2 = .ok (.iload_n 2, 1) := by decide +kernel
theorem dL_openWindow_3 : decode cL_openWindow 3 = .ok (.iload_n 3, 1) := by decide +kernel
theorem dL_openWindow_4 : decode cL_openWindow 4 = .ok (.iload 4, 2) := by decide +kernel
theorem dL_openWindow_6 : decode cL_openWindow 6 = .ok (.iload 5, 2) := by decide +kernel
theorem dL_openWindow_8 : decode cL_openWindow 8 = .ok (.invokevirtual 22, 3) := by decide +kernel
theorem dL_openWindow_11 : decode cL_openWindow 11 = .ok (.ireturn, 1) := by decide +kernel
theorem dL_openWindow_12 : decode cL_openWindow 12 = .ok (.astore 6, 2) := by decide +kernel
theorem dL_openWindow_14 : decode cL_openWindow 14 = .ok (.ldc 28, 2) := by decide +kernel
theorem dL_openWindow_16 : decode cL_openWindow 16 = .ok (.ireturn, 1) := by decide +kernel
theorem dL_openWindow_17 : decode cL_openWindow 17 = .ok (.astore 6, 2) := by decide +kernel
theorem dL_openWindow_19 : decode cL_openWindow 19 = .ok (.ldc 31, 2) := by decide +kernel
theorem dL_openWindow_21 : decode cL_openWindow 21 = .ok (.ireturn, 1) := by decide +kernel
theorem dL_openWindow_22 : decode cL_openWindow 22 = .ok (.astore 6, 2) := by decide +kernel
theorem dL_openWindow_24 : decode cL_openWindow 24 = .ok (.ldc 21, 2) := by decide +kernel
theorem dL_openWindow_26 : decode cL_openWindow 26 = .ok (.ireturn, 1) := by decide +kernel
theorem dL_moveWindow_0 : decode cL_moveWindow 0 = .ok (.aload_n 0, 1) := by decide +kernel
theorem dL_moveWindow_1 : decode cL_moveWindow 1 = .ok (.iload_n 1, 1) := by decide +kernel
theorem dL_moveWindow_2 : decode cL_moveWindow 2 = .ok (.iload_n 2, 1) := by decide +kernel
theorem dL_moveWindow_3 : decode cL_moveWindow 3 = .ok (.iload_n 3, 1) := by decide +kernel
theorem dL_moveWindow_4 : decode cL_moveWindow 4 = .ok (.iload 4, 2) := by decide +kernel
theorem dL_moveWindow_6 : decode cL_moveWindow 6 = .ok (.invokevirtual 32, 3) := by decide +kernel
theorem dL_moveWindow_9 : decode cL_moveWindow 9 = .ok (.ireturn, 1) := by decide +kernel
theorem dL_moveWindow_10 : decode cL_moveWindow 10 = .ok (.astore 5, 2) := by decide +kernel
theorem dL_moveWindow_12 : decode cL_moveWindow 12 = .ok (.ldc 28, 2) := by decide +kernel
theorem dL_moveWindow_14 : decode cL_moveWindow 14 = .ok (.ireturn, 1) := by decide +kernel
theorem dL_moveWindow_15 : decode cL_moveWindow 15 = .ok (.astore 5, 2) := by decide +kernel
theorem dL_moveWindow_17 : decode cL_moveWindow 17 = .ok (.ldc 31, 2) := by decide +kernel
theorem dL_moveWindow_19 : decode cL_moveWindow 19 = .ok (.ireturn, 1) := by decide +kernel
theorem dL_draw_0 : decode cL_draw 0 = .ok (.aload_n 0, 1) := by decide +kernel
theorem dL_draw_1 : decode cL_draw 1 = .ok (.iload_n 1, 1) := by decide +kernel
theorem dL_draw_2 : decode cL_draw 2 = .ok (.iload_n 2, 1) := by decide +kernel
theorem dL_draw_3 : decode cL_draw 3 = .ok (.iload_n 3, 1) := by decide +kernel
theorem dL_draw_4 : decode cL_draw 4 = .ok (.iload 4, 2) := by decide +kernel
theorem dL_draw_6 : decode cL_draw 6 = .ok (.iload 5, 2) := by decide +kernel
theorem dL_draw_8 : decode cL_draw 8 = .ok (.iload 6, 2) := by decide +kernel
theorem dL_draw_10 : decode cL_draw 10 = .ok (.iload 7, 2) := by decide +kernel
theorem dL_draw_12 : decode cL_draw 12 = .ok (.invokevirtual 36, 3) := by decide +kernel
theorem dL_draw_15 : decode cL_draw 15 = .ok (.ireturn, 1) := by decide +kernel
theorem dL_draw_16 : decode cL_draw 16 = .ok (.astore 8, 2) := by decide +kernel
theorem dL_draw_18 : decode cL_draw 18 = .ok (.ldc 28, 2) := by decide +kernel
theorem dL_draw_20 : decode cL_draw 20 = .ok (.ireturn, 1) := by decide +kernel
theorem dL_draw_21 : decode cL_draw 21 = .ok (.astore 8, 2) := by decide +kernel
theorem dL_draw_23 : decode cL_draw 23 = .ok (.ldc 31, 2) := by decide +kernel
theorem dL_draw_25 : decode cL_draw 25 = .ok (.ireturn, 1) := by decide +kernel
theorem dL_screen_0 : decode cL_screen 0 = .ok (.aload_n 0, 1) := by decide +kernel
theorem dL_screen_1 : decode cL_screen 1 = .ok (.iload_n 1, 1) := by decide +kernel
theorem dL_screen_2 : decode cL_screen 2 = .ok (.iload_n 2, 1) := by decide +kernel
theorem dL_screen_3 : decode cL_screen 3 = .ok (.iload_n 3, 1) := by decide +kernel
theorem dL_screen_4 : decode cL_screen 4 = .ok (.invokevirtual 40, 3) := by decide +kernel
theorem dL_screen_7 : decode cL_screen 7 = .ok (.ireturn, 1) := by decide +kernel
theorem dL_screen_8 : decode cL_screen 8 = .ok (.astore 4, 2) := by decide +kernel
theorem dL_screen_10 : decode cL_screen 10 = .ok (.ldc 28, 2) := by decide +kernel
theorem dL_screen_12 : decode cL_screen 12 = .ok (.ireturn, 1) := by decide +kernel
theorem dL_join_0 : decode cL_join 0 = .ok (.aload_n 0, 1) := by decide +kernel
theorem dL_join_1 : decode cL_join 1 = .ok (.iload_n 1, 1) := by decide +kernel
theorem dL_join_2 : decode cL_join 2 = .ok (.iload_n 2, 1) := by decide +kernel
theorem dL_join_3 : decode cL_join 3 = .ok (.invokevirtual 44, 3) := by decide +kernel
theorem dL_join_6 : decode cL_join 6 = .ok (.ireturn, 1) := by decide +kernel
theorem dL_join_7 : decode cL_join 7 = .ok (.astore_n 3, 1) := by decide +kernel
theorem dL_join_8 : decode cL_join 8 = .ok (.ldc 28, 2) := by decide +kernel
theorem dL_join_10 : decode cL_join 10 = .ok (.ireturn, 1) := by decide +kernel
theorem dL_join_11 : decode cL_join 11 = .ok (.astore_n 3, 1) := by decide +kernel
theorem dL_join_12 : decode cL_join 12 = .ok (.ldc 31, 2) := by decide +kernel
theorem dL_join_14 : decode cL_join 14 = .ok (.ireturn, 1) := by decide +kernel
theorem dL_join_15 : decode cL_join 15 = .ok (.astore_n 3, 1) := by decide +kernel
theorem dL_join_16 : decode cL_join 16 = .ok (.ldc 21, 2) := by decide +kernel
theorem dL_join_18 : decode cL_join 18 = .ok (.ireturn, 1) := by decide +kernel
theorem dL_bid_0 : decode cL_bid 0 = .ok (.aload_n 0, 1) := by decide +kernel
theorem dL_bid_1 : decode cL_bid 1 = .ok (.iload_n 1, 1) := by decide +kernel
theorem dL_bid_2 : decode cL_bid 2 = .ok (.iload_n 2, 1) := by decide +kernel
theorem dL_bid_3 : decode cL_bid 3 = .ok (.invokevirtual 48, 3) := by decide +kernel
theorem dL_bid_6 : decode cL_bid 6 = .ok (.ireturn, 1) := by decide +kernel
theorem dL_bid_7 : decode cL_bid 7 = .ok (.astore_n 3, 1) := by decide +kernel
theorem dL_bid_8 : decode cL_bid 8 = .ok (.ldc 28, 2) := by decide +kernel
theorem dL_bid_10 : decode cL_bid 10 = .ok (.ireturn, 1) := by decide +kernel
theorem dL_bid_11 : decode cL_bid 11 = .ok (.astore_n 3, 1) := by decide +kernel
theorem dL_bid_12 : decode cL_bid 12 = .ok (.ldc 31, 2) := by decide +kernel
theorem dL_bid_14 : decode cL_bid 14 = .ok (.ireturn, 1) := by decide +kernel
theorem dL_money_0 : decode cL_money 0 = .ok (.aload_n 0, 1) := by decide +kernel
theorem dL_money_1 : decode cL_money 1 = .ok (.iload_n 1, 1) := by decide +kernel
theorem dL_money_2 : decode cL_money 2 = .ok (.invokevirtual 51, 3) := by decide +kernel
theorem dL_money_5 : decode cL_money 5 = .ok (.ireturn, 1) := by decide +kernel
theorem dL_money_6 : decode cL_money 6 = .ok (.astore_n 2, 1) := by decide +kernel
theorem dL_money_7 : decode cL_money 7 = .ok (.ldc 28, 2) := by decide +kernel
theorem dL_money_9 : decode cL_money 9 = .ok (.ireturn, 1) := by decide +kernel
theorem dL_picture_0 : decode cL_picture 0 = .ok (.aload_n 0, 1) := by decide +kernel
theorem dL_picture_1 : decode cL_picture 1 = .ok (.iload_n 1, 1) := by decide +kernel
theorem dL_picture_2 : decode cL_picture 2 = .ok (.iload_n 2, 1) := by decide +kernel
theorem dL_picture_3 : decode cL_picture 3 = .ok (.iload_n 3, 1) := by decide +kernel
theorem dL_picture_4 : decode cL_picture 4 = .ok (.invokevirtual 55, 3) := by decide +kernel
theorem dL_picture_7 : decode cL_picture 7 = .ok (.ireturn, 1) := by decide +kernel
theorem dL_picture_8 : decode cL_picture 8 = .ok (.astore 4, 2) := by decide +kernel
theorem dL_picture_10 : decode cL_picture 10 = .ok (.ldc 28, 2) := by decide +kernel
theorem dL_picture_12 : decode cL_picture 12 = .ok (.ireturn, 1) := by decide +kernel
theorem dL_seen_0 : decode cL_seen 0 = .ok (.aload_n 0, 1) := by decide +kernel
theorem dL_seen_1 : decode cL_seen 1 = .ok (.iload_n 1, 1) := by decide +kernel
theorem dL_seen_2 : decode cL_seen 2 = .ok (.iload_n 2, 1) := by decide +kernel
theorem dL_seen_3 : decode cL_seen 3 = .ok (.iload_n 3, 1) := by decide +kernel
theorem dL_seen_4 : decode cL_seen 4 = .ok (.invokevirtual 58, 3) := by decide +kernel
theorem dL_seen_7 : decode cL_seen 7 = .ok (.ireturn, 1) := by decide +kernel
theorem dL_seen_8 : decode cL_seen 8 = .ok (.astore 4, 2) := by decide +kernel
theorem dL_seen_10 : decode cL_seen 10 = .ok (.ldc 28, 2) := by decide +kernel
theorem dL_seen_12 : decode cL_seen 12 = .ok (.ireturn, 1) := by decide +kernel
theorem dL_behind_0 : decode cL_behind 0 = .ok (.aload_n 0, 1) := by decide +kernel
theorem dL_behind_1 : decode cL_behind 1 = .ok (.iload_n 1, 1) := by decide +kernel
theorem dL_behind_2 : decode cL_behind 2 = .ok (.invokevirtual 61, 3) := by decide +kernel
theorem dL_behind_5 : decode cL_behind 5 = .ok (.ireturn, 1) := by decide +kernel
theorem dL_behind_6 : decode cL_behind 6 = .ok (.astore_n 2, 1) := by decide +kernel
theorem dL_behind_7 : decode cL_behind 7 = .ok (.ldc 28, 2) := by decide +kernel
theorem dL_behind_9 : decode cL_behind 9 = .ok (.ireturn, 1) := by decide +kernel
theorem dL_next_0 : decode cL_next 0 = .ok (.aload_n 0, 1) := by decide +kernel
theorem dL_next_1 : decode cL_next 1 = .ok (.iload_n 1, 1) := by decide +kernel
theorem dL_next_2 : decode cL_next 2 = .ok (.invokevirtual 64, 3) := by decide +kernel
theorem dL_next_5 : decode cL_next 5 = .ok (.ireturn, 1) := by decide +kernel
theorem dL_next_6 : decode cL_next 6 = .ok (.astore_n 2, 1) := by decide +kernel
theorem dL_next_7 : decode cL_next 7 = .ok (.ldc 28, 2) := by decide +kernel
theorem dL_next_9 : decode cL_next 9 = .ok (.ireturn, 1) := by decide +kernel
theorem dL_next_10 : decode cL_next 10 = .ok (.astore_n 2, 1) := by decide +kernel
theorem dL_next_11 : decode cL_next 11 = .ok (.ldc 70, 2) := by decide +kernel
theorem dL_next_13 : decode cL_next 13 = .ok (.ireturn, 1) := by decide +kernel
theorem dL_nextCost_0 : decode cL_nextCost 0 = .ok (.aload_n 0, 1) := by decide +kernel
theorem dL_nextCost_1 : decode cL_nextCost 1 = .ok (.iload_n 1, 1) := by decide +kernel
theorem dL_nextCost_2 : decode cL_nextCost 2 = .ok (.invokevirtual 71, 3) := by decide +kernel
theorem dL_nextCost_5 : decode cL_nextCost 5 = .ok (.ireturn, 1) := by decide +kernel
theorem dL_nextCost_6 : decode cL_nextCost 6 = .ok (.astore_n 2, 1) := by decide +kernel
theorem dL_nextCost_7 : decode cL_nextCost 7 = .ok (.ldc 28, 2) := by decide +kernel
theorem dL_nextCost_9 : decode cL_nextCost 9 = .ok (.ireturn, 1) := by decide +kernel
theorem dL_nextCost_10 : decode cL_nextCost 10 = .ok (.astore_n 2, 1) := by decide +kernel
theorem dL_nextCost_11 : decode cL_nextCost 11 = .ok (.ldc 70, 2) := by decide +kernel
theorem dL_nextCost_13 : decode cL_nextCost 13 = .ok (.ireturn, 1) := by decide +kernel
theorem dL_tick_0 : decode cL_tick 0 = .ok (.aload_n 0, 1) := by decide +kernel
theorem dL_tick_1 : decode cL_tick 1 = .ok (.iload_n 1, 1) := by decide +kernel
theorem dL_tick_2 : decode cL_tick 2 = .ok (.invokevirtual 74, 3) := by decide +kernel
theorem dL_tick_5 : decode cL_tick 5 = .ok (.ireturn, 1) := by decide +kernel
theorem dL_tick_6 : decode cL_tick 6 = .ok (.astore_n 2, 1) := by decide +kernel
theorem dL_tick_7 : decode cL_tick 7 = .ok (.ldc 31, 2) := by decide +kernel
theorem dL_tick_9 : decode cL_tick 9 = .ok (.ireturn, 1) := by decide +kernel
theorem dL_type_0 : decode cL_type 0 = .ok (.aload_n 0, 1) := by decide +kernel
theorem dL_type_1 : decode cL_type 1 = .ok (.iload_n 1, 1) := by decide +kernel
theorem dL_type_2 : decode cL_type 2 = .ok (.iload_n 2, 1) := by decide +kernel
theorem dL_type_3 : decode cL_type 3 = .ok (.invokevirtual 77, 3) := by decide +kernel
theorem dL_type_6 : decode cL_type 6 = .ok (.ireturn, 1) := by decide +kernel
theorem dL_type_7 : decode cL_type 7 = .ok (.astore_n 3, 1) := by decide +kernel
theorem dL_type_8 : decode cL_type 8 = .ok (.ldc 28, 2) := by decide +kernel
theorem dL_type_10 : decode cL_type 10 = .ok (.ireturn, 1) := by decide +kernel
theorem dL_type_11 : decode cL_type 11 = .ok (.astore_n 3, 1) := by decide +kernel
theorem dL_type_12 : decode cL_type 12 = .ok (.ldc 31, 2) := by decide +kernel
theorem dL_type_14 : decode cL_type 14 = .ok (.ireturn, 1) := by decide +kernel
theorem dL_type_15 : decode cL_type 15 = .ok (.astore_n 3, 1) := by decide +kernel
theorem dL_type_16 : decode cL_type 16 = .ok (.ldc 83, 2) := by decide +kernel
theorem dL_type_18 : decode cL_type 18 = .ok (.ireturn, 1) := by decide +kernel
theorem dL_type_19 : decode cL_type 19 = .ok (.astore_n 3, 1) := by decide +kernel
theorem dL_type_20 : decode cL_type 20 = .ok (.ldc 21, 2) := by decide +kernel
theorem dL_type_22 : decode cL_type 22 = .ok (.ireturn, 1) := by decide +kernel
theorem dL_guesses_0 : decode cL_guesses 0 = .ok (.aload_n 0, 1) := by decide +kernel
theorem dL_guesses_1 : decode cL_guesses 1 = .ok (.iload_n 1, 1) := by decide +kernel
theorem dL_guesses_2 : decode cL_guesses 2 = .ok (.invokevirtual 84, 3) := by decide +kernel
theorem dL_guesses_5 : decode cL_guesses 5 = .ok (.ireturn, 1) := by decide +kernel
theorem dL_guesses_6 : decode cL_guesses 6 = .ok (.astore_n 2, 1) := by decide +kernel
theorem dL_guesses_7 : decode cL_guesses 7 = .ok (.ldc 28, 2) := by decide +kernel
theorem dL_guesses_9 : decode cL_guesses 9 = .ok (.ireturn, 1) := by decide +kernel
theorem dL_copy_0 : decode cL_copy 0 = .ok (.aload_n 0, 1) := by decide +kernel
theorem dL_copy_1 : decode cL_copy 1 = .ok (.iload_n 1, 1) := by decide +kernel
theorem dL_copy_2 : decode cL_copy 2 = .ok (.iload_n 2, 1) := by decide +kernel
theorem dL_copy_3 : decode cL_copy 3 = .ok (.iload_n 3, 1) := by decide +kernel
theorem dL_copy_4 : decode cL_copy 4 = .ok (.invokevirtual 87, 3) := by decide +kernel
theorem dL_copy_7 : decode cL_copy 7 = .ok (.ireturn, 1) := by decide +kernel
theorem dL_copy_8 : decode cL_copy 8 = .ok (.astore 4, 2) := by decide +kernel
theorem dL_copy_10 : decode cL_copy 10 = .ok (.ldc 28, 2) := by decide +kernel
theorem dL_copy_12 : decode cL_copy 12 = .ok (.ireturn, 1) := by decide +kernel
theorem dL_copy_13 : decode cL_copy 13 = .ok (.astore 4, 2) := by decide +kernel
theorem dL_copy_15 : decode cL_copy 15 = .ok (.ldc 31, 2) := by decide +kernel
theorem dL_copy_17 : decode cL_copy 17 = .ok (.ireturn, 1) := by decide +kernel
theorem dL_paste_0 : decode cL_paste 0 = .ok (.aload_n 0, 1) := by decide +kernel
theorem dL_paste_1 : decode cL_paste 1 = .ok (.iload_n 1, 1) := by decide +kernel
theorem dL_paste_2 : decode cL_paste 2 = .ok (.iload_n 2, 1) := by decide +kernel
theorem dL_paste_3 : decode cL_paste 3 = .ok (.invokevirtual 90, 3) := by decide +kernel
theorem dL_paste_6 : decode cL_paste 6 = .ok (.ireturn, 1) := by decide +kernel
theorem dL_paste_7 : decode cL_paste 7 = .ok (.astore_n 3, 1) := by decide +kernel
theorem dL_paste_8 : decode cL_paste 8 = .ok (.ldc 28, 2) := by decide +kernel
theorem dL_paste_10 : decode cL_paste 10 = .ok (.ireturn, 1) := by decide +kernel
theorem dL_paste_11 : decode cL_paste 11 = .ok (.astore_n 3, 1) := by decide +kernel
theorem dL_paste_12 : decode cL_paste 12 = .ok (.ldc 70, 2) := by decide +kernel
theorem dL_paste_14 : decode cL_paste 14 = .ok (.ireturn, 1) := by decide +kernel
theorem dL_paste_15 : decode cL_paste 15 = .ok (.astore_n 3, 1) := by decide +kernel
theorem dL_paste_16 : decode cL_paste 16 = .ok (.ldc 83, 2) := by decide +kernel
theorem dL_paste_18 : decode cL_paste 18 = .ok (.ireturn, 1) := by decide +kernel
theorem dL_left_0 : decode cL_left 0 = .ok (.aload_n 0, 1) := by decide +kernel
theorem dL_left_1 : decode cL_left 1 = .ok (.iload_n 1, 1) := by decide +kernel
theorem dL_left_2 : decode cL_left 2 = .ok (.invokevirtual 93, 3) := by decide +kernel
theorem dL_left_5 : decode cL_left 5 = .ok (.ireturn, 1) := by decide +kernel
theorem dL_left_6 : decode cL_left 6 = .ok (.astore_n 2, 1) := by decide +kernel
theorem dL_left_7 : decode cL_left 7 = .ok (.ldc 28, 2) := by decide +kernel
theorem dL_left_9 : decode cL_left 9 = .ok (.ireturn, 1) := by decide +kernel
theorem dL_left_10 : decode cL_left 10 = .ok (.astore_n 2, 1) := by decide +kernel
theorem dL_left_11 : decode cL_left 11 = .ok (.ldc 21, 2) := by decide +kernel
theorem dL_left_13 : decode cL_left 13 = .ok (.ireturn, 1) := by decide +kernel
theorem dL_host_0 : decode cL_host 0 = .ok (.aload_n 0, 1) := by decide +kernel
theorem dL_host_1 : decode cL_host 1 = .ok (.iload_n 1, 1) := by decide +kernel
theorem dL_host_2 : decode cL_host 2 = .ok (.invokevirtual 96, 3) := by decide +kernel
theorem dL_host_5 : decode cL_host 5 = .ok (.ireturn, 1) := by decide +kernel
theorem dL_host_6 : decode cL_host 6 = .ok (.astore_n 2, 1) := by decide +kernel
theorem dL_host_7 : decode cL_host 7 = .ok (.ldc 28, 2) := by decide +kernel
theorem dL_host_9 : decode cL_host 9 = .ok (.ireturn, 1) := by decide +kernel
theorem dL_record_0 : decode cL_record 0 = .ok (.aload_n 0, 1) := by decide +kernel
theorem dL_record_1 : decode cL_record 1 = .ok (.iload_n 1, 1) := by decide +kernel
theorem dL_record_2 : decode cL_record 2 = .ok (.invokevirtual 99, 3) := by decide +kernel
theorem dL_record_5 : decode cL_record 5 = .ok (.ireturn, 1) := by decide +kernel
theorem dL_record_6 : decode cL_record 6 = .ok (.astore_n 2, 1) := by decide +kernel
theorem dL_record_7 : decode cL_record 7 = .ok (.ldc 28, 2) := by decide +kernel
theorem dL_record_9 : decode cL_record 9 = .ok (.ireturn, 1) := by decide +kernel
theorem dL_played_0 : decode cL_played 0 = .ok (.aload_n 0, 1) := by decide +kernel
theorem dL_played_1 : decode cL_played 1 = .ok (.iload_n 1, 1) := by decide +kernel
theorem dL_played_2 : decode cL_played 2 = .ok (.iload_n 2, 1) := by decide +kernel
theorem dL_played_3 : decode cL_played 3 = .ok (.iload_n 3, 1) := by decide +kernel
theorem dL_played_4 : decode cL_played 4 = .ok (.iload 4, 2) := by decide +kernel
theorem dL_played_6 : decode cL_played 6 = .ok (.invokevirtual 102, 3) := by decide +kernel
theorem dL_played_9 : decode cL_played 9 = .ok (.ireturn, 1) := by decide +kernel
theorem dL_played_10 : decode cL_played 10 = .ok (.astore 5, 2) := by decide +kernel
theorem dL_played_12 : decode cL_played 12 = .ok (.ldc 28, 2) := by decide +kernel
theorem dL_played_14 : decode cL_played 14 = .ok (.ireturn, 1) := by decide +kernel
theorem dL_played_15 : decode cL_played 15 = .ok (.astore 5, 2) := by decide +kernel
theorem dL_played_17 : decode cL_played 17 = .ok (.ldc 70, 2) := by decide +kernel
theorem dL_played_19 : decode cL_played 19 = .ok (.ireturn, 1) := by decide +kernel
theorem dL_noted_0 : decode cL_noted 0 = .ok (.aload_n 0, 1) := by decide +kernel
theorem dL_noted_1 : decode cL_noted 1 = .ok (.iload_n 1, 1) := by decide +kernel
theorem dL_noted_2 : decode cL_noted 2 = .ok (.invokevirtual 105, 3) := by decide +kernel
theorem dL_noted_5 : decode cL_noted 5 = .ok (.ireturn, 1) := by decide +kernel
theorem dL_noted_6 : decode cL_noted 6 = .ok (.astore_n 2, 1) := by decide +kernel
theorem dL_noted_7 : decode cL_noted 7 = .ok (.ldc 28, 2) := by decide +kernel
theorem dL_noted_9 : decode cL_noted 9 = .ok (.ireturn, 1) := by decide +kernel
theorem dL_noted_10 : decode cL_noted 10 = .ok (.astore_n 2, 1) := by decide +kernel
theorem dL_noted_11 : decode cL_noted 11 = .ok (.ldc 70, 2) := by decide +kernel
theorem dL_noted_13 : decode cL_noted 13 = .ok (.ireturn, 1) := by decide +kernel
theorem dL_is_0 : decode cL_is 0 = .ok (.iload_n 1, 1) := by decide +kernel
theorem dL_is_1 : decode cL_is 1 = .ok (.bipush 99, 2) := by decide +kernel
theorem dL_is_3 : decode cL_is 3 = .ok (.if_icmp .ne 15, 3) := by decide +kernel
theorem dL_is_6 : decode cL_is 6 = .ok (.aload_n 0, 1) := by decide +kernel
theorem dL_is_7 : decode cL_is 7 = .ok (.iload_n 2, 1) := by decide +kernel
theorem dL_is_8 : decode cL_is 8 = .ok (.iload_n 3, 1) := by decide +kernel
theorem dL_is_9 : decode cL_is 9 = .ok (.invokevirtual 108, 3) := by decide +kernel
theorem dL_is_12 : decode cL_is 12 = .ok (.ifCond .eq 109, 3) := by decide +kernel
theorem dL_is_15 : decode cL_is 15 = .ok (.goto 102, 3) := by decide +kernel
theorem dL_is_18 : decode cL_is 18 = .ok (.iload_n 1, 1) := by decide +kernel
theorem dL_is_19 : decode cL_is 19 = .ok (.bipush 114, 2) := by decide +kernel
theorem dL_is_21 : decode cL_is 21 = .ok (.if_icmp .ne 15, 3) := by decide +kernel
theorem dL_is_24 : decode cL_is 24 = .ok (.aload_n 0, 1) := by decide +kernel
theorem dL_is_25 : decode cL_is 25 = .ok (.iload_n 2, 1) := by decide +kernel
theorem dL_is_26 : decode cL_is 26 = .ok (.iload_n 3, 1) := by decide +kernel
theorem dL_is_27 : decode cL_is 27 = .ok (.invokevirtual 112, 3) := by decide +kernel
theorem dL_is_30 : decode cL_is 30 = .ok (.ifCond .eq 91, 3) := by decide +kernel
theorem dL_is_33 : decode cL_is 33 = .ok (.goto 84, 3) := by decide +kernel
theorem dL_is_36 : decode cL_is 36 = .ok (.iload_n 1, 1) := by decide +kernel
theorem dL_is_37 : decode cL_is 37 = .ok (.bipush 115, 2) := by decide +kernel
theorem dL_is_39 : decode cL_is 39 = .ok (.if_icmp .ne 17, 3) := by decide +kernel
theorem dL_is_42 : decode cL_is 42 = .ok (.aload_n 0, 1) := by decide +kernel
theorem dL_is_43 : decode cL_is 43 = .ok (.iload_n 2, 1) := by decide +kernel
theorem dL_is_44 : decode cL_is 44 = .ok (.iload_n 3, 1) := by decide +kernel
theorem dL_is_45 : decode cL_is 45 = .ok (.iload 5, 2) := by decide +kernel
theorem dL_is_47 : decode cL_is 47 = .ok (.invokevirtual 115, 3) := by decide +kernel
theorem dL_is_50 : decode cL_is 50 = .ok (.ifCond .eq 71, 3) := by decide +kernel
theorem dL_is_53 : decode cL_is 53 = .ok (.goto 64, 3) := by decide +kernel
theorem dL_is_56 : decode cL_is 56 = .ok (.iload_n 1, 1) := by decide +kernel
theorem dL_is_57 : decode cL_is 57 = .ok (.bipush 109, 2) := by decide +kernel
theorem dL_is_59 : decode cL_is 59 = .ok (.if_icmp .ne 28, 3) := by decide +kernel
theorem dL_is_62 : decode cL_is 62 = .ok (.aload_n 0, 1) := by decide +kernel
theorem dL_is_63 : decode cL_is 63 = .ok (.iload_n 2, 1) := by decide +kernel
theorem dL_is_64 : decode cL_is 64 = .ok (.iload_n 3, 1) := by decide +kernel
theorem dL_is_65 : decode cL_is 65 = .ok (.iload 5, 2) := by decide +kernel
theorem dL_is_67 : decode cL_is 67 = .ok (.iload 4, 2) := by decide +kernel
theorem dL_is_69 : decode cL_is 69 = .ok (.iconst 1, 1) := by decide +kernel
theorem dL_is_70 : decode cL_is 70 = .ok (.if_icmp .ne 7, 3) := by decide +kernel
theorem dL_is_73 : decode cL_is 73 = .ok (.iconst 1, 1) := by decide +kernel
theorem dL_is_74 : decode cL_is 74 = .ok (.goto 4, 3) := by decide +kernel
theorem dL_is_77 : decode cL_is 77 = .ok (.iconst 0, 1) := by decide +kernel
theorem dL_is_78 : decode cL_is 78 = .ok (.invokevirtual 119, 3) := by decide +kernel
theorem dL_is_81 : decode cL_is 81 = .ok (.ifCond .eq 40, 3) := by decide +kernel
theorem dL_is_84 : decode cL_is 84 = .ok (.goto 33, 3) := by decide +kernel
theorem dL_is_87 : decode cL_is 87 = .ok (.iload_n 1, 1) := by decide +kernel
theorem dL_is_88 : decode cL_is 88 = .ok (.bipush 97, 2) := by decide +kernel
theorem dL_is_90 : decode cL_is 90 = .ok (.if_icmp .ne 19, 3) := by decide +kernel
theorem dL_is_93 : decode cL_is 93 = .ok (.aload_n 0, 1) := by decide +kernel
theorem dL_is_94 : decode cL_is 94 = .ok (.iload_n 2, 1) := by decide +kernel
theorem dL_is_95 : decode cL_is 95 = .ok (.iload_n 3, 1) := by decide +kernel
theorem dL_is_96 : decode cL_is 96 = .ok (.iload 4, 2) := by decide +kernel
theorem dL_is_98 : decode cL_is 98 = .ok (.iload 5, 2) := by decide +kernel
theorem dL_is_100 : decode cL_is 100 = .ok (.invokevirtual 123, 3) := by decide +kernel
theorem dL_is_103 : decode cL_is 103 = .ok (.ifCond .eq 18, 3) := by decide +kernel
theorem dL_is_106 : decode cL_is 106 = .ok (.goto 11, 3) := by decide +kernel
theorem dL_is_109 : decode cL_is 109 = .ok (.aload_n 0, 1) := by decide +kernel
theorem dL_is_110 : decode cL_is 110 = .ok (.iload_n 2, 1) := by decide +kernel
theorem dL_is_111 : decode cL_is 111 = .ok (.invokevirtual 127, 3) := by decide +kernel
theorem dL_is_114 : decode cL_is 114 = .ok (.ifCond .eq 7, 3) := by decide +kernel
theorem dL_is_117 : decode cL_is 117 = .ok (.iconst 1, 1) := by decide +kernel
theorem dL_is_118 : decode cL_is 118 = .ok (.goto 4, 3) := by decide +kernel
theorem dL_is_121 : decode cL_is 121 = .ok (.iconst 0, 1) := by decide +kernel
theorem dL_is_122 : decode cL_is 122 = .ok (.ireturn, 1) := by decide +kernel
theorem dL_is_123 : decode cL_is 123 = .ok (.astore 6, 2) := by decide +kernel
theorem dL_is_125 : decode cL_is 125 = .ok (.ldc 28, 2) := by decide +kernel
theorem dL_is_127 : decode cL_is 127 = .ok (.ireturn, 1) := by decide +kernel
theorem dL_is_128 : decode cL_is 128 = .ok (.astore 6, 2) := by decide +kernel
theorem dL_is_130 : decode cL_is 130 = .ok (.ldc 31, 2) := by decide +kernel
theorem dL_is_132 : decode cL_is 132 = .ok (.ireturn, 1) := by decide +kernel
theorem dL_is_133 : decode cL_is 133 = .ok (.astore 6, 2) := by decide +kernel
theorem dL_is_135 : decode cL_is 135 = .ok (.ldc 21, 2) := by decide +kernel
theorem dL_is_137 : decode cL_is 137 = .ok (.ireturn, 1) := by decide +kernel
theorem dL_told_0 : decode cL_told 0 = .ok (.iconst 0, 1) := by decide +kernel
theorem dL_told_1 : decode cL_told 1 = .ok (.istore_n 3, 1) := by decide +kernel
theorem dL_told_2 : decode cL_told 2 = .ok (.aload_n 0, 1) := by decide +kernel
theorem dL_told_3 : decode cL_told 3 = .ok (.iload_n 1, 1) := by decide +kernel
theorem dL_told_4 : decode cL_told 4 = .ok (.invokestatic 131, 3) := by decide +kernel
theorem dL_told_7 : decode cL_told 7 = .ok (.istore 4, 2) := by decide +kernel
theorem dL_told_9 : decode cL_told 9 = .ok (.aload_n 0, 1) := by decide +kernel
theorem dL_told_10 : decode cL_told 10 = .ok (.iload_n 1, 1) := by decide +kernel
theorem dL_told_11 : decode cL_told 11 = .ok (.invokestatic 134, 3) := by decide +kernel
theorem dL_told_14 : decode cL_told 14 = .ok (.istore 5, 2) := by decide +kernel
theorem dL_told_16 : decode cL_told 16 = .ok (.iconst 0, 1) := by decide +kernel
theorem dL_told_17 : decode cL_told 17 = .ok (.istore 6, 2) := by decide +kernel
theorem dL_told_19 : decode cL_told 19 = .ok (.iload 6, 2) := by decide +kernel
theorem dL_told_21 : decode cL_told 21 = .ok (.bipush 96, 2) := by decide +kernel
theorem dL_told_23 : decode cL_told 23 = .ok (.if_icmp .ge 45, 3) := by decide +kernel
theorem dL_told_26 : decode cL_told 26 = .ok (.aload_n 0, 1) := by decide +kernel
theorem dL_told_27 : decode cL_told 27 = .ok (.iload_n 1, 1) := by decide +kernel
theorem dL_told_28 : decode cL_told 28 = .ok (.iload 6, 2) := by decide +kernel
theorem dL_told_30 : decode cL_told 30 = .ok (.bipush 12, 2) := by decide +kernel
theorem dL_told_32 : decode cL_told 32 = .ok (.irem, 1) := by decide +kernel
theorem dL_told_33 : decode cL_told 33 = .ok (.iload 6, 2) := by decide +kernel
theorem dL_told_35 : decode cL_told 35 = .ok (.bipush 12, 2) := by decide +kernel
theorem dL_told_37 : decode cL_told 37 = .ok (.idiv, 1) := by decide +kernel
theorem dL_told_38 : decode cL_told 38 = .ok (.invokestatic 136, 3) := by decide +kernel
theorem dL_told_41 : decode cL_told 41 = .ok (.aload_n 0, 1) := by decide +kernel
theorem dL_told_42 : decode cL_told 42 = .ok (.iload_n 2, 1) := by decide +kernel
theorem dL_told_43 : decode cL_told 43 = .ok (.iload 6, 2) := by decide +kernel
theorem dL_told_45 : decode cL_told 45 = .ok (.bipush 12, 2) := by decide +kernel
theorem dL_told_47 : decode cL_told 47 = .ok (.irem, 1) := by decide +kernel
theorem dL_told_48 : decode cL_told 48 = .ok (.iload 6, 2) := by decide +kernel
theorem dL_told_50 : decode cL_told 50 = .ok (.bipush 12, 2) := by decide +kernel
theorem dL_told_52 : decode cL_told 52 = .ok (.idiv, 1) := by decide +kernel
theorem dL_told_53 : decode cL_told 53 = .ok (.invokestatic 139, 3) := by decide +kernel
theorem dL_told_56 : decode cL_told 56 = .ok (.if_icmp .eq 6, 3) := by decide +kernel
theorem dL_told_59 : decode cL_told 59 = .ok (.iinc 3 1, 3) := by decide +kernel
theorem dL_told_62 : decode cL_told 62 = .ok (.iinc 6 1, 3) := by decide +kernel
theorem dL_told_65 : decode cL_told 65 = .ok (.goto (-46), 3) := by decide +kernel
theorem dL_told_68 : decode cL_told 68 = .ok (.aload_n 0, 1) := by decide +kernel
theorem dL_told_69 : decode cL_told 69 = .ok (.iload_n 1, 1) := by decide +kernel
theorem dL_told_70 : decode cL_told 70 = .ok (.invokestatic 141, 3) := by decide +kernel
theorem dL_told_73 : decode cL_told 73 = .ok (.iload_n 3, 1) := by decide +kernel
theorem dL_told_74 : decode cL_told 74 = .ok (.if_icmp .ne 69, 3) := by decide +kernel
theorem dL_told_77 : decode cL_told 77 = .ok (.iload 4, 2) := by decide +kernel
theorem dL_told_79 : decode cL_told 79 = .ok (.ldc 70, 2) := by decide +kernel
theorem dL_told_81 : decode cL_told 81 = .ok (.if_icmp .ne 7, 3) := by decide +kernel
theorem dL_told_84 : decode cL_told 84 = .ok (.iconst 1, 1) := by decide +kernel
theorem dL_told_85 : decode cL_told 85 = .ok (.goto 4, 3) := by decide +kernel
theorem dL_told_88 : decode cL_told 88 = .ok (.iconst 0, 1) := by decide +kernel
theorem dL_told_89 : decode cL_told 89 = .ok (.iload_n 3, 1) := by decide +kernel
theorem dL_told_90 : decode cL_told 90 = .ok (.ifCond .ne 7, 3) := by decide +kernel
theorem dL_told_93 : decode cL_told 93 = .ok (.iconst 1, 1) := by decide +kernel
theorem dL_told_94 : decode cL_told 94 = .ok (.goto 4, 3) := by decide +kernel
theorem dL_told_97 : decode cL_told 97 = .ok (.iconst 0, 1) := by decide +kernel
theorem dL_told_98 : decode cL_told 98 = .ok (.if_icmp .ne 45, 3) := by decide +kernel
theorem dL_told_101 : decode cL_told 101 = .ok (.iload 5, 2) := by decide +kernel
theorem dL_told_103 : decode cL_told 103 = .ok (.ldc 70, 2) := by decide +kernel
theorem dL_told_105 : decode cL_told 105 = .ok (.if_icmp .ne 7, 3) := by decide +kernel
theorem dL_told_108 : decode cL_told 108 = .ok (.iconst 1, 1) := by decide +kernel
theorem dL_told_109 : decode cL_told 109 = .ok (.goto 4, 3) := by decide +kernel
theorem dL_told_112 : decode cL_told 112 = .ok (.iconst 0, 1) := by decide +kernel
theorem dL_told_113 : decode cL_told 113 = .ok (.iload_n 3, 1) := by decide +kernel
theorem dL_told_114 : decode cL_told 114 = .ok (.ifCond .ne 7, 3) := by decide +kernel
theorem dL_told_117 : decode cL_told 117 = .ok (.iconst 1, 1) := by decide +kernel
theorem dL_told_118 : decode cL_told 118 = .ok (.goto 4, 3) := by decide +kernel
theorem dL_told_121 : decode cL_told 121 = .ok (.iconst 0, 1) := by decide +kernel
theorem dL_told_122 : decode cL_told 122 = .ok (.if_icmp .ne 21, 3) := by decide +kernel
theorem dL_told_125 : decode cL_told 125 = .ok (.aload_n 0, 1) := by decide +kernel
theorem dL_told_126 : decode cL_told 126 = .ok (.iload_n 1, 1) := by decide +kernel
theorem dL_told_127 : decode cL_told 127 = .ok (.invokestatic 143, 3) := by decide +kernel
theorem dL_told_130 : decode cL_told 130 = .ok (.ifCond .lt 13, 3) := by decide +kernel
theorem dL_told_133 : decode cL_told 133 = .ok (.aload_n 0, 1) := by decide +kernel
theorem dL_told_134 : decode cL_told 134 = .ok (.iload_n 1, 1) := by decide +kernel
theorem dL_told_135 : decode cL_told 135 = .ok (.invokestatic 143, 3) := by decide +kernel
theorem dL_told_138 : decode cL_told 138 = .ok (.bipush 60, 2) := by decide +kernel
theorem dL_told_140 : decode cL_told 140 = .ok (.if_icmp .le 5, 3) := by decide +kernel
theorem dL_told_143 : decode cL_told 143 = .ok (.iconst 0, 1) := by decide +kernel
theorem dL_told_144 : decode cL_told 144 = .ok (.ireturn, 1) := by decide +kernel
theorem dL_told_145 : decode cL_told 145 = .ok (.iload 4, 2) := by decide +kernel
theorem dL_told_147 : decode cL_told 147 = .ok (.ldc 70, 2) := by decide +kernel
theorem dL_told_149 : decode cL_told 149 = .ok (.if_icmp .eq 50, 3) := by decide +kernel
theorem dL_told_152 : decode cL_told 152 = .ok (.iload 4, 2) := by decide +kernel
theorem dL_told_154 : decode cL_told 154 = .ok (.bipush 99, 2) := by decide +kernel
theorem dL_told_156 : decode cL_told 156 = .ok (.if_icmp .ne 10, 3) := by decide +kernel
theorem dL_told_159 : decode cL_told 159 = .ok (.iload 5, 2) := by decide +kernel
theorem dL_told_161 : decode cL_told 161 = .ok (.bipush 6, 2) := by decide +kernel
theorem dL_told_163 : decode cL_told 163 = .ok (.if_icmp .eq 36, 3) := by decide +kernel
theorem dL_told_166 : decode cL_told 166 = .ok (.iload 4, 2) := by decide +kernel
theorem dL_told_168 : decode cL_told 168 = .ok (.bipush 102, 2) := by decide +kernel
theorem dL_told_170 : decode cL_told 170 = .ok (.if_icmp .ne 9, 3) := by decide +kernel
theorem dL_told_173 : decode cL_told 173 = .ok (.iload 5, 2) := by decide +kernel
theorem dL_told_175 : decode cL_told 175 = .ok (.iconst 5, 1) := by decide +kernel
theorem dL_told_176 : decode cL_told 176 = .ok (.if_icmp .eq 23, 3) := by decide +kernel
theorem dL_told_179 : decode cL_told 179 = .ok (.iload 4, 2) := by decide +kernel
theorem dL_told_181 : decode cL_told 181 = .ok (.bipush 114, 2) := by decide +kernel
theorem dL_told_183 : decode cL_told 183 = .ok (.if_icmp .ne 20, 3) := by decide +kernel
theorem dL_told_186 : decode cL_told 186 = .ok (.iload 5, 2) := by decide +kernel
theorem dL_told_188 : decode cL_told 188 = .ok (.iconst 2, 1) := by decide +kernel
theorem dL_told_189 : decode cL_told 189 = .ok (.if_icmp .le 14, 3) := by decide +kernel
theorem dL_told_192 : decode cL_told 192 = .ok (.iload 5, 2) := by decide +kernel
theorem dL_told_194 : decode cL_told 194 = .ok (.bipush 15, 2) := by decide +kernel
theorem dL_told_196 : decode cL_told 196 = .ok (.if_icmp .ge 7, 3) := by decide +kernel
theorem dL_told_199 : decode cL_told 199 = .ok (.iconst 1, 1) := by decide +kernel
theorem dL_told_200 : decode cL_told 200 = .ok (.goto 4, 3) := by decide +kernel
theorem dL_told_203 : decode cL_told 203 = .ok (.iconst 0, 1) := by decide +kernel
theorem dL_told_204 : decode cL_told 204 = .ok (.ireturn, 1) := by decide +kernel
theorem dL_law_0 : decode cL_law 0 = .ok (.new 14, 3) := by decide +kernel
theorem dL_law_3 : decode cL_law 3 = .ok (.dup, 1) := by decide +kernel
theorem dL_law_4 : decode cL_law 4 = .ok (.invokespecial 145, 3) := by decide +kernel
theorem dL_law_7 : decode cL_law 7 = .ok (.astore_n 1, 1) := by decide +kernel
theorem dL_law_8 : decode cL_law 8 = .ok (.iconst 1, 1) := by decide +kernel
theorem dL_law_9 : decode cL_law 9 = .ok (.aload_n 0, 1) := by decide +kernel
theorem dL_law_10 : decode cL_law 10 = .ok (.iconst 0, 1) := by decide +kernel
theorem dL_law_11 : decode cL_law 11 = .ok (.iconst 4, 1) := by decide +kernel
theorem dL_law_12 : decode cL_law 12 = .ok (.invokestatic 146, 3) := by decide +kernel
theorem dL_law_15 : decode cL_law 15 = .ok (.iadd, 1) := by decide +kernel
theorem dL_law_16 : decode cL_law 16 = .ok (.istore_n 2, 1) := by decide +kernel
theorem dL_law_17 : decode cL_law 17 = .ok (.iconst 1, 1) := by decide +kernel
theorem dL_law_18 : decode cL_law 18 = .ok (.aload_n 0, 1) := by decide +kernel
theorem dL_law_19 : decode cL_law 19 = .ok (.iconst 1, 1) := by decide +kernel
theorem dL_law_20 : decode cL_law 20 = .ok (.bipush 6, 2) := by decide +kernel
theorem dL_law_22 : decode cL_law 22 = .ok (.invokestatic 146, 3) := by decide +kernel
theorem dL_law_25 : decode cL_law 25 = .ok (.iadd, 1) := by decide +kernel
theorem dL_law_26 : decode cL_law 26 = .ok (.istore_n 3, 1) := by decide +kernel
theorem dL_law_27 : decode cL_law 27 = .ok (.iload_n 3, 1) := by decide +kernel
theorem dL_law_28 : decode cL_law 28 = .ok (.newarray .int, 2) := by decide +kernel
theorem dL_law_30 : decode cL_law 30 = .ok (.astore 4, 2) := by decide +kernel
theorem dL_law_32 : decode cL_law 32 = .ok (.iload_n 2, 1) := by decide +kernel
theorem dL_law_33 : decode cL_law 33 = .ok (.newarray .int, 2) := by decide +kernel
theorem dL_law_35 : decode cL_law 35 = .ok (.astore 5, 2) := by decide +kernel
theorem dL_law_37 : decode cL_law 37 = .ok (.sipush 256, 3) := by decide +kernel
theorem dL_law_40 : decode cL_law 40 = .ok (.newarray .boolean, 2) := by decide +kernel
theorem dL_law_42 : decode cL_law 42 = .ok (.astore 6, 2) := by decide +kernel
theorem dL_law_44 : decode cL_law 44 = .ok (.aload 6, 2) := by decide +kernel
theorem dL_law_46 : decode cL_law 46 = .ok (.iconst 0, 1) := by decide +kernel
theorem dL_law_47 : decode cL_law 47 = .ok (.iconst 1, 1) := by decide +kernel
theorem dL_law_48 : decode cL_law 48 = .ok (.bastore, 1) := by decide +kernel
theorem dL_law_49 : decode cL_law 49 = .ok (.lconst 0, 1) := by decide +kernel
theorem dL_law_50 : decode cL_law 50 = .ok (.lstore 7, 2) := by decide +kernel
theorem dL_law_52 : decode cL_law 52 = .ok (.iconst 0, 1) := by decide +kernel
theorem dL_law_53 : decode cL_law 53 = .ok (.istore 9, 2) := by decide +kernel
theorem dL_law_55 : decode cL_law 55 = .ok (.iload 9, 2) := by decide +kernel
theorem dL_law_57 : decode cL_law 57 = .ok (.iload_n 2, 1) := by decide +kernel
theorem dL_law_58 : decode cL_law 58 = .ok (.if_icmp .ge 20, 3) := by decide +kernel
theorem dL_law_61 : decode cL_law 61 = .ok (.aload_n 1, 1) := by decide +kernel
theorem dL_law_62 : decode cL_law 62 = .ok (.invokestatic 150, 3) := by decide +kernel
theorem dL_law_65 : decode cL_law 65 = .ok (.iload 9, 2) := by decide +kernel
theorem dL_law_67 : decode cL_law 67 = .ok (.if_icmp .eq 5, 3) := by decide +kernel
theorem dL_law_70 : decode cL_law 70 = .ok (.iconst 0, 1) := by decide +kernel
theorem dL_law_71 : decode cL_law 71 = .ok (.ireturn, 1) := by decide +kernel
theorem dL_law_72 : decode cL_law 72 = .ok (.iinc 9 1, 3) := by decide +kernel
theorem dL_law_75 : decode cL_law 75 = .ok (.goto (-20), 3) := by decide +kernel
theorem dL_law_78 : decode cL_law 78 = .ok (.iconst 0, 1) := by decide +kernel
theorem dL_law_79 : decode cL_law 79 = .ok (.istore 9, 2) := by decide +kernel
theorem dL_law_81 : decode cL_law 81 = .ok (.iload 9, 2) := by decide +kernel
theorem dL_law_83 : decode cL_law 83 = .ok (.iload_n 3, 1) := by decide +kernel
theorem dL_law_84 : decode cL_law 84 = .ok (.if_icmp .ge 50, 3) := by decide +kernel
theorem dL_law_87 : decode cL_law 87 = .ok (.aload 4, 2) := by decide +kernel
theorem dL_law_89 : decode cL_law 89 = .ok (.iload 9, 2) := by decide +kernel
theorem dL_law_91 : decode cL_law 91 = .ok (.aload_n 0, 1) := by decide +kernel
theorem dL_law_92 : decode cL_law 92 = .ok (.iconst 2, 1) := by decide +kernel
theorem dL_law_93 : decode cL_law 93 = .ok (.iload 9, 2) := by decide +kernel
theorem dL_law_95 : decode cL_law 95 = .ok (.iadd, 1) := by decide +kernel
theorem dL_law_96 : decode cL_law 96 = .ok (.iload_n 2, 1) := by decide +kernel
theorem dL_law_97 : decode cL_law 97 = .ok (.invokestatic 146, 3) := by decide +kernel
theorem dL_law_100 : decode cL_law 100 = .ok (.iastore, 1) := by decide +kernel
theorem dL_law_101 : decode cL_law 101 = .ok (.aload_n 1, 1) := by decide +kernel
theorem dL_law_102 : decode cL_law 102 = .ok (.aload 4, 2) := by decide +kernel
theorem dL_law_104 : decode cL_law 104 = .ok (.iload 9, 2) := by decide +kernel
theorem dL_law_106 : decode cL_law 106 = .ok (.iaload, 1) := by decide +kernel
theorem dL_law_107 : decode cL_law 107 = .ok (.aload_n 0, 1) := by decide +kernel
theorem dL_law_108 : decode cL_law 108 = .ok (.bipush 8, 2) := by decide +kernel
theorem dL_law_110 : decode cL_law 110 = .ok (.iload 9, 2) := by decide +kernel
theorem dL_law_112 : decode cL_law 112 = .ok (.iadd, 1) := by decide +kernel
theorem dL_law_113 : decode cL_law 113 = .ok (.bipush 10, 2) := by decide +kernel
theorem dL_law_115 : decode cL_law 115 = .ok (.invokestatic 146, 3) := by decide +kernel
theorem dL_law_118 : decode cL_law 118 = .ok (.invokestatic 153, 3) := by decide +kernel
theorem dL_law_121 : decode cL_law 121 = .ok (.iload 9, 2) := by decide +kernel
theorem dL_law_123 : decode cL_law 123 = .ok (.if_icmp .eq 5, 3) := by decide +kernel
theorem dL_law_126 : decode cL_law 126 = .ok (.iconst 0, 1) := by decide +kernel
theorem dL_law_127 : decode cL_law 127 = .ok (.ireturn, 1) := by decide +kernel
theorem dL_law_128 : decode cL_law 128 = .ok (.iinc 9 1, 3) := by decide +kernel
theorem dL_law_131 : decode cL_law 131 = .ok (.goto (-50), 3) := by decide +kernel
theorem dL_law_134 : decode cL_law 134 = .ok (.iconst 0, 1) := by decide +kernel
theorem dL_law_135 : decode cL_law 135 = .ok (.istore 9, 2) := by decide +kernel
theorem dL_law_137 : decode cL_law 137 = .ok (.iload 9, 2) := by decide +kernel
theorem dL_law_139 : decode cL_law 139 = .ok (.bipush 45, 2) := by decide +kernel
theorem dL_law_141 : decode cL_law 141 = .ok (.if_icmp .ge 1189, 3) := by decide +kernel
theorem dL_law_144 : decode cL_law 144 = .ok (.bipush 14, 2) := by decide +kernel
theorem dL_law_146 : decode cL_law 146 = .ok (.bipush 7, 2) := by decide +kernel
theorem dL_law_148 : decode cL_law 148 = .ok (.iload 9, 2) := by decide +kernel
theorem dL_law_150 : decode cL_law 150 = .ok (.imul, 1) := by decide +kernel
theorem dL_law_151 : decode cL_law 151 = .ok (.iadd, 1) := by decide +kernel
theorem dL_law_152 : decode cL_law 152 = .ok (.istore 10, 2) := by decide +kernel
theorem dL_law_154 : decode cL_law 154 = .ok (.aload_n 0, 1) := by decide +kernel
theorem dL_law_155 : decode cL_law 155 = .ok (.iload 10, 2) := by decide +kernel
theorem dL_law_157 : decode cL_law 157 = .ok (.bipush 13, 2) := by decide +kernel
theorem dL_law_159 : decode cL_law 159 = .ok (.invokestatic 146, 3) := by decide +kernel
theorem dL_law_162 : decode cL_law 162 = .ok (.istore 11, 2) := by decide +kernel
theorem dL_law_164 : decode cL_law 164 = .ok (.aload_n 0, 1) := by decide +kernel
theorem dL_law_165 : decode cL_law 165 = .ok (.iload 10, 2) := by decide +kernel
theorem dL_law_167 : decode cL_law 167 = .ok (.iconst 1, 1) := by decide +kernel
theorem dL_law_168 : decode cL_law 168 = .ok (.iadd, 1) := by decide +kernel
theorem dL_law_169 : decode cL_law 169 = .ok (.iload_n 2, 1) := by decide +kernel
theorem dL_law_170 : decode cL_law 170 = .ok (.invokestatic 146, 3) := by decide +kernel
theorem dL_law_173 : decode cL_law 173 = .ok (.istore 12, 2) := by decide +kernel
theorem dL_law_175 : decode cL_law 175 = .ok (.aload_n 0, 1) := by decide +kernel
theorem dL_law_176 : decode cL_law 176 = .ok (.iload 10, 2) := by decide +kernel
theorem dL_law_178 : decode cL_law 178 = .ok (.iconst 2, 1) := by decide +kernel
theorem dL_law_179 : decode cL_law 179 = .ok (.iadd, 1) := by decide +kernel
theorem dL_law_180 : decode cL_law 180 = .ok (.iload_n 3, 1) := by decide +kernel
theorem dL_law_181 : decode cL_law 181 = .ok (.invokestatic 146, 3) := by decide +kernel
theorem dL_law_184 : decode cL_law 184 = .ok (.istore 13, 2) := by decide +kernel
theorem dL_law_186 : decode cL_law 186 = .ok (.aload 5, 2) := by decide +kernel
theorem dL_law_188 : decode cL_law 188 = .ok (.iload 12, 2) := by decide +kernel
theorem dL_law_190 : decode cL_law 190 = .ok (.iaload, 1) := by decide +kernel
theorem dL_law_191 : decode cL_law 191 = .ok (.ifCond .ne 7, 3) := by decide +kernel
theorem dL_law_194 : decode cL_law 194 = .ok (.iconst 0, 1) := by decide +kernel
theorem dL_law_195 : decode cL_law 195 = .ok (.goto 16, 3) := by decide +kernel
theorem dL_law_198 : decode cL_law 198 = .ok (.aload_n 0, 1) := by decide +kernel
theorem dL_law_199 : decode cL_law 199 = .ok (.iload 10, 2) := by decide +kernel
theorem dL_law_201 : decode cL_law 201 = .ok (.iconst 3, 1) := by decide +kernel
theorem dL_law_202 : decode cL_law 202 = .ok (.iadd, 1) := by decide +kernel
theorem dL_law_203 : decode cL_law 203 = .ok (.aload 5, 2) := by decide +kernel
theorem dL_law_205 : decode cL_law 205 = .ok (.iload 12, 2) := by decide +kernel
theorem dL_law_207 : decode cL_law 207 = .ok (.iaload, 1) := by decide +kernel
theorem dL_law_208 : decode cL_law 208 = .ok (.invokestatic 146, 3) := by decide +kernel
theorem dL_law_211 : decode cL_law 211 = .ok (.istore 14, 2) := by decide +kernel
theorem dL_law_213 : decode cL_law 213 = .ok (.iload 11, 2) := by decide +kernel
theorem dL_law_215 : decode cL_law 215 = .ok (.iconst 2, 1) := by decide +kernel
theorem dL_law_216 : decode cL_law 216 = .ok (.if_icmp .ge 108, 3) := by decide +kernel
theorem dL_law_219 : decode cL_law 219 = .ok (.aload_n 1, 1) := by decide +kernel
theorem dL_law_220 : decode cL_law 220 = .ok (.iload 12, 2) := by decide +kernel
theorem dL_law_222 : decode cL_law 222 = .ok (.aload_n 0, 1) := by decide +kernel
theorem dL_law_223 : decode cL_law 223 = .ok (.iload 10, 2) := by decide +kernel
theorem dL_law_225 : decode cL_law 225 = .ok (.iconst 3, 1) := by decide +kernel
theorem dL_law_226 : decode cL_law 226 = .ok (.iadd, 1) := by decide +kernel
theorem dL_law_227 : decode cL_law 227 = .ok (.bipush 17, 2) := by decide +kernel
theorem dL_law_229 : decode cL_law 229 = .ok (.invokestatic 146, 3) := by decide +kernel
theorem dL_law_232 : decode cL_law 232 = .ok (.iconst 5, 1) := by decide +kernel
theorem dL_law_233 : decode cL_law 233 = .ok (.isub, 1) := by decide +kernel
theorem dL_law_234 : decode cL_law 234 = .ok (.aload_n 0, 1) := by decide +kernel
theorem dL_law_235 : decode cL_law 235 = .ok (.iload 10, 2) := by decide +kernel
theorem dL_law_237 : decode cL_law 237 = .ok (.iconst 4, 1) := by decide +kernel
theorem dL_law_238 : decode cL_law 238 = .ok (.iadd, 1) := by decide +kernel
theorem dL_law_239 : decode cL_law 239 = .ok (.bipush 13, 2) := by decide +kernel
theorem dL_law_241 : decode cL_law 241 = .ok (.invokestatic 146, 3) := by decide +kernel
theorem dL_law_244 : decode cL_law 244 = .ok (.iconst 5, 1) := by decide +kernel
theorem dL_law_245 : decode cL_law 245 = .ok (.isub, 1) := by decide +kernel
theorem dL_law_246 : decode cL_law 246 = .ok (.iconst 1, 1) := by decide +kernel
theorem dL_law_247 : decode cL_law 247 = .ok (.aload_n 0, 1) := by decide +kernel
theorem dL_law_248 : decode cL_law 248 = .ok (.iload 10, 2) := by decide +kernel
theorem dL_law_250 : decode cL_law 250 = .ok (.iconst 5, 1) := by decide +kernel
theorem dL_law_251 : decode cL_law 251 = .ok (.iadd, 1) := by decide +kernel
theorem dL_law_252 : decode cL_law 252 = .ok (.bipush 12, 2) := by decide +kernel
theorem dL_law_254 : decode cL_law 254 = .ok (.invokestatic 146, 3) := by decide +kernel
theorem dL_law_257 : decode cL_law 257 = .ok (.iadd, 1) := by decide +kernel
theorem dL_law_258 : decode cL_law 258 = .ok (.iconst 1, 1) := by decide +kernel
theorem dL_law_259 : decode cL_law 259 = .ok (.aload_n 0, 1) := by decide +kernel
theorem dL_law_260 : decode cL_law 260 = .ok (.iload 10, 2) := by decide +kernel
theorem dL_law_262 : decode cL_law 262 = .ok (.bipush 6, 2) := by decide +kernel
theorem dL_law_264 : decode cL_law 264 = .ok (.iadd, 1) := by decide +kernel
theorem dL_law_265 : decode cL_law 265 = .ok (.bipush 8, 2) := by decide +kernel
theorem dL_law_267 : decode cL_law 267 = .ok (.invokestatic 146, 3) := by decide +kernel
theorem dL_law_270 : decode cL_law 270 = .ok (.iadd, 1) := by decide +kernel
theorem dL_law_271 : decode cL_law 271 = .ok (.invokestatic 156, 3) := by decide +kernel
theorem dL_law_274 : decode cL_law 274 = .ok (.istore 15, 2) := by decide +kernel
theorem dL_law_276 : decode cL_law 276 = .ok (.iload 15, 2) := by decide +kernel
theorem dL_law_278 : decode cL_law 278 = .ok (.aload 5, 2) := by decide +kernel
theorem dL_law_280 : decode cL_law 280 = .ok (.iload 12, 2) := by decide +kernel
theorem dL_law_282 : decode cL_law 282 = .ok (.iaload, 1) := by decide +kernel
theorem dL_law_283 : decode cL_law 283 = .ok (.bipush 6, 2) := by decide +kernel
theorem dL_law_285 : decode cL_law 285 = .ok (.if_icmp .ne 8, 3) := by decide +kernel
theorem dL_law_288 : decode cL_law 288 = .ok (.ldc 21, 2) := by decide +kernel
theorem dL_law_290 : decode cL_law 290 = .ok (.goto 8, 3) := by decide +kernel
theorem dL_law_293 : decode cL_law 293 = .ok (.aload 5, 2) := by decide +kernel
theorem dL_law_295 : decode cL_law 295 = .ok (.iload 12, 2) := by decide +kernel
theorem dL_law_297 : decode cL_law 297 = .ok (.iaload, 1) := by decide +kernel
theorem dL_law_298 : decode cL_law 298 = .ok (.if_icmp .eq 5, 3) := by decide +kernel
theorem dL_law_301 : decode cL_law 301 = .ok (.iconst 0, 1) := by decide +kernel
theorem dL_law_302 : decode cL_law 302 = .ok (.ireturn, 1) := by decide +kernel
theorem dL_law_303 : decode cL_law 303 = .ok (.aload 5, 2) := by decide +kernel
theorem dL_law_305 : decode cL_law 305 = .ok (.iload 12, 2) := by decide +kernel
theorem dL_law_307 : decode cL_law 307 = .ok (.dup2, 1) := by decide +kernel
theorem dL_law_308 : decode cL_law 308 = .ok (.iaload, 1) := by decide +kernel
theorem dL_law_309 : decode cL_law 309 = .ok (.iload 15, 2) := by decide +kernel
theorem dL_law_311 : decode cL_law 311 = .ok (.ifCond .ge 7, 3) := by decide +kernel
theorem dL_law_314 : decode cL_law 314 = .ok (.iconst 0, 1) := by decide +kernel
theorem dL_law_315 : decode cL_law 315 = .ok (.goto 4, 3) := by decide +kernel
theorem dL_law_318 : decode cL_law 318 = .ok (.iconst 1, 1) := by decide +kernel
theorem dL_law_319 : decode cL_law 319 = .ok (.iadd, 1) := by decide +kernel
theorem dL_law_320 : decode cL_law 320 = .ok (.iastore, 1) := by decide +kernel
theorem dL_law_321 : decode cL_law 321 = .ok (.goto 909, 3) := by decide +kernel
theorem dL_law_324 : decode cL_law 324 = .ok (.iload 11, 2) := by decide +kernel
theorem dL_law_326 : decode cL_law 326 = .ok (.iconst 5, 1) := by decide +kernel
theorem dL_law_327 : decode cL_law 327 = .ok (.if_icmp .ge 124, 3) := by decide +kernel
theorem dL_law_330 : decode cL_law 330 = .ok (.bipush 10, 2) := by decide +kernel
theorem dL_law_332 : decode cL_law 332 = .ok (.aload_n 0, 1) := by decide +kernel
theorem dL_law_333 : decode cL_law 333 = .ok (.iload 10, 2) := by decide +kernel
theorem dL_law_335 : decode cL_law 335 = .ok (.iconst 2, 1) := by decide +kernel
theorem dL_law_336 : decode cL_law 336 = .ok (.iadd, 1) := by decide +kernel
theorem dL_law_337 : decode cL_law 337 = .ok (.bipush 9, 2) := by decide +kernel
theorem dL_law_339 : decode cL_law 339 = .ok (.invokestatic 146, 3) := by decide +kernel
theorem dL_law_342 : decode cL_law 342 = .ok (.imul, 1) := by decide +kernel
theorem dL_law_343 : decode cL_law 343 = .ok (.istore 15, 2) := by decide +kernel
theorem dL_law_345 : decode cL_law 345 = .ok (.aload_n 1, 1) := by decide +kernel
theorem dL_law_346 : decode cL_law 346 = .ok (.iload 12, 2) := by decide +kernel
theorem dL_law_348 : decode cL_law 348 = .ok (.iload 14, 2) := by decide +kernel
theorem dL_law_350 : decode cL_law 350 = .ok (.aload_n 0, 1) := by decide +kernel
theorem dL_law_351 : decode cL_law 351 = .ok (.iload 10, 2) := by decide +kernel
theorem dL_law_353 : decode cL_law 353 = .ok (.iconst 4, 1) := by decide +kernel
theorem dL_law_354 : decode cL_law 354 = .ok (.iadd, 1) := by decide +kernel
theorem dL_law_355 : decode cL_law 355 = .ok (.bipush 6, 2) := by decide +kernel
theorem dL_law_357 : decode cL_law 357 = .ok (.invokestatic 146, 3) := by decide +kernel
theorem dL_law_360 : decode cL_law 360 = .ok (.aload_n 0, 1) := by decide +kernel
theorem dL_law_361 : decode cL_law 361 = .ok (.iload 10, 2) := by decide +kernel
theorem dL_law_363 : decode cL_law 363 = .ok (.iconst 5, 1) := by decide +kernel
theorem dL_law_364 : decode cL_law 364 = .ok (.iadd, 1) := by decide +kernel
theorem dL_law_365 : decode cL_law 365 = .ok (.iconst 4, 1) := by decide +kernel
theorem dL_law_366 : decode cL_law 366 = .ok (.invokestatic 146, 3) := by decide +kernel
theorem dL_law_369 : decode cL_law 369 = .ok (.iconst 1, 1) := by decide +kernel
theorem dL_law_370 : decode cL_law 370 = .ok (.aload_n 0, 1) := by decide +kernel
theorem dL_law_371 : decode cL_law 371 = .ok (.iload 10, 2) := by decide +kernel
theorem dL_law_373 : decode cL_law 373 = .ok (.bipush 6, 2) := by decide +kernel
theorem dL_law_375 : decode cL_law 375 = .ok (.iadd, 1) := by decide +kernel
theorem dL_law_376 : decode cL_law 376 = .ok (.bipush 8, 2) := by decide +kernel
theorem dL_law_378 : decode cL_law 378 = .ok (.invokestatic 146, 3) := by decide +kernel
theorem dL_law_381 : decode cL_law 381 = .ok (.iadd, 1) := by decide +kernel
theorem dL_law_382 : decode cL_law 382 = .ok (.iconst 1, 1) := by decide +kernel
theorem dL_law_383 : decode cL_law 383 = .ok (.aload_n 0, 1) := by decide +kernel
theorem dL_law_384 : decode cL_law 384 = .ok (.iload 10, 2) := by decide +kernel
theorem dL_law_386 : decode cL_law 386 = .ok (.iconst 2, 1) := by decide +kernel
theorem dL_law_387 : decode cL_law 387 = .ok (.iadd, 1) := by decide +kernel
theorem dL_law_388 : decode cL_law 388 = .ok (.bipush 6, 2) := by decide +kernel
theorem dL_law_390 : decode cL_law 390 = .ok (.invokestatic 146, 3) := by decide +kernel
theorem dL_law_393 : decode cL_law 393 = .ok (.iadd, 1) := by decide +kernel
theorem dL_law_394 : decode cL_law 394 = .ok (.iload 15, 2) := by decide +kernel
theorem dL_law_396 : decode cL_law 396 = .ok (.invokestatic 159, 3) := by decide +kernel
theorem dL_law_399 : decode cL_law 399 = .ok (.istore 16, 2) := by decide +kernel
theorem dL_law_401 : decode cL_law 401 = .ok (.iload 16, 2) := by decide +kernel
theorem dL_law_403 : decode cL_law 403 = .ok (.ifCond .le 9, 3) := by decide +kernel
theorem dL_law_406 : decode cL_law 406 = .ok (.aload 6, 2) := by decide +kernel
theorem dL_law_408 : decode cL_law 408 = .ok (.iload 15, 2) := by decide +kernel
theorem dL_law_410 : decode cL_law 410 = .ok (.iconst 1, 1) := by decide +kernel
theorem dL_law_411 : decode cL_law 411 = .ok (.bastore, 1) := by decide +kernel
theorem dL_law_412 : decode cL_law 412 = .ok (.iload 16, 2) := by decide +kernel
theorem dL_law_414 : decode cL_law 414 = .ok (.ifCond .lt 23, 3) := by decide +kernel
theorem dL_law_417 : decode cL_law 417 = .ok (.aload_n 1, 1) := by decide +kernel
theorem dL_law_418 : decode cL_law 418 = .ok (.iload 12, 2) := by decide +kernel
theorem dL_law_420 : decode cL_law 420 = .ok (.iload 14, 2) := by decide +kernel
theorem dL_law_422 : decode cL_law 422 = .ok (.iconst 0, 1) := by decide +kernel
theorem dL_law_423 : decode cL_law 423 = .ok (.iconst 0, 1) := by decide +kernel
theorem dL_law_424 : decode cL_law 424 = .ok (.iconst 1, 1) := by decide +kernel
theorem dL_law_425 : decode cL_law 425 = .ok (.iconst 1, 1) := by decide +kernel
theorem dL_law_426 : decode cL_law 426 = .ok (.iload 15, 2) := by decide +kernel
theorem dL_law_428 : decode cL_law 428 = .ok (.invokestatic 159, 3) := by decide +kernel
theorem dL_law_431 : decode cL_law 431 = .ok (.iconst 1, 1) := by decide +kernel
theorem dL_law_432 : decode cL_law 432 = .ok (.if_icmp .le 5, 3) := by decide +kernel
theorem dL_law_435 : decode cL_law 435 = .ok (.iconst 0, 1) := by decide +kernel
theorem dL_law_436 : decode cL_law 436 = .ok (.ireturn, 1) := by decide +kernel
theorem dL_law_437 : decode cL_law 437 = .ok (.iload 16, 2) := by decide +kernel
theorem dL_law_439 : decode cL_law 439 = .ok (.ifCond .lt 9, 3) := by decide +kernel
theorem dL_law_442 : decode cL_law 442 = .ok (.aload 6, 2) := by decide +kernel
theorem dL_law_444 : decode cL_law 444 = .ok (.iload 15, 2) := by decide +kernel
theorem dL_law_446 : decode cL_law 446 = .ok (.iconst 1, 1) := by decide +kernel
theorem dL_law_447 : decode cL_law 447 = .ok (.bastore, 1) := by decide +kernel
theorem dL_law_448 : decode cL_law 448 = .ok (.goto 782, 3) := by decide +kernel
theorem dL_law_451 : decode cL_law 451 = .ok (.iload 11, 2) := by decide +kernel
theorem dL_law_453 : decode cL_law 453 = .ok (.iconst 5, 1) := by decide +kernel
theorem dL_law_454 : decode cL_law 454 = .ok (.if_icmp .ne 89, 3) := by decide +kernel
theorem dL_law_457 : decode cL_law 457 = .ok (.aload_n 1, 1) := by decide +kernel
theorem dL_law_458 : decode cL_law 458 = .ok (.iload 12, 2) := by decide +kernel
theorem dL_law_460 : decode cL_law 460 = .ok (.iload 14, 2) := by decide +kernel
theorem dL_law_462 : decode cL_law 462 = .ok (.aload_n 0, 1) := by decide +kernel
theorem dL_law_463 : decode cL_law 463 = .ok (.iload 10, 2) := by decide +kernel
theorem dL_law_465 : decode cL_law 465 = .ok (.iconst 4, 1) := by decide +kernel
theorem dL_law_466 : decode cL_law 466 = .ok (.iadd, 1) := by decide +kernel
theorem dL_law_467 : decode cL_law 467 = .ok (.bipush 17, 2) := by decide +kernel
theorem dL_law_469 : decode cL_law 469 = .ok (.invokestatic 146, 3) := by decide +kernel
theorem dL_law_472 : decode cL_law 472 = .ok (.iconst 5, 1) := by decide +kernel
theorem dL_law_473 : decode cL_law 473 = .ok (.isub, 1) := by decide +kernel
theorem dL_law_474 : decode cL_law 474 = .ok (.aload_n 0, 1) := by decide +kernel
theorem dL_law_475 : decode cL_law 475 = .ok (.iload 10, 2) := by decide +kernel
theorem dL_law_477 : decode cL_law 477 = .ok (.iconst 5, 1) := by decide +kernel
theorem dL_law_478 : decode cL_law 478 = .ok (.iadd, 1) := by decide +kernel
theorem dL_law_479 : decode cL_law 479 = .ok (.bipush 13, 2) := by decide +kernel
theorem dL_law_481 : decode cL_law 481 = .ok (.invokestatic 146, 3) := by decide +kernel
theorem dL_law_484 : decode cL_law 484 = .ok (.iconst 5, 1) := by decide +kernel
theorem dL_law_485 : decode cL_law 485 = .ok (.isub, 1) := by decide +kernel
theorem dL_law_486 : decode cL_law 486 = .ok (.invokestatic 162, 3) := by decide +kernel
theorem dL_law_489 : decode cL_law 489 = .ok (.istore 15, 2) := by decide +kernel
theorem dL_law_491 : decode cL_law 491 = .ok (.iload 15, 2) := by decide +kernel
theorem dL_law_493 : decode cL_law 493 = .ok (.bipush 96, 2) := by decide +kernel
theorem dL_law_495 : decode cL_law 495 = .ok (.if_icmp .gt 43, 3) := by decide +kernel
theorem dL_law_498 : decode cL_law 498 = .ok (.iload 15, 2) := by decide +kernel
theorem dL_law_500 : decode cL_law 500 = .ok (.ifCond .lt 40, 3) := by decide +kernel
theorem dL_law_503 : decode cL_law 503 = .ok (.aload_n 1, 1) := by decide +kernel
theorem dL_law_504 : decode cL_law 504 = .ok (.iload 12, 2) := by decide +kernel
theorem dL_law_506 : decode cL_law 506 = .ok (.iload 14, 2) := by decide +kernel
theorem dL_law_508 : decode cL_law 508 = .ok (.aload_n 0, 1) := by decide +kernel
theorem dL_law_509 : decode cL_law 509 = .ok (.iload 10, 2) := by decide +kernel
theorem dL_law_511 : decode cL_law 511 = .ok (.iconst 4, 1) := by decide +kernel
theorem dL_law_512 : decode cL_law 512 = .ok (.iadd, 1) := by decide +kernel
theorem dL_law_513 : decode cL_law 513 = .ok (.bipush 17, 2) := by decide +kernel
theorem dL_law_515 : decode cL_law 515 = .ok (.invokestatic 146, 3) := by decide +kernel
theorem dL_law_518 : decode cL_law 518 = .ok (.iconst 5, 1) := by decide +kernel
theorem dL_law_519 : decode cL_law 519 = .ok (.isub, 1) := by decide +kernel
theorem dL_law_520 : decode cL_law 520 = .ok (.aload_n 0, 1) := by decide +kernel
theorem dL_law_521 : decode cL_law 521 = .ok (.iload 10, 2) := by decide +kernel
theorem dL_law_523 : decode cL_law 523 = .ok (.iconst 5, 1) := by decide +kernel
theorem dL_law_524 : decode cL_law 524 = .ok (.iadd, 1) := by decide +kernel
theorem dL_law_525 : decode cL_law 525 = .ok (.bipush 13, 2) := by decide +kernel
theorem dL_law_527 : decode cL_law 527 = .ok (.invokestatic 146, 3) := by decide +kernel
theorem dL_law_530 : decode cL_law 530 = .ok (.iconst 5, 1) := by decide +kernel
theorem dL_law_531 : decode cL_law 531 = .ok (.isub, 1) := by decide +kernel
theorem dL_law_532 : decode cL_law 532 = .ok (.invokestatic 162, 3) := by decide +kernel
theorem dL_law_535 : decode cL_law 535 = .ok (.ifCond .eq 5, 3) := by decide +kernel
theorem dL_law_538 : decode cL_law 538 = .ok (.iconst 0, 1) := by decide +kernel
theorem dL_law_539 : decode cL_law 539 = .ok (.ireturn, 1) := by decide +kernel
theorem dL_law_540 : decode cL_law 540 = .ok (.goto 690, 3) := by decide +kernel
theorem dL_law_543 : decode cL_law 543 = .ok (.iload 11, 2) := by decide +kernel
theorem dL_law_545 : decode cL_law 545 = .ok (.bipush 6, 2) := by decide +kernel
theorem dL_law_547 : decode cL_law 547 = .ok (.if_icmp .ne 119, 3) := by decide +kernel
theorem dL_law_550 : decode cL_law 550 = .ok (.ldc 165, 2) := by decide +kernel
theorem dL_law_552 : decode cL_law 552 = .ok (.aload_n 0, 1) := by decide +kernel
theorem dL_law_553 : decode cL_law 553 = .ok (.iload 10, 2) := by decide +kernel
theorem dL_law_555 : decode cL_law 555 = .ok (.iconst 4, 1) := by decide +kernel
theorem dL_law_556 : decode cL_law 556 = .ok (.iadd, 1) := by decide +kernel
theorem dL_law_557 : decode cL_law 557 = .ok (.iconst 4, 1) := by decide +kernel
theorem dL_law_558 : decode cL_law 558 = .ok (.invokestatic 146, 3) := by decide +kernel
theorem dL_law_561 : decode cL_law 561 = .ok (.invokevirtual 167, 3) := by decide +kernel
theorem dL_law_564 : decode cL_law 564 = .ok (.istore 15, 2) := by decide +kernel
theorem dL_law_566 : decode cL_law 566 = .ok (.aload_n 1, 1) := by decide +kernel
theorem dL_law_567 : decode cL_law 567 = .ok (.iload 15, 2) := by decide +kernel
theorem dL_law_569 : decode cL_law 569 = .ok (.iload 12, 2) := by decide +kernel
theorem dL_law_571 : decode cL_law 571 = .ok (.iload 14, 2) := by decide +kernel
theorem dL_law_573 : decode cL_law 573 = .ok (.aload_n 0, 1) := by decide +kernel
theorem dL_law_574 : decode cL_law 574 = .ok (.iload 10, 2) := by decide +kernel
theorem dL_law_576 : decode cL_law 576 = .ok (.iconst 5, 1) := by decide +kernel
theorem dL_law_577 : decode cL_law 577 = .ok (.iadd, 1) := by decide +kernel
theorem dL_law_578 : decode cL_law 578 = .ok (.iconst 2, 1) := by decide +kernel
theorem dL_law_579 : decode cL_law 579 = .ok (.invokestatic 146, 3) := by decide +kernel
theorem dL_law_582 : decode cL_law 582 = .ok (.aload_n 0, 1) := by decide +kernel
theorem dL_law_583 : decode cL_law 583 = .ok (.iload 10, 2) := by decide +kernel
theorem dL_law_585 : decode cL_law 585 = .ok (.bipush 6, 2) := by decide +kernel
theorem dL_law_587 : decode cL_law 587 = .ok (.iadd, 1) := by decide +kernel
theorem dL_law_588 : decode cL_law 588 = .ok (.iconst 2, 1) := by decide +kernel
theorem dL_law_589 : decode cL_law 589 = .ok (.invokestatic 146, 3) := by decide +kernel
theorem dL_law_592 : decode cL_law 592 = .ok (.ifCond .ne 7, 3) := by decide +kernel
theorem dL_law_595 : decode cL_law 595 = .ok (.iconst 1, 1) := by decide +kernel
theorem dL_law_596 : decode cL_law 596 = .ok (.goto 4, 3) := by decide +kernel
theorem dL_law_599 : decode cL_law 599 = .ok (.iconst 0, 1) := by decide +kernel
theorem dL_law_600 : decode cL_law 600 = .ok (.invokestatic 172, 3) := by decide +kernel
theorem dL_law_603 : decode cL_law 603 = .ok (.istore 16, 2) := by decide +kernel
theorem dL_law_605 : decode cL_law 605 = .ok (.iload 16, 2) := by decide +kernel
theorem dL_law_607 : decode cL_law 607 = .ok (.ifCond .lt 25, 3) := by decide +kernel
theorem dL_law_610 : decode cL_law 610 = .ok (.iload 15, 2) := by decide +kernel
theorem dL_law_612 : decode cL_law 612 = .ok (.bipush 114, 2) := by decide +kernel
theorem dL_law_614 : decode cL_law 614 = .ok (.if_icmp .ne 18, 3) := by decide +kernel
theorem dL_law_617 : decode cL_law 617 = .ok (.aload_n 1, 1) := by decide +kernel
theorem dL_law_618 : decode cL_law 618 = .ok (.bipush 114, 2) := by decide +kernel
theorem dL_law_620 : decode cL_law 620 = .ok (.iload 12, 2) := by decide +kernel
theorem dL_law_622 : decode cL_law 622 = .ok (.iload 14, 2) := by decide +kernel
theorem dL_law_624 : decode cL_law 624 = .ok (.iconst 0, 1) := by decide +kernel
theorem dL_law_625 : decode cL_law 625 = .ok (.iconst 1, 1) := by decide +kernel
theorem dL_law_626 : decode cL_law 626 = .ok (.invokestatic 172, 3) := by decide +kernel
theorem dL_law_629 : decode cL_law 629 = .ok (.ifCond .ne 32, 3) := by decide +kernel
theorem dL_law_632 : decode cL_law 632 = .ok (.iload 16, 2) := by decide +kernel
theorem dL_law_634 : decode cL_law 634 = .ok (.ifCond .lt 29, 3) := by decide +kernel
theorem dL_law_637 : decode cL_law 637 = .ok (.iload 15, 2) := by decide +kernel
theorem dL_law_639 : decode cL_law 639 = .ok (.bipush 99, 2) := by decide +kernel
theorem dL_law_641 : decode cL_law 641 = .ok (.if_icmp .ne 22, 3) := by decide +kernel
theorem dL_law_644 : decode cL_law 644 = .ok (.aload_n 1, 1) := by decide +kernel
theorem dL_law_645 : decode cL_law 645 = .ok (.bipush 99, 2) := by decide +kernel
theorem dL_law_647 : decode cL_law 647 = .ok (.iload 12, 2) := by decide +kernel
theorem dL_law_649 : decode cL_law 649 = .ok (.iload 14, 2) := by decide +kernel
theorem dL_law_651 : decode cL_law 651 = .ok (.iconst 0, 1) := by decide +kernel
theorem dL_law_652 : decode cL_law 652 = .ok (.iconst 1, 1) := by decide +kernel
theorem dL_law_653 : decode cL_law 653 = .ok (.invokestatic 172, 3) := by decide +kernel
theorem dL_law_656 : decode cL_law 656 = .ok (.ldc 28, 2) := by decide +kernel
theorem dL_law_658 : decode cL_law 658 = .ok (.if_icmp .eq 5, 3) := by decide +kernel
theorem dL_law_661 : decode cL_law 661 = .ok (.iconst 0, 1) := by decide +kernel
theorem dL_law_662 : decode cL_law 662 = .ok (.ireturn, 1) := by decide +kernel
theorem dL_law_663 : decode cL_law 663 = .ok (.goto 567, 3) := by decide +kernel
theorem dL_law_666 : decode cL_law 666 = .ok (.iload 11, 2) := by decide +kernel
theorem dL_law_668 : decode cL_law 668 = .ok (.bipush 7, 2) := by decide +kernel
theorem dL_law_670 : decode cL_law 670 = .ok (.if_icmp .ne 87, 3) := by decide +kernel
theorem dL_law_673 : decode cL_law 673 = .ok (.bipush 97, 2) := by decide +kernel
theorem dL_law_675 : decode cL_law 675 = .ok (.aload_n 0, 1) := by decide +kernel
theorem dL_law_676 : decode cL_law 676 = .ok (.iload 10, 2) := by decide +kernel
theorem dL_law_678 : decode cL_law 678 = .ok (.iconst 4, 1) := by decide +kernel
theorem dL_law_679 : decode cL_law 679 = .ok (.iadd, 1) := by decide +kernel
theorem dL_law_680 : decode cL_law 680 = .ok (.bipush 26, 2) := by decide +kernel
theorem dL_law_682 : decode cL_law 682 = .ok (.invokestatic 146, 3) := by decide +kernel
theorem dL_law_685 : decode cL_law 685 = .ok (.iadd, 1) := by decide +kernel
theorem dL_law_686 : decode cL_law 686 = .ok (.i2c, 1) := by decide +kernel
theorem dL_law_687 : decode cL_law 687 = .ok (.istore 15, 2) := by decide +kernel
theorem dL_law_689 : decode cL_law 689 = .ok (.aload_n 1, 1) := by decide +kernel
theorem dL_law_690 : decode cL_law 690 = .ok (.iload 13, 2) := by decide +kernel
theorem dL_law_692 : decode cL_law 692 = .ok (.invokestatic 176, 3) := by decide +kernel
theorem dL_law_695 : decode cL_law 695 = .ok (.istore 16, 2) := by decide +kernel
theorem dL_law_697 : decode cL_law 697 = .ok (.aload_n 1, 1) := by decide +kernel
theorem dL_law_698 : decode cL_law 698 = .ok (.iload 13, 2) := by decide +kernel
theorem dL_law_700 : decode cL_law 700 = .ok (.iload 15, 2) := by decide +kernel
theorem dL_law_702 : decode cL_law 702 = .ok (.invokestatic 178, 3) := by decide +kernel
theorem dL_law_705 : decode cL_law 705 = .ok (.istore 17, 2) := by decide +kernel
theorem dL_law_707 : decode cL_law 707 = .ok (.iload 17, 2) := by decide +kernel
theorem dL_law_709 : decode cL_law 709 = .ok (.ifCond .le 21, 3) := by decide +kernel
theorem dL_law_712 : decode cL_law 712 = .ok (.aload 6, 2) := by decide +kernel
theorem dL_law_714 : decode cL_law 714 = .ok (.bipush 101, 2) := by decide +kernel
theorem dL_law_716 : decode cL_law 716 = .ok (.iload 15, 2) := by decide +kernel
theorem dL_law_718 : decode cL_law 718 = .ok (.iadd, 1) := by decide +kernel
theorem dL_law_719 : decode cL_law 719 = .ok (.bipush 97, 2) := by decide +kernel
theorem dL_law_721 : decode cL_law 721 = .ok (.isub, 1) := by decide +kernel
theorem dL_law_722 : decode cL_law 722 = .ok (.iconst 1, 1) := by decide +kernel
theorem dL_law_723 : decode cL_law 723 = .ok (.bastore, 1) := by decide +kernel
theorem dL_law_724 : decode cL_law 724 = .ok (.aload 6, 2) := by decide +kernel
theorem dL_law_726 : decode cL_law 726 = .ok (.bipush 7, 2) := by decide +kernel
theorem dL_law_728 : decode cL_law 728 = .ok (.iconst 1, 1) := by decide +kernel
theorem dL_law_729 : decode cL_law 729 = .ok (.bastore, 1) := by decide +kernel
theorem dL_law_730 : decode cL_law 730 = .ok (.aload_n 1, 1) := by decide +kernel
theorem dL_law_731 : decode cL_law 731 = .ok (.iload 13, 2) := by decide +kernel
theorem dL_law_733 : decode cL_law 733 = .ok (.invokestatic 176, 3) := by decide +kernel
theorem dL_law_736 : decode cL_law 736 = .ok (.iload 16, 2) := by decide +kernel
theorem dL_law_738 : decode cL_law 738 = .ok (.iload 17, 2) := by decide +kernel
theorem dL_law_740 : decode cL_law 740 = .ok (.ifCond .le 7, 3) := by decide +kernel
theorem dL_law_743 : decode cL_law 743 = .ok (.iconst 1, 1) := by decide +kernel
theorem dL_law_744 : decode cL_law 744 = .ok (.goto 4, 3) := by decide +kernel
theorem dL_law_747 : decode cL_law 747 = .ok (.iconst 0, 1) := by decide +kernel
theorem dL_law_748 : decode cL_law 748 = .ok (.iadd, 1) := by decide +kernel
theorem dL_law_749 : decode cL_law 749 = .ok (.if_icmp .eq 5, 3) := by decide +kernel
theorem dL_law_752 : decode cL_law 752 = .ok (.iconst 0, 1) := by decide +kernel
theorem dL_law_753 : decode cL_law 753 = .ok (.ireturn, 1) := by decide +kernel
theorem dL_law_754 : decode cL_law 754 = .ok (.goto 476, 3) := by decide +kernel
theorem dL_law_757 : decode cL_law 757 = .ok (.iload 11, 2) := by decide +kernel
theorem dL_law_759 : decode cL_law 759 = .ok (.bipush 8, 2) := by decide +kernel
theorem dL_law_761 : decode cL_law 761 = .ok (.if_icmp .ne 90, 3) := by decide +kernel
theorem dL_law_764 : decode cL_law 764 = .ok (.aload_n 1, 1) := by decide +kernel
theorem dL_law_765 : decode cL_law 765 = .ok (.bipush 118, 2) := by decide +kernel
theorem dL_law_767 : decode cL_law 767 = .ok (.iload 12, 2) := by decide +kernel
theorem dL_law_769 : decode cL_law 769 = .ok (.iconst 0, 1) := by decide +kernel
theorem dL_law_770 : decode cL_law 770 = .ok (.iconst 0, 1) := by decide +kernel
theorem dL_law_771 : decode cL_law 771 = .ok (.iconst 1, 1) := by decide +kernel
theorem dL_law_772 : decode cL_law 772 = .ok (.invokestatic 172, 3) := by decide +kernel
theorem dL_law_775 : decode cL_law 775 = .ok (.istore 15, 2) := by decide +kernel
theorem dL_law_777 : decode cL_law 777 = .ok (.iload 15, 2) := by decide +kernel
theorem dL_law_779 : decode cL_law 779 = .ok (.ldc 21, 2) := by decide +kernel
theorem dL_law_781 : decode cL_law 781 = .ok (.if_icmp .eq 14, 3) := by decide +kernel
theorem dL_law_784 : decode cL_law 784 = .ok (.aload_n 1, 1) := by decide +kernel
theorem dL_law_785 : decode cL_law 785 = .ok (.iload 12, 2) := by decide +kernel
theorem dL_law_787 : decode cL_law 787 = .ok (.invokestatic 181, 3) := by decide +kernel
theorem dL_law_790 : decode cL_law 790 = .ok (.bipush 8, 2) := by decide +kernel
theorem dL_law_792 : decode cL_law 792 = .ok (.if_icmp .ne 54, 3) := by decide +kernel
theorem dL_law_795 : decode cL_law 795 = .ok (.iload 15, 2) := by decide +kernel
theorem dL_law_797 : decode cL_law 797 = .ok (.ldc 21, 2) := by decide +kernel
theorem dL_law_799 : decode cL_law 799 = .ok (.if_icmp .ne 14, 3) := by decide +kernel
theorem dL_law_802 : decode cL_law 802 = .ok (.aload_n 1, 1) := by decide +kernel
theorem dL_law_803 : decode cL_law 803 = .ok (.iload 12, 2) := by decide +kernel
theorem dL_law_805 : decode cL_law 805 = .ok (.invokestatic 181, 3) := by decide +kernel
theorem dL_law_808 : decode cL_law 808 = .ok (.ldc 21, 2) := by decide +kernel
theorem dL_law_810 : decode cL_law 810 = .ok (.if_icmp .eq 36, 3) := by decide +kernel
theorem dL_law_813 : decode cL_law 813 = .ok (.iload 15, 2) := by decide +kernel
theorem dL_law_815 : decode cL_law 815 = .ok (.ifCond .lt 33, 3) := by decide +kernel
theorem dL_law_818 : decode cL_law 818 = .ok (.iload 15, 2) := by decide +kernel
theorem dL_law_820 : decode cL_law 820 = .ok (.iconst 1, 1) := by decide +kernel
theorem dL_law_821 : decode cL_law 821 = .ok (.if_icmp .ne 7, 3) := by decide +kernel
theorem dL_law_824 : decode cL_law 824 = .ok (.iconst 1, 1) := by decide +kernel
theorem dL_law_825 : decode cL_law 825 = .ok (.goto 4, 3) := by decide +kernel
theorem dL_law_828 : decode cL_law 828 = .ok (.iconst 0, 1) := by decide +kernel
theorem dL_law_829 : decode cL_law 829 = .ok (.aload_n 1, 1) := by decide +kernel
theorem dL_law_830 : decode cL_law 830 = .ok (.iload 12, 2) := by decide +kernel
theorem dL_law_832 : decode cL_law 832 = .ok (.invokestatic 183, 3) := by decide +kernel
theorem dL_law_835 : decode cL_law 835 = .ok (.ifCond .le 7, 3) := by decide +kernel
theorem dL_law_838 : decode cL_law 838 = .ok (.iconst 1, 1) := by decide +kernel
theorem dL_law_839 : decode cL_law 839 = .ok (.goto 4, 3) := by decide +kernel
theorem dL_law_842 : decode cL_law 842 = .ok (.iconst 0, 1) := by decide +kernel
theorem dL_law_843 : decode cL_law 843 = .ok (.if_icmp .eq 5, 3) := by decide +kernel
theorem dL_law_846 : decode cL_law 846 = .ok (.iconst 0, 1) := by decide +kernel
theorem dL_law_847 : decode cL_law 847 = .ok (.ireturn, 1) := by decide +kernel
theorem dL_law_848 : decode cL_law 848 = .ok (.goto 382, 3) := by decide +kernel
theorem dL_law_851 : decode cL_law 851 = .ok (.iload 11, 2) := by decide +kernel
theorem dL_law_853 : decode cL_law 853 = .ok (.bipush 9, 2) := by decide +kernel
theorem dL_law_855 : decode cL_law 855 = .ok (.if_icmp .ne 37, 3) := by decide +kernel
theorem dL_law_858 : decode cL_law 858 = .ok (.aload_n 1, 1) := by decide +kernel
theorem dL_law_859 : decode cL_law 859 = .ok (.iload 12, 2) := by decide +kernel
theorem dL_law_861 : decode cL_law 861 = .ok (.invokestatic 185, 3) := by decide +kernel
theorem dL_law_864 : decode cL_law 864 = .ok (.ifCond .lt 26, 3) := by decide +kernel
theorem dL_law_867 : decode cL_law 867 = .ok (.aload_n 1, 1) := by decide +kernel
theorem dL_law_868 : decode cL_law 868 = .ok (.iload 12, 2) := by decide +kernel
theorem dL_law_870 : decode cL_law 870 = .ok (.invokestatic 187, 3) := by decide +kernel
theorem dL_law_873 : decode cL_law 873 = .ok (.ifCond .ne 17, 3) := by decide +kernel
theorem dL_law_876 : decode cL_law 876 = .ok (.aload_n 1, 1) := by decide +kernel
theorem dL_law_877 : decode cL_law 877 = .ok (.iload 12, 2) := by decide +kernel
theorem dL_law_879 : decode cL_law 879 = .ok (.iconst 1, 1) := by decide +kernel
theorem dL_law_880 : decode cL_law 880 = .ok (.iconst 0, 1) := by decide +kernel
theorem dL_law_881 : decode cL_law 881 = .ok (.iconst 0, 1) := by decide +kernel
theorem dL_law_882 : decode cL_law 882 = .ok (.invokestatic 189, 3) := by decide +kernel
theorem dL_law_885 : decode cL_law 885 = .ok (.ldc 70, 2) := by decide +kernel
theorem dL_law_887 : decode cL_law 887 = .ok (.if_icmp .eq 343, 3) := by decide +kernel
theorem dL_law_890 : decode cL_law 890 = .ok (.iconst 0, 1) := by decide +kernel
theorem dL_law_891 : decode cL_law 891 = .ok (.ireturn, 1) := by decide +kernel
theorem dL_law_892 : decode cL_law 892 = .ok (.iload 11, 2) := by decide +kernel
theorem dL_law_894 : decode cL_law 894 = .ok (.bipush 10, 2) := by decide +kernel
theorem dL_law_896 : decode cL_law 896 = .ok (.if_icmp .ne 160, 3) := by decide +kernel
theorem dL_law_899 : decode cL_law 899 = .ok (.iload 12, 2) := by decide +kernel
theorem dL_law_901 : decode cL_law 901 = .ok (.iconst 1, 1) := by decide +kernel
theorem dL_law_902 : decode cL_law 902 = .ok (.iadd, 1) := by decide +kernel
theorem dL_law_903 : decode cL_law 903 = .ok (.aload_n 0, 1) := by decide +kernel
theorem dL_law_904 : decode cL_law 904 = .ok (.iload 10, 2) := by decide +kernel
theorem dL_law_906 : decode cL_law 906 = .ok (.iconst 3, 1) := by decide +kernel
theorem dL_law_907 : decode cL_law 907 = .ok (.iadd, 1) := by decide +kernel
theorem dL_law_908 : decode cL_law 908 = .ok (.iconst 3, 1) := by decide +kernel
theorem dL_law_909 : decode cL_law 909 = .ok (.invokestatic 146, 3) := by decide +kernel
theorem dL_law_912 : decode cL_law 912 = .ok (.iadd, 1) := by decide +kernel
theorem dL_law_913 : decode cL_law 913 = .ok (.iload_n 2, 1) := by decide +kernel
theorem dL_law_914 : decode cL_law 914 = .ok (.irem, 1) := by decide +kernel
theorem dL_law_915 : decode cL_law 915 = .ok (.istore 15, 2) := by decide +kernel
theorem dL_law_917 : decode cL_law 917 = .ok (.aload_n 0, 1) := by decide +kernel
theorem dL_law_918 : decode cL_law 918 = .ok (.iload 10, 2) := by decide +kernel
theorem dL_law_920 : decode cL_law 920 = .ok (.iconst 4, 1) := by decide +kernel
theorem dL_law_921 : decode cL_law 921 = .ok (.iadd, 1) := by decide +kernel
theorem dL_law_922 : decode cL_law 922 = .ok (.iconst 3, 1) := by decide +kernel
theorem dL_law_923 : decode cL_law 923 = .ok (.invokestatic 146, 3) := by decide +kernel
theorem dL_law_926 : decode cL_law 926 = .ok (.istore 16, 2) := by decide +kernel
theorem dL_law_928 : decode cL_law 928 = .ok (.iload 15, 2) := by decide +kernel
theorem dL_law_930 : decode cL_law 930 = .ok (.iload 12, 2) := by decide +kernel
theorem dL_law_932 : decode cL_law 932 = .ok (.if_icmp .eq 121, 3) := by decide +kernel
theorem dL_law_935 : decode cL_law 935 = .ok (.aload_n 1, 1) := by decide +kernel
theorem dL_law_936 : decode cL_law 936 = .ok (.bipush 97, 2) := by decide +kernel
theorem dL_law_938 : decode cL_law 938 = .ok (.iload 12, 2) := by decide +kernel
theorem dL_law_940 : decode cL_law 940 = .ok (.iload 15, 2) := by decide +kernel
theorem dL_law_942 : decode cL_law 942 = .ok (.iload 16, 2) := by decide +kernel
theorem dL_law_944 : decode cL_law 944 = .ok (.iconst 0, 1) := by decide +kernel
theorem dL_law_945 : decode cL_law 945 = .ok (.invokestatic 172, 3) := by decide +kernel
theorem dL_law_948 : decode cL_law 948 = .ok (.istore 17, 2) := by decide +kernel
theorem dL_law_950 : decode cL_law 950 = .ok (.aload_n 1, 1) := by decide +kernel
theorem dL_law_951 : decode cL_law 951 = .ok (.iload 12, 2) := by decide +kernel
theorem dL_law_953 : decode cL_law 953 = .ok (.iload 16, 2) := by decide +kernel
theorem dL_law_955 : decode cL_law 955 = .ok (.aload_n 0, 1) := by decide +kernel
theorem dL_law_956 : decode cL_law 956 = .ok (.iload 10, 2) := by decide +kernel
theorem dL_law_958 : decode cL_law 958 = .ok (.iconst 5, 1) := by decide +kernel
theorem dL_law_959 : decode cL_law 959 = .ok (.iadd, 1) := by decide +kernel
theorem dL_law_960 : decode cL_law 960 = .ok (.sipush 9999, 3) := by decide +kernel
theorem dL_law_963 : decode cL_law 963 = .ok (.invokestatic 146, 3) := by decide +kernel
theorem dL_law_966 : decode cL_law 966 = .ok (.invokestatic 191, 3) := by decide +kernel
theorem dL_law_969 : decode cL_law 969 = .ok (.iconst (-1), 1) := by decide +kernel
theorem dL_law_970 : decode cL_law 970 = .ok (.if_icmp .lt 81, 3) := by decide +kernel
theorem dL_law_973 : decode cL_law 973 = .ok (.aload_n 1, 1) := by decide +kernel
theorem dL_law_974 : decode cL_law 974 = .ok (.iload 12, 2) := by decide +kernel
theorem dL_law_976 : decode cL_law 976 = .ok (.iload 15, 2) := by decide +kernel
theorem dL_law_978 : decode cL_law 978 = .ok (.invokestatic 193, 3) := by decide +kernel
theorem dL_law_981 : decode cL_law 981 = .ok (.ldc 83, 2) := by decide +kernel
theorem dL_law_983 : decode cL_law 983 = .ok (.if_icmp .ne 68, 3) := by decide +kernel
theorem dL_law_986 : decode cL_law 986 = .ok (.aload_n 1, 1) := by decide +kernel
theorem dL_law_987 : decode cL_law 987 = .ok (.bipush 97, 2) := by decide +kernel
theorem dL_law_989 : decode cL_law 989 = .ok (.iload 12, 2) := by decide +kernel
theorem dL_law_991 : decode cL_law 991 = .ok (.iload 15, 2) := by decide +kernel
theorem dL_law_993 : decode cL_law 993 = .ok (.iload 16, 2) := by decide +kernel
theorem dL_law_995 : decode cL_law 995 = .ok (.iconst 1, 1) := by decide +kernel
theorem dL_law_996 : decode cL_law 996 = .ok (.invokestatic 172, 3) := by decide +kernel
theorem dL_law_999 : decode cL_law 999 = .ok (.ifCond .ne 52, 3) := by decide +kernel
theorem dL_law_1002 : decode cL_law 1002 = .ok (.aload_n 1, 1) := by decide +kernel
theorem dL_law_1003 : decode cL_law 1003 = .ok (.iload 12, 2) := by decide +kernel
theorem dL_law_1005 : decode cL_law 1005 = .ok (.iload 15, 2) := by decide +kernel
theorem dL_law_1007 : decode cL_law 1007 = .ok (.invokestatic 193, 3) := by decide +kernel
theorem dL_law_1010 : decode cL_law 1010 = .ok (.aload_n 0, 1) := by decide +kernel
theorem dL_law_1011 : decode cL_law 1011 = .ok (.iload 10, 2) := by decide +kernel
theorem dL_law_1013 : decode cL_law 1013 = .ok (.iconst 5, 1) := by decide +kernel
theorem dL_law_1014 : decode cL_law 1014 = .ok (.iadd, 1) := by decide +kernel
theorem dL_law_1015 : decode cL_law 1015 = .ok (.sipush 9999, 3) := by decide +kernel
theorem dL_law_1018 : decode cL_law 1018 = .ok (.invokestatic 146, 3) := by decide +kernel
theorem dL_law_1021 : decode cL_law 1021 = .ok (.if_icmp .ne 30, 3) := by decide +kernel
theorem dL_law_1024 : decode cL_law 1024 = .ok (.aload_n 1, 1) := by decide +kernel
theorem dL_law_1025 : decode cL_law 1025 = .ok (.bipush 97, 2) := by decide +kernel
theorem dL_law_1027 : decode cL_law 1027 = .ok (.iload 12, 2) := by decide +kernel
theorem dL_law_1029 : decode cL_law 1029 = .ok (.iload 15, 2) := by decide +kernel
theorem dL_law_1031 : decode cL_law 1031 = .ok (.iload 16, 2) := by decide +kernel
theorem dL_law_1033 : decode cL_law 1033 = .ok (.iload 17, 2) := by decide +kernel
theorem dL_law_1035 : decode cL_law 1035 = .ok (.iconst 1, 1) := by decide +kernel
theorem dL_law_1036 : decode cL_law 1036 = .ok (.if_icmp .ne 7, 3) := by decide +kernel
theorem dL_law_1039 : decode cL_law 1039 = .ok (.iconst 1, 1) := by decide +kernel
theorem dL_law_1040 : decode cL_law 1040 = .ok (.goto 4, 3) := by decide +kernel
theorem dL_law_1043 : decode cL_law 1043 = .ok (.iconst 0, 1) := by decide +kernel
theorem dL_law_1044 : decode cL_law 1044 = .ok (.invokestatic 172, 3) := by decide +kernel
theorem dL_law_1047 : decode cL_law 1047 = .ok (.iconst 1, 1) := by decide +kernel
theorem dL_law_1048 : decode cL_law 1048 = .ok (.if_icmp .eq 5, 3) := by decide +kernel
theorem dL_law_1051 : decode cL_law 1051 = .ok (.iconst 0, 1) := by decide +kernel
theorem dL_law_1052 : decode cL_law 1052 = .ok (.ireturn, 1) := by decide +kernel
theorem dL_law_1053 : decode cL_law 1053 = .ok (.goto 177, 3) := by decide +kernel
theorem dL_law_1056 : decode cL_law 1056 = .ok (.iconst 1, 1) := by decide +kernel
theorem dL_law_1057 : decode cL_law 1057 = .ok (.aload_n 0, 1) := by decide +kernel
theorem dL_law_1058 : decode cL_law 1058 = .ok (.iload 10, 2) := by decide +kernel
theorem dL_law_1060 : decode cL_law 1060 = .ok (.iconst 3, 1) := by decide +kernel
theorem dL_law_1061 : decode cL_law 1061 = .ok (.iadd, 1) := by decide +kernel
theorem dL_law_1062 : decode cL_law 1062 = .ok (.iconst 3, 1) := by decide +kernel
theorem dL_law_1063 : decode cL_law 1063 = .ok (.invokestatic 146, 3) := by decide +kernel
theorem dL_law_1066 : decode cL_law 1066 = .ok (.iadd, 1) := by decide +kernel
theorem dL_law_1067 : decode cL_law 1067 = .ok (.istore 15, 2) := by decide +kernel
theorem dL_law_1069 : decode cL_law 1069 = .ok (.aload_n 1, 1) := by decide +kernel
theorem dL_law_1070 : decode cL_law 1070 = .ok (.iload 12, 2) := by decide +kernel
theorem dL_law_1072 : decode cL_law 1072 = .ok (.iconst 1, 1) := by decide +kernel
theorem dL_law_1073 : decode cL_law 1073 = .ok (.aload_n 0, 1) := by decide +kernel
theorem dL_law_1074 : decode cL_law 1074 = .ok (.iload 10, 2) := by decide +kernel
theorem dL_law_1076 : decode cL_law 1076 = .ok (.iconst 4, 1) := by decide +kernel
theorem dL_law_1077 : decode cL_law 1077 = .ok (.iadd, 1) := by decide +kernel
theorem dL_law_1078 : decode cL_law 1078 = .ok (.bipush 12, 2) := by decide +kernel
theorem dL_law_1080 : decode cL_law 1080 = .ok (.invokestatic 146, 3) := by decide +kernel
theorem dL_law_1083 : decode cL_law 1083 = .ok (.aload_n 0, 1) := by decide +kernel
theorem dL_law_1084 : decode cL_law 1084 = .ok (.iload 10, 2) := by decide +kernel
theorem dL_law_1086 : decode cL_law 1086 = .ok (.iconst 5, 1) := by decide +kernel
theorem dL_law_1087 : decode cL_law 1087 = .ok (.iadd, 1) := by decide +kernel
theorem dL_law_1088 : decode cL_law 1088 = .ok (.bipush 8, 2) := by decide +kernel
theorem dL_law_1090 : decode cL_law 1090 = .ok (.invokestatic 146, 3) := by decide +kernel
theorem dL_law_1093 : decode cL_law 1093 = .ok (.invokestatic 189, 3) := by decide +kernel
theorem dL_law_1096 : decode cL_law 1096 = .ok (.istore 16, 2) := by decide +kernel
theorem dL_law_1098 : decode cL_law 1098 = .ok (.aload_n 1, 1) := by decide +kernel
theorem dL_law_1099 : decode cL_law 1099 = .ok (.iload 12, 2) := by decide +kernel
theorem dL_law_1101 : decode cL_law 1101 = .ok (.invokestatic 181, 3) := by decide +kernel
theorem dL_law_1104 : decode cL_law 1104 = .ok (.istore 17, 2) := by decide +kernel
theorem dL_law_1106 : decode cL_law 1106 = .ok (.aload_n 1, 1) := by decide +kernel
theorem dL_law_1107 : decode cL_law 1107 = .ok (.iload 13, 2) := by decide +kernel
theorem dL_law_1109 : decode cL_law 1109 = .ok (.invokestatic 141, 3) := by decide +kernel
theorem dL_law_1112 : decode cL_law 1112 = .ok (.istore 18, 2) := by decide +kernel
theorem dL_law_1114 : decode cL_law 1114 = .ok (.aload_n 1, 1) := by decide +kernel
theorem dL_law_1115 : decode cL_law 1115 = .ok (.iload 15, 2) := by decide +kernel
theorem dL_law_1117 : decode cL_law 1117 = .ok (.invokestatic 195, 3) := by decide +kernel
theorem dL_law_1120 : decode cL_law 1120 = .ok (.istore 19, 2) := by decide +kernel
theorem dL_law_1122 : decode cL_law 1122 = .ok (.iload 19, 2) := by decide +kernel
theorem dL_law_1124 : decode cL_law 1124 = .ok (.ifCond .lt 50, 3) := by decide +kernel
theorem dL_law_1127 : decode cL_law 1127 = .ok (.iload 19, 2) := by decide +kernel
theorem dL_law_1129 : decode cL_law 1129 = .ok (.bipush 24, 2) := by decide +kernel
theorem dL_law_1131 : decode cL_law 1131 = .ok (.iload 15, 2) := by decide +kernel
theorem dL_law_1133 : decode cL_law 1133 = .ok (.imul, 1) := by decide +kernel
theorem dL_law_1134 : decode cL_law 1134 = .ok (.if_icmp .gt 40, 3) := by decide +kernel
theorem dL_law_1137 : decode cL_law 1137 = .ok (.iload 16, 2) := by decide +kernel
theorem dL_law_1139 : decode cL_law 1139 = .ok (.ifCond .lt 37, 3) := by decide +kernel
theorem dL_law_1142 : decode cL_law 1142 = .ok (.aload_n 1, 1) := by decide +kernel
theorem dL_law_1143 : decode cL_law 1143 = .ok (.iload 12, 2) := by decide +kernel
theorem dL_law_1145 : decode cL_law 1145 = .ok (.iconst 1, 1) := by decide +kernel
theorem dL_law_1146 : decode cL_law 1146 = .ok (.aload_n 0, 1) := by decide +kernel
theorem dL_law_1147 : decode cL_law 1147 = .ok (.iload 10, 2) := by decide +kernel
theorem dL_law_1149 : decode cL_law 1149 = .ok (.iconst 4, 1) := by decide +kernel
theorem dL_law_1150 : decode cL_law 1150 = .ok (.iadd, 1) := by decide +kernel
theorem dL_law_1151 : decode cL_law 1151 = .ok (.bipush 12, 2) := by decide +kernel
theorem dL_law_1153 : decode cL_law 1153 = .ok (.invokestatic 146, 3) := by decide +kernel
theorem dL_law_1156 : decode cL_law 1156 = .ok (.aload_n 0, 1) := by decide +kernel
theorem dL_law_1157 : decode cL_law 1157 = .ok (.iload 10, 2) := by decide +kernel
theorem dL_law_1159 : decode cL_law 1159 = .ok (.iconst 5, 1) := by decide +kernel
theorem dL_law_1160 : decode cL_law 1160 = .ok (.iadd, 1) := by decide +kernel
theorem dL_law_1161 : decode cL_law 1161 = .ok (.bipush 8, 2) := by decide +kernel
theorem dL_law_1163 : decode cL_law 1163 = .ok (.invokestatic 146, 3) := by decide +kernel
theorem dL_law_1166 : decode cL_law 1166 = .ok (.invokestatic 189, 3) := by decide +kernel
theorem dL_law_1169 : decode cL_law 1169 = .ok (.iload 16, 2) := by decide +kernel
theorem dL_law_1171 : decode cL_law 1171 = .ok (.if_icmp .eq 5, 3) := by decide +kernel
theorem dL_law_1174 : decode cL_law 1174 = .ok (.iconst 0, 1) := by decide +kernel
theorem dL_law_1175 : decode cL_law 1175 = .ok (.ireturn, 1) := by decide +kernel
theorem dL_law_1176 : decode cL_law 1176 = .ok (.lload 7, 2) := by decide +kernel
theorem dL_law_1178 : decode cL_law 1178 = .ok (.iload 19, 2) := by decide +kernel
theorem dL_law_1180 : decode cL_law 1180 = .ok (.i2l, 1) := by decide +kernel
theorem dL_law_1181 : decode cL_law 1181 = .ok (.ladd, 1) := by decide +kernel
theorem dL_law_1182 : decode cL_law 1182 = .ok (.lstore 7, 2) := by decide +kernel
theorem dL_law_1184 : decode cL_law 1184 = .ok (.iload 19, 2) := by decide +kernel
theorem dL_law_1186 : decode cL_law 1186 = .ok (.ifCond .ne 8, 3) := by decide +kernel
theorem dL_law_1189 : decode cL_law 1189 = .ok (.iload 18, 2) := by decide +kernel
theorem dL_law_1191 : decode cL_law 1191 = .ok (.ifCond .gt 13, 3) := by decide +kernel
theorem dL_law_1194 : decode cL_law 1194 = .ok (.aload_n 1, 1) := by decide +kernel
theorem dL_law_1195 : decode cL_law 1195 = .ok (.invokevirtual 197, 3) := by decide +kernel
theorem dL_law_1198 : decode cL_law 1198 = .ok (.lload 7, 2) := by decide +kernel
theorem dL_law_1200 : decode cL_law 1200 = .ok (.lcmp, 1) := by decide +kernel
theorem dL_law_1201 : decode cL_law 1201 = .ok (.ifCond .eq 5, 3) := by decide +kernel
theorem dL_law_1204 : decode cL_law 1204 = .ok (.iconst 0, 1) := by decide +kernel
theorem dL_law_1205 : decode cL_law 1205 = .ok (.ireturn, 1) := by decide +kernel
theorem dL_law_1206 : decode cL_law 1206 = .ok (.iload 17, 2) := by decide +kernel
theorem dL_law_1208 : decode cL_law 1208 = .ok (.ifCond .lt 22, 3) := by decide +kernel
theorem dL_law_1211 : decode cL_law 1211 = .ok (.iload 17, 2) := by decide +kernel
theorem dL_law_1213 : decode cL_law 1213 = .ok (.iconst 2, 1) := by decide +kernel
theorem dL_law_1214 : decode cL_law 1214 = .ok (.if_icmp .gt 16, 3) := by decide +kernel
theorem dL_law_1217 : decode cL_law 1217 = .ok (.aload_n 1, 1) := by decide +kernel
theorem dL_law_1218 : decode cL_law 1218 = .ok (.iload 12, 2) := by decide +kernel
theorem dL_law_1220 : decode cL_law 1220 = .ok (.invokestatic 181, 3) := by decide +kernel
theorem dL_law_1223 : decode cL_law 1223 = .ok (.ldc 21, 2) := by decide +kernel
theorem dL_law_1225 : decode cL_law 1225 = .ok (.if_icmp .eq 5, 3) := by decide +kernel
theorem dL_law_1228 : decode cL_law 1228 = .ok (.iconst 0, 1) := by decide +kernel
theorem dL_law_1229 : decode cL_law 1229 = .ok (.ireturn, 1) := by decide +kernel
theorem dL_law_1230 : decode cL_law 1230 = .ok (.aload_n 1, 1) := by decide +kernel
theorem dL_law_1231 : decode cL_law 1231 = .ok (.iload 13, 2) := by decide +kernel
theorem dL_law_1233 : decode cL_law 1233 = .ok (.aload 4, 2) := by decide +kernel
theorem dL_law_1235 : decode cL_law 1235 = .ok (.iload 13, 2) := by decide +kernel
theorem dL_law_1237 : decode cL_law 1237 = .ok (.iaload, 1) := by decide +kernel
theorem dL_law_1238 : decode cL_law 1238 = .ok (.invokestatic 201, 3) := by decide +kernel
theorem dL_law_1241 : decode cL_law 1241 = .ok (.ifCond .ne 5, 3) := by decide +kernel
theorem dL_law_1244 : decode cL_law 1244 = .ok (.iconst 0, 1) := by decide +kernel
theorem dL_law_1245 : decode cL_law 1245 = .ok (.ireturn, 1) := by decide +kernel
theorem dL_law_1246 : decode cL_law 1246 = .ok (.aload_n 0, 1) := by decide +kernel
theorem dL_law_1247 : decode cL_law 1247 = .ok (.iload 10, 2) := by decide +kernel
theorem dL_law_1249 : decode cL_law 1249 = .ok (.iconst 4, 1) := by decide +kernel
theorem dL_law_1250 : decode cL_law 1250 = .ok (.iadd, 1) := by decide +kernel
theorem dL_law_1251 : decode cL_law 1251 = .ok (.bipush 12, 2) := by decide +kernel
theorem dL_law_1253 : decode cL_law 1253 = .ok (.invokestatic 146, 3) := by decide +kernel
theorem dL_law_1256 : decode cL_law 1256 = .ok (.istore 15, 2) := by decide +kernel
theorem dL_law_1258 : decode cL_law 1258 = .ok (.aload_n 0, 1) := by decide +kernel
theorem dL_law_1259 : decode cL_law 1259 = .ok (.iload 10, 2) := by decide +kernel
theorem dL_law_1261 : decode cL_law 1261 = .ok (.iconst 5, 1) := by decide +kernel
theorem dL_law_1262 : decode cL_law 1262 = .ok (.iadd, 1) := by decide +kernel
theorem dL_law_1263 : decode cL_law 1263 = .ok (.bipush 8, 2) := by decide +kernel
theorem dL_law_1265 : decode cL_law 1265 = .ok (.invokestatic 146, 3) := by decide +kernel
theorem dL_law_1268 : decode cL_law 1268 = .ok (.istore 16, 2) := by decide +kernel
theorem dL_law_1270 : decode cL_law 1270 = .ok (.aload 6, 2) := by decide +kernel
theorem dL_law_1272 : decode cL_law 1272 = .ok (.aload_n 1, 1) := by decide +kernel
theorem dL_law_1273 : decode cL_law 1273 = .ok (.iload 13, 2) := by decide +kernel
theorem dL_law_1275 : decode cL_law 1275 = .ok (.iload 15, 2) := by decide +kernel
theorem dL_law_1277 : decode cL_law 1277 = .ok (.iload 16, 2) := by decide +kernel
theorem dL_law_1279 : decode cL_law 1279 = .ok (.invokestatic 136, 3) := by decide +kernel
theorem dL_law_1282 : decode cL_law 1282 = .ok (.baload, 1) := by decide +kernel
theorem dL_law_1283 : decode cL_law 1283 = .ok (.ifCond .eq 39, 3) := by decide +kernel
theorem dL_law_1286 : decode cL_law 1286 = .ok (.aload 6, 2) := by decide +kernel
theorem dL_law_1288 : decode cL_law 1288 = .ok (.aload_n 1, 1) := by decide +kernel
theorem dL_law_1289 : decode cL_law 1289 = .ok (.iload 13, 2) := by decide +kernel
theorem dL_law_1291 : decode cL_law 1291 = .ok (.iload 15, 2) := by decide +kernel
theorem dL_law_1293 : decode cL_law 1293 = .ok (.iload 16, 2) := by decide +kernel
theorem dL_law_1295 : decode cL_law 1295 = .ok (.invokestatic 205, 3) := by decide +kernel
theorem dL_law_1298 : decode cL_law 1298 = .ok (.baload, 1) := by decide +kernel
theorem dL_law_1299 : decode cL_law 1299 = .ok (.ifCond .eq 23, 3) := by decide +kernel
theorem dL_law_1302 : decode cL_law 1302 = .ok (.aload_n 1, 1) := by decide +kernel
theorem dL_law_1303 : decode cL_law 1303 = .ok (.iload 13, 2) := by decide +kernel
theorem dL_law_1305 : decode cL_law 1305 = .ok (.aload_n 0, 1) := by decide +kernel
theorem dL_law_1306 : decode cL_law 1306 = .ok (.iload 10, 2) := by decide +kernel
theorem dL_law_1308 : decode cL_law 1308 = .ok (.bipush 6, 2) := by decide +kernel
theorem dL_law_1310 : decode cL_law 1310 = .ok (.iadd, 1) := by decide +kernel
theorem dL_law_1311 : decode cL_law 1311 = .ok (.bipush 10, 2) := by decide +kernel
theorem dL_law_1313 : decode cL_law 1313 = .ok (.invokestatic 146, 3) := by decide +kernel
theorem dL_law_1316 : decode cL_law 1316 = .ok (.invokestatic 207, 3) := by decide +kernel
theorem dL_law_1319 : decode cL_law 1319 = .ok (.ifCond .ge 5, 3) := by decide +kernel
theorem dL_law_1322 : decode cL_law 1322 = .ok (.iconst 0, 1) := by decide +kernel
theorem dL_law_1323 : decode cL_law 1323 = .ok (.ireturn, 1) := by decide +kernel
theorem dL_law_1324 : decode cL_law 1324 = .ok (.iinc 9 1, 3) := by decide +kernel
theorem dL_law_1327 : decode cL_law 1327 = .ok (.goto (-1190), 3) := by decide +kernel
theorem dL_law_1330 : decode cL_law 1330 = .ok (.iconst 0, 1) := by decide +kernel
theorem dL_law_1331 : decode cL_law 1331 = .ok (.istore 9, 2) := by decide +kernel
theorem dL_law_1333 : decode cL_law 1333 = .ok (.iload 9, 2) := by decide +kernel
theorem dL_law_1335 : decode cL_law 1335 = .ok (.bipush 6, 2) := by decide +kernel
theorem dL_law_1337 : decode cL_law 1337 = .ok (.if_icmp .ge 20, 3) := by decide +kernel
theorem dL_law_1340 : decode cL_law 1340 = .ok (.aload_n 1, 1) := by decide +kernel
theorem dL_law_1341 : decode cL_law 1341 = .ok (.bipush 20, 2) := by decide +kernel
theorem dL_law_1343 : decode cL_law 1343 = .ok (.invokestatic 195, 3) := by decide +kernel
theorem dL_law_1346 : decode cL_law 1346 = .ok (.ifCond .ge 5, 3) := by decide +kernel
theorem dL_law_1349 : decode cL_law 1349 = .ok (.iconst 0, 1) := by decide +kernel
theorem dL_law_1350 : decode cL_law 1350 = .ok (.ireturn, 1) := by decide +kernel
theorem dL_law_1351 : decode cL_law 1351 = .ok (.iinc 9 1, 3) := by decide +kernel
theorem dL_law_1354 : decode cL_law 1354 = .ok (.goto (-21), 3) := by decide +kernel
theorem dL_law_1357 : decode cL_law 1357 = .ok (.iconst 0, 1) := by decide +kernel
theorem dL_law_1358 : decode cL_law 1358 = .ok (.istore 9, 2) := by decide +kernel
theorem dL_law_1360 : decode cL_law 1360 = .ok (.iload 9, 2) := by decide +kernel
theorem dL_law_1362 : decode cL_law 1362 = .ok (.iload_n 3, 1) := by decide +kernel
theorem dL_law_1363 : decode cL_law 1363 = .ok (.if_icmp .ge 29, 3) := by decide +kernel
theorem dL_law_1366 : decode cL_law 1366 = .ok (.aload_n 1, 1) := by decide +kernel
theorem dL_law_1367 : decode cL_law 1367 = .ok (.iload 9, 2) := by decide +kernel
theorem dL_law_1369 : decode cL_law 1369 = .ok (.invokestatic 141, 3) := by decide +kernel
theorem dL_law_1372 : decode cL_law 1372 = .ok (.ifCond .ne 12, 3) := by decide +kernel
theorem dL_law_1375 : decode cL_law 1375 = .ok (.aload_n 1, 1) := by decide +kernel
theorem dL_law_1376 : decode cL_law 1376 = .ok (.iload 9, 2) := by decide +kernel
theorem dL_law_1378 : decode cL_law 1378 = .ok (.invokestatic 176, 3) := by decide +kernel
theorem dL_law_1381 : decode cL_law 1381 = .ok (.ifCond .eq 5, 3) := by decide +kernel
theorem dL_law_1384 : decode cL_law 1384 = .ok (.iconst 0, 1) := by decide +kernel
theorem dL_law_1385 : decode cL_law 1385 = .ok (.ireturn, 1) := by decide +kernel
theorem dL_law_1386 : decode cL_law 1386 = .ok (.iinc 9 1, 3) := by decide +kernel
theorem dL_law_1389 : decode cL_law 1389 = .ok (.goto (-29), 3) := by decide +kernel
theorem dL_law_1392 : decode cL_law 1392 = .ok (.iconst 0, 1) := by decide +kernel
theorem dL_law_1393 : decode cL_law 1393 = .ok (.istore 9, 2) := by decide +kernel
theorem dL_law_1395 : decode cL_law 1395 = .ok (.iload 9, 2) := by decide +kernel
theorem dL_law_1397 : decode cL_law 1397 = .ok (.iload_n 2, 1) := by decide +kernel
theorem dL_law_1398 : decode cL_law 1398 = .ok (.if_icmp .ge 22, 3) := by decide +kernel
theorem dL_law_1401 : decode cL_law 1401 = .ok (.aload_n 1, 1) := by decide +kernel
theorem dL_law_1402 : decode cL_law 1402 = .ok (.iload 9, 2) := by decide +kernel
theorem dL_law_1404 : decode cL_law 1404 = .ok (.invokestatic 181, 3) := by decide +kernel
theorem dL_law_1407 : decode cL_law 1407 = .ok (.ldc 21, 2) := by decide +kernel
theorem dL_law_1409 : decode cL_law 1409 = .ok (.if_icmp .eq 5, 3) := by decide +kernel
theorem dL_law_1412 : decode cL_law 1412 = .ok (.iconst 0, 1) := by decide +kernel
theorem dL_law_1413 : decode cL_law 1413 = .ok (.ireturn, 1) := by decide +kernel
theorem dL_law_1414 : decode cL_law 1414 = .ok (.iinc 9 1, 3) := by decide +kernel
theorem dL_law_1417 : decode cL_law 1417 = .ok (.goto (-22), 3) := by decide +kernel
theorem dL_law_1420 : decode cL_law 1420 = .ok (.aload_n 1, 1) := by decide +kernel
theorem dL_law_1421 : decode cL_law 1421 = .ok (.invokevirtual 209, 3) := by decide +kernel
theorem dL_law_1424 : decode cL_law 1424 = .ok (.ifCond .eq 29, 3) := by decide +kernel
theorem dL_law_1427 : decode cL_law 1427 = .ok (.aload_n 1, 1) := by decide +kernel
theorem dL_law_1428 : decode cL_law 1428 = .ok (.iload_n 2, 1) := by decide +kernel
theorem dL_law_1429 : decode cL_law 1429 = .ok (.iconst 0, 1) := by decide +kernel
theorem dL_law_1430 : decode cL_law 1430 = .ok (.iconst 0, 1) := by decide +kernel
theorem dL_law_1431 : decode cL_law 1431 = .ok (.invokestatic 139, 3) := by decide +kernel
theorem dL_law_1434 : decode cL_law 1434 = .ok (.ldc 28, 2) := by decide +kernel
theorem dL_law_1436 : decode cL_law 1436 = .ok (.if_icmp .ne 17, 3) := by decide +kernel
theorem dL_law_1439 : decode cL_law 1439 = .ok (.aload_n 1, 1) := by decide +kernel
theorem dL_law_1440 : decode cL_law 1440 = .ok (.iload_n 3, 1) := by decide +kernel
theorem dL_law_1441 : decode cL_law 1441 = .ok (.invokestatic 143, 3) := by decide +kernel
theorem dL_law_1444 : decode cL_law 1444 = .ok (.ldc 28, 2) := by decide +kernel
theorem dL_law_1446 : decode cL_law 1446 = .ok (.if_icmp .ne 7, 3) := by decide +kernel
theorem dL_law_1449 : decode cL_law 1449 = .ok (.iconst 1, 1) := by decide +kernel
theorem dL_law_1450 : decode cL_law 1450 = .ok (.goto 4, 3) := by decide +kernel
theorem dL_law_1453 : decode cL_law 1453 = .ok (.iconst 0, 1) := by decide +kernel
theorem dL_law_1454 : decode cL_law 1454 = .ok (.ireturn, 1) := by decide +kernel
