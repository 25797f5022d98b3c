theorem dX0_init_0 : decode cX0_init 0 = .ok (.aload_n 0, 1) := by decide +kernel
theorem dX0_init_1 : decode cX0_init 1 = .ok (.invokespecial 3, 3) := by decide +kernel
theorem dX0_init_4 : decode cX0_init 4 = .ok (.aload_n 0, 1) := by decide +kernel
theorem dX0_init_5 : decode cX0_init 5 = .ok (.aload_n 1, 1) := by decide +kernel
theorem dX0_init_6 : decode cX0_init 6 = .ok (.putfield 9, 3) := by decide +kernel
theorem dX0_init_9 : decode cX0_init 9 = .ok (.aload_n 0, 1) := by decide +kernel
theorem dX0_init_10 : decode cX0_init 10 = .ok (.bipush 96, 2) := by decide +kernel
theorem dX0_init_12 : decode cX0_init 12 = .ok (.newarray .int, 2) := by decide +kernel
theorem dX0_init_14 : decode cX0_init 14 = .ok (.putfield 15, 3) := by decide +kernel
theorem dX0_init_17 : decode cX0_init 17 = .ok (.aload_n 0, 1) := by decide +kernel
theorem dX0_init_18 : decode cX0_init 18 = .ok (.bipush 96, 2) := by decide +kernel
theorem dX0_init_20 : decode cX0_init 20 = .ok (.newarray .int, 2) := by decide +kernel
theorem dX0_init_22 : decode cX0_init 22 = .ok (.putfield 18, 3) := by decide +kernel
theorem dX0_init_25 : decode cX0_init 25 = .ok (.aload_n 0, 1) := by decide +kernel
theorem dX0_init_26 : decode cX0_init 26 = .ok (.bipush 9, 2) := by decide +kernel
theorem dX0_init_28 : decode cX0_init 28 = .ok (.newarray .int, 2) := by decide +kernel
theorem dX0_init_30 : decode cX0_init 30 = .ok (.putfield 21, 3) := by decide +kernel
theorem dX0_init_33 : decode cX0_init 33 = .ok (.aload_n 0, 1) := by decide +kernel
theorem dX0_init_34 : decode cX0_init 34 = .ok (.bipush 32, 2) := by decide +kernel
theorem dX0_init_36 : decode cX0_init 36 = .ok (.putfield 24, 3) := by decide +kernel
theorem dX0_init_39 : decode cX0_init 39 = .ok (.return_, 1) := by decide +kernel
theorem dX0_find_0 : decode cX0_find 0 = .ok (.aload_n 0, 1) := by decide +kernel
theorem dX0_find_1 : decode cX0_find 1 = .ok (.bipush 32, 2) := by decide +kernel
theorem dX0_find_3 : decode cX0_find 3 = .ok (.putfield 24, 3) := by decide +kernel
theorem dX0_find_6 : decode cX0_find 6 = .ok (.aload_n 0, 1) := by decide +kernel
theorem dX0_find_7 : decode cX0_find 7 = .ok (.iconst 0, 1) := by decide +kernel
theorem dX0_find_8 : decode cX0_find 8 = .ok (.putfield 28, 3) := by decide +kernel
theorem dX0_find_11 : decode cX0_find 11 = .ok (.aload_n 0, 1) := by decide +kernel
theorem dX0_find_12 : decode cX0_find 12 = .ok (.iconst 1, 1) := by decide +kernel
theorem dX0_find_13 : decode cX0_find 13 = .ok (.putfield 32, 3) := by decide +kernel
theorem dX0_find_16 : decode cX0_find 16 = .ok (.aload_n 0, 1) := by decide +kernel
theorem dX0_find_17 : decode cX0_find 17 = .ok (.iconst 0, 1) := by decide +kernel
theorem dX0_find_18 : decode cX0_find 18 = .ok (.putfield 35, 3) := by decide +kernel
theorem dX0_find_21 : decode cX0_find 21 = .ok (.aload_n 0, 1) := by decide +kernel
theorem dX0_find_22 : decode cX0_find 22 = .ok (.getfield 35, 3) := by decide +kernel
theorem dX0_find_25 : decode cX0_find 25 = .ok (.bipush 96, 2) := by decide +kernel
theorem dX0_find_27 : decode cX0_find 27 = .ok (.if_icmp .ge 27, 3) := by decide +kernel
theorem dX0_find_30 : decode cX0_find 30 = .ok (.aload_n 0, 1) := by decide +kernel
theorem dX0_find_31 : decode cX0_find 31 = .ok (.aload_n 0, 1) := by decide +kernel
theorem dX0_find_32 : decode cX0_find 32 = .ok (.getfield 35, 3) := by decide +kernel
theorem dX0_find_35 : decode cX0_find 35 = .ok (.invokevirtual 38, 3) := by decide +kernel
theorem dX0_find_38 : decode cX0_find 38 = .ok (.ifCond .ne 16, 3) := by decide +kernel
theorem dX0_find_41 : decode cX0_find 41 = .ok (.aload_n 0, 1) := by decide +kernel
theorem dX0_find_42 : decode cX0_find 42 = .ok (.dup, 1) := by decide +kernel
theorem dX0_find_43 : decode cX0_find 43 = .ok (.getfield 35, 3) := by decide +kernel
theorem dX0_find_46 : decode cX0_find 46 = .ok (.iconst 1, 1) := by decide +kernel
theorem dX0_find_47 : decode cX0_find 47 = .ok (.iadd, 1) := by decide +kernel
theorem dX0_find_48 : decode cX0_find 48 = .ok (.putfield 35, 3) := by decide +kernel
theorem dX0_find_51 : decode cX0_find 51 = .ok (.goto (-30), 3) := by decide +kernel
theorem dX0_find_54 : decode cX0_find 54 = .ok (.aload_n 0, 1) := by decide +kernel
theorem dX0_find_55 : decode cX0_find 55 = .ok (.getfield 35, 3) := by decide +kernel
theorem dX0_find_58 : decode cX0_find 58 = .ok (.bipush 96, 2) := by decide +kernel
theorem dX0_find_60 : decode cX0_find 60 = .ok (.if_icmp .ge 17, 3) := by decide +kernel
theorem dX0_find_63 : decode cX0_find 63 = .ok (.aload_n 0, 1) := by decide +kernel
theorem dX0_find_64 : decode cX0_find 64 = .ok (.invokevirtual 42, 3) := by decide +kernel
theorem dX0_find_67 : decode cX0_find 67 = .ok (.aload_n 0, 1) := by decide +kernel
theorem dX0_find_68 : decode cX0_find 68 = .ok (.iconst 0, 1) := by decide +kernel
theorem dX0_find_69 : decode cX0_find 69 = .ok (.iconst 0, 1) := by decide +kernel
theorem dX0_find_70 : decode cX0_find 70 = .ok (.invokevirtual 45, 3) := by decide +kernel
theorem dX0_find_73 : decode cX0_find 73 = .ok (.aload_n 0, 1) := by decide +kernel
theorem dX0_find_74 : decode cX0_find 74 = .ok (.invokevirtual 49, 3) := by decide +kernel
theorem dX0_find_77 : decode cX0_find 77 = .ok (.return_, 1) := by decide +kernel
theorem dX0_isBehind_0 : decode cX0_isBehind 0 = .ok (.aload_n 0, 1) := by decide +kernel
theorem dX0_isBehind_1 : decode cX0_isBehind 1 = .ok (.getfield 15, 3) := by decide +kernel
theorem dX0_isBehind_4 : decode cX0_isBehind 4 = .ok (.iload_n 1, 1) := by decide +kernel
theorem dX0_isBehind_5 : decode cX0_isBehind 5 = .ok (.iaload, 1) := by decide +kernel
theorem dX0_isBehind_6 : decode cX0_isBehind 6 = .ok (.aload_n 0, 1) := by decide +kernel
theorem dX0_isBehind_7 : decode cX0_isBehind 7 = .ok (.getfield 9, 3) := by decide +kernel
theorem dX0_isBehind_10 : decode cX0_isBehind 10 = .ok (.iload_n 1, 1) := by decide +kernel
theorem dX0_isBehind_11 : decode cX0_isBehind 11 = .ok (.iaload, 1) := by decide +kernel
theorem dX0_isBehind_12 : decode cX0_isBehind 12 = .ok (.if_icmp .eq 7, 3) := by decide +kernel
theorem dX0_isBehind_15 : decode cX0_isBehind 15 = .ok (.iconst 1, 1) := by decide +kernel
theorem dX0_isBehind_16 : decode cX0_isBehind 16 = .ok (.goto 4, 3) := by decide +kernel
theorem dX0_isBehind_19 : decode cX0_isBehind 19 = .ok (.iconst 0, 1) := by decide +kernel
theorem dX0_isBehind_20 : decode cX0_isBehind 20 = .ok (.ireturn, 1) := by decide +kernel
theorem dX0_tryCopies_0 : decode cX0_tryCopies 0 = .ok (.bipush (-2), 2) := by decide +kernel
theorem dX0_tryCopies_2 : decode cX0_tryCopies 2 = .ok (.istore_n 1, 1) := by decide +kernel
theorem dX0_tryCopies_3 : decode cX0_tryCopies 3 = .ok (.iload_n 1, 1) := by decide +kernel
theorem dX0_tryCopies_4 : decode cX0_tryCopies 4 = .ok (.iconst 2, 1) := by decide +kernel
theorem dX0_tryCopies_5 : decode cX0_tryCopies 5 = .ok (.if_icmp .gt 37, 3) := by decide +kernel
theorem dX0_tryCopies_8 : decode cX0_tryCopies 8 = .ok (.bipush (-2), 2) := by decide +kernel
theorem dX0_tryCopies_10 : decode cX0_tryCopies 10 = .ok (.istore_n 2, 1) := by decide +kernel
theorem dX0_tryCopies_11 : decode cX0_tryCopies 11 = .ok (.iload_n 2, 1) := by decide +kernel
theorem dX0_tryCopies_12 : decode cX0_tryCopies 12 = .ok (.iconst 2, 1) := by decide +kernel
theorem dX0_tryCopies_13 : decode cX0_tryCopies 13 = .ok (.if_icmp .gt 23, 3) := by decide +kernel
theorem dX0_tryCopies_16 : decode cX0_tryCopies 16 = .ok (.iload_n 1, 1) := by decide +kernel
theorem dX0_tryCopies_17 : decode cX0_tryCopies 17 = .ok (.ifCond .ne 7, 3) := by decide +kernel
theorem dX0_tryCopies_20 : decode cX0_tryCopies 20 = .ok (.iload_n 2, 1) := by decide +kernel
theorem dX0_tryCopies_21 : decode cX0_tryCopies 21 = .ok (.ifCond .eq 9, 3) := by decide +kernel
theorem dX0_tryCopies_24 : decode cX0_tryCopies 24 = .ok (.aload_n 0, 1) := by decide +kernel
theorem dX0_tryCopies_25 : decode cX0_tryCopies 25 = .ok (.iload_n 1, 1) := by decide +kernel
theorem dX0_tryCopies_26 : decode cX0_tryCopies 26 = .ok (.iload_n 2, 1) := by decide +kernel
theorem dX0_tryCopies_27 : decode cX0_tryCopies 27 = .ok (.invokevirtual 45, 3) := by decide +kernel
theorem dX0_tryCopies_30 : decode cX0_tryCopies 30 = .ok (.iinc 2 1, 3) := by decide +kernel
theorem dX0_tryCopies_33 : decode cX0_tryCopies 33 = .ok (.goto (-22), 3) := by decide +kernel
theorem dX0_tryCopies_36 : decode cX0_tryCopies 36 = .ok (.iinc 1 1, 3) := by decide +kernel
theorem dX0_tryCopies_39 : decode cX0_tryCopies 39 = .ok (.goto (-36), 3) := by decide +kernel
theorem dX0_tryCopies_42 : decode cX0_tryCopies 42 = .ok (.return_, 1) := by decide +kernel
theorem dX0_tryRectangles_0 : decode cX0_tryRectangles 0 = .ok (.aload_n 0, 1) := by decide +kernel
theorem dX0_tryRectangles_1 : decode cX0_tryRectangles 1 = .ok (.getfield 35, 3) := by decide +kernel
theorem dX0_tryRectangles_4 : decode cX0_tryRectangles 4 = .ok (.bipush 12, 2) := by decide +kernel
theorem dX0_tryRectangles_6 : decode cX0_tryRectangles 6 = .ok (.irem, 1) := by decide +kernel
theorem dX0_tryRectangles_7 : decode cX0_tryRectangles 7 = .ok (.istore_n 3, 1) := by decide +kernel
theorem dX0_tryRectangles_8 : decode cX0_tryRectangles 8 = .ok (.aload_n 0, 1) := by decide +kernel
theorem dX0_tryRectangles_9 : decode cX0_tryRectangles 9 = .ok (.getfield 35, 3) := by decide +kernel
theorem dX0_tryRectangles_12 : decode cX0_tryRectangles 12 = .ok (.bipush 12, 2) := by decide +kernel
theorem dX0_tryRectangles_14 : decode cX0_tryRectangles 14 = .ok (.idiv, 1) := by decide +kernel
theorem dX0_tryRectangles_15 : decode cX0_tryRectangles 15 = .ok (.istore 4, 2) := by decide +kernel
theorem dX0_tryRectangles_17 : decode cX0_tryRectangles 17 = .ok (.iload 4, 2) := by decide +kernel
theorem dX0_tryRectangles_19 : decode cX0_tryRectangles 19 = .ok (.iload_n 1, 1) := by decide +kernel
theorem dX0_tryRectangles_20 : decode cX0_tryRectangles 20 = .ok (.iadd, 1) := by decide +kernel
theorem dX0_tryRectangles_21 : decode cX0_tryRectangles 21 = .ok (.ifCond .lt 9, 3) := by decide +kernel
theorem dX0_tryRectangles_24 : decode cX0_tryRectangles 24 = .ok (.iload_n 3, 1) := by decide +kernel
theorem dX0_tryRectangles_25 : decode cX0_tryRectangles 25 = .ok (.iload_n 2, 1) := by decide +kernel
theorem dX0_tryRectangles_26 : decode cX0_tryRectangles 26 = .ok (.iadd, 1) := by decide +kernel
theorem dX0_tryRectangles_27 : decode cX0_tryRectangles 27 = .ok (.ifCond .ge 4, 3) := by decide +kernel
theorem dX0_tryRectangles_30 : decode cX0_tryRectangles 30 = .ok (.return_, 1) := by decide +kernel
theorem dX0_tryRectangles_31 : decode cX0_tryRectangles 31 = .ok (.iload_n 1, 1) := by decide +kernel
theorem dX0_tryRectangles_32 : decode cX0_tryRectangles 32 = .ok (.bipush 12, 2) := by decide +kernel
theorem dX0_tryRectangles_34 : decode cX0_tryRectangles 34 = .ok (.imul, 1) := by decide +kernel
theorem dX0_tryRectangles_35 : decode cX0_tryRectangles 35 = .ok (.iload_n 2, 1) := by decide +kernel
theorem dX0_tryRectangles_36 : decode cX0_tryRectangles 36 = .ok (.iadd, 1) := by decide +kernel
theorem dX0_tryRectangles_37 : decode cX0_tryRectangles 37 = .ok (.istore 5, 2) := by decide +kernel
theorem dX0_tryRectangles_39 : decode cX0_tryRectangles 39 = .ok (.bipush 12, 2) := by decide +kernel
theorem dX0_tryRectangles_41 : decode cX0_tryRectangles 41 = .ok (.iload_n 3, 1) := by decide +kernel
theorem dX0_tryRectangles_42 : decode cX0_tryRectangles 42 = .ok (.iload_n 3, 1) := by decide +kernel
theorem dX0_tryRectangles_43 : decode cX0_tryRectangles 43 = .ok (.iload_n 2, 1) := by decide +kernel
theorem dX0_tryRectangles_44 : decode cX0_tryRectangles 44 = .ok (.iadd, 1) := by decide +kernel
theorem dX0_tryRectangles_45 : decode cX0_tryRectangles 45 = .ok (.invokestatic 52, 3) := by decide +kernel
theorem dX0_tryRectangles_48 : decode cX0_tryRectangles 48 = .ok (.isub, 1) := by decide +kernel
theorem dX0_tryRectangles_49 : decode cX0_tryRectangles 49 = .ok (.istore 6, 2) := by decide +kernel
theorem dX0_tryRectangles_51 : decode cX0_tryRectangles 51 = .ok (.bipush 8, 2) := by decide +kernel
theorem dX0_tryRectangles_53 : decode cX0_tryRectangles 53 = .ok (.iload 4, 2) := by decide +kernel
theorem dX0_tryRectangles_55 : decode cX0_tryRectangles 55 = .ok (.iload 4, 2) := by decide +kernel
theorem dX0_tryRectangles_57 : decode cX0_tryRectangles 57 = .ok (.iload_n 1, 1) := by decide +kernel
theorem dX0_tryRectangles_58 : decode cX0_tryRectangles 58 = .ok (.iadd, 1) := by decide +kernel
theorem dX0_tryRectangles_59 : decode cX0_tryRectangles 59 = .ok (.invokestatic 52, 3) := by decide +kernel
theorem dX0_tryRectangles_62 : decode cX0_tryRectangles 62 = .ok (.isub, 1) := by decide +kernel
theorem dX0_tryRectangles_63 : decode cX0_tryRectangles 63 = .ok (.istore 7, 2) := by decide +kernel
theorem dX0_tryRectangles_65 : decode cX0_tryRectangles 65 = .ok (.iload 5, 2) := by decide +kernel
theorem dX0_tryRectangles_67 : decode cX0_tryRectangles 67 = .ok (.ifCond .eq 20, 3) := by decide +kernel
theorem dX0_tryRectangles_70 : decode cX0_tryRectangles 70 = .ok (.iload 6, 2) := by decide +kernel
theorem dX0_tryRectangles_72 : decode cX0_tryRectangles 72 = .ok (.bipush 6, 2) := by decide +kernel
theorem dX0_tryRectangles_74 : decode cX0_tryRectangles 74 = .ok (.invokestatic 58, 3) := by decide +kernel
theorem dX0_tryRectangles_77 : decode cX0_tryRectangles 77 = .ok (.istore 6, 2) := by decide +kernel
theorem dX0_tryRectangles_79 : decode cX0_tryRectangles 79 = .ok (.iload 7, 2) := by decide +kernel
theorem dX0_tryRectangles_81 : decode cX0_tryRectangles 81 = .ok (.iconst 4, 1) := by decide +kernel
theorem dX0_tryRectangles_82 : decode cX0_tryRectangles 82 = .ok (.invokestatic 58, 3) := by decide +kernel
theorem dX0_tryRectangles_85 : decode cX0_tryRectangles 85 = .ok (.istore 7, 2) := by decide +kernel
theorem dX0_tryRectangles_87 : decode cX0_tryRectangles 87 = .ok (.aload_n 0, 1) := by decide +kernel
theorem dX0_tryRectangles_88 : decode cX0_tryRectangles 88 = .ok (.getfield 21, 3) := by decide +kernel
theorem dX0_tryRectangles_91 : decode cX0_tryRectangles 91 = .ok (.iconst 0, 1) := by decide +kernel
theorem dX0_tryRectangles_92 : decode cX0_tryRectangles 92 = .ok (.invokestatic 61, 3) := by decide +kernel
theorem dX0_tryRectangles_95 : decode cX0_tryRectangles 95 = .ok (.iconst 1, 1) := by decide +kernel
theorem dX0_tryRectangles_96 : decode cX0_tryRectangles 96 = .ok (.istore 8, 2) := by decide +kernel
theorem dX0_tryRectangles_98 : decode cX0_tryRectangles 98 = .ok (.iload 8, 2) := by decide +kernel
theorem dX0_tryRectangles_100 : decode cX0_tryRectangles 100 = .ok (.iload 6, 2) := by decide +kernel
theorem dX0_tryRectangles_102 : decode cX0_tryRectangles 102 = .ok (.if_icmp .gt 156, 3) := by decide +kernel
theorem dX0_tryRectangles_105 : decode cX0_tryRectangles 105 = .ok (.iconst 0, 1) := by decide +kernel
theorem dX0_tryRectangles_106 : decode cX0_tryRectangles 106 = .ok (.istore 9, 2) := by decide +kernel
theorem dX0_tryRectangles_108 : decode cX0_tryRectangles 108 = .ok (.iconst 1, 1) := by decide +kernel
theorem dX0_tryRectangles_109 : decode cX0_tryRectangles 109 = .ok (.istore 10, 2) := by decide +kernel
theorem dX0_tryRectangles_111 : decode cX0_tryRectangles 111 = .ok (.iload 10, 2) := by decide +kernel
theorem dX0_tryRectangles_113 : decode cX0_tryRectangles 113 = .ok (.iload 7, 2) := by decide +kernel
theorem dX0_tryRectangles_115 : decode cX0_tryRectangles 115 = .ok (.if_icmp .gt 137, 3) := by decide +kernel
theorem dX0_tryRectangles_118 : decode cX0_tryRectangles 118 = .ok (.aload_n 0, 1) := by decide +kernel
theorem dX0_tryRectangles_119 : decode cX0_tryRectangles 119 = .ok (.getfield 35, 3) := by decide +kernel
theorem dX0_tryRectangles_122 : decode cX0_tryRectangles 122 = .ok (.iload 10, 2) := by decide +kernel
theorem dX0_tryRectangles_124 : decode cX0_tryRectangles 124 = .ok (.iconst 1, 1) := by decide +kernel
theorem dX0_tryRectangles_125 : decode cX0_tryRectangles 125 = .ok (.isub, 1) := by decide +kernel
theorem dX0_tryRectangles_126 : decode cX0_tryRectangles 126 = .ok (.bipush 12, 2) := by decide +kernel
theorem dX0_tryRectangles_128 : decode cX0_tryRectangles 128 = .ok (.imul, 1) := by decide +kernel
theorem dX0_tryRectangles_129 : decode cX0_tryRectangles 129 = .ok (.iadd, 1) := by decide +kernel
theorem dX0_tryRectangles_130 : decode cX0_tryRectangles 130 = .ok (.iload 8, 2) := by decide +kernel
theorem dX0_tryRectangles_132 : decode cX0_tryRectangles 132 = .ok (.iadd, 1) := by decide +kernel
theorem dX0_tryRectangles_133 : decode cX0_tryRectangles 133 = .ok (.iconst 1, 1) := by decide +kernel
theorem dX0_tryRectangles_134 : decode cX0_tryRectangles 134 = .ok (.isub, 1) := by decide +kernel
theorem dX0_tryRectangles_135 : decode cX0_tryRectangles 135 = .ok (.istore 11, 2) := by decide +kernel
theorem dX0_tryRectangles_137 : decode cX0_tryRectangles 137 = .ok (.iload 5, 2) := by decide +kernel
theorem dX0_tryRectangles_139 : decode cX0_tryRectangles 139 = .ok (.ifCond .ne 15, 3) := by decide +kernel
theorem dX0_tryRectangles_142 : decode cX0_tryRectangles 142 = .ok (.aload_n 0, 1) := by decide +kernel
theorem dX0_tryRectangles_143 : decode cX0_tryRectangles 143 = .ok (.getfield 9, 3) := by decide +kernel
theorem dX0_tryRectangles_146 : decode cX0_tryRectangles 146 = .ok (.aload_n 0, 1) := by decide +kernel
theorem dX0_tryRectangles_147 : decode cX0_tryRectangles 147 = .ok (.getfield 35, 3) := by decide +kernel
theorem dX0_tryRectangles_150 : decode cX0_tryRectangles 150 = .ok (.iaload, 1) := by decide +kernel
theorem dX0_tryRectangles_151 : decode cX0_tryRectangles 151 = .ok (.goto 13, 3) := by decide +kernel
theorem dX0_tryRectangles_154 : decode cX0_tryRectangles 154 = .ok (.aload_n 0, 1) := by decide +kernel
theorem dX0_tryRectangles_155 : decode cX0_tryRectangles 155 = .ok (.getfield 15, 3) := by decide +kernel
theorem dX0_tryRectangles_158 : decode cX0_tryRectangles 158 = .ok (.iload 11, 2) := by decide +kernel
theorem dX0_tryRectangles_160 : decode cX0_tryRectangles 160 = .ok (.iload 5, 2) := by decide +kernel
theorem dX0_tryRectangles_162 : decode cX0_tryRectangles 162 = .ok (.iadd, 1) := by decide +kernel
theorem dX0_tryRectangles_163 : decode cX0_tryRectangles 163 = .ok (.iaload, 1) := by decide +kernel
theorem dX0_tryRectangles_164 : decode cX0_tryRectangles 164 = .ok (.istore 12, 2) := by decide +kernel
theorem dX0_tryRectangles_166 : decode cX0_tryRectangles 166 = .ok (.iload 9, 2) := by decide +kernel
theorem dX0_tryRectangles_168 : decode cX0_tryRectangles 168 = .ok (.aload_n 0, 1) := by decide +kernel
theorem dX0_tryRectangles_169 : decode cX0_tryRectangles 169 = .ok (.iload 11, 2) := by decide +kernel
theorem dX0_tryRectangles_171 : decode cX0_tryRectangles 171 = .ok (.iload 12, 2) := by decide +kernel
theorem dX0_tryRectangles_173 : decode cX0_tryRectangles 173 = .ok (.invokevirtual 67, 3) := by decide +kernel
theorem dX0_tryRectangles_176 : decode cX0_tryRectangles 176 = .ok (.iadd, 1) := by decide +kernel
theorem dX0_tryRectangles_177 : decode cX0_tryRectangles 177 = .ok (.istore 9, 2) := by decide +kernel
theorem dX0_tryRectangles_179 : decode cX0_tryRectangles 179 = .ok (.aload_n 0, 1) := by decide +kernel
theorem dX0_tryRectangles_180 : decode cX0_tryRectangles 180 = .ok (.getfield 21, 3) := by decide +kernel
theorem dX0_tryRectangles_183 : decode cX0_tryRectangles 183 = .ok (.iload 10, 2) := by decide +kernel
theorem dX0_tryRectangles_185 : decode cX0_tryRectangles 185 = .ok (.dup2, 1) := by decide +kernel
theorem dX0_tryRectangles_186 : decode cX0_tryRectangles 186 = .ok (.iaload, 1) := by decide +kernel
theorem dX0_tryRectangles_187 : decode cX0_tryRectangles 187 = .ok (.iload 9, 2) := by decide +kernel
theorem dX0_tryRectangles_189 : decode cX0_tryRectangles 189 = .ok (.iadd, 1) := by decide +kernel
theorem dX0_tryRectangles_190 : decode cX0_tryRectangles 190 = .ok (.iastore, 1) := by decide +kernel
theorem dX0_tryRectangles_191 : decode cX0_tryRectangles 191 = .ok (.iload 5, 2) := by decide +kernel
theorem dX0_tryRectangles_193 : decode cX0_tryRectangles 193 = .ok (.ifCond .ne 26, 3) := by decide +kernel
theorem dX0_tryRectangles_196 : decode cX0_tryRectangles 196 = .ok (.aload_n 0, 1) := by decide +kernel
theorem dX0_tryRectangles_197 : decode cX0_tryRectangles 197 = .ok (.bipush 102, 2) := by decide +kernel
theorem dX0_tryRectangles_199 : decode cX0_tryRectangles 199 = .ok (.aload_n 0, 1) := by decide +kernel
theorem dX0_tryRectangles_200 : decode cX0_tryRectangles 200 = .ok (.getfield 21, 3) := by decide +kernel
theorem dX0_tryRectangles_203 : decode cX0_tryRectangles 203 = .ok (.iload 10, 2) := by decide +kernel
theorem dX0_tryRectangles_205 : decode cX0_tryRectangles 205 = .ok (.iaload, 1) := by decide +kernel
theorem dX0_tryRectangles_206 : decode cX0_tryRectangles 206 = .ok (.iconst 5, 1) := by decide +kernel
theorem dX0_tryRectangles_207 : decode cX0_tryRectangles 207 = .ok (.iload 5, 2) := by decide +kernel
theorem dX0_tryRectangles_209 : decode cX0_tryRectangles 209 = .ok (.iload 8, 2) := by decide +kernel
theorem dX0_tryRectangles_211 : decode cX0_tryRectangles 211 = .ok (.iload 10, 2) := by decide +kernel
theorem dX0_tryRectangles_213 : decode cX0_tryRectangles 213 = .ok (.invokevirtual 70, 3) := by decide +kernel
theorem dX0_tryRectangles_216 : decode cX0_tryRectangles 216 = .ok (.goto 30, 3) := by decide +kernel
theorem dX0_tryRectangles_219 : decode cX0_tryRectangles 219 = .ok (.iload 8, 2) := by decide +kernel
theorem dX0_tryRectangles_221 : decode cX0_tryRectangles 221 = .ok (.iconst 1, 1) := by decide +kernel
theorem dX0_tryRectangles_222 : decode cX0_tryRectangles 222 = .ok (.if_icmp .le 24, 3) := by decide +kernel
theorem dX0_tryRectangles_225 : decode cX0_tryRectangles 225 = .ok (.aload_n 0, 1) := by decide +kernel
theorem dX0_tryRectangles_226 : decode cX0_tryRectangles 226 = .ok (.bipush 99, 2) := by decide +kernel
theorem dX0_tryRectangles_228 : decode cX0_tryRectangles 228 = .ok (.aload_n 0, 1) := by decide +kernel
theorem dX0_tryRectangles_229 : decode cX0_tryRectangles 229 = .ok (.getfield 21, 3) := by decide +kernel
theorem dX0_tryRectangles_232 : decode cX0_tryRectangles 232 = .ok (.iload 10, 2) := by decide +kernel
theorem dX0_tryRectangles_234 : decode cX0_tryRectangles 234 = .ok (.iaload, 1) := by decide +kernel
theorem dX0_tryRectangles_235 : decode cX0_tryRectangles 235 = .ok (.bipush 6, 2) := by decide +kernel
theorem dX0_tryRectangles_237 : decode cX0_tryRectangles 237 = .ok (.iload 5, 2) := by decide +kernel
theorem dX0_tryRectangles_239 : decode cX0_tryRectangles 239 = .ok (.iload 8, 2) := by decide +kernel
theorem dX0_tryRectangles_241 : decode cX0_tryRectangles 241 = .ok (.iload 10, 2) := by decide +kernel
theorem dX0_tryRectangles_243 : decode cX0_tryRectangles 243 = .ok (.invokevirtual 70, 3) := by decide +kernel
theorem dX0_tryRectangles_246 : decode cX0_tryRectangles 246 = .ok (.iinc 10 1, 3) := by decide +kernel
theorem dX0_tryRectangles_249 : decode cX0_tryRectangles 249 = .ok (.goto (-138), 3) := by decide +kernel
theorem dX0_tryRectangles_252 : decode cX0_tryRectangles 252 = .ok (.iinc 8 1, 3) := by decide +kernel
theorem dX0_tryRectangles_255 : decode cX0_tryRectangles 255 = .ok (.goto (-157), 3) := by decide +kernel
theorem dX0_tryRectangles_258 : decode cX0_tryRectangles 258 = .ok (.return_, 1) := by decide +kernel
theorem dX0_tryCells_0 : decode cX0_tryCells 0 = .ok (.bipush 12, 2) := by decide +kernel
theorem dX0_tryCells_2 : decode cX0_tryCells 2 = .ok (.aload_n 0, 1) := by decide +kernel
theorem dX0_tryCells_3 : decode cX0_tryCells 3 = .ok (.getfield 35, 3) := by decide +kernel
theorem dX0_tryCells_6 : decode cX0_tryCells 6 = .ok (.bipush 12, 2) := by decide +kernel
theorem dX0_tryCells_8 : decode cX0_tryCells 8 = .ok (.irem, 1) := by decide +kernel
theorem dX0_tryCells_9 : decode cX0_tryCells 9 = .ok (.isub, 1) := by decide +kernel
theorem dX0_tryCells_10 : decode cX0_tryCells 10 = .ok (.istore_n 1, 1) := by decide +kernel
theorem dX0_tryCells_11 : decode cX0_tryCells 11 = .ok (.iconst 0, 1) := by decide +kernel
theorem dX0_tryCells_12 : decode cX0_tryCells 12 = .ok (.istore_n 2, 1) := by decide +kernel
theorem dX0_tryCells_13 : decode cX0_tryCells 13 = .ok (.iload_n 2, 1) := by decide +kernel
theorem dX0_tryCells_14 : decode cX0_tryCells 14 = .ok (.iload_n 1, 1) := by decide +kernel
theorem dX0_tryCells_15 : decode cX0_tryCells 15 = .ok (.if_icmp .ge 22, 3) := by decide +kernel
theorem dX0_tryCells_18 : decode cX0_tryCells 18 = .ok (.aload_n 0, 1) := by decide +kernel
theorem dX0_tryCells_19 : decode cX0_tryCells 19 = .ok (.aload_n 0, 1) := by decide +kernel
theorem dX0_tryCells_20 : decode cX0_tryCells 20 = .ok (.getfield 35, 3) := by decide +kernel
theorem dX0_tryCells_23 : decode cX0_tryCells 23 = .ok (.iload_n 2, 1) := by decide +kernel
theorem dX0_tryCells_24 : decode cX0_tryCells 24 = .ok (.iadd, 1) := by decide +kernel
theorem dX0_tryCells_25 : decode cX0_tryCells 25 = .ok (.invokevirtual 38, 3) := by decide +kernel
theorem dX0_tryCells_28 : decode cX0_tryCells 28 = .ok (.ifCond .eq 9, 3) := by decide +kernel
theorem dX0_tryCells_31 : decode cX0_tryCells 31 = .ok (.iinc 2 1, 3) := by decide +kernel
theorem dX0_tryCells_34 : decode cX0_tryCells 34 = .ok (.goto (-21), 3) := by decide +kernel
theorem dX0_tryCells_37 : decode cX0_tryCells 37 = .ok (.aload_n 0, 1) := by decide +kernel
theorem dX0_tryCells_38 : decode cX0_tryCells 38 = .ok (.bipush 114, 2) := by decide +kernel
theorem dX0_tryCells_40 : decode cX0_tryCells 40 = .ok (.iload_n 2, 1) := by decide +kernel
theorem dX0_tryCells_41 : decode cX0_tryCells 41 = .ok (.iconst 2, 1) := by decide +kernel
theorem dX0_tryCells_42 : decode cX0_tryCells 42 = .ok (.iload_n 2, 1) := by decide +kernel
theorem dX0_tryCells_43 : decode cX0_tryCells 43 = .ok (.iadd, 1) := by decide +kernel
theorem dX0_tryCells_44 : decode cX0_tryCells 44 = .ok (.iconst 0, 1) := by decide +kernel
theorem dX0_tryCells_45 : decode cX0_tryCells 45 = .ok (.iload_n 2, 1) := by decide +kernel
theorem dX0_tryCells_46 : decode cX0_tryCells 46 = .ok (.iconst 1, 1) := by decide +kernel
theorem dX0_tryCells_47 : decode cX0_tryCells 47 = .ok (.invokevirtual 70, 3) := by decide +kernel
theorem dX0_tryCells_50 : decode cX0_tryCells 50 = .ok (.return_, 1) := by decide +kernel
theorem dX0_gainOf_0 : decode cX0_gainOf 0 = .ok (.aload_n 0, 1) := by decide +kernel
theorem dX0_gainOf_1 : decode cX0_gainOf 1 = .ok (.getfield 15, 3) := by decide +kernel
theorem dX0_gainOf_4 : decode cX0_gainOf 4 = .ok (.iload_n 1, 1) := by decide +kernel
theorem dX0_gainOf_5 : decode cX0_gainOf 5 = .ok (.iaload, 1) := by decide +kernel
theorem dX0_gainOf_6 : decode cX0_gainOf 6 = .ok (.aload_n 0, 1) := by decide +kernel
theorem dX0_gainOf_7 : decode cX0_gainOf 7 = .ok (.getfield 9, 3) := by decide +kernel
theorem dX0_gainOf_10 : decode cX0_gainOf 10 = .ok (.iload_n 1, 1) := by decide +kernel
theorem dX0_gainOf_11 : decode cX0_gainOf 11 = .ok (.iaload, 1) := by decide +kernel
theorem dX0_gainOf_12 : decode cX0_gainOf 12 = .ok (.if_icmp .ne 7, 3) := by decide +kernel
theorem dX0_gainOf_15 : decode cX0_gainOf 15 = .ok (.iconst 1, 1) := by decide +kernel
theorem dX0_gainOf_16 : decode cX0_gainOf 16 = .ok (.goto 4, 3) := by decide +kernel
theorem dX0_gainOf_19 : decode cX0_gainOf 19 = .ok (.iconst 0, 1) := by decide +kernel
theorem dX0_gainOf_20 : decode cX0_gainOf 20 = .ok (.istore_n 3, 1) := by decide +kernel
theorem dX0_gainOf_21 : decode cX0_gainOf 21 = .ok (.iload_n 2, 1) := by decide +kernel
theorem dX0_gainOf_22 : decode cX0_gainOf 22 = .ok (.aload_n 0, 1) := by decide +kernel
theorem dX0_gainOf_23 : decode cX0_gainOf 23 = .ok (.getfield 9, 3) := by decide +kernel
theorem dX0_gainOf_26 : decode cX0_gainOf 26 = .ok (.iload_n 1, 1) := by decide +kernel
theorem dX0_gainOf_27 : decode cX0_gainOf 27 = .ok (.iaload, 1) := by decide +kernel
theorem dX0_gainOf_28 : decode cX0_gainOf 28 = .ok (.if_icmp .ne 7, 3) := by decide +kernel
theorem dX0_gainOf_31 : decode cX0_gainOf 31 = .ok (.iconst 1, 1) := by decide +kernel
theorem dX0_gainOf_32 : decode cX0_gainOf 32 = .ok (.goto 4, 3) := by decide +kernel
theorem dX0_gainOf_35 : decode cX0_gainOf 35 = .ok (.iconst 0, 1) := by decide +kernel
theorem dX0_gainOf_36 : decode cX0_gainOf 36 = .ok (.istore 4, 2) := by decide +kernel
theorem dX0_gainOf_38 : decode cX0_gainOf 38 = .ok (.iload 4, 2) := by decide +kernel
theorem dX0_gainOf_40 : decode cX0_gainOf 40 = .ok (.iload_n 3, 1) := by decide +kernel
theorem dX0_gainOf_41 : decode cX0_gainOf 41 = .ok (.isub, 1) := by decide +kernel
theorem dX0_gainOf_42 : decode cX0_gainOf 42 = .ok (.ireturn, 1) := by decide +kernel
theorem dX0_consider_0 : decode cX0_consider 0 = .ok (.iload_n 2, 1) := by decide +kernel
theorem dX0_consider_1 : decode cX0_consider 1 = .ok (.aload_n 0, 1) := by decide +kernel
theorem dX0_consider_2 : decode cX0_consider 2 = .ok (.getfield 32, 3) := by decide +kernel
theorem dX0_consider_5 : decode cX0_consider 5 = .ok (.imul, 1) := by decide +kernel
theorem dX0_consider_6 : decode cX0_consider 6 = .ok (.aload_n 0, 1) := by decide +kernel
theorem dX0_consider_7 : decode cX0_consider 7 = .ok (.getfield 28, 3) := by decide +kernel
theorem dX0_consider_10 : decode cX0_consider 10 = .ok (.iload_n 3, 1) := by decide +kernel
theorem dX0_consider_11 : decode cX0_consider 11 = .ok (.imul, 1) := by decide +kernel
theorem dX0_consider_12 : decode cX0_consider 12 = .ok (.if_icmp .le 36, 3) := by decide +kernel
theorem dX0_consider_15 : decode cX0_consider 15 = .ok (.aload_n 0, 1) := by decide +kernel
theorem dX0_consider_16 : decode cX0_consider 16 = .ok (.iload_n 1, 1) := by decide +kernel
theorem dX0_consider_17 : decode cX0_consider 17 = .ok (.putfield 24, 3) := by decide +kernel
theorem dX0_consider_20 : decode cX0_consider 20 = .ok (.aload_n 0, 1) := by decide +kernel
theorem dX0_consider_21 : decode cX0_consider 21 = .ok (.iload_n 2, 1) := by decide +kernel
theorem dX0_consider_22 : decode cX0_consider 22 = .ok (.putfield 28, 3) := by decide +kernel
theorem dX0_consider_25 : decode cX0_consider 25 = .ok (.aload_n 0, 1) := by decide +kernel
theorem dX0_consider_26 : decode cX0_consider 26 = .ok (.iload_n 3, 1) := by decide +kernel
theorem dX0_consider_27 : decode cX0_consider 27 = .ok (.putfield 32, 3) := by decide +kernel
theorem dX0_consider_30 : decode cX0_consider 30 = .ok (.aload_n 0, 1) := by decide +kernel
theorem dX0_consider_31 : decode cX0_consider 31 = .ok (.iload 4, 2) := by decide +kernel
theorem dX0_consider_33 : decode cX0_consider 33 = .ok (.putfield 74, 3) := by decide +kernel
theorem dX0_consider_36 : decode cX0_consider 36 = .ok (.aload_n 0, 1) := by decide +kernel
theorem dX0_consider_37 : decode cX0_consider 37 = .ok (.iload 5, 2) := by decide +kernel
theorem dX0_consider_39 : decode cX0_consider 39 = .ok (.putfield 77, 3) := by decide +kernel
theorem dX0_consider_42 : decode cX0_consider 42 = .ok (.aload_n 0, 1) := by decide +kernel
theorem dX0_consider_43 : decode cX0_consider 43 = .ok (.iload 6, 2) := by decide +kernel
theorem dX0_consider_45 : decode cX0_consider 45 = .ok (.putfield 80, 3) := by decide +kernel
theorem dX0_consider_48 : decode cX0_consider 48 = .ok (.return_, 1) := by decide +kernel
theorem dX0_apply_0 : decode cX0_apply 0 = .ok (.aload_n 0, 1) := by decide +kernel
theorem dX0_apply_1 : decode cX0_apply 1 = .ok (.getfield 24, 3) := by decide +kernel
theorem dX0_apply_4 : decode cX0_apply 4 = .ok (.bipush 32, 2) := by decide +kernel
theorem dX0_apply_6 : decode cX0_apply 6 = .ok (.if_icmp .ne 4, 3) := by decide +kernel
theorem dX0_apply_9 : decode cX0_apply 9 = .ok (.return_, 1) := by decide +kernel
theorem dX0_apply_10 : decode cX0_apply 10 = .ok (.aload_n 0, 1) := by decide +kernel
theorem dX0_apply_11 : decode cX0_apply 11 = .ok (.getfield 15, 3) := by decide +kernel
theorem dX0_apply_14 : decode cX0_apply 14 = .ok (.iconst 0, 1) := by decide +kernel
theorem dX0_apply_15 : decode cX0_apply 15 = .ok (.aload_n 0, 1) := by decide +kernel
theorem dX0_apply_16 : decode cX0_apply 16 = .ok (.getfield 18, 3) := by decide +kernel
theorem dX0_apply_19 : decode cX0_apply 19 = .ok (.iconst 0, 1) := by decide +kernel
theorem dX0_apply_20 : decode cX0_apply 20 = .ok (.bipush 96, 2) := by decide +kernel
theorem dX0_apply_22 : decode cX0_apply 22 = .ok (.invokestatic 83, 3) := by decide +kernel
theorem dX0_apply_25 : decode cX0_apply 25 = .ok (.iconst 0, 1) := by decide +kernel
theorem dX0_apply_26 : decode cX0_apply 26 = .ok (.istore_n 1, 1) := by decide +kernel
theorem dX0_apply_27 : decode cX0_apply 27 = .ok (.iload_n 1, 1) := by decide +kernel
theorem dX0_apply_28 : decode cX0_apply 28 = .ok (.aload_n 0, 1) := by decide +kernel
theorem dX0_apply_29 : decode cX0_apply 29 = .ok (.getfield 80, 3) := by decide +kernel
theorem dX0_apply_32 : decode cX0_apply 32 = .ok (.if_icmp .ge 48, 3) := by decide +kernel
theorem dX0_apply_35 : decode cX0_apply 35 = .ok (.iconst 0, 1) := by decide +kernel
theorem dX0_apply_36 : decode cX0_apply 36 = .ok (.istore_n 2, 1) := by decide +kernel
theorem dX0_apply_37 : decode cX0_apply 37 = .ok (.iload_n 2, 1) := by decide +kernel
theorem dX0_apply_38 : decode cX0_apply 38 = .ok (.aload_n 0, 1) := by decide +kernel
theorem dX0_apply_39 : decode cX0_apply 39 = .ok (.getfield 77, 3) := by decide +kernel
theorem dX0_apply_42 : decode cX0_apply 42 = .ok (.if_icmp .ge 32, 3) := by decide +kernel
theorem dX0_apply_45 : decode cX0_apply 45 = .ok (.aload_n 0, 1) := by decide +kernel
theorem dX0_apply_46 : decode cX0_apply 46 = .ok (.getfield 35, 3) := by decide +kernel
theorem dX0_apply_49 : decode cX0_apply 49 = .ok (.iload_n 1, 1) := by decide +kernel
theorem dX0_apply_50 : decode cX0_apply 50 = .ok (.bipush 12, 2) := by decide +kernel
theorem dX0_apply_52 : decode cX0_apply 52 = .ok (.imul, 1) := by decide +kernel
theorem dX0_apply_53 : decode cX0_apply 53 = .ok (.iadd, 1) := by decide +kernel
theorem dX0_apply_54 : decode cX0_apply 54 = .ok (.iload_n 2, 1) := by decide +kernel
theorem dX0_apply_55 : decode cX0_apply 55 = .ok (.iadd, 1) := by decide +kernel
theorem dX0_apply_56 : decode cX0_apply 56 = .ok (.istore_n 3, 1) := by decide +kernel
theorem dX0_apply_57 : decode cX0_apply 57 = .ok (.aload_n 0, 1) := by decide +kernel
theorem dX0_apply_58 : decode cX0_apply 58 = .ok (.getfield 15, 3) := by decide +kernel
theorem dX0_apply_61 : decode cX0_apply 61 = .ok (.iload_n 3, 1) := by decide +kernel
theorem dX0_apply_62 : decode cX0_apply 62 = .ok (.aload_n 0, 1) := by decide +kernel
theorem dX0_apply_63 : decode cX0_apply 63 = .ok (.iload_n 3, 1) := by decide +kernel
theorem dX0_apply_64 : decode cX0_apply 64 = .ok (.invokevirtual 89, 3) := by decide +kernel
theorem dX0_apply_67 : decode cX0_apply 67 = .ok (.iastore, 1) := by decide +kernel
theorem dX0_apply_68 : decode cX0_apply 68 = .ok (.iinc 2 1, 3) := by decide +kernel
theorem dX0_apply_71 : decode cX0_apply 71 = .ok (.goto (-34), 3) := by decide +kernel
theorem dX0_apply_74 : decode cX0_apply 74 = .ok (.iinc 1 1, 3) := by decide +kernel
theorem dX0_apply_77 : decode cX0_apply 77 = .ok (.goto (-50), 3) := by decide +kernel
theorem dX0_apply_80 : decode cX0_apply 80 = .ok (.return_, 1) := by decide +kernel
theorem dX0_colourAfter_0 : decode cX0_colourAfter 0 = .ok (.aload_n 0, 1) := by decide +kernel
theorem dX0_colourAfter_1 : decode cX0_colourAfter 1 = .ok (.getfield 24, 3) := by decide +kernel
theorem dX0_colourAfter_4 : decode cX0_colourAfter 4 = .ok (.bipush 99, 2) := by decide +kernel
theorem dX0_colourAfter_6 : decode cX0_colourAfter 6 = .ok (.if_icmp .ne 15, 3) := by decide +kernel
theorem dX0_colourAfter_9 : decode cX0_colourAfter 9 = .ok (.aload_n 0, 1) := by decide +kernel
theorem dX0_colourAfter_10 : decode cX0_colourAfter 10 = .ok (.getfield 18, 3) := by decide +kernel
theorem dX0_colourAfter_13 : decode cX0_colourAfter 13 = .ok (.iload_n 1, 1) := by decide +kernel
theorem dX0_colourAfter_14 : decode cX0_colourAfter 14 = .ok (.aload_n 0, 1) := by decide +kernel
theorem dX0_colourAfter_15 : decode cX0_colourAfter 15 = .ok (.getfield 74, 3) := by decide +kernel
theorem dX0_colourAfter_18 : decode cX0_colourAfter 18 = .ok (.iadd, 1) := by decide +kernel
theorem dX0_colourAfter_19 : decode cX0_colourAfter 19 = .ok (.iaload, 1) := by decide +kernel
theorem dX0_colourAfter_20 : decode cX0_colourAfter 20 = .ok (.ireturn, 1) := by decide +kernel
theorem dX0_colourAfter_21 : decode cX0_colourAfter 21 = .ok (.aload_n 0, 1) := by decide +kernel
theorem dX0_colourAfter_22 : decode cX0_colourAfter 22 = .ok (.getfield 24, 3) := by decide +kernel
theorem dX0_colourAfter_25 : decode cX0_colourAfter 25 = .ok (.bipush 102, 2) := by decide +kernel
theorem dX0_colourAfter_27 : decode cX0_colourAfter 27 = .ok (.if_icmp .ne 15, 3) := by decide +kernel
theorem dX0_colourAfter_30 : decode cX0_colourAfter 30 = .ok (.aload_n 0, 1) := by decide +kernel
theorem dX0_colourAfter_31 : decode cX0_colourAfter 31 = .ok (.getfield 9, 3) := by decide +kernel
theorem dX0_colourAfter_34 : decode cX0_colourAfter 34 = .ok (.aload_n 0, 1) := by decide +kernel
theorem dX0_colourAfter_35 : decode cX0_colourAfter 35 = .ok (.getfield 35, 3) := by decide +kernel
theorem dX0_colourAfter_38 : decode cX0_colourAfter 38 = .ok (.iaload, 1) := by decide +kernel
theorem dX0_colourAfter_39 : decode cX0_colourAfter 39 = .ok (.goto 9, 3) := by decide +kernel
theorem dX0_colourAfter_42 : decode cX0_colourAfter 42 = .ok (.aload_n 0, 1) := by decide +kernel
theorem dX0_colourAfter_43 : decode cX0_colourAfter 43 = .ok (.getfield 9, 3) := by decide +kernel
theorem dX0_colourAfter_46 : decode cX0_colourAfter 46 = .ok (.iload_n 1, 1) := by decide +kernel
theorem dX0_colourAfter_47 : decode cX0_colourAfter 47 = .ok (.iaload, 1) := by decide +kernel
theorem dX0_colourAfter_48 : decode cX0_colourAfter 48 = .ok (.ireturn, 1) := by decide +kernel
theorem dX1_init_0 : decode cX1_init 0 = .ok (.aload_n 0, 1) := by decide +kernel
theorem dX1_init_1 : decode cX1_init 1 = .ok (.invokespecial 3, 3) := by decide +kernel
theorem dX1_init_4 : decode cX1_init 4 = .ok (.aload_n 0, 1) := by decide +kernel
theorem dX1_init_5 : decode cX1_init 5 = .ok (.aload_n 1, 1) := by decide +kernel
theorem dX1_init_6 : decode cX1_init 6 = .ok (.putfield 9, 3) := by decide +kernel
theorem dX1_init_9 : decode cX1_init 9 = .ok (.aload_n 0, 1) := by decide +kernel
theorem dX1_init_10 : decode cX1_init 10 = .ok (.iload_n 2, 1) := by decide +kernel
theorem dX1_init_11 : decode cX1_init 11 = .ok (.putfield 15, 3) := by decide +kernel
theorem dX1_init_14 : decode cX1_init 14 = .ok (.aload_n 0, 1) := by decide +kernel
theorem dX1_init_15 : decode cX1_init 15 = .ok (.new 19, 3) := by decide +kernel
theorem dX1_init_18 : decode cX1_init 18 = .ok (.dup, 1) := by decide +kernel
theorem dX1_init_19 : decode cX1_init 19 = .ok (.aload_n 1, 1) := by decide +kernel
theorem dX1_init_20 : decode cX1_init 20 = .ok (.getfield 21, 3) := by decide +kernel
theorem dX1_init_23 : decode cX1_init 23 = .ok (.invokespecial 27, 3) := by decide +kernel
theorem dX1_init_26 : decode cX1_init 26 = .ok (.putfield 30, 3) := by decide +kernel
theorem dX1_init_29 : decode cX1_init 29 = .ok (.aload_n 0, 1) := by decide +kernel
theorem dX1_init_30 : decode cX1_init 30 = .ok (.aload_n 0, 1) := by decide +kernel
theorem dX1_init_31 : decode cX1_init 31 = .ok (.getfield 30, 3) := by decide +kernel
theorem dX1_init_34 : decode cX1_init 34 = .ok (.getfield 34, 3) := by decide +kernel
theorem dX1_init_37 : decode cX1_init 37 = .ok (.putfield 37, 3) := by decide +kernel
theorem dX1_init_40 : decode cX1_init 40 = .ok (.return_, 1) := by decide +kernel
theorem dX1_countBehind_0 : decode cX1_countBehind 0 = .ok (.iconst 0, 1) := by decide +kernel
theorem dX1_countBehind_1 : decode cX1_countBehind 1 = .ok (.istore_n 1, 1) := by decide +kernel
theorem dX1_countBehind_2 : decode cX1_countBehind 2 = .ok (.iconst 0, 1) := by decide +kernel
theorem dX1_countBehind_3 : decode cX1_countBehind 3 = .ok (.istore_n 2, 1) := by decide +kernel
theorem dX1_countBehind_4 : decode cX1_countBehind 4 = .ok (.iload_n 2, 1) := by decide +kernel
theorem dX1_countBehind_5 : decode cX1_countBehind 5 = .ok (.bipush 96, 2) := by decide +kernel
theorem dX1_countBehind_7 : decode cX1_countBehind 7 = .ok (.if_icmp .ge 23, 3) := by decide +kernel
theorem dX1_countBehind_10 : decode cX1_countBehind 10 = .ok (.aload_n 0, 1) := by decide +kernel
theorem dX1_countBehind_11 : decode cX1_countBehind 11 = .ok (.getfield 30, 3) := by decide +kernel
theorem dX1_countBehind_14 : decode cX1_countBehind 14 = .ok (.iload_n 2, 1) := by decide +kernel
theorem dX1_countBehind_15 : decode cX1_countBehind 15 = .ok (.invokevirtual 38, 3) := by decide +kernel
theorem dX1_countBehind_18 : decode cX1_countBehind 18 = .ok (.ifCond .eq 6, 3) := by decide +kernel
theorem dX1_countBehind_21 : decode cX1_countBehind 21 = .ok (.iinc 1 1, 3) := by decide +kernel
theorem dX1_countBehind_24 : decode cX1_countBehind 24 = .ok (.iinc 2 1, 3) := by decide +kernel
theorem dX1_countBehind_27 : decode cX1_countBehind 27 = .ok (.goto (-23), 3) := by decide +kernel
theorem dX1_countBehind_30 : decode cX1_countBehind 30 = .ok (.iload_n 1, 1) := by decide +kernel
theorem dX1_countBehind_31 : decode cX1_countBehind 31 = .ok (.ireturn, 1) := by decide +kernel
theorem dX1_endGuess_0 : decode cX1_endGuess 0 = .ok (.aload_n 0, 1) := by decide +kernel
theorem dX1_endGuess_1 : decode cX1_endGuess 1 = .ok (.dup, 1) := by decide +kernel
theorem dX1_endGuess_2 : decode cX1_endGuess 2 = .ok (.getfield 42, 3) := by decide +kernel
theorem dX1_endGuess_5 : decode cX1_endGuess 5 = .ok (.iconst 1, 1) := by decide +kernel
theorem dX1_endGuess_6 : decode cX1_endGuess 6 = .ok (.iadd, 1) := by decide +kernel
theorem dX1_endGuess_7 : decode cX1_endGuess 7 = .ok (.putfield 42, 3) := by decide +kernel
theorem dX1_endGuess_10 : decode cX1_endGuess 10 = .ok (.iload_n 1, 1) := by decide +kernel
theorem dX1_endGuess_11 : decode cX1_endGuess 11 = .ok (.ifCond .eq 13, 3) := by decide +kernel
theorem dX1_endGuess_14 : decode cX1_endGuess 14 = .ok (.aload_n 0, 1) := by decide +kernel
theorem dX1_endGuess_15 : decode cX1_endGuess 15 = .ok (.dup, 1) := by decide +kernel
theorem dX1_endGuess_16 : decode cX1_endGuess 16 = .ok (.getfield 45, 3) := by decide +kernel
theorem dX1_endGuess_19 : decode cX1_endGuess 19 = .ok (.iconst 1, 1) := by decide +kernel
theorem dX1_endGuess_20 : decode cX1_endGuess 20 = .ok (.iadd, 1) := by decide +kernel
theorem dX1_endGuess_21 : decode cX1_endGuess 21 = .ok (.putfield 45, 3) := by decide +kernel
theorem dX1_endGuess_24 : decode cX1_endGuess 24 = .ok (.return_, 1) := by decide +kernel
theorem dX2_init_0 : decode cX2_init 0 = .ok (.aload_n 0, 1) := by decide +kernel
theorem dX2_init_1 : decode cX2_init 1 = .ok (.invokespecial 3, 3) := by decide +kernel
theorem dX2_init_4 : decode cX2_init 4 = .ok (.aload_n 0, 1) := by decide +kernel
theorem dX2_init_5 : decode cX2_init 5 = .ok (.iconst (-1), 1) := by decide +kernel
theorem dX2_init_6 : decode cX2_init 6 = .ok (.putfield 9, 3) := by decide +kernel
theorem dX2_init_9 : decode cX2_init 9 = .ok (.return_, 1) := by decide +kernel
theorem dX2_hold_0 : decode cX2_hold 0 = .ok (.aload_n 0, 1) := by decide +kernel
theorem dX2_hold_1 : decode cX2_hold 1 = .ok (.iload_n 1, 1) := by decide +kernel
theorem dX2_hold_2 : decode cX2_hold 2 = .ok (.putfield 9, 3) := by decide +kernel
theorem dX2_hold_5 : decode cX2_hold 5 = .ok (.aload_n 0, 1) := by decide +kernel
theorem dX2_hold_6 : decode cX2_hold 6 = .ok (.iload_n 2, 1) := by decide +kernel
theorem dX2_hold_7 : decode cX2_hold 7 = .ok (.putfield 15, 3) := by decide +kernel
theorem dX2_hold_10 : decode cX2_hold 10 = .ok (.aload_n 0, 1) := by decide +kernel
theorem dX2_hold_11 : decode cX2_hold 11 = .ok (.iload_n 3, 1) := by decide +kernel
theorem dX2_hold_12 : decode cX2_hold 12 = .ok (.putfield 18, 3) := by decide +kernel
theorem dX2_hold_15 : decode cX2_hold 15 = .ok (.return_, 1) := by decide +kernel
theorem dX3_init_0 : decode cX3_init 0 = .ok (.aload_n 0, 1) := by decide +kernel
theorem dX3_init_1 : decode cX3_init 1 = .ok (.invokespecial 1, 3) := by decide +kernel
theorem dX3_init_4 : decode cX3_init 4 = .ok (.aload_n 0, 1) := by decide +kernel
theorem dX3_init_5 : decode cX3_init 5 = .ok (.aload_n 1, 1) := by decide +kernel
theorem dX3_init_6 : decode cX3_init 6 = .ok (.putfield 7, 3) := by decide +kernel
theorem dX3_init_9 : decode cX3_init 9 = .ok (.aload_n 0, 1) := by decide +kernel
theorem dX3_init_10 : decode cX3_init 10 = .ok (.aload_n 2, 1) := by decide +kernel
theorem dX3_init_11 : decode cX3_init 11 = .ok (.putfield 13, 3) := by decide +kernel
theorem dX3_init_14 : decode cX3_init 14 = .ok (.aload_n 0, 1) := by decide +kernel
theorem dX3_init_15 : decode cX3_init 15 = .ok (.iload_n 3, 1) := by decide +kernel
theorem dX3_init_16 : decode cX3_init 16 = .ok (.putfield 17, 3) := by decide +kernel
theorem dX3_init_19 : decode cX3_init 19 = .ok (.aload_n 0, 1) := by decide +kernel
theorem dX3_init_20 : decode cX3_init 20 = .ok (.iload 4, 2) := by decide +kernel
theorem dX3_init_22 : decode cX3_init 22 = .ok (.putfield 21, 3) := by decide +kernel
theorem dX3_init_25 : decode cX3_init 25 = .ok (.return_, 1) := by decide +kernel
theorem dX4_init_0 : decode cX4_init 0 = .ok (.aload_n 0, 1) := by decide +kernel
theorem dX4_init_1 : decode cX4_init 1 = .ok (.invokespecial 3, 3) := by decide +kernel
theorem dX4_init_4 : decode cX4_init 4 = .ok (.aload_n 0, 1) := by decide +kernel
theorem dX4_init_5 : decode cX4_init 5 = .ok (.sipush 5760, 3) := by decide +kernel
theorem dX4_init_8 : decode cX4_init 8 = .ok (.newarray .int, 2) := by decide +kernel
theorem dX4_init_10 : decode cX4_init 10 = .ok (.putfield 9, 3) := by decide +kernel
theorem dX4_init_13 : decode cX4_init 13 = .ok (.aload_n 0, 1) := by decide +kernel
theorem dX4_init_14 : decode cX4_init 14 = .ok (.sipush 5760, 3) := by decide +kernel
theorem dX4_init_17 : decode cX4_init 17 = .ok (.newarray .int, 2) := by decide +kernel
theorem dX4_init_19 : decode cX4_init 19 = .ok (.putfield 15, 3) := by decide +kernel
theorem dX4_init_22 : decode cX4_init 22 = .ok (.aload_n 0, 1) := by decide +kernel
theorem dX4_init_23 : decode cX4_init 23 = .ok (.bipush 61, 2) := by decide +kernel
theorem dX4_init_25 : decode cX4_init 25 = .ok (.newarray .int, 2) := by decide +kernel
theorem dX4_init_27 : decode cX4_init 27 = .ok (.putfield 18, 3) := by decide +kernel
theorem dX4_init_30 : decode cX4_init 30 = .ok (.aload_n 0, 1) := by decide +kernel
theorem dX4_init_31 : decode cX4_init 31 = .ok (.bipush 96, 2) := by decide +kernel
theorem dX4_init_33 : decode cX4_init 33 = .ok (.newarray .int, 2) := by decide +kernel
theorem dX4_init_35 : decode cX4_init 35 = .ok (.putfield 21, 3) := by decide +kernel
theorem dX4_init_38 : decode cX4_init 38 = .ok (.aload_n 0, 1) := by decide +kernel
theorem dX4_init_39 : decode cX4_init 39 = .ok (.bipush 96, 2) := by decide +kernel
theorem dX4_init_41 : decode cX4_init 41 = .ok (.newarray .int, 2) := by decide +kernel
theorem dX4_init_43 : decode cX4_init 43 = .ok (.putfield 24, 3) := by decide +kernel
theorem dX4_init_46 : decode cX4_init 46 = .ok (.return_, 1) := by decide +kernel
theorem dX4_begin_0 : decode cX4_begin 0 = .ok (.aload_n 0, 1) := by decide +kernel
theorem dX4_begin_1 : decode cX4_begin 1 = .ok (.iconst 0, 1) := by decide +kernel
theorem dX4_begin_2 : decode cX4_begin 2 = .ok (.putfield 27, 3) := by decide +kernel
theorem dX4_begin_5 : decode cX4_begin 5 = .ok (.aload_n 0, 1) := by decide +kernel
theorem dX4_begin_6 : decode cX4_begin 6 = .ok (.iconst 0, 1) := by decide +kernel
theorem dX4_begin_7 : decode cX4_begin 7 = .ok (.putfield 31, 3) := by decide +kernel
theorem dX4_begin_10 : decode cX4_begin 10 = .ok (.aload_n 0, 1) := by decide +kernel
theorem dX4_begin_11 : decode cX4_begin 11 = .ok (.getfield 21, 3) := by decide +kernel
theorem dX4_begin_14 : decode cX4_begin 14 = .ok (.iconst 0, 1) := by decide +kernel
theorem dX4_begin_15 : decode cX4_begin 15 = .ok (.invokestatic 34, 3) := by decide +kernel
theorem dX4_begin_18 : decode cX4_begin 18 = .ok (.return_, 1) := by decide +kernel
theorem dX4_isFull_0 : decode cX4_isFull 0 = .ok (.aload_n 0, 1) := by decide +kernel
theorem dX4_isFull_1 : decode cX4_isFull 1 = .ok (.getfield 27, 3) := by decide +kernel
theorem dX4_isFull_4 : decode cX4_isFull 4 = .ok (.bipush 60, 2) := by decide +kernel
theorem dX4_isFull_6 : decode cX4_isFull 6 = .ok (.if_icmp .lt 7, 3) := by decide +kernel
theorem dX4_isFull_9 : decode cX4_isFull 9 = .ok (.iconst 1, 1) := by decide +kernel
theorem dX4_isFull_10 : decode cX4_isFull 10 = .ok (.goto 4, 3) := by decide +kernel
theorem dX4_isFull_13 : decode cX4_isFull 13 = .ok (.iconst 0, 1) := by decide +kernel
theorem dX4_isFull_14 : decode cX4_isFull 14 = .ok (.ireturn, 1) := by decide +kernel
theorem dX4_look_0 : decode cX4_look 0 = .ok (.aload_n 0, 1) := by decide +kernel
theorem dX4_look_1 : decode cX4_look 1 = .ok (.getfield 21, 3) := by decide +kernel
theorem dX4_look_4 : decode cX4_look 4 = .ok (.iload_n 1, 1) := by decide +kernel
theorem dX4_look_5 : decode cX4_look 5 = .ok (.iaload, 1) := by decide +kernel
theorem dX4_look_6 : decode cX4_look 6 = .ok (.iload_n 2, 1) := by decide +kernel
theorem dX4_look_7 : decode cX4_look 7 = .ok (.if_icmp .eq 52, 3) := by decide +kernel
theorem dX4_look_10 : decode cX4_look 10 = .ok (.aload_n 0, 1) := by decide +kernel
theorem dX4_look_11 : decode cX4_look 11 = .ok (.getfield 31, 3) := by decide +kernel
theorem dX4_look_14 : decode cX4_look 14 = .ok (.aload_n 0, 1) := by decide +kernel
theorem dX4_look_15 : decode cX4_look 15 = .ok (.getfield 9, 3) := by decide +kernel
theorem dX4_look_18 : decode cX4_look 18 = .ok (.arraylength, 1) := by decide +kernel
theorem dX4_look_19 : decode cX4_look 19 = .ok (.if_icmp .ge 40, 3) := by decide +kernel
theorem dX4_look_22 : decode cX4_look 22 = .ok (.aload_n 0, 1) := by decide +kernel
theorem dX4_look_23 : decode cX4_look 23 = .ok (.getfield 9, 3) := by decide +kernel
theorem dX4_look_26 : decode cX4_look 26 = .ok (.aload_n 0, 1) := by decide +kernel
theorem dX4_look_27 : decode cX4_look 27 = .ok (.getfield 31, 3) := by decide +kernel
theorem dX4_look_30 : decode cX4_look 30 = .ok (.iload_n 1, 1) := by decide +kernel
theorem dX4_look_31 : decode cX4_look 31 = .ok (.iastore, 1) := by decide +kernel
theorem dX4_look_32 : decode cX4_look 32 = .ok (.aload_n 0, 1) := by decide +kernel
theorem dX4_look_33 : decode cX4_look 33 = .ok (.getfield 15, 3) := by decide +kernel
theorem dX4_look_36 : decode cX4_look 36 = .ok (.aload_n 0, 1) := by decide +kernel
theorem dX4_look_37 : decode cX4_look 37 = .ok (.getfield 31, 3) := by decide +kernel
theorem dX4_look_40 : decode cX4_look 40 = .ok (.iload_n 2, 1) := by decide +kernel
theorem dX4_look_41 : decode cX4_look 41 = .ok (.iastore, 1) := by decide +kernel
theorem dX4_look_42 : decode cX4_look 42 = .ok (.aload_n 0, 1) := by decide +kernel
theorem dX4_look_43 : decode cX4_look 43 = .ok (.dup, 1) := by decide +kernel
theorem dX4_look_44 : decode cX4_look 44 = .ok (.getfield 31, 3) := by decide +kernel
theorem dX4_look_47 : decode cX4_look 47 = .ok (.iconst 1, 1) := by decide +kernel
theorem dX4_look_48 : decode cX4_look 48 = .ok (.iadd, 1) := by decide +kernel
theorem dX4_look_49 : decode cX4_look 49 = .ok (.putfield 31, 3) := by decide +kernel
theorem dX4_look_52 : decode cX4_look 52 = .ok (.aload_n 0, 1) := by decide +kernel
theorem dX4_look_53 : decode cX4_look 53 = .ok (.getfield 21, 3) := by decide +kernel
theorem dX4_look_56 : decode cX4_look 56 = .ok (.iload_n 1, 1) := by decide +kernel
theorem dX4_look_57 : decode cX4_look 57 = .ok (.iload_n 2, 1) := by decide +kernel
theorem dX4_look_58 : decode cX4_look 58 = .ok (.iastore, 1) := by decide +kernel
theorem dX4_look_59 : decode cX4_look 59 = .ok (.return_, 1) := by decide +kernel
theorem dX4_endTick_0 : decode cX4_endTick 0 = .ok (.aload_n 0, 1) := by decide +kernel
theorem dX4_endTick_1 : decode cX4_endTick 1 = .ok (.getfield 27, 3) := by decide +kernel
theorem dX4_endTick_4 : decode cX4_endTick 4 = .ok (.bipush 60, 2) := by decide +kernel
theorem dX4_endTick_6 : decode cX4_endTick 6 = .ok (.if_icmp .ge 26, 3) := by decide +kernel
theorem dX4_endTick_9 : decode cX4_endTick 9 = .ok (.aload_n 0, 1) := by decide +kernel
theorem dX4_endTick_10 : decode cX4_endTick 10 = .ok (.dup, 1) := by decide +kernel
theorem dX4_endTick_11 : decode cX4_endTick 11 = .ok (.getfield 27, 3) := by decide +kernel
theorem dX4_endTick_14 : decode cX4_endTick 14 = .ok (.iconst 1, 1) := by decide +kernel
theorem dX4_endTick_15 : decode cX4_endTick 15 = .ok (.iadd, 1) := by decide +kernel
theorem dX4_endTick_16 : decode cX4_endTick 16 = .ok (.putfield 27, 3) := by decide +kernel
theorem dX4_endTick_19 : decode cX4_endTick 19 = .ok (.aload_n 0, 1) := by decide +kernel
theorem dX4_endTick_20 : decode cX4_endTick 20 = .ok (.getfield 18, 3) := by decide +kernel
theorem dX4_endTick_23 : decode cX4_endTick 23 = .ok (.aload_n 0, 1) := by decide +kernel
theorem dX4_endTick_24 : decode cX4_endTick 24 = .ok (.getfield 27, 3) := by decide +kernel
theorem dX4_endTick_27 : decode cX4_endTick 27 = .ok (.aload_n 0, 1) := by decide +kernel
theorem dX4_endTick_28 : decode cX4_endTick 28 = .ok (.getfield 31, 3) := by decide +kernel
theorem dX4_endTick_31 : decode cX4_endTick 31 = .ok (.iastore, 1) := by decide +kernel
theorem dX4_endTick_32 : decode cX4_endTick 32 = .ok (.return_, 1) := by decide +kernel
theorem dX4_play_0 : decode cX4_play 0 = .ok (.aload_n 0, 1) := by decide +kernel
theorem dX4_play_1 : decode cX4_play 1 = .ok (.getfield 24, 3) := by decide +kernel
theorem dX4_play_4 : decode cX4_play 4 = .ok (.iconst 0, 1) := by decide +kernel
theorem dX4_play_5 : decode cX4_play 5 = .ok (.invokestatic 34, 3) := by decide +kernel
theorem dX4_play_8 : decode cX4_play 8 = .ok (.iload_n 1, 1) := by decide +kernel
theorem dX4_play_9 : decode cX4_play 9 = .ok (.iconst 1, 1) := by decide +kernel
theorem dX4_play_10 : decode cX4_play 10 = .ok (.aload_n 0, 1) := by decide +kernel
theorem dX4_play_11 : decode cX4_play 11 = .ok (.getfield 27, 3) := by decide +kernel
theorem dX4_play_14 : decode cX4_play 14 = .ok (.invokestatic 40, 3) := by decide +kernel
theorem dX4_play_17 : decode cX4_play 17 = .ok (.ifCond .eq 40, 3) := by decide +kernel
theorem dX4_play_20 : decode cX4_play 20 = .ok (.aload_n 0, 1) := by decide +kernel
theorem dX4_play_21 : decode cX4_play 21 = .ok (.getfield 18, 3) := by decide +kernel
theorem dX4_play_24 : decode cX4_play 24 = .ok (.iload_n 1, 1) := by decide +kernel
theorem dX4_play_25 : decode cX4_play 25 = .ok (.iaload, 1) := by decide +kernel
theorem dX4_play_26 : decode cX4_play 26 = .ok (.istore_n 2, 1) := by decide +kernel
theorem dX4_play_27 : decode cX4_play 27 = .ok (.iconst 0, 1) := by decide +kernel
theorem dX4_play_28 : decode cX4_play 28 = .ok (.istore_n 3, 1) := by decide +kernel
theorem dX4_play_29 : decode cX4_play 29 = .ok (.iload_n 3, 1) := by decide +kernel
theorem dX4_play_30 : decode cX4_play 30 = .ok (.iload_n 2, 1) := by decide +kernel
theorem dX4_play_31 : decode cX4_play 31 = .ok (.if_icmp .ge 26, 3) := by decide +kernel
theorem dX4_play_34 : decode cX4_play 34 = .ok (.aload_n 0, 1) := by decide +kernel
theorem dX4_play_35 : decode cX4_play 35 = .ok (.getfield 24, 3) := by decide +kernel
theorem dX4_play_38 : decode cX4_play 38 = .ok (.aload_n 0, 1) := by decide +kernel
theorem dX4_play_39 : decode cX4_play 39 = .ok (.getfield 9, 3) := by decide +kernel
theorem dX4_play_42 : decode cX4_play 42 = .ok (.iload_n 3, 1) := by decide +kernel
theorem dX4_play_43 : decode cX4_play 43 = .ok (.iaload, 1) := by decide +kernel
theorem dX4_play_44 : decode cX4_play 44 = .ok (.aload_n 0, 1) := by decide +kernel
theorem dX4_play_45 : decode cX4_play 45 = .ok (.getfield 15, 3) := by decide +kernel
theorem dX4_play_48 : decode cX4_play 48 = .ok (.iload_n 3, 1) := by decide +kernel
theorem dX4_play_49 : decode cX4_play 49 = .ok (.iaload, 1) := by decide +kernel
theorem dX4_play_50 : decode cX4_play 50 = .ok (.iastore, 1) := by decide +kernel
theorem dX4_play_51 : decode cX4_play 51 = .ok (.iinc 3 1, 3) := by decide +kernel
theorem dX4_play_54 : decode cX4_play 54 = .ok (.goto (-25), 3) := by decide +kernel
theorem dX4_play_57 : decode cX4_play 57 = .ok (.return_, 1) := by decide +kernel
theorem dX4_isAsLookedAt_0 : decode cX4_isAsLookedAt 0 = .ok (.aload_n 0, 1) := by decide +kernel
theorem dX4_isAsLookedAt_1 : decode cX4_isAsLookedAt 1 = .ok (.aload_n 0, 1) := by decide +kernel
theorem dX4_isAsLookedAt_2 : decode cX4_isAsLookedAt 2 = .ok (.getfield 27, 3) := by decide +kernel
theorem dX4_isAsLookedAt_5 : decode cX4_isAsLookedAt 5 = .ok (.invokevirtual 44, 3) := by decide +kernel
theorem dX4_isAsLookedAt_8 : decode cX4_isAsLookedAt 8 = .ok (.iconst 0, 1) := by decide +kernel
theorem dX4_isAsLookedAt_9 : decode cX4_isAsLookedAt 9 = .ok (.istore_n 1, 1) := by decide +kernel
theorem dX4_isAsLookedAt_10 : decode cX4_isAsLookedAt 10 = .ok (.iload_n 1, 1) := by decide +kernel
theorem dX4_isAsLookedAt_11 : decode cX4_isAsLookedAt 11 = .ok (.bipush 96, 2) := by decide +kernel
theorem dX4_isAsLookedAt_13 : decode cX4_isAsLookedAt 13 = .ok (.if_icmp .ge 26, 3) := by decide +kernel
theorem dX4_isAsLookedAt_16 : decode cX4_isAsLookedAt 16 = .ok (.aload_n 0, 1) := by decide +kernel
theorem dX4_isAsLookedAt_17 : decode cX4_isAsLookedAt 17 = .ok (.getfield 24, 3) := by decide +kernel
theorem dX4_isAsLookedAt_20 : decode cX4_isAsLookedAt 20 = .ok (.iload_n 1, 1) := by decide +kernel
theorem dX4_isAsLookedAt_21 : decode cX4_isAsLookedAt 21 = .ok (.iaload, 1) := by decide +kernel
theorem dX4_isAsLookedAt_22 : decode cX4_isAsLookedAt 22 = .ok (.aload_n 0, 1) := by decide +kernel
theorem dX4_isAsLookedAt_23 : decode cX4_isAsLookedAt 23 = .ok (.getfield 21, 3) := by decide +kernel
theorem dX4_isAsLookedAt_26 : decode cX4_isAsLookedAt 26 = .ok (.iload_n 1, 1) := by decide +kernel
theorem dX4_isAsLookedAt_27 : decode cX4_isAsLookedAt 27 = .ok (.iaload, 1) := by decide +kernel
theorem dX4_isAsLookedAt_28 : decode cX4_isAsLookedAt 28 = .ok (.if_icmp .eq 5, 3) := by decide +kernel
theorem dX4_isAsLookedAt_31 : decode cX4_isAsLookedAt 31 = .ok (.iconst 0, 1) := by decide +kernel
theorem dX4_isAsLookedAt_32 : decode cX4_isAsLookedAt 32 = .ok (.ireturn, 1) := by decide +kernel
theorem dX4_isAsLookedAt_33 : decode cX4_isAsLookedAt 33 = .ok (.iinc 1 1, 3) := by decide +kernel
theorem dX4_isAsLookedAt_36 : decode cX4_isAsLookedAt 36 = .ok (.goto (-26), 3) := by decide +kernel
theorem dX4_isAsLookedAt_39 : decode cX4_isAsLookedAt 39 = .ok (.iconst 1, 1) := by decide +kernel
theorem dX4_isAsLookedAt_40 : decode cX4_isAsLookedAt 40 = .ok (.ireturn, 1) := by decide +kernel
theorem dX5_init_0 : decode cX5_init 0 = .ok (.aload_n 0, 1) := by decide +kernel
theorem dX5_init_1 : decode cX5_init 1 = .ok (.invokespecial 3, 3) := by decide +kernel
theorem dX5_init_4 : decode cX5_init 4 = .ok (.aload_n 0, 1) := by decide +kernel
theorem dX5_init_5 : decode cX5_init 5 = .ok (.bipush 6, 2) := by decide +kernel
theorem dX5_init_7 : decode cX5_init 7 = .ok (.anewarray 9, 3) := by decide +kernel
theorem dX5_init_10 : decode cX5_init 10 = .ok (.putfield 11, 3) := by decide +kernel
theorem dX5_init_13 : decode cX5_init 13 = .ok (.aload_n 0, 1) := by decide +kernel
theorem dX5_init_14 : decode cX5_init 14 = .ok (.new 17, 3) := by decide +kernel
theorem dX5_init_17 : decode cX5_init 17 = .ok (.dup, 1) := by decide +kernel
theorem dX5_init_18 : decode cX5_init 18 = .ok (.invokespecial 19, 3) := by decide +kernel
theorem dX5_init_21 : decode cX5_init 21 = .ok (.putfield 20, 3) := by decide +kernel
theorem dX5_init_24 : decode cX5_init 24 = .ok (.aload_n 0, 1) := by decide +kernel
theorem dX5_init_25 : decode cX5_init 25 = .ok (.new 17, 3) := by decide +kernel
theorem dX5_init_28 : decode cX5_init 28 = .ok (.dup, 1) := by decide +kernel
theorem dX5_init_29 : decode cX5_init 29 = .ok (.invokespecial 19, 3) := by decide +kernel
theorem dX5_init_32 : decode cX5_init 32 = .ok (.putfield 24, 3) := by decide +kernel
theorem dX5_init_35 : decode cX5_init 35 = .ok (.aload_n 0, 1) := by decide +kernel
theorem dX5_init_36 : decode cX5_init 36 = .ok (.bipush 96, 2) := by decide +kernel
theorem dX5_init_38 : decode cX5_init 38 = .ok (.newarray .int, 2) := by decide +kernel
theorem dX5_init_40 : decode cX5_init 40 = .ok (.putfield 27, 3) := by decide +kernel
theorem dX5_init_43 : decode cX5_init 43 = .ok (.aload_n 0, 1) := by decide +kernel
theorem dX5_init_44 : decode cX5_init 44 = .ok (.new 31, 3) := by decide +kernel
theorem dX5_init_47 : decode cX5_init 47 = .ok (.dup, 1) := by decide +kernel
theorem dX5_init_48 : decode cX5_init 48 = .ok (.invokespecial 33, 3) := by decide +kernel
theorem dX5_init_51 : decode cX5_init 51 = .ok (.putfield 34, 3) := by decide +kernel
theorem dX5_init_54 : decode cX5_init 54 = .ok (.aload_n 0, 1) := by decide +kernel
theorem dX5_init_55 : decode cX5_init 55 = .ok (.new 38, 3) := by decide +kernel
theorem dX5_init_58 : decode cX5_init 58 = .ok (.dup, 1) := by decide +kernel
theorem dX5_init_59 : decode cX5_init 59 = .ok (.invokespecial 40, 3) := by decide +kernel
theorem dX5_init_62 : decode cX5_init 62 = .ok (.putfield 41, 3) := by decide +kernel
theorem dX5_init_65 : decode cX5_init 65 = .ok (.return_, 1) := by decide +kernel
theorem dX5_addWindow_0 : decode cX5_addWindow 0 = .ok (.aload_n 0, 1) := by decide +kernel
theorem dX5_addWindow_1 : decode cX5_addWindow 1 = .ok (.getfield 45, 3) := by decide +kernel
theorem dX5_addWindow_4 : decode cX5_addWindow 4 = .ok (.istore_n 2, 1) := by decide +kernel
theorem dX5_addWindow_5 : decode cX5_addWindow 5 = .ok (.iload_n 2, 1) := by decide +kernel
theorem dX5_addWindow_6 : decode cX5_addWindow 6 = .ok (.bipush 6, 2) := by decide +kernel
theorem dX5_addWindow_8 : decode cX5_addWindow 8 = .ok (.if_icmp .ge 31, 3) := by decide +kernel
theorem dX5_addWindow_11 : decode cX5_addWindow 11 = .ok (.aload_n 0, 1) := by decide +kernel
theorem dX5_addWindow_12 : decode cX5_addWindow 12 = .ok (.getfield 11, 3) := by decide +kernel
theorem dX5_addWindow_15 : decode cX5_addWindow 15 = .ok (.iload_n 2, 1) := by decide +kernel
theorem dX5_addWindow_16 : decode cX5_addWindow 16 = .ok (.aload_n 1, 1) := by decide +kernel
theorem dX5_addWindow_17 : decode cX5_addWindow 17 = .ok (.aastore, 1) := by decide +kernel
theorem dX5_addWindow_18 : decode cX5_addWindow 18 = .ok (.aload_n 0, 1) := by decide +kernel
theorem dX5_addWindow_19 : decode cX5_addWindow 19 = .ok (.iload_n 2, 1) := by decide +kernel
theorem dX5_addWindow_20 : decode cX5_addWindow 20 = .ok (.iconst 1, 1) := by decide +kernel
theorem dX5_addWindow_21 : decode cX5_addWindow 21 = .ok (.iadd, 1) := by decide +kernel
theorem dX5_addWindow_22 : decode cX5_addWindow 22 = .ok (.putfield 45, 3) := by decide +kernel
theorem dX5_addWindow_25 : decode cX5_addWindow 25 = .ok (.aload_n 0, 1) := by decide +kernel
theorem dX5_addWindow_26 : decode cX5_addWindow 26 = .ok (.getfield 20, 3) := by decide +kernel
theorem dX5_addWindow_29 : decode cX5_addWindow 29 = .ok (.aload_n 1, 1) := by decide +kernel
theorem dX5_addWindow_30 : decode cX5_addWindow 30 = .ok (.invokevirtual 49, 3) := by decide +kernel
theorem dX5_addWindow_33 : decode cX5_addWindow 33 = .ok (.pop, 1) := by decide +kernel
theorem dX5_addWindow_34 : decode cX5_addWindow 34 = .ok (.aload_n 0, 1) := by decide +kernel
theorem dX5_addWindow_35 : decode cX5_addWindow 35 = .ok (.invokevirtual 53, 3) := by decide +kernel
theorem dX5_addWindow_38 : decode cX5_addWindow 38 = .ok (.pop, 1) := by decide +kernel
theorem dX5_addWindow_39 : decode cX5_addWindow 39 = .ok (.iload_n 2, 1) := by decide +kernel
theorem dX5_addWindow_40 : decode cX5_addWindow 40 = .ok (.ireturn, 1) := by decide +kernel
theorem dX5_takeFromPile_0 : decode cX5_takeFromPile 0 = .ok (.aload_n 0, 1) := by decide +kernel
theorem dX5_takeFromPile_1 : decode cX5_takeFromPile 1 = .ok (.getfield 20, 3) := by decide +kernel
theorem dX5_takeFromPile_4 : decode cX5_takeFromPile 4 = .ok (.invokevirtual 57, 3) := by decide +kernel
theorem dX5_takeFromPile_7 : decode cX5_takeFromPile 7 = .ok (.iconst 1, 1) := by decide +kernel
theorem dX5_takeFromPile_8 : decode cX5_takeFromPile 8 = .ok (.isub, 1) := by decide +kernel
theorem dX5_takeFromPile_9 : decode cX5_takeFromPile 9 = .ok (.istore_n 2, 1) := by decide +kernel
theorem dX5_takeFromPile_10 : decode cX5_takeFromPile 10 = .ok (.iload_n 2, 1) := by decide +kernel
theorem dX5_takeFromPile_11 : decode cX5_takeFromPile 11 = .ok (.ifCond .lt 30, 3) := by decide +kernel
theorem dX5_takeFromPile_14 : decode cX5_takeFromPile 14 = .ok (.aload_n 0, 1) := by decide +kernel
theorem dX5_takeFromPile_15 : decode cX5_takeFromPile 15 = .ok (.getfield 20, 3) := by decide +kernel
theorem dX5_takeFromPile_18 : decode cX5_takeFromPile 18 = .ok (.iload_n 2, 1) := by decide +kernel
theorem dX5_takeFromPile_19 : decode cX5_takeFromPile 19 = .ok (.invokevirtual 60, 3) := by decide +kernel
theorem dX5_takeFromPile_22 : decode cX5_takeFromPile 22 = .ok (.aload_n 1, 1) := by decide +kernel
theorem dX5_takeFromPile_23 : decode cX5_takeFromPile 23 = .ok (.if_acmp .ne 12, 3) := by decide +kernel
theorem dX5_takeFromPile_26 : decode cX5_takeFromPile 26 = .ok (.aload_n 0, 1) := by decide +kernel
theorem dX5_takeFromPile_27 : decode cX5_takeFromPile 27 = .ok (.getfield 20, 3) := by decide +kernel
theorem dX5_takeFromPile_30 : decode cX5_takeFromPile 30 = .ok (.iload_n 2, 1) := by decide +kernel
theorem dX5_takeFromPile_31 : decode cX5_takeFromPile 31 = .ok (.invokevirtual 64, 3) := by decide +kernel
theorem dX5_takeFromPile_34 : decode cX5_takeFromPile 34 = .ok (.pop, 1) := by decide +kernel
theorem dX5_takeFromPile_35 : decode cX5_takeFromPile 35 = .ok (.iinc 2 (-1), 3) := by decide +kernel
theorem dX5_takeFromPile_38 : decode cX5_takeFromPile 38 = .ok (.goto (-28), 3) := by decide +kernel
theorem dX5_takeFromPile_41 : decode cX5_takeFromPile 41 = .ok (.return_, 1) := by decide +kernel
theorem dX5_isOnTop_0 : decode cX5_isOnTop 0 = .ok (.aload_n 0, 1) := by decide +kernel
theorem dX5_isOnTop_1 : decode cX5_isOnTop 1 = .ok (.getfield 20, 3) := by decide +kernel
theorem dX5_isOnTop_4 : decode cX5_isOnTop 4 = .ok (.invokevirtual 57, 3) := by decide +kernel
theorem dX5_isOnTop_7 : decode cX5_isOnTop 7 = .ok (.istore_n 2, 1) := by decide +kernel
theorem dX5_isOnTop_8 : decode cX5_isOnTop 8 = .ok (.iload_n 2, 1) := by decide +kernel
theorem dX5_isOnTop_9 : decode cX5_isOnTop 9 = .ok (.ifCond .le 21, 3) := by decide +kernel
theorem dX5_isOnTop_12 : decode cX5_isOnTop 12 = .ok (.aload_n 0, 1) := by decide +kernel
theorem dX5_isOnTop_13 : decode cX5_isOnTop 13 = .ok (.getfield 20, 3) := by decide +kernel
theorem dX5_isOnTop_16 : decode cX5_isOnTop 16 = .ok (.iload_n 2, 1) := by decide +kernel
theorem dX5_isOnTop_17 : decode cX5_isOnTop 17 = .ok (.iconst 1, 1) := by decide +kernel
theorem dX5_isOnTop_18 : decode cX5_isOnTop 18 = .ok (.isub, 1) := by decide +kernel
theorem dX5_isOnTop_19 : decode cX5_isOnTop 19 = .ok (.invokevirtual 60, 3) := by decide +kernel
theorem dX5_isOnTop_22 : decode cX5_isOnTop 22 = .ok (.aload_n 1, 1) := by decide +kernel
theorem dX5_isOnTop_23 : decode cX5_isOnTop 23 = .ok (.if_acmp .ne 7, 3) := by decide +kernel
theorem dX5_isOnTop_26 : decode cX5_isOnTop 26 = .ok (.iconst 1, 1) := by decide +kernel
theorem dX5_isOnTop_27 : decode cX5_isOnTop 27 = .ok (.goto 4, 3) := by decide +kernel
theorem dX5_isOnTop_30 : decode cX5_isOnTop 30 = .ok (.iconst 0, 1) := by decide +kernel
theorem dX5_isOnTop_31 : decode cX5_isOnTop 31 = .ok (.ireturn, 1) := by decide +kernel
theorem dX5_topShown_0 : decode cX5_topShown 0 = .ok (.aload_n 0, 1) := by decide +kernel
theorem dX5_topShown_1 : decode cX5_topShown 1 = .ok (.getfield 20, 3) := by decide +kernel
theorem dX5_topShown_4 : decode cX5_topShown 4 = .ok (.invokevirtual 57, 3) := by decide +kernel
theorem dX5_topShown_7 : decode cX5_topShown 7 = .ok (.iconst 1, 1) := by decide +kernel
theorem dX5_topShown_8 : decode cX5_topShown 8 = .ok (.isub, 1) := by decide +kernel
theorem dX5_topShown_9 : decode cX5_topShown 9 = .ok (.istore_n 1, 1) := by decide +kernel
theorem dX5_topShown_10 : decode cX5_topShown 10 = .ok (.iload_n 1, 1) := by decide +kernel
theorem dX5_topShown_11 : decode cX5_topShown 11 = .ok (.ifCond .lt 30, 3) := by decide +kernel
theorem dX5_topShown_14 : decode cX5_topShown 14 = .ok (.aload_n 0, 1) := by decide +kernel
theorem dX5_topShown_15 : decode cX5_topShown 15 = .ok (.getfield 20, 3) := by decide +kernel
theorem dX5_topShown_18 : decode cX5_topShown 18 = .ok (.iload_n 1, 1) := by decide +kernel
theorem dX5_topShown_19 : decode cX5_topShown 19 = .ok (.invokevirtual 60, 3) := by decide +kernel
theorem dX5_topShown_22 : decode cX5_topShown 22 = .ok (.checkcast 9, 3) := by decide +kernel
theorem dX5_topShown_25 : decode cX5_topShown 25 = .ok (.astore_n 2, 1) := by decide +kernel
theorem dX5_topShown_26 : decode cX5_topShown 26 = .ok (.aload_n 2, 1) := by decide +kernel
theorem dX5_topShown_27 : decode cX5_topShown 27 = .ok (.getfield 67, 3) := by decide +kernel
theorem dX5_topShown_30 : decode cX5_topShown 30 = .ok (.ifCond .eq 5, 3) := by decide +kernel
theorem dX5_topShown_33 : decode cX5_topShown 33 = .ok (.aload_n 2, 1) := by decide +kernel
theorem dX5_topShown_34 : decode cX5_topShown 34 = .ok (.areturn, 1) := by decide +kernel
theorem dX5_topShown_35 : decode cX5_topShown 35 = .ok (.iinc 1 (-1), 3) := by decide +kernel
theorem dX5_topShown_38 : decode cX5_topShown 38 = .ok (.goto (-28), 3) := by decide +kernel
theorem dX5_topShown_41 : decode cX5_topShown 41 = .ok (.aconst_null, 1) := by decide +kernel
theorem dX5_topShown_42 : decode cX5_topShown 42 = .ok (.areturn, 1) := by decide +kernel
theorem dX5_topShownAt_0 : decode cX5_topShownAt 0 = .ok (.aload_n 0, 1) := by decide +kernel
theorem dX5_topShownAt_1 : decode cX5_topShownAt 1 = .ok (.getfield 20, 3) := by decide +kernel
theorem dX5_topShownAt_4 : decode cX5_topShownAt 4 = .ok (.invokevirtual 57, 3) := by decide +kernel
theorem dX5_topShownAt_7 : decode cX5_topShownAt 7 = .ok (.iconst 1, 1) := by decide +kernel
theorem dX5_topShownAt_8 : decode cX5_topShownAt 8 = .ok (.isub, 1) := by decide +kernel
theorem dX5_topShownAt_9 : decode cX5_topShownAt 9 = .ok (.istore_n 3, 1) := by decide +kernel
theorem dX5_topShownAt_10 : decode cX5_topShownAt 10 = .ok (.iload_n 3, 1) := by decide +kernel
theorem dX5_topShownAt_11 : decode cX5_topShownAt 11 = .ok (.ifCond .lt 43, 3) := by decide +kernel
theorem dX5_topShownAt_14 : decode cX5_topShownAt 14 = .ok (.aload_n 0, 1) := by decide +kernel
theorem dX5_topShownAt_15 : decode cX5_topShownAt 15 = .ok (.getfield 20, 3) := by decide +kernel
theorem dX5_topShownAt_18 : decode cX5_topShownAt 18 = .ok (.iload_n 3, 1) := by decide +kernel
theorem dX5_topShownAt_19 : decode cX5_topShownAt 19 = .ok (.invokevirtual 60, 3) := by decide +kernel
theorem dX5_topShownAt_22 : decode cX5_topShownAt 22 = .ok (.checkcast 9, 3) := by decide +kernel
theorem dX5_topShownAt_25 : decode cX5_topShownAt 25 = .ok (.astore 4, 2) := by decide +kernel
theorem dX5_topShownAt_27 : decode cX5_topShownAt 27 = .ok (.aload 4, 2) := by decide +kernel
theorem dX5_topShownAt_29 : decode cX5_topShownAt 29 = .ok (.getfield 67, 3) := by decide +kernel
theorem dX5_topShownAt_32 : decode cX5_topShownAt 32 = .ok (.ifCond .eq 16, 3) := by decide +kernel
theorem dX5_topShownAt_35 : decode cX5_topShownAt 35 = .ok (.aload 4, 2) := by decide +kernel
theorem dX5_topShownAt_37 : decode cX5_topShownAt 37 = .ok (.iload_n 1, 1) := by decide +kernel
theorem dX5_topShownAt_38 : decode cX5_topShownAt 38 = .ok (.iload_n 2, 1) := by decide +kernel
theorem dX5_topShownAt_39 : decode cX5_topShownAt 39 = .ok (.invokevirtual 71, 3) := by decide +kernel
theorem dX5_topShownAt_42 : decode cX5_topShownAt 42 = .ok (.ifCond .eq 6, 3) := by decide +kernel
theorem dX5_topShownAt_45 : decode cX5_topShownAt 45 = .ok (.aload 4, 2) := by decide +kernel
theorem dX5_topShownAt_47 : decode cX5_topShownAt 47 = .ok (.areturn, 1) := by decide +kernel
theorem dX5_topShownAt_48 : decode cX5_topShownAt 48 = .ok (.iinc 3 (-1), 3) := by decide +kernel
theorem dX5_topShownAt_51 : decode cX5_topShownAt 51 = .ok (.goto (-41), 3) := by decide +kernel
theorem dX5_topShownAt_54 : decode cX5_topShownAt 54 = .ok (.aconst_null, 1) := by decide +kernel
theorem dX5_topShownAt_55 : decode cX5_topShownAt 55 = .ok (.areturn, 1) := by decide +kernel
theorem dX5_colourOfWindows_0 : decode cX5_colourOfWindows 0 = .ok (.iload_n 1, 1) := by decide +kernel
theorem dX5_colourOfWindows_1 : decode cX5_colourOfWindows 1 = .ok (.bipush 12, 2) := by decide +kernel
theorem dX5_colourOfWindows_3 : decode cX5_colourOfWindows 3 = .ok (.irem, 1) := by decide +kernel
theorem dX5_colourOfWindows_4 : decode cX5_colourOfWindows 4 = .ok (.istore_n 2, 1) := by decide +kernel
theorem dX5_colourOfWindows_5 : decode cX5_colourOfWindows 5 = .ok (.iload_n 1, 1) := by decide +kernel
theorem dX5_colourOfWindows_6 : decode cX5_colourOfWindows 6 = .ok (.bipush 12, 2) := by decide +kernel
theorem dX5_colourOfWindows_8 : decode cX5_colourOfWindows 8 = .ok (.idiv, 1) := by decide +kernel
theorem dX5_colourOfWindows_9 : decode cX5_colourOfWindows 9 = .ok (.istore_n 3, 1) := by decide +kernel
theorem dX5_colourOfWindows_10 : decode cX5_colourOfWindows 10 = .ok (.aload_n 0, 1) := by decide +kernel
theorem dX5_colourOfWindows_11 : decode cX5_colourOfWindows 11 = .ok (.iload_n 2, 1) := by decide +kernel
theorem dX5_colourOfWindows_12 : decode cX5_colourOfWindows 12 = .ok (.iload_n 3, 1) := by decide +kernel
theorem dX5_colourOfWindows_13 : decode cX5_colourOfWindows 13 = .ok (.invokevirtual 75, 3) := by decide +kernel
theorem dX5_colourOfWindows_16 : decode cX5_colourOfWindows 16 = .ok (.astore 4, 2) := by decide +kernel
theorem dX5_colourOfWindows_18 : decode cX5_colourOfWindows 18 = .ok (.aload 4, 2) := by decide +kernel
theorem dX5_colourOfWindows_20 : decode cX5_colourOfWindows 20 = .ok (.ifnonnull 7, 3) := by decide +kernel
theorem dX5_colourOfWindows_23 : decode cX5_colourOfWindows 23 = .ok (.iconst 0, 1) := by decide +kernel
theorem dX5_colourOfWindows_24 : decode cX5_colourOfWindows 24 = .ok (.goto 10, 3) := by decide +kernel
theorem dX5_colourOfWindows_27 : decode cX5_colourOfWindows 27 = .ok (.aload 4, 2) := by decide +kernel
theorem dX5_colourOfWindows_29 : decode cX5_colourOfWindows 29 = .ok (.iload_n 2, 1) := by decide +kernel
theorem dX5_colourOfWindows_30 : decode cX5_colourOfWindows 30 = .ok (.iload_n 3, 1) := by decide +kernel
theorem dX5_colourOfWindows_31 : decode cX5_colourOfWindows 31 = .ok (.invokevirtual 79, 3) := by decide +kernel
theorem dX5_colourOfWindows_34 : decode cX5_colourOfWindows 34 = .ok (.ireturn, 1) := by decide +kernel
theorem dX5_repaint_0 : decode cX5_repaint 0 = .ok (.iconst 0, 1) := by decide +kernel
theorem dX5_repaint_1 : decode cX5_repaint 1 = .ok (.istore_n 1, 1) := by decide +kernel
theorem dX5_repaint_2 : decode cX5_repaint 2 = .ok (.iconst 0, 1) := by decide +kernel
theorem dX5_repaint_3 : decode cX5_repaint 3 = .ok (.istore_n 2, 1) := by decide +kernel
theorem dX5_repaint_4 : decode cX5_repaint 4 = .ok (.iload_n 2, 1) := by decide +kernel
theorem dX5_repaint_5 : decode cX5_repaint 5 = .ok (.bipush 96, 2) := by decide +kernel
theorem dX5_repaint_7 : decode cX5_repaint 7 = .ok (.if_icmp .ge 35, 3) := by decide +kernel
theorem dX5_repaint_10 : decode cX5_repaint 10 = .ok (.aload_n 0, 1) := by decide +kernel
theorem dX5_repaint_11 : decode cX5_repaint 11 = .ok (.iload_n 2, 1) := by decide +kernel
theorem dX5_repaint_12 : decode cX5_repaint 12 = .ok (.invokevirtual 83, 3) := by decide +kernel
theorem dX5_repaint_15 : decode cX5_repaint 15 = .ok (.istore_n 3, 1) := by decide +kernel
theorem dX5_repaint_16 : decode cX5_repaint 16 = .ok (.aload_n 0, 1) := by decide +kernel
theorem dX5_repaint_17 : decode cX5_repaint 17 = .ok (.getfield 27, 3) := by decide +kernel
theorem dX5_repaint_20 : decode cX5_repaint 20 = .ok (.iload_n 2, 1) := by decide +kernel
theorem dX5_repaint_21 : decode cX5_repaint 21 = .ok (.iaload, 1) := by decide +kernel
theorem dX5_repaint_22 : decode cX5_repaint 22 = .ok (.iload_n 3, 1) := by decide +kernel
theorem dX5_repaint_23 : decode cX5_repaint 23 = .ok (.if_icmp .eq 13, 3) := by decide +kernel
theorem dX5_repaint_26 : decode cX5_repaint 26 = .ok (.aload_n 0, 1) := by decide +kernel
theorem dX5_repaint_27 : decode cX5_repaint 27 = .ok (.getfield 27, 3) := by decide +kernel
theorem dX5_repaint_30 : decode cX5_repaint 30 = .ok (.iload_n 2, 1) := by decide +kernel
theorem dX5_repaint_31 : decode cX5_repaint 31 = .ok (.iload_n 3, 1) := by decide +kernel
theorem dX5_repaint_32 : decode cX5_repaint 32 = .ok (.iastore, 1) := by decide +kernel
theorem dX5_repaint_33 : decode cX5_repaint 33 = .ok (.iinc 1 1, 3) := by decide +kernel
theorem dX5_repaint_36 : decode cX5_repaint 36 = .ok (.iinc 2 1, 3) := by decide +kernel
theorem dX5_repaint_39 : decode cX5_repaint 39 = .ok (.goto (-35), 3) := by decide +kernel
theorem dX5_repaint_42 : decode cX5_repaint 42 = .ok (.iload_n 1, 1) := by decide +kernel
theorem dX5_repaint_43 : decode cX5_repaint 43 = .ok (.ireturn, 1) := by decide +kernel
theorem dX5_isPainted_0 : decode cX5_isPainted 0 = .ok (.iconst 0, 1) := by decide +kernel
theorem dX5_isPainted_1 : decode cX5_isPainted 1 = .ok (.istore_n 1, 1) := by decide +kernel
theorem dX5_isPainted_2 : decode cX5_isPainted 2 = .ok (.iload_n 1, 1) := by decide +kernel
theorem dX5_isPainted_3 : decode cX5_isPainted 3 = .ok (.bipush 96, 2) := by decide +kernel
theorem dX5_isPainted_5 : decode cX5_isPainted 5 = .ok (.if_icmp .ge 25, 3) := by decide +kernel
theorem dX5_isPainted_8 : decode cX5_isPainted 8 = .ok (.aload_n 0, 1) := by decide +kernel
theorem dX5_isPainted_9 : decode cX5_isPainted 9 = .ok (.getfield 27, 3) := by decide +kernel
theorem dX5_isPainted_12 : decode cX5_isPainted 12 = .ok (.iload_n 1, 1) := by decide +kernel
theorem dX5_isPainted_13 : decode cX5_isPainted 13 = .ok (.iaload, 1) := by decide +kernel
theorem dX5_isPainted_14 : decode cX5_isPainted 14 = .ok (.aload_n 0, 1) := by decide +kernel
theorem dX5_isPainted_15 : decode cX5_isPainted 15 = .ok (.iload_n 1, 1) := by decide +kernel
theorem dX5_isPainted_16 : decode cX5_isPainted 16 = .ok (.invokevirtual 83, 3) := by decide +kernel
theorem dX5_isPainted_19 : decode cX5_isPainted 19 = .ok (.if_icmp .eq 5, 3) := by decide +kernel
theorem dX5_isPainted_22 : decode cX5_isPainted 22 = .ok (.iconst 0, 1) := by decide +kernel
theorem dX5_isPainted_23 : decode cX5_isPainted 23 = .ok (.ireturn, 1) := by decide +kernel
theorem dX5_isPainted_24 : decode cX5_isPainted 24 = .ok (.iinc 1 1, 3) := by decide +kernel
theorem dX5_isPainted_27 : decode cX5_isPainted 27 = .ok (.goto (-25), 3) := by decide +kernel
theorem dX5_isPainted_30 : decode cX5_isPainted 30 = .ok (.iconst 1, 1) := by decide +kernel
theorem dX5_isPainted_31 : decode cX5_isPainted 31 = .ok (.ireturn, 1) := by decide +kernel
theorem dX5_isTrue_0 : decode cX5_isTrue 0 = .ok (.aload_n 0, 1) := by decide +kernel
theorem dX5_isTrue_1 : decode cX5_isTrue 1 = .ok (.invokevirtual 87, 3) := by decide +kernel
theorem dX5_isTrue_4 : decode cX5_isTrue 4 = .ok (.ifCond .eq 24, 3) := by decide +kernel
theorem dX5_isTrue_7 : decode cX5_isTrue 7 = .ok (.aload_n 0, 1) := by decide +kernel
theorem dX5_isTrue_8 : decode cX5_isTrue 8 = .ok (.getfield 91, 3) := by decide +kernel
theorem dX5_isTrue_11 : decode cX5_isTrue 11 = .ok (.ifnull 13, 3) := by decide +kernel
theorem dX5_isTrue_14 : decode cX5_isTrue 14 = .ok (.aload_n 0, 1) := by decide +kernel
theorem dX5_isTrue_15 : decode cX5_isTrue 15 = .ok (.getfield 91, 3) := by decide +kernel
theorem dX5_isTrue_18 : decode cX5_isTrue 18 = .ok (.invokevirtual 95, 3) := by decide +kernel
theorem dX5_isTrue_21 : decode cX5_isTrue 21 = .ok (.ifCond .eq 7, 3) := by decide +kernel
theorem dX5_isTrue_24 : decode cX5_isTrue 24 = .ok (.iconst 1, 1) := by decide +kernel
theorem dX5_isTrue_25 : decode cX5_isTrue 25 = .ok (.goto 4, 3) := by decide +kernel
theorem dX5_isTrue_28 : decode cX5_isTrue 28 = .ok (.iconst 0, 1) := by decide +kernel
theorem dX5_isTrue_29 : decode cX5_isTrue 29 = .ok (.ireturn, 1) := by decide +kernel
theorem dX5_countKeysOf_0 : decode cX5_countKeysOf 0 = .ok (.iconst 0, 1) := by decide +kernel
theorem dX5_countKeysOf_1 : decode cX5_countKeysOf 1 = .ok (.istore_n 2, 1) := by decide +kernel
theorem dX5_countKeysOf_2 : decode cX5_countKeysOf 2 = .ok (.iconst 0, 1) := by decide +kernel
theorem dX5_countKeysOf_3 : decode cX5_countKeysOf 3 = .ok (.istore_n 3, 1) := by decide +kernel
theorem dX5_countKeysOf_4 : decode cX5_countKeysOf 4 = .ok (.iload_n 3, 1) := by decide +kernel
theorem dX5_countKeysOf_5 : decode cX5_countKeysOf 5 = .ok (.aload_n 0, 1) := by decide +kernel
theorem dX5_countKeysOf_6 : decode cX5_countKeysOf 6 = .ok (.getfield 24, 3) := by decide +kernel
theorem dX5_countKeysOf_9 : decode cX5_countKeysOf 9 = .ok (.invokevirtual 57, 3) := by decide +kernel
theorem dX5_countKeysOf_12 : decode cX5_countKeysOf 12 = .ok (.if_icmp .ge 30, 3) := by decide +kernel
theorem dX5_countKeysOf_15 : decode cX5_countKeysOf 15 = .ok (.aload_n 0, 1) := by decide +kernel
theorem dX5_countKeysOf_16 : decode cX5_countKeysOf 16 = .ok (.getfield 24, 3) := by decide +kernel
theorem dX5_countKeysOf_19 : decode cX5_countKeysOf 19 = .ok (.iload_n 3, 1) := by decide +kernel
theorem dX5_countKeysOf_20 : decode cX5_countKeysOf 20 = .ok (.invokevirtual 60, 3) := by decide +kernel
theorem dX5_countKeysOf_23 : decode cX5_countKeysOf 23 = .ok (.checkcast 100, 3) := by decide +kernel
theorem dX5_countKeysOf_26 : decode cX5_countKeysOf 26 = .ok (.getfield 102, 3) := by decide +kernel
theorem dX5_countKeysOf_29 : decode cX5_countKeysOf 29 = .ok (.aload_n 1, 1) := by decide +kernel
theorem dX5_countKeysOf_30 : decode cX5_countKeysOf 30 = .ok (.if_acmp .ne 6, 3) := by decide +kernel
theorem dX5_countKeysOf_33 : decode cX5_countKeysOf 33 = .ok (.iinc 2 1, 3) := by decide +kernel
theorem dX5_countKeysOf_36 : decode cX5_countKeysOf 36 = .ok (.iinc 3 1, 3) := by decide +kernel
theorem dX5_countKeysOf_39 : decode cX5_countKeysOf 39 = .ok (.goto (-35), 3) := by decide +kernel
theorem dX5_countKeysOf_42 : decode cX5_countKeysOf 42 = .ok (.iload_n 2, 1) := by decide +kernel
theorem dX5_countKeysOf_43 : decode cX5_countKeysOf 43 = .ok (.ireturn, 1) := by decide +kernel
theorem dX5_countKeysBy_0 : decode cX5_countKeysBy 0 = .ok (.iconst 0, 1) := by decide +kernel
theorem dX5_countKeysBy_1 : decode cX5_countKeysBy 1 = .ok (.istore_n 2, 1) := by decide +kernel
theorem dX5_countKeysBy_2 : decode cX5_countKeysBy 2 = .ok (.iconst 0, 1) := by decide +kernel
theorem dX5_countKeysBy_3 : decode cX5_countKeysBy 3 = .ok (.istore_n 3, 1) := by decide +kernel
theorem dX5_countKeysBy_4 : decode cX5_countKeysBy 4 = .ok (.iload_n 3, 1) := by decide +kernel
theorem dX5_countKeysBy_5 : decode cX5_countKeysBy 5 = .ok (.aload_n 0, 1) := by decide +kernel
theorem dX5_countKeysBy_6 : decode cX5_countKeysBy 6 = .ok (.getfield 24, 3) := by decide +kernel
theorem dX5_countKeysBy_9 : decode cX5_countKeysBy 9 = .ok (.invokevirtual 57, 3) := by decide +kernel
theorem dX5_countKeysBy_12 : decode cX5_countKeysBy 12 = .ok (.if_icmp .ge 30, 3) := by decide +kernel
theorem dX5_countKeysBy_15 : decode cX5_countKeysBy 15 = .ok (.aload_n 0, 1) := by decide +kernel
theorem dX5_countKeysBy_16 : decode cX5_countKeysBy 16 = .ok (.getfield 24, 3) := by decide +kernel
theorem dX5_countKeysBy_19 : decode cX5_countKeysBy 19 = .ok (.iload_n 3, 1) := by decide +kernel
theorem dX5_countKeysBy_20 : decode cX5_countKeysBy 20 = .ok (.invokevirtual 60, 3) := by decide +kernel
theorem dX5_countKeysBy_23 : decode cX5_countKeysBy 23 = .ok (.checkcast 100, 3) := by decide +kernel
theorem dX5_countKeysBy_26 : decode cX5_countKeysBy 26 = .ok (.getfield 106, 3) := by decide +kernel
theorem dX5_countKeysBy_29 : decode cX5_countKeysBy 29 = .ok (.aload_n 1, 1) := by decide +kernel
theorem dX5_countKeysBy_30 : decode cX5_countKeysBy 30 = .ok (.if_acmp .ne 6, 3) := by decide +kernel
theorem dX5_countKeysBy_33 : decode cX5_countKeysBy 33 = .ok (.iinc 2 1, 3) := by decide +kernel
theorem dX5_countKeysBy_36 : decode cX5_countKeysBy 36 = .ok (.iinc 3 1, 3) := by decide +kernel
theorem dX5_countKeysBy_39 : decode cX5_countKeysBy 39 = .ok (.goto (-35), 3) := by decide +kernel
theorem dX5_countKeysBy_42 : decode cX5_countKeysBy 42 = .ok (.iload_n 2, 1) := by decide +kernel
theorem dX5_countKeysBy_43 : decode cX5_countKeysBy 43 = .ok (.ireturn, 1) := by decide +kernel
theorem dX5_lastGuessAt_0 : decode cX5_lastGuessAt 0 = .ok (.aload_n 0, 1) := by decide +kernel
theorem dX5_lastGuessAt_1 : decode cX5_lastGuessAt 1 = .ok (.getfield 24, 3) := by decide +kernel
theorem dX5_lastGuessAt_4 : decode cX5_lastGuessAt 4 = .ok (.invokevirtual 57, 3) := by decide +kernel
theorem dX5_lastGuessAt_7 : decode cX5_lastGuessAt 7 = .ok (.iconst 1, 1) := by decide +kernel
theorem dX5_lastGuessAt_8 : decode cX5_lastGuessAt 8 = .ok (.isub, 1) := by decide +kernel
theorem dX5_lastGuessAt_9 : decode cX5_lastGuessAt 9 = .ok (.istore_n 3, 1) := by decide +kernel
theorem dX5_lastGuessAt_10 : decode cX5_lastGuessAt 10 = .ok (.iload_n 3, 1) := by decide +kernel
theorem dX5_lastGuessAt_11 : decode cX5_lastGuessAt 11 = .ok (.ifCond .lt 51, 3) := by decide +kernel
theorem dX5_lastGuessAt_14 : decode cX5_lastGuessAt 14 = .ok (.aload_n 0, 1) := by decide +kernel
theorem dX5_lastGuessAt_15 : decode cX5_lastGuessAt 15 = .ok (.getfield 24, 3) := by decide +kernel
theorem dX5_lastGuessAt_18 : decode cX5_lastGuessAt 18 = .ok (.iload_n 3, 1) := by decide +kernel
theorem dX5_lastGuessAt_19 : decode cX5_lastGuessAt 19 = .ok (.invokevirtual 60, 3) := by decide +kernel
theorem dX5_lastGuessAt_22 : decode cX5_lastGuessAt 22 = .ok (.checkcast 100, 3) := by decide +kernel
theorem dX5_lastGuessAt_25 : decode cX5_lastGuessAt 25 = .ok (.astore 4, 2) := by decide +kernel
theorem dX5_lastGuessAt_27 : decode cX5_lastGuessAt 27 = .ok (.aload 4, 2) := by decide +kernel
theorem dX5_lastGuessAt_29 : decode cX5_lastGuessAt 29 = .ok (.getfield 106, 3) := by decide +kernel
theorem dX5_lastGuessAt_32 : decode cX5_lastGuessAt 32 = .ok (.aload_n 1, 1) := by decide +kernel
theorem dX5_lastGuessAt_33 : decode cX5_lastGuessAt 33 = .ok (.if_acmp .ne 23, 3) := by decide +kernel
theorem dX5_lastGuessAt_36 : decode cX5_lastGuessAt 36 = .ok (.aload 4, 2) := by decide +kernel
theorem dX5_lastGuessAt_38 : decode cX5_lastGuessAt 38 = .ok (.getfield 102, 3) := by decide +kernel
theorem dX5_lastGuessAt_41 : decode cX5_lastGuessAt 41 = .ok (.aload 4, 2) := by decide +kernel
theorem dX5_lastGuessAt_43 : decode cX5_lastGuessAt 43 = .ok (.getfield 110, 3) := by decide +kernel
theorem dX5_lastGuessAt_46 : decode cX5_lastGuessAt 46 = .ok (.invokevirtual 113, 3) := by decide +kernel
theorem dX5_lastGuessAt_49 : decode cX5_lastGuessAt 49 = .ok (.iload_n 2, 1) := by decide +kernel
theorem dX5_lastGuessAt_50 : decode cX5_lastGuessAt 50 = .ok (.if_icmp .ne 6, 3) := by decide +kernel
theorem dX5_lastGuessAt_53 : decode cX5_lastGuessAt 53 = .ok (.aload 4, 2) := by decide +kernel
theorem dX5_lastGuessAt_55 : decode cX5_lastGuessAt 55 = .ok (.areturn, 1) := by decide +kernel
theorem dX5_lastGuessAt_56 : decode cX5_lastGuessAt 56 = .ok (.iinc 3 (-1), 3) := by decide +kernel
theorem dX5_lastGuessAt_59 : decode cX5_lastGuessAt 59 = .ok (.goto (-49), 3) := by decide +kernel
theorem dX5_lastGuessAt_62 : decode cX5_lastGuessAt 62 = .ok (.aconst_null, 1) := by decide +kernel
theorem dX5_lastGuessAt_63 : decode cX5_lastGuessAt 63 = .ok (.areturn, 1) := by decide +kernel
theorem dX5_advanceMove_0 : decode cX5_advanceMove 0 = .ok (.aload_n 0, 1) := by decide +kernel
theorem dX5_advanceMove_1 : decode cX5_advanceMove 1 = .ok (.aload_n 0, 1) := by decide +kernel
theorem dX5_advanceMove_2 : decode cX5_advanceMove 2 = .ok (.getfield 41, 3) := by decide +kernel
theorem dX5_advanceMove_5 : decode cX5_advanceMove 5 = .ok (.getfield 116, 3) := by decide +kernel
theorem dX5_advanceMove_8 : decode cX5_advanceMove 8 = .ok (.ifCond .eq 21, 3) := by decide +kernel
theorem dX5_advanceMove_11 : decode cX5_advanceMove 11 = .ok (.aload_n 0, 1) := by decide +kernel
theorem dX5_advanceMove_12 : decode cX5_advanceMove 12 = .ok (.getfield 41, 3) := by decide +kernel
theorem dX5_advanceMove_15 : decode cX5_advanceMove 15 = .ok (.aload_n 0, 1) := by decide +kernel
theorem dX5_advanceMove_16 : decode cX5_advanceMove 16 = .ok (.getfield 27, 3) := by decide +kernel
theorem dX5_advanceMove_19 : decode cX5_advanceMove 19 = .ok (.invokevirtual 119, 3) := by decide +kernel
theorem dX5_advanceMove_22 : decode cX5_advanceMove 22 = .ok (.ifCond .eq 7, 3) := by decide +kernel
theorem dX5_advanceMove_25 : decode cX5_advanceMove 25 = .ok (.iconst 1, 1) := by decide +kernel
theorem dX5_advanceMove_26 : decode cX5_advanceMove 26 = .ok (.goto 4, 3) := by decide +kernel
theorem dX5_advanceMove_29 : decode cX5_advanceMove 29 = .ok (.iconst 0, 1) := by decide +kernel
theorem dX5_advanceMove_30 : decode cX5_advanceMove 30 = .ok (.putfield 123, 3) := by decide +kernel
theorem dX5_advanceMove_33 : decode cX5_advanceMove 33 = .ok (.return_, 1) := by decide +kernel
theorem dX5_doKeys_0 : decode cX5_doKeys 0 = .ok (.aload_n 0, 1) := by decide +kernel
theorem dX5_doKeys_1 : decode cX5_doKeys 1 = .ok (.getfield 123, 3) := by decide +kernel
theorem dX5_doKeys_4 : decode cX5_doKeys 4 = .ok (.ifCond .eq 4, 3) := by decide +kernel
theorem dX5_doKeys_7 : decode cX5_doKeys 7 = .ok (.return_, 1) := by decide +kernel
theorem dX5_doKeys_8 : decode cX5_doKeys 8 = .ok (.iconst 0, 1) := by decide +kernel
theorem dX5_doKeys_9 : decode cX5_doKeys 9 = .ok (.istore_n 1, 1) := by decide +kernel
theorem dX5_doKeys_10 : decode cX5_doKeys 10 = .ok (.iload_n 1, 1) := by decide +kernel
theorem dX5_doKeys_11 : decode cX5_doKeys 11 = .ok (.aload_n 0, 1) := by decide +kernel
theorem dX5_doKeys_12 : decode cX5_doKeys 12 = .ok (.getfield 24, 3) := by decide +kernel
theorem dX5_doKeys_15 : decode cX5_doKeys 15 = .ok (.invokevirtual 57, 3) := by decide +kernel
theorem dX5_doKeys_18 : decode cX5_doKeys 18 = .ok (.if_icmp .ge 59, 3) := by decide +kernel
theorem dX5_doKeys_21 : decode cX5_doKeys 21 = .ok (.aload_n 0, 1) := by decide +kernel
theorem dX5_doKeys_22 : decode cX5_doKeys 22 = .ok (.getfield 24, 3) := by decide +kernel
theorem dX5_doKeys_25 : decode cX5_doKeys 25 = .ok (.iload_n 1, 1) := by decide +kernel
theorem dX5_doKeys_26 : decode cX5_doKeys 26 = .ok (.invokevirtual 60, 3) := by decide +kernel
theorem dX5_doKeys_29 : decode cX5_doKeys 29 = .ok (.checkcast 100, 3) := by decide +kernel
theorem dX5_doKeys_32 : decode cX5_doKeys 32 = .ok (.astore_n 2, 1) := by decide +kernel
theorem dX5_doKeys_33 : decode cX5_doKeys 33 = .ok (.aload_n 2, 1) := by decide +kernel
theorem dX5_doKeys_34 : decode cX5_doKeys 34 = .ok (.getfield 102, 3) := by decide +kernel
theorem dX5_doKeys_37 : decode cX5_doKeys 37 = .ok (.getfield 126, 3) := by decide +kernel
theorem dX5_doKeys_40 : decode cX5_doKeys 40 = .ok (.ifCond .eq 19, 3) := by decide +kernel
theorem dX5_doKeys_43 : decode cX5_doKeys 43 = .ok (.aload_n 2, 1) := by decide +kernel
theorem dX5_doKeys_44 : decode cX5_doKeys 44 = .ok (.getfield 102, 3) := by decide +kernel
theorem dX5_doKeys_47 : decode cX5_doKeys 47 = .ok (.aload_n 2, 1) := by decide +kernel
theorem dX5_doKeys_48 : decode cX5_doKeys 48 = .ok (.getfield 129, 3) := by decide +kernel
theorem dX5_doKeys_51 : decode cX5_doKeys 51 = .ok (.invokevirtual 132, 3) := by decide +kernel
theorem dX5_doKeys_54 : decode cX5_doKeys 54 = .ok (.aload_n 0, 1) := by decide +kernel
theorem dX5_doKeys_55 : decode cX5_doKeys 55 = .ok (.invokevirtual 53, 3) := by decide +kernel
theorem dX5_doKeys_58 : decode cX5_doKeys 58 = .ok (.pop, 1) := by decide +kernel
theorem dX5_doKeys_59 : decode cX5_doKeys 59 = .ok (.aload_n 2, 1) := by decide +kernel
theorem dX5_doKeys_60 : decode cX5_doKeys 60 = .ok (.getfield 106, 3) := by decide +kernel
theorem dX5_doKeys_63 : decode cX5_doKeys 63 = .ok (.aload_n 0, 1) := by decide +kernel
theorem dX5_doKeys_64 : decode cX5_doKeys 64 = .ok (.aload_n 2, 1) := by decide +kernel
theorem dX5_doKeys_65 : decode cX5_doKeys 65 = .ok (.invokevirtual 136, 3) := by decide +kernel
theorem dX5_doKeys_68 : decode cX5_doKeys 68 = .ok (.invokevirtual 140, 3) := by decide +kernel
theorem dX5_doKeys_71 : decode cX5_doKeys 71 = .ok (.iinc 1 1, 3) := by decide +kernel
theorem dX5_doKeys_74 : decode cX5_doKeys 74 = .ok (.goto (-64), 3) := by decide +kernel
theorem dX5_doKeys_77 : decode cX5_doKeys 77 = .ok (.aload_n 0, 1) := by decide +kernel
theorem dX5_doKeys_78 : decode cX5_doKeys 78 = .ok (.getfield 24, 3) := by decide +kernel
theorem dX5_doKeys_81 : decode cX5_doKeys 81 = .ok (.invokevirtual 146, 3) := by decide +kernel
theorem dX5_doKeys_84 : decode cX5_doKeys 84 = .ok (.return_, 1) := by decide +kernel
theorem dX5_isRight_0 : decode cX5_isRight 0 = .ok (.aload_n 1, 1) := by decide +kernel
theorem dX5_isRight_1 : decode cX5_isRight 1 = .ok (.getfield 102, 3) := by decide +kernel
theorem dX5_isRight_4 : decode cX5_isRight 4 = .ok (.aload_n 1, 1) := by decide +kernel
theorem dX5_isRight_5 : decode cX5_isRight 5 = .ok (.getfield 110, 3) := by decide +kernel
theorem dX5_isRight_8 : decode cX5_isRight 8 = .ok (.invokevirtual 113, 3) := by decide +kernel
theorem dX5_isRight_11 : decode cX5_isRight 11 = .ok (.istore_n 2, 1) := by decide +kernel
theorem dX5_isRight_12 : decode cX5_isRight 12 = .ok (.iload_n 2, 1) := by decide +kernel
theorem dX5_isRight_13 : decode cX5_isRight 13 = .ok (.iconst (-1), 1) := by decide +kernel
theorem dX5_isRight_14 : decode cX5_isRight 14 = .ok (.if_icmp .eq 30, 3) := by decide +kernel
theorem dX5_isRight_17 : decode cX5_isRight 17 = .ok (.aload_n 1, 1) := by decide +kernel
theorem dX5_isRight_18 : decode cX5_isRight 18 = .ok (.getfield 102, 3) := by decide +kernel
theorem dX5_isRight_21 : decode cX5_isRight 21 = .ok (.getfield 126, 3) := by decide +kernel
theorem dX5_isRight_24 : decode cX5_isRight 24 = .ok (.ifCond .eq 20, 3) := by decide +kernel
theorem dX5_isRight_27 : decode cX5_isRight 27 = .ok (.aload_n 0, 1) := by decide +kernel
theorem dX5_isRight_28 : decode cX5_isRight 28 = .ok (.getfield 27, 3) := by decide +kernel
theorem dX5_isRight_31 : decode cX5_isRight 31 = .ok (.iload_n 2, 1) := by decide +kernel
theorem dX5_isRight_32 : decode cX5_isRight 32 = .ok (.iaload, 1) := by decide +kernel
theorem dX5_isRight_33 : decode cX5_isRight 33 = .ok (.aload_n 1, 1) := by decide +kernel
theorem dX5_isRight_34 : decode cX5_isRight 34 = .ok (.getfield 129, 3) := by decide +kernel
theorem dX5_isRight_37 : decode cX5_isRight 37 = .ok (.if_icmp .ne 7, 3) := by decide +kernel
theorem dX5_isRight_40 : decode cX5_isRight 40 = .ok (.iconst 1, 1) := by decide +kernel
theorem dX5_isRight_41 : decode cX5_isRight 41 = .ok (.goto 4, 3) := by decide +kernel
theorem dX5_isRight_44 : decode cX5_isRight 44 = .ok (.iconst 0, 1) := by decide +kernel
theorem dX5_isRight_45 : decode cX5_isRight 45 = .ok (.ireturn, 1) := by decide +kernel
theorem dX5_lookForRecording_0 : decode cX5_lookForRecording 0 = .ok (.aload_n 0, 1) := by decide +kernel
theorem dX5_lookForRecording_1 : decode cX5_lookForRecording 1 = .ok (.getfield 91, 3) := by decide +kernel
theorem dX5_lookForRecording_4 : decode cX5_lookForRecording 4 = .ok (.ifnull 13, 3) := by decide +kernel
theorem dX5_lookForRecording_7 : decode cX5_lookForRecording 7 = .ok (.aload_n 0, 1) := by decide +kernel
theorem dX5_lookForRecording_8 : decode cX5_lookForRecording 8 = .ok (.getfield 91, 3) := by decide +kernel
theorem dX5_lookForRecording_11 : decode cX5_lookForRecording 11 = .ok (.invokevirtual 149, 3) := by decide +kernel
theorem dX5_lookForRecording_14 : decode cX5_lookForRecording 14 = .ok (.ifCond .eq 4, 3) := by decide +kernel
theorem dX5_lookForRecording_17 : decode cX5_lookForRecording 17 = .ok (.return_, 1) := by decide +kernel
theorem dX5_lookForRecording_18 : decode cX5_lookForRecording 18 = .ok (.iconst 0, 1) := by decide +kernel
theorem dX5_lookForRecording_19 : decode cX5_lookForRecording 19 = .ok (.istore_n 1, 1) := by decide +kernel
theorem dX5_lookForRecording_20 : decode cX5_lookForRecording 20 = .ok (.iload_n 1, 1) := by decide +kernel
theorem dX5_lookForRecording_21 : decode cX5_lookForRecording 21 = .ok (.bipush 96, 2) := by decide +kernel
theorem dX5_lookForRecording_23 : decode cX5_lookForRecording 23 = .ok (.if_icmp .ge 63, 3) := by decide +kernel
theorem dX5_lookForRecording_26 : decode cX5_lookForRecording 26 = .ok (.aload_n 0, 1) := by decide +kernel
theorem dX5_lookForRecording_27 : decode cX5_lookForRecording 27 = .ok (.iload_n 1, 1) := by decide +kernel
theorem dX5_lookForRecording_28 : decode cX5_lookForRecording 28 = .ok (.bipush 12, 2) := by decide +kernel
theorem dX5_lookForRecording_30 : decode cX5_lookForRecording 30 = .ok (.irem, 1) := by decide +kernel
theorem dX5_lookForRecording_31 : decode cX5_lookForRecording 31 = .ok (.iload_n 1, 1) := by decide +kernel
theorem dX5_lookForRecording_32 : decode cX5_lookForRecording 32 = .ok (.bipush 12, 2) := by decide +kernel
theorem dX5_lookForRecording_34 : decode cX5_lookForRecording 34 = .ok (.idiv, 1) := by decide +kernel
theorem dX5_lookForRecording_35 : decode cX5_lookForRecording 35 = .ok (.invokevirtual 75, 3) := by decide +kernel
theorem dX5_lookForRecording_38 : decode cX5_lookForRecording 38 = .ok (.astore_n 2, 1) := by decide +kernel
theorem dX5_lookForRecording_39 : decode cX5_lookForRecording 39 = .ok (.aload_n 2, 1) := by decide +kernel
theorem dX5_lookForRecording_40 : decode cX5_lookForRecording 40 = .ok (.ifnull 14, 3) := by decide +kernel
theorem dX5_lookForRecording_43 : decode cX5_lookForRecording 43 = .ok (.aload_n 2, 1) := by decide +kernel
theorem dX5_lookForRecording_44 : decode cX5_lookForRecording 44 = .ok (.getfield 152, 3) := by decide +kernel
theorem dX5_lookForRecording_47 : decode cX5_lookForRecording 47 = .ok (.ifCond .eq 7, 3) := by decide +kernel
theorem dX5_lookForRecording_50 : decode cX5_lookForRecording 50 = .ok (.iconst 1, 1) := by decide +kernel
theorem dX5_lookForRecording_51 : decode cX5_lookForRecording 51 = .ok (.goto 4, 3) := by decide +kernel
theorem dX5_lookForRecording_54 : decode cX5_lookForRecording 54 = .ok (.iconst 0, 1) := by decide +kernel
theorem dX5_lookForRecording_55 : decode cX5_lookForRecording 55 = .ok (.istore_n 3, 1) := by decide +kernel
theorem dX5_lookForRecording_56 : decode cX5_lookForRecording 56 = .ok (.aload_n 0, 1) := by decide +kernel
theorem dX5_lookForRecording_57 : decode cX5_lookForRecording 57 = .ok (.getfield 91, 3) := by decide +kernel
theorem dX5_lookForRecording_60 : decode cX5_lookForRecording 60 = .ok (.iload_n 1, 1) := by decide +kernel
theorem dX5_lookForRecording_61 : decode cX5_lookForRecording 61 = .ok (.iload_n 3, 1) := by decide +kernel
theorem dX5_lookForRecording_62 : decode cX5_lookForRecording 62 = .ok (.ifCond .eq 9, 3) := by decide +kernel
theorem dX5_lookForRecording_65 : decode cX5_lookForRecording 65 = .ok (.sipush 255, 3) := by decide +kernel
theorem dX5_lookForRecording_68 : decode cX5_lookForRecording 68 = .ok (.goto 9, 3) := by decide +kernel
theorem dX5_lookForRecording_71 : decode cX5_lookForRecording 71 = .ok (.aload_n 0, 1) := by decide +kernel
theorem dX5_lookForRecording_72 : decode cX5_lookForRecording 72 = .ok (.getfield 27, 3) := by decide +kernel
theorem dX5_lookForRecording_75 : decode cX5_lookForRecording 75 = .ok (.iload_n 1, 1) := by decide +kernel
theorem dX5_lookForRecording_76 : decode cX5_lookForRecording 76 = .ok (.iaload, 1) := by decide +kernel
theorem dX5_lookForRecording_77 : decode cX5_lookForRecording 77 = .ok (.invokevirtual 155, 3) := by decide +kernel
theorem dX5_lookForRecording_80 : decode cX5_lookForRecording 80 = .ok (.iinc 1 1, 3) := by decide +kernel
theorem dX5_lookForRecording_83 : decode cX5_lookForRecording 83 = .ok (.goto (-63), 3) := by decide +kernel
theorem dX5_lookForRecording_86 : decode cX5_lookForRecording 86 = .ok (.aload_n 0, 1) := by decide +kernel
theorem dX5_lookForRecording_87 : decode cX5_lookForRecording 87 = .ok (.getfield 91, 3) := by decide +kernel
theorem dX5_lookForRecording_90 : decode cX5_lookForRecording 90 = .ok (.invokevirtual 159, 3) := by decide +kernel
theorem dX5_lookForRecording_93 : decode cX5_lookForRecording 93 = .ok (.return_, 1) := by decide +kernel
theorem dX6_init_0 : decode cX6_init 0 = .ok (.aload_n 0, 1) := by decide +kernel
theorem dX6_init_1 : decode cX6_init 1 = .ok (.invokespecial 3, 3) := by decide +kernel
theorem dX6_init_4 : decode cX6_init 4 = .ok (.aload_n 0, 1) := by decide +kernel
theorem dX6_init_5 : decode cX6_init 5 = .ok (.bipush 96, 2) := by decide +kernel
theorem dX6_init_7 : decode cX6_init 7 = .ok (.newarray .int, 2) := by decide +kernel
theorem dX6_init_9 : decode cX6_init 9 = .ok (.putfield 9, 3) := by decide +kernel
theorem dX6_init_12 : decode cX6_init 12 = .ok (.aload_n 0, 1) := by decide +kernel
theorem dX6_init_13 : decode cX6_init 13 = .ok (.bipush 8, 2) := by decide +kernel
theorem dX6_init_15 : decode cX6_init 15 = .ok (.newarray .boolean, 2) := by decide +kernel
theorem dX6_init_17 : decode cX6_init 17 = .ok (.putfield 15, 3) := by decide +kernel
theorem dX6_init_20 : decode cX6_init 20 = .ok (.return_, 1) := by decide +kernel
theorem dX6_begin_0 : decode cX6_begin 0 = .ok (.aload_n 0, 1) := by decide +kernel
theorem dX6_begin_1 : decode cX6_begin 1 = .ok (.iconst 1, 1) := by decide +kernel
theorem dX6_begin_2 : decode cX6_begin 2 = .ok (.putfield 19, 3) := by decide +kernel
theorem dX6_begin_5 : decode cX6_begin 5 = .ok (.iconst 0, 1) := by decide +kernel
theorem dX6_begin_6 : decode cX6_begin 6 = .ok (.istore_n 1, 1) := by decide +kernel
theorem dX6_begin_7 : decode cX6_begin 7 = .ok (.iload_n 1, 1) := by decide +kernel
theorem dX6_begin_8 : decode cX6_begin 8 = .ok (.bipush 8, 2) := by decide +kernel
theorem dX6_begin_10 : decode cX6_begin 10 = .ok (.if_icmp .ge 16, 3) := by decide +kernel
theorem dX6_begin_13 : decode cX6_begin 13 = .ok (.aload_n 0, 1) := by decide +kernel
theorem dX6_begin_14 : decode cX6_begin 14 = .ok (.getfield 15, 3) := by decide +kernel
theorem dX6_begin_17 : decode cX6_begin 17 = .ok (.iload_n 1, 1) := by decide +kernel
theorem dX6_begin_18 : decode cX6_begin 18 = .ok (.iconst 0, 1) := by decide +kernel
theorem dX6_begin_19 : decode cX6_begin 19 = .ok (.bastore, 1) := by decide +kernel
theorem dX6_begin_20 : decode cX6_begin 20 = .ok (.iinc 1 1, 3) := by decide +kernel
theorem dX6_begin_23 : decode cX6_begin 23 = .ok (.goto (-16), 3) := by decide +kernel
theorem dX6_begin_26 : decode cX6_begin 26 = .ok (.return_, 1) := by decide +kernel
theorem dX6_isOther_0 : decode cX6_isOther 0 = .ok (.iload_n 2, 1) := by decide +kernel
theorem dX6_isOther_1 : decode cX6_isOther 1 = .ok (.bipush 12, 2) := by decide +kernel
theorem dX6_isOther_3 : decode cX6_isOther 3 = .ok (.imul, 1) := by decide +kernel
theorem dX6_isOther_4 : decode cX6_isOther 4 = .ok (.istore_n 3, 1) := by decide +kernel
theorem dX6_isOther_5 : decode cX6_isOther 5 = .ok (.iload_n 3, 1) := by decide +kernel
theorem dX6_isOther_6 : decode cX6_isOther 6 = .ok (.iload_n 2, 1) := by decide +kernel
theorem dX6_isOther_7 : decode cX6_isOther 7 = .ok (.iconst 1, 1) := by decide +kernel
theorem dX6_isOther_8 : decode cX6_isOther 8 = .ok (.iadd, 1) := by decide +kernel
theorem dX6_isOther_9 : decode cX6_isOther 9 = .ok (.bipush 12, 2) := by decide +kernel
theorem dX6_isOther_11 : decode cX6_isOther 11 = .ok (.imul, 1) := by decide +kernel
theorem dX6_isOther_12 : decode cX6_isOther 12 = .ok (.if_icmp .ge 23, 3) := by decide +kernel
theorem dX6_isOther_15 : decode cX6_isOther 15 = .ok (.aload_n 0, 1) := by decide +kernel
theorem dX6_isOther_16 : decode cX6_isOther 16 = .ok (.getfield 9, 3) := by decide +kernel
theorem dX6_isOther_19 : decode cX6_isOther 19 = .ok (.iload_n 3, 1) := by decide +kernel
theorem dX6_isOther_20 : decode cX6_isOther 20 = .ok (.iaload, 1) := by decide +kernel
theorem dX6_isOther_21 : decode cX6_isOther 21 = .ok (.aload_n 1, 1) := by decide +kernel
theorem dX6_isOther_22 : decode cX6_isOther 22 = .ok (.iload_n 3, 1) := by decide +kernel
theorem dX6_isOther_23 : decode cX6_isOther 23 = .ok (.iaload, 1) := by decide +kernel
theorem dX6_isOther_24 : decode cX6_isOther 24 = .ok (.if_icmp .eq 5, 3) := by decide +kernel
theorem dX6_isOther_27 : decode cX6_isOther 27 = .ok (.iconst 1, 1) := by decide +kernel
theorem dX6_isOther_28 : decode cX6_isOther 28 = .ok (.ireturn, 1) := by decide +kernel
theorem dX6_isOther_29 : decode cX6_isOther 29 = .ok (.iinc 3 1, 3) := by decide +kernel
theorem dX6_isOther_32 : decode cX6_isOther 32 = .ok (.goto (-27), 3) := by decide +kernel
theorem dX6_isOther_35 : decode cX6_isOther 35 = .ok (.iconst 0, 1) := by decide +kernel
theorem dX6_isOther_36 : decode cX6_isOther 36 = .ok (.ireturn, 1) := by decide +kernel
theorem dX6_countRowsLeft_0 : decode cX6_countRowsLeft 0 = .ok (.iconst 0, 1) := by decide +kernel
theorem dX6_countRowsLeft_1 : decode cX6_countRowsLeft 1 = .ok (.istore_n 2, 1) := by decide +kernel
theorem dX6_countRowsLeft_2 : decode cX6_countRowsLeft 2 = .ok (.iconst 0, 1) := by decide +kernel
theorem dX6_countRowsLeft_3 : decode cX6_countRowsLeft 3 = .ok (.istore_n 3, 1) := by decide +kernel
theorem dX6_countRowsLeft_4 : decode cX6_countRowsLeft 4 = .ok (.iload_n 3, 1) := by decide +kernel
theorem dX6_countRowsLeft_5 : decode cX6_countRowsLeft 5 = .ok (.bipush 8, 2) := by decide +kernel
theorem dX6_countRowsLeft_7 : decode cX6_countRowsLeft 7 = .ok (.if_icmp .ge 30, 3) := by decide +kernel
theorem dX6_countRowsLeft_10 : decode cX6_countRowsLeft 10 = .ok (.aload_n 0, 1) := by decide +kernel
theorem dX6_countRowsLeft_11 : decode cX6_countRowsLeft 11 = .ok (.getfield 15, 3) := by decide +kernel
theorem dX6_countRowsLeft_14 : decode cX6_countRowsLeft 14 = .ok (.iload_n 3, 1) := by decide +kernel
theorem dX6_countRowsLeft_15 : decode cX6_countRowsLeft 15 = .ok (.baload, 1) := by decide +kernel
theorem dX6_countRowsLeft_16 : decode cX6_countRowsLeft 16 = .ok (.ifCond .eq 12, 3) := by decide +kernel
theorem dX6_countRowsLeft_19 : decode cX6_countRowsLeft 19 = .ok (.aload_n 0, 1) := by decide +kernel
theorem dX6_countRowsLeft_20 : decode cX6_countRowsLeft 20 = .ok (.aload_n 1, 1) := by decide +kernel
theorem dX6_countRowsLeft_21 : decode cX6_countRowsLeft 21 = .ok (.iload_n 3, 1) := by decide +kernel
theorem dX6_countRowsLeft_22 : decode cX6_countRowsLeft 22 = .ok (.invokevirtual 23, 3) := by decide +kernel
theorem dX6_countRowsLeft_25 : decode cX6_countRowsLeft 25 = .ok (.ifCond .eq 6, 3) := by decide +kernel
theorem dX6_countRowsLeft_28 : decode cX6_countRowsLeft 28 = .ok (.iinc 2 1, 3) := by decide +kernel
theorem dX6_countRowsLeft_31 : decode cX6_countRowsLeft 31 = .ok (.iinc 3 1, 3) := by decide +kernel
theorem dX6_countRowsLeft_34 : decode cX6_countRowsLeft 34 = .ok (.goto (-30), 3) := by decide +kernel
theorem dX6_countRowsLeft_37 : decode cX6_countRowsLeft 37 = .ok (.iload_n 2, 1) := by decide +kernel
theorem dX6_countRowsLeft_38 : decode cX6_countRowsLeft 38 = .ok (.ireturn, 1) := by decide +kernel
theorem dX6_advance_0 : decode cX6_advance 0 = .ok (.aload_n 0, 1) := by decide +kernel
theorem dX6_advance_1 : decode cX6_advance 1 = .ok (.aload_n 1, 1) := by decide +kernel
theorem dX6_advance_2 : decode cX6_advance 2 = .ok (.invokevirtual 27, 3) := by decide +kernel
theorem dX6_advance_5 : decode cX6_advance 5 = .ok (.iconst 2, 1) := by decide +kernel
theorem dX6_advance_6 : decode cX6_advance 6 = .ok (.if_icmp .gt 20, 3) := by decide +kernel
theorem dX6_advance_9 : decode cX6_advance 9 = .ok (.aload_n 0, 1) := by decide +kernel
theorem dX6_advance_10 : decode cX6_advance 10 = .ok (.iconst 0, 1) := by decide +kernel
theorem dX6_advance_11 : decode cX6_advance 11 = .ok (.putfield 19, 3) := by decide +kernel
theorem dX6_advance_14 : decode cX6_advance 14 = .ok (.aload_n 0, 1) := by decide +kernel
theorem dX6_advance_15 : decode cX6_advance 15 = .ok (.dup, 1) := by decide +kernel
theorem dX6_advance_16 : decode cX6_advance 16 = .ok (.getfield 31, 3) := by decide +kernel
theorem dX6_advance_19 : decode cX6_advance 19 = .ok (.iconst 1, 1) := by decide +kernel
theorem dX6_advance_20 : decode cX6_advance 20 = .ok (.iadd, 1) := by decide +kernel
theorem dX6_advance_21 : decode cX6_advance 21 = .ok (.putfield 31, 3) := by decide +kernel
theorem dX6_advance_24 : decode cX6_advance 24 = .ok (.iconst 1, 1) := by decide +kernel
theorem dX6_advance_25 : decode cX6_advance 25 = .ok (.ireturn, 1) := by decide +kernel
theorem dX6_advance_26 : decode cX6_advance 26 = .ok (.aload_n 0, 1) := by decide +kernel
theorem dX6_advance_27 : decode cX6_advance 27 = .ok (.aload_n 1, 1) := by decide +kernel
theorem dX6_advance_28 : decode cX6_advance 28 = .ok (.invokevirtual 35, 3) := by decide +kernel
theorem dX6_advance_31 : decode cX6_advance 31 = .ok (.istore_n 2, 1) := by decide +kernel
theorem dX6_advance_32 : decode cX6_advance 32 = .ok (.aload_n 0, 1) := by decide +kernel
theorem dX6_advance_33 : decode cX6_advance 33 = .ok (.getfield 15, 3) := by decide +kernel
theorem dX6_advance_36 : decode cX6_advance 36 = .ok (.iload_n 2, 1) := by decide +kernel
theorem dX6_advance_37 : decode cX6_advance 37 = .ok (.iconst 1, 1) := by decide +kernel
theorem dX6_advance_38 : decode cX6_advance 38 = .ok (.bastore, 1) := by decide +kernel
theorem dX6_advance_39 : decode cX6_advance 39 = .ok (.aload_n 1, 1) := by decide +kernel
theorem dX6_advance_40 : decode cX6_advance 40 = .ok (.iload_n 2, 1) := by decide +kernel
theorem dX6_advance_41 : decode cX6_advance 41 = .ok (.bipush 12, 2) := by decide +kernel
theorem dX6_advance_43 : decode cX6_advance 43 = .ok (.imul, 1) := by decide +kernel
theorem dX6_advance_44 : decode cX6_advance 44 = .ok (.aload_n 0, 1) := by decide +kernel
theorem dX6_advance_45 : decode cX6_advance 45 = .ok (.getfield 9, 3) := by decide +kernel
theorem dX6_advance_48 : decode cX6_advance 48 = .ok (.iload_n 2, 1) := by decide +kernel
theorem dX6_advance_49 : decode cX6_advance 49 = .ok (.bipush 12, 2) := by decide +kernel
theorem dX6_advance_51 : decode cX6_advance 51 = .ok (.imul, 1) := by decide +kernel
theorem dX6_advance_52 : decode cX6_advance 52 = .ok (.bipush 12, 2) := by decide +kernel
theorem dX6_advance_54 : decode cX6_advance 54 = .ok (.invokestatic 38, 3) := by decide +kernel
theorem dX6_advance_57 : decode cX6_advance 57 = .ok (.iconst 0, 1) := by decide +kernel
theorem dX6_advance_58 : decode cX6_advance 58 = .ok (.ireturn, 1) := by decide +kernel
theorem dX6_nextRow_0 : decode cX6_nextRow 0 = .ok (.iconst 0, 1) := by decide +kernel
theorem dX6_nextRow_1 : decode cX6_nextRow 1 = .ok (.istore_n 2, 1) := by decide +kernel
theorem dX6_nextRow_2 : decode cX6_nextRow 2 = .ok (.iload_n 2, 1) := by decide +kernel
theorem dX6_nextRow_3 : decode cX6_nextRow 3 = .ok (.bipush 8, 2) := by decide +kernel
theorem dX6_nextRow_5 : decode cX6_nextRow 5 = .ok (.if_icmp .ge 20, 3) := by decide +kernel
theorem dX6_nextRow_8 : decode cX6_nextRow 8 = .ok (.aload_n 0, 1) := by decide +kernel
theorem dX6_nextRow_9 : decode cX6_nextRow 9 = .ok (.getfield 15, 3) := by decide +kernel
theorem dX6_nextRow_12 : decode cX6_nextRow 12 = .ok (.iload_n 2, 1) := by decide +kernel
theorem dX6_nextRow_13 : decode cX6_nextRow 13 = .ok (.baload, 1) := by decide +kernel
theorem dX6_nextRow_14 : decode cX6_nextRow 14 = .ok (.ifCond .ne 5, 3) := by decide +kernel
theorem dX6_nextRow_17 : decode cX6_nextRow 17 = .ok (.iload_n 2, 1) := by decide +kernel
theorem dX6_nextRow_18 : decode cX6_nextRow 18 = .ok (.ireturn, 1) := by decide +kernel
theorem dX6_nextRow_19 : decode cX6_nextRow 19 = .ok (.iinc 2 1, 3) := by decide +kernel
theorem dX6_nextRow_22 : decode cX6_nextRow 22 = .ok (.goto (-20), 3) := by decide +kernel
theorem dX6_nextRow_25 : decode cX6_nextRow 25 = .ok (.iconst 0, 1) := by decide +kernel
theorem dX6_nextRow_26 : decode cX6_nextRow 26 = .ok (.istore_n 2, 1) := by decide +kernel
theorem dX6_nextRow_27 : decode cX6_nextRow 27 = .ok (.iload_n 2, 1) := by decide +kernel
theorem dX6_nextRow_28 : decode cX6_nextRow 28 = .ok (.bipush 8, 2) := by decide +kernel
theorem dX6_nextRow_30 : decode cX6_nextRow 30 = .ok (.if_icmp .ge 20, 3) := by decide +kernel
theorem dX6_nextRow_33 : decode cX6_nextRow 33 = .ok (.aload_n 0, 1) := by decide +kernel
theorem dX6_nextRow_34 : decode cX6_nextRow 34 = .ok (.aload_n 1, 1) := by decide +kernel
theorem dX6_nextRow_35 : decode cX6_nextRow 35 = .ok (.iload_n 2, 1) := by decide +kernel
theorem dX6_nextRow_36 : decode cX6_nextRow 36 = .ok (.invokevirtual 23, 3) := by decide +kernel
theorem dX6_nextRow_39 : decode cX6_nextRow 39 = .ok (.ifCond .eq 5, 3) := by decide +kernel
theorem dX6_nextRow_42 : decode cX6_nextRow 42 = .ok (.iload_n 2, 1) := by decide +kernel
theorem dX6_nextRow_43 : decode cX6_nextRow 43 = .ok (.ireturn, 1) := by decide +kernel
theorem dX6_nextRow_44 : decode cX6_nextRow 44 = .ok (.iinc 2 1, 3) := by decide +kernel
theorem dX6_nextRow_47 : decode cX6_nextRow 47 = .ok (.goto (-20), 3) := by decide +kernel
theorem dX6_nextRow_50 : decode cX6_nextRow 50 = .ok (.iconst 0, 1) := by decide +kernel
theorem dX6_nextRow_51 : decode cX6_nextRow 51 = .ok (.ireturn, 1) := by decide +kernel
theorem dX7_init_0 : decode cX7_init 0 = .ok (.aload_n 0, 1) := by decide +kernel
theorem dX7_init_1 : decode cX7_init 1 = .ok (.invokespecial 3, 3) := by decide +kernel
theorem dX7_init_4 : decode cX7_init 4 = .ok (.aload_n 0, 1) := by decide +kernel
theorem dX7_init_5 : decode cX7_init 5 = .ok (.iload_n 1, 1) := by decide +kernel
theorem dX7_init_6 : decode cX7_init 6 = .ok (.putfield 9, 3) := by decide +kernel
theorem dX7_init_9 : decode cX7_init 9 = .ok (.aload_n 0, 1) := by decide +kernel
theorem dX7_init_10 : decode cX7_init 10 = .ok (.iload_n 2, 1) := by decide +kernel
theorem dX7_init_11 : decode cX7_init 11 = .ok (.putfield 15, 3) := by decide +kernel
theorem dX7_init_14 : decode cX7_init 14 = .ok (.aload_n 0, 1) := by decide +kernel
theorem dX7_init_15 : decode cX7_init 15 = .ok (.iload_n 3, 1) := by decide +kernel
theorem dX7_init_16 : decode cX7_init 16 = .ok (.putfield 18, 3) := by decide +kernel
theorem dX7_init_19 : decode cX7_init 19 = .ok (.aload_n 0, 1) := by decide +kernel
theorem dX7_init_20 : decode cX7_init 20 = .ok (.iload 4, 2) := by decide +kernel
theorem dX7_init_22 : decode cX7_init 22 = .ok (.putfield 21, 3) := by decide +kernel
theorem dX7_init_25 : decode cX7_init 25 = .ok (.aload_n 0, 1) := by decide +kernel
theorem dX7_init_26 : decode cX7_init 26 = .ok (.iload_n 3, 1) := by decide +kernel
theorem dX7_init_27 : decode cX7_init 27 = .ok (.iload 4, 2) := by decide +kernel
theorem dX7_init_29 : decode cX7_init 29 = .ok (.imul, 1) := by decide +kernel
theorem dX7_init_30 : decode cX7_init 30 = .ok (.newarray .int, 2) := by decide +kernel
theorem dX7_init_32 : decode cX7_init 32 = .ok (.putfield 24, 3) := by decide +kernel
theorem dX7_init_35 : decode cX7_init 35 = .ok (.aload_n 0, 1) := by decide +kernel
theorem dX7_init_36 : decode cX7_init 36 = .ok (.iconst 1, 1) := by decide +kernel
theorem dX7_init_37 : decode cX7_init 37 = .ok (.putfield 28, 3) := by decide +kernel
theorem dX7_init_40 : decode cX7_init 40 = .ok (.aload_n 0, 1) := by decide +kernel
theorem dX7_init_41 : decode cX7_init 41 = .ok (.iconst 1, 1) := by decide +kernel
theorem dX7_init_42 : decode cX7_init 42 = .ok (.putfield 32, 3) := by decide +kernel
theorem dX7_init_45 : decode cX7_init 45 = .ok (.return_, 1) := by decide +kernel
theorem dX7_covers_0 : decode cX7_covers 0 = .ok (.iload_n 1, 1) := by decide +kernel
theorem dX7_covers_1 : decode cX7_covers 1 = .ok (.aload_n 0, 1) := by decide +kernel
theorem dX7_covers_2 : decode cX7_covers 2 = .ok (.getfield 9, 3) := by decide +kernel
theorem dX7_covers_5 : decode cX7_covers 5 = .ok (.if_icmp .lt 41, 3) := by decide +kernel
theorem dX7_covers_8 : decode cX7_covers 8 = .ok (.iload_n 1, 1) := by decide +kernel
theorem dX7_covers_9 : decode cX7_covers 9 = .ok (.aload_n 0, 1) := by decide +kernel
theorem dX7_covers_10 : decode cX7_covers 10 = .ok (.getfield 9, 3) := by decide +kernel
theorem dX7_covers_13 : decode cX7_covers 13 = .ok (.aload_n 0, 1) := by decide +kernel
theorem dX7_covers_14 : decode cX7_covers 14 = .ok (.getfield 18, 3) := by decide +kernel
theorem dX7_covers_17 : decode cX7_covers 17 = .ok (.iadd, 1) := by decide +kernel
theorem dX7_covers_18 : decode cX7_covers 18 = .ok (.if_icmp .ge 28, 3) := by decide +kernel
theorem dX7_covers_21 : decode cX7_covers 21 = .ok (.iload_n 2, 1) := by decide +kernel
theorem dX7_covers_22 : decode cX7_covers 22 = .ok (.aload_n 0, 1) := by decide +kernel
theorem dX7_covers_23 : decode cX7_covers 23 = .ok (.getfield 15, 3) := by decide +kernel
theorem dX7_covers_26 : decode cX7_covers 26 = .ok (.if_icmp .lt 20, 3) := by decide +kernel
theorem dX7_covers_29 : decode cX7_covers 29 = .ok (.iload_n 2, 1) := by decide +kernel
theorem dX7_covers_30 : decode cX7_covers 30 = .ok (.aload_n 0, 1) := by decide +kernel
theorem dX7_covers_31 : decode cX7_covers 31 = .ok (.getfield 15, 3) := by decide +kernel
theorem dX7_covers_34 : decode cX7_covers 34 = .ok (.aload_n 0, 1) := by decide +kernel
theorem dX7_covers_35 : decode cX7_covers 35 = .ok (.getfield 21, 3) := by decide +kernel
theorem dX7_covers_38 : decode cX7_covers 38 = .ok (.iadd, 1) := by decide +kernel
theorem dX7_covers_39 : decode cX7_covers 39 = .ok (.if_icmp .ge 7, 3) := by decide +kernel
theorem dX7_covers_42 : decode cX7_covers 42 = .ok (.iconst 1, 1) := by decide +kernel
theorem dX7_covers_43 : decode cX7_covers 43 = .ok (.goto 4, 3) := by decide +kernel
theorem dX7_covers_46 : decode cX7_covers 46 = .ok (.iconst 0, 1) := by decide +kernel
theorem dX7_covers_47 : decode cX7_covers 47 = .ok (.ireturn, 1) := by decide +kernel
theorem dX7_colourAt_0 : decode cX7_colourAt 0 = .ok (.aload_n 0, 1) := by decide +kernel
theorem dX7_colourAt_1 : decode cX7_colourAt 1 = .ok (.getfield 24, 3) := by decide +kernel
theorem dX7_colourAt_4 : decode cX7_colourAt 4 = .ok (.iload_n 2, 1) := by decide +kernel
theorem dX7_colourAt_5 : decode cX7_colourAt 5 = .ok (.aload_n 0, 1) := by decide +kernel
theorem dX7_colourAt_6 : decode cX7_colourAt 6 = .ok (.getfield 15, 3) := by decide +kernel
theorem dX7_colourAt_9 : decode cX7_colourAt 9 = .ok (.isub, 1) := by decide +kernel
theorem dX7_colourAt_10 : decode cX7_colourAt 10 = .ok (.aload_n 0, 1) := by decide +kernel
theorem dX7_colourAt_11 : decode cX7_colourAt 11 = .ok (.getfield 18, 3) := by decide +kernel
theorem dX7_colourAt_14 : decode cX7_colourAt 14 = .ok (.imul, 1) := by decide +kernel
theorem dX7_colourAt_15 : decode cX7_colourAt 15 = .ok (.iload_n 1, 1) := by decide +kernel
theorem dX7_colourAt_16 : decode cX7_colourAt 16 = .ok (.iadd, 1) := by decide +kernel
theorem dX7_colourAt_17 : decode cX7_colourAt 17 = .ok (.aload_n 0, 1) := by decide +kernel
theorem dX7_colourAt_18 : decode cX7_colourAt 18 = .ok (.getfield 9, 3) := by decide +kernel
theorem dX7_colourAt_21 : decode cX7_colourAt 21 = .ok (.isub, 1) := by decide +kernel
theorem dX7_colourAt_22 : decode cX7_colourAt 22 = .ok (.iaload, 1) := by decide +kernel
theorem dX7_colourAt_23 : decode cX7_colourAt 23 = .ok (.ireturn, 1) := by decide +kernel
theorem dX7_fillPart_0 : decode cX7_fillPart 0 = .ok (.iconst 0, 1) := by decide +kernel
theorem dX7_fillPart_1 : decode cX7_fillPart 1 = .ok (.istore 6, 2) := by decide +kernel
theorem dX7_fillPart_3 : decode cX7_fillPart 3 = .ok (.iload_n 1, 1) := by decide +kernel
theorem dX7_fillPart_4 : decode cX7_fillPart 4 = .ok (.iload_n 3, 1) := by decide +kernel
theorem dX7_fillPart_5 : decode cX7_fillPart 5 = .ok (.iadd, 1) := by decide +kernel
theorem dX7_fillPart_6 : decode cX7_fillPart 6 = .ok (.aload_n 0, 1) := by decide +kernel
theorem dX7_fillPart_7 : decode cX7_fillPart 7 = .ok (.getfield 18, 3) := by decide +kernel
theorem dX7_fillPart_10 : decode cX7_fillPart 10 = .ok (.invokestatic 35, 3) := by decide +kernel
theorem dX7_fillPart_13 : decode cX7_fillPart 13 = .ok (.istore 7, 2) := by decide +kernel
theorem dX7_fillPart_15 : decode cX7_fillPart 15 = .ok (.iload_n 2, 1) := by decide +kernel
theorem dX7_fillPart_16 : decode cX7_fillPart 16 = .ok (.iload 4, 2) := by decide +kernel
theorem dX7_fillPart_18 : decode cX7_fillPart 18 = .ok (.iadd, 1) := by decide +kernel
theorem dX7_fillPart_19 : decode cX7_fillPart 19 = .ok (.aload_n 0, 1) := by decide +kernel
theorem dX7_fillPart_20 : decode cX7_fillPart 20 = .ok (.getfield 21, 3) := by decide +kernel
theorem dX7_fillPart_23 : decode cX7_fillPart 23 = .ok (.invokestatic 35, 3) := by decide +kernel
theorem dX7_fillPart_26 : decode cX7_fillPart 26 = .ok (.istore 8, 2) := by decide +kernel
theorem dX7_fillPart_28 : decode cX7_fillPart 28 = .ok (.iload_n 2, 1) := by decide +kernel
theorem dX7_fillPart_29 : decode cX7_fillPart 29 = .ok (.istore 9, 2) := by decide +kernel
theorem dX7_fillPart_31 : decode cX7_fillPart 31 = .ok (.iload 9, 2) := by decide +kernel
theorem dX7_fillPart_33 : decode cX7_fillPart 33 = .ok (.iload 8, 2) := by decide +kernel
theorem dX7_fillPart_35 : decode cX7_fillPart 35 = .ok (.if_icmp .ge 61, 3) := by decide +kernel
theorem dX7_fillPart_38 : decode cX7_fillPart 38 = .ok (.iload_n 1, 1) := by decide +kernel
theorem dX7_fillPart_39 : decode cX7_fillPart 39 = .ok (.istore 10, 2) := by decide +kernel
theorem dX7_fillPart_41 : decode cX7_fillPart 41 = .ok (.iload 10, 2) := by decide +kernel
theorem dX7_fillPart_43 : decode cX7_fillPart 43 = .ok (.iload 7, 2) := by decide +kernel
theorem dX7_fillPart_45 : decode cX7_fillPart 45 = .ok (.if_icmp .ge 45, 3) := by decide +kernel
theorem dX7_fillPart_48 : decode cX7_fillPart 48 = .ok (.iload 9, 2) := by decide +kernel
theorem dX7_fillPart_50 : decode cX7_fillPart 50 = .ok (.aload_n 0, 1) := by decide +kernel
theorem dX7_fillPart_51 : decode cX7_fillPart 51 = .ok (.getfield 18, 3) := by decide +kernel
theorem dX7_fillPart_54 : decode cX7_fillPart 54 = .ok (.imul, 1) := by decide +kernel
theorem dX7_fillPart_55 : decode cX7_fillPart 55 = .ok (.iload 10, 2) := by decide +kernel
theorem dX7_fillPart_57 : decode cX7_fillPart 57 = .ok (.iadd, 1) := by decide +kernel
theorem dX7_fillPart_58 : decode cX7_fillPart 58 = .ok (.istore 11, 2) := by decide +kernel
theorem dX7_fillPart_60 : decode cX7_fillPart 60 = .ok (.aload_n 0, 1) := by decide +kernel
theorem dX7_fillPart_61 : decode cX7_fillPart 61 = .ok (.getfield 24, 3) := by decide +kernel
theorem dX7_fillPart_64 : decode cX7_fillPart 64 = .ok (.iload 11, 2) := by decide +kernel
theorem dX7_fillPart_66 : decode cX7_fillPart 66 = .ok (.iaload, 1) := by decide +kernel
theorem dX7_fillPart_67 : decode cX7_fillPart 67 = .ok (.iload 5, 2) := by decide +kernel
theorem dX7_fillPart_69 : decode cX7_fillPart 69 = .ok (.if_icmp .eq 15, 3) := by decide +kernel
theorem dX7_fillPart_72 : decode cX7_fillPart 72 = .ok (.aload_n 0, 1) := by decide +kernel
theorem dX7_fillPart_73 : decode cX7_fillPart 73 = .ok (.getfield 24, 3) := by decide +kernel
theorem dX7_fillPart_76 : decode cX7_fillPart 76 = .ok (.iload 11, 2) := by decide +kernel
theorem dX7_fillPart_78 : decode cX7_fillPart 78 = .ok (.iload 5, 2) := by decide +kernel
theorem dX7_fillPart_80 : decode cX7_fillPart 80 = .ok (.iastore, 1) := by decide +kernel
theorem dX7_fillPart_81 : decode cX7_fillPart 81 = .ok (.iinc 6 1, 3) := by decide +kernel
theorem dX7_fillPart_84 : decode cX7_fillPart 84 = .ok (.iinc 10 1, 3) := by decide +kernel
theorem dX7_fillPart_87 : decode cX7_fillPart 87 = .ok (.goto (-46), 3) := by decide +kernel
theorem dX7_fillPart_90 : decode cX7_fillPart 90 = .ok (.iinc 9 1, 3) := by decide +kernel
theorem dX7_fillPart_93 : decode cX7_fillPart 93 = .ok (.goto (-62), 3) := by decide +kernel
theorem dX7_fillPart_96 : decode cX7_fillPart 96 = .ok (.iload 6, 2) := by decide +kernel
theorem dX7_fillPart_98 : decode cX7_fillPart 98 = .ok (.ireturn, 1) := by decide +kernel
theorem dX7_cellAhead_0 : decode cX7_cellAhead 0 = .ok (.aload_n 0, 1) := by decide +kernel
theorem dX7_cellAhead_1 : decode cX7_cellAhead 1 = .ok (.getfield 41, 3) := by decide +kernel
theorem dX7_cellAhead_4 : decode cX7_cellAhead 4 = .ok (.iload_n 1, 1) := by decide +kernel
theorem dX7_cellAhead_5 : decode cX7_cellAhead 5 = .ok (.iadd, 1) := by decide +kernel
theorem dX7_cellAhead_6 : decode cX7_cellAhead 6 = .ok (.aload_n 0, 1) := by decide +kernel
theorem dX7_cellAhead_7 : decode cX7_cellAhead 7 = .ok (.getfield 24, 3) := by decide +kernel
theorem dX7_cellAhead_10 : decode cX7_cellAhead 10 = .ok (.arraylength, 1) := by decide +kernel
theorem dX7_cellAhead_11 : decode cX7_cellAhead 11 = .ok (.irem, 1) := by decide +kernel
theorem dX7_cellAhead_12 : decode cX7_cellAhead 12 = .ok (.ireturn, 1) := by decide +kernel
theorem dX7_placeOf_0 : decode cX7_placeOf 0 = .ok (.aload_n 0, 1) := by decide +kernel
theorem dX7_placeOf_1 : decode cX7_placeOf 1 = .ok (.getfield 9, 3) := by decide +kernel
theorem dX7_placeOf_4 : decode cX7_placeOf 4 = .ok (.iload_n 1, 1) := by decide +kernel
theorem dX7_placeOf_5 : decode cX7_placeOf 5 = .ok (.aload_n 0, 1) := by decide +kernel
theorem dX7_placeOf_6 : decode cX7_placeOf 6 = .ok (.getfield 18, 3) := by decide +kernel
theorem dX7_placeOf_9 : decode cX7_placeOf 9 = .ok (.irem, 1) := by decide +kernel
theorem dX7_placeOf_10 : decode cX7_placeOf 10 = .ok (.iadd, 1) := by decide +kernel
theorem dX7_placeOf_11 : decode cX7_placeOf 11 = .ok (.istore_n 2, 1) := by decide +kernel
theorem dX7_placeOf_12 : decode cX7_placeOf 12 = .ok (.aload_n 0, 1) := by decide +kernel
theorem dX7_placeOf_13 : decode cX7_placeOf 13 = .ok (.getfield 15, 3) := by decide +kernel
theorem dX7_placeOf_16 : decode cX7_placeOf 16 = .ok (.iload_n 1, 1) := by decide +kernel
theorem dX7_placeOf_17 : decode cX7_placeOf 17 = .ok (.aload_n 0, 1) := by decide +kernel
theorem dX7_placeOf_18 : decode cX7_placeOf 18 = .ok (.getfield 18, 3) := by decide +kernel
theorem dX7_placeOf_21 : decode cX7_placeOf 21 = .ok (.idiv, 1) := by decide +kernel
theorem dX7_placeOf_22 : decode cX7_placeOf 22 = .ok (.iadd, 1) := by decide +kernel
theorem dX7_placeOf_23 : decode cX7_placeOf 23 = .ok (.istore_n 3, 1) := by decide +kernel
theorem dX7_placeOf_24 : decode cX7_placeOf 24 = .ok (.iload_n 2, 1) := by decide +kernel
theorem dX7_placeOf_25 : decode cX7_placeOf 25 = .ok (.iload_n 3, 1) := by decide +kernel
theorem dX7_placeOf_26 : decode cX7_placeOf 26 = .ok (.invokestatic 44, 3) := by decide +kernel
theorem dX7_placeOf_29 : decode cX7_placeOf 29 = .ok (.ifCond .eq 12, 3) := by decide +kernel
theorem dX7_placeOf_32 : decode cX7_placeOf 32 = .ok (.iload_n 3, 1) := by decide +kernel
theorem dX7_placeOf_33 : decode cX7_placeOf 33 = .ok (.bipush 12, 2) := by decide +kernel
theorem dX7_placeOf_35 : decode cX7_placeOf 35 = .ok (.imul, 1) := by decide +kernel
theorem dX7_placeOf_36 : decode cX7_placeOf 36 = .ok (.iload_n 2, 1) := by decide +kernel
theorem dX7_placeOf_37 : decode cX7_placeOf 37 = .ok (.iadd, 1) := by decide +kernel
theorem dX7_placeOf_38 : decode cX7_placeOf 38 = .ok (.goto 4, 3) := by decide +kernel
theorem dX7_placeOf_41 : decode cX7_placeOf 41 = .ok (.iconst (-1), 1) := by decide +kernel
theorem dX7_placeOf_42 : decode cX7_placeOf 42 = .ok (.ireturn, 1) := by decide +kernel
theorem dX7_put_0 : decode cX7_put 0 = .ok (.aload_n 0, 1) := by decide +kernel
theorem dX7_put_1 : decode cX7_put 1 = .ok (.getfield 24, 3) := by decide +kernel
theorem dX7_put_4 : decode cX7_put 4 = .ok (.aload_n 0, 1) := by decide +kernel
theorem dX7_put_5 : decode cX7_put 5 = .ok (.getfield 41, 3) := by decide +kernel
theorem dX7_put_8 : decode cX7_put 8 = .ok (.aload_n 0, 1) := by decide +kernel
theorem dX7_put_9 : decode cX7_put 9 = .ok (.getfield 48, 3) := by decide +kernel
theorem dX7_put_12 : decode cX7_put 12 = .ok (.ifCond .eq 8, 3) := by decide +kernel
theorem dX7_put_15 : decode cX7_put 15 = .ok (.bipush 7, 2) := by decide +kernel
theorem dX7_put_17 : decode cX7_put 17 = .ok (.goto 4, 3) := by decide +kernel
theorem dX7_put_20 : decode cX7_put 20 = .ok (.iload_n 1, 1) := by decide +kernel
theorem dX7_put_21 : decode cX7_put 21 = .ok (.iastore, 1) := by decide +kernel
theorem dX7_put_22 : decode cX7_put 22 = .ok (.aload_n 0, 1) := by decide +kernel
theorem dX7_put_23 : decode cX7_put 23 = .ok (.aload_n 0, 1) := by decide +kernel
theorem dX7_put_24 : decode cX7_put 24 = .ok (.iconst 1, 1) := by decide +kernel
theorem dX7_put_25 : decode cX7_put 25 = .ok (.invokevirtual 51, 3) := by decide +kernel
theorem dX7_put_28 : decode cX7_put 28 = .ok (.putfield 41, 3) := by decide +kernel
theorem dX7_put_31 : decode cX7_put 31 = .ok (.return_, 1) := by decide +kernel
theorem dX8_init_0 : decode cX8_init 0 = .ok (.aload_n 0, 1) := by decide +kernel
theorem dX8_init_1 : decode cX8_init 1 = .ok (.invokespecial 1, 3) := by decide +kernel
theorem dX8_init_4 : decode cX8_init 4 = .ok (.aload_n 0, 1) := by decide +kernel
theorem dX8_init_5 : decode cX8_init 5 = .ok (.iconst 4, 1) := by decide +kernel
theorem dX8_init_6 : decode cX8_init 6 = .ok (.anewarray 9, 3) := by decide +kernel
theorem dX8_init_9 : decode cX8_init 9 = .ok (.putfield 11, 3) := by decide +kernel
theorem dX8_init_12 : decode cX8_init 12 = .ok (.aload_n 0, 1) := by decide +kernel
theorem dX8_init_13 : decode cX8_init 13 = .ok (.bipush 6, 2) := by decide +kernel
theorem dX8_init_15 : decode cX8_init 15 = .ok (.anewarray 15, 3) := by decide +kernel
theorem dX8_init_18 : decode cX8_init 18 = .ok (.putfield 17, 3) := by decide +kernel
theorem dX8_init_21 : decode cX8_init 21 = .ok (.aload_n 0, 1) := by decide +kernel
theorem dX8_init_22 : decode cX8_init 22 = .ok (.bipush 48, 2) := by decide +kernel
theorem dX8_init_24 : decode cX8_init 24 = .ok (.newarray .boolean, 2) := by decide +kernel
theorem dX8_init_26 : decode cX8_init 26 = .ok (.putfield 21, 3) := by decide +kernel
theorem dX8_init_29 : decode cX8_init 29 = .ok (.aload_n 0, 1) := by decide +kernel
theorem dX8_init_30 : decode cX8_init 30 = .ok (.lconst 0, 1) := by decide +kernel
theorem dX8_init_31 : decode cX8_init 31 = .ok (.putfield 25, 3) := by decide +kernel
theorem dX8_init_34 : decode cX8_init 34 = .ok (.return_, 1) := by decide +kernel
theorem dX8_openSession_0 : decode cX8_openSession 0 = .ok (.iconst 0, 1) := by decide +kernel
theorem dX8_openSession_1 : decode cX8_openSession 1 = .ok (.istore_n 1, 1) := by decide +kernel
theorem dX8_openSession_2 : decode cX8_openSession 2 = .ok (.iload_n 1, 1) := by decide +kernel
theorem dX8_openSession_3 : decode cX8_openSession 3 = .ok (.iconst 4, 1) := by decide +kernel
theorem dX8_openSession_4 : decode cX8_openSession 4 = .ok (.if_icmp .ge 33, 3) := by decide +kernel
theorem dX8_openSession_7 : decode cX8_openSession 7 = .ok (.aload_n 0, 1) := by decide +kernel
theorem dX8_openSession_8 : decode cX8_openSession 8 = .ok (.getfield 11, 3) := by decide +kernel
theorem dX8_openSession_11 : decode cX8_openSession 11 = .ok (.iload_n 1, 1) := by decide +kernel
theorem dX8_openSession_12 : decode cX8_openSession 12 = .ok (.aaload, 1) := by decide +kernel
theorem dX8_openSession_13 : decode cX8_openSession 13 = .ok (.ifnonnull 18, 3) := by decide +kernel
theorem dX8_openSession_16 : decode cX8_openSession 16 = .ok (.aload_n 0, 1) := by decide +kernel
theorem dX8_openSession_17 : decode cX8_openSession 17 = .ok (.getfield 11, 3) := by decide +kernel
theorem dX8_openSession_20 : decode cX8_openSession 20 = .ok (.iload_n 1, 1) := by decide +kernel
theorem dX8_openSession_21 : decode cX8_openSession 21 = .ok (.new 9, 3) := by decide +kernel
theorem dX8_openSession_24 : decode cX8_openSession 24 = .ok (.dup, 1) := by decide +kernel
theorem dX8_openSession_25 : decode cX8_openSession 25 = .ok (.invokespecial 29, 3) := by decide +kernel
theorem dX8_openSession_28 : decode cX8_openSession 28 = .ok (.aastore, 1) := by decide +kernel
theorem dX8_openSession_29 : decode cX8_openSession 29 = .ok (.iload_n 1, 1) := by decide +kernel
theorem dX8_openSession_30 : decode cX8_openSession 30 = .ok (.ireturn, 1) := by decide +kernel
theorem dX8_openSession_31 : decode cX8_openSession 31 = .ok (.iinc 1 1, 3) := by decide +kernel
theorem dX8_openSession_34 : decode cX8_openSession 34 = .ok (.goto (-32), 3) := by decide +kernel
theorem dX8_openSession_37 : decode cX8_openSession 37 = .ok (.new 30, 3) := by decide +kernel
theorem dX8_openSession_40 : decode cX8_openSession 40 = .ok (.dup, 1) := by decide +kernel
theorem dX8_openSession_41 : decode cX8_openSession 41 = .ok (.ldc 32, 2) := by decide +kernel
theorem dX8_openSession_43 : decode cX8_openSession 43 = .ok (.invokespecial 34, 3) := by decide +kernel
theorem dX8_openSession_46 : decode cX8_openSession 46 = .ok (.athrow, 1) := by decide +kernel
theorem dX8_openWindow_0 : decode cX8_openWindow 0 = .ok (.aload_n 0, 1) := by decide +kernel
theorem dX8_openWindow_1 : decode cX8_openWindow 1 = .ok (.iload_n 1, 1) := by decide +kernel
theorem dX8_openWindow_2 : decode cX8_openWindow 2 = .ok (.invokevirtual 37, 3) := by decide +kernel
theorem dX8_openWindow_5 : decode cX8_openWindow 5 = .ok (.astore 6, 2) := by decide +kernel
theorem dX8_openWindow_7 : decode cX8_openWindow 7 = .ok (.iload_n 2, 1) := by decide +kernel
theorem dX8_openWindow_8 : decode cX8_openWindow 8 = .ok (.iload_n 3, 1) := by decide +kernel
theorem dX8_openWindow_9 : decode cX8_openWindow 9 = .ok (.invokestatic 41, 3) := by decide +kernel
theorem dX8_openWindow_12 : decode cX8_openWindow 12 = .ok (.ifCond .eq 13, 3) := by decide +kernel
theorem dX8_openWindow_15 : decode cX8_openWindow 15 = .ok (.iload 4, 2) := by decide +kernel
theorem dX8_openWindow_17 : decode cX8_openWindow 17 = .ok (.iload 5, 2) := by decide +kernel
theorem dX8_openWindow_19 : decode cX8_openWindow 19 = .ok (.invokestatic 45, 3) := by decide +kernel
theorem dX8_openWindow_22 : decode cX8_openWindow 22 = .ok (.ifCond .ne 13, 3) := by decide +kernel
theorem dX8_openWindow_25 : decode cX8_openWindow 25 = .ok (.new 48, 3) := by decide +kernel
theorem dX8_openWindow_28 : decode cX8_openWindow 28 = .ok (.dup, 1) := by decide +kernel
theorem dX8_openWindow_29 : decode cX8_openWindow 29 = .ok (.ldc 50, 2) := by decide +kernel
theorem dX8_openWindow_31 : decode cX8_openWindow 31 = .ok (.invokespecial 52, 3) := by decide +kernel
theorem dX8_openWindow_34 : decode cX8_openWindow 34 = .ok (.athrow, 1) := by decide +kernel
theorem dX8_openWindow_35 : decode cX8_openWindow 35 = .ok (.aload 6, 2) := by decide +kernel
theorem dX8_openWindow_37 : decode cX8_openWindow 37 = .ok (.getfield 53, 3) := by decide +kernel
theorem dX8_openWindow_40 : decode cX8_openWindow 40 = .ok (.bipush 6, 2) := by decide +kernel
theorem dX8_openWindow_42 : decode cX8_openWindow 42 = .ok (.if_icmp .lt 13, 3) := by decide +kernel
theorem dX8_openWindow_45 : decode cX8_openWindow 45 = .ok (.new 30, 3) := by decide +kernel
theorem dX8_openWindow_48 : decode cX8_openWindow 48 = .ok (.dup, 1) := by decide +kernel
theorem dX8_openWindow_49 : decode cX8_openWindow 49 = .ok (.ldc 57, 2) := by decide +kernel
theorem dX8_openWindow_51 : decode cX8_openWindow 51 = .ok (.invokespecial 34, 3) := by decide +kernel
theorem dX8_openWindow_54 : decode cX8_openWindow 54 = .ok (.athrow, 1) := by decide +kernel
theorem dX8_openWindow_55 : decode cX8_openWindow 55 = .ok (.aload 6, 2) := by decide +kernel
theorem dX8_openWindow_57 : decode cX8_openWindow 57 = .ok (.new 59, 3) := by decide +kernel
theorem dX8_openWindow_60 : decode cX8_openWindow 60 = .ok (.dup, 1) := by decide +kernel
theorem dX8_openWindow_61 : decode cX8_openWindow 61 = .ok (.iload_n 2, 1) := by decide +kernel
theorem dX8_openWindow_62 : decode cX8_openWindow 62 = .ok (.iload_n 3, 1) := by decide +kernel
theorem dX8_openWindow_63 : decode cX8_openWindow 63 = .ok (.iload 4, 2) := by decide +kernel
theorem dX8_openWindow_65 : decode cX8_openWindow 65 = .ok (.iload 5, 2) := by decide +kernel
theorem dX8_openWindow_67 : decode cX8_openWindow 67 = .ok (.invokespecial 61, 3) := by decide +kernel
theorem dX8_openWindow_70 : decode cX8_openWindow 70 = .ok (.invokevirtual 64, 3) := by decide +kernel
theorem dX8_openWindow_73 : decode cX8_openWindow 73 = .ok (.ireturn, 1) := by decide +kernel
theorem dX8_closeWindow_0 : decode cX8_closeWindow 0 = .ok (.aload_n 0, 1) := by decide +kernel
theorem dX8_closeWindow_1 : decode cX8_closeWindow 1 = .ok (.iload_n 1, 1) := by decide +kernel
theorem dX8_closeWindow_2 : decode cX8_closeWindow 2 = .ok (.invokevirtual 37, 3) := by decide +kernel
theorem dX8_closeWindow_5 : decode cX8_closeWindow 5 = .ok (.astore_n 3, 1) := by decide +kernel
theorem dX8_closeWindow_6 : decode cX8_closeWindow 6 = .ok (.aload_n 3, 1) := by decide +kernel
theorem dX8_closeWindow_7 : decode cX8_closeWindow 7 = .ok (.iload_n 2, 1) := by decide +kernel
theorem dX8_closeWindow_8 : decode cX8_closeWindow 8 = .ok (.invokestatic 68, 3) := by decide +kernel
theorem dX8_closeWindow_11 : decode cX8_closeWindow 11 = .ok (.astore 4, 2) := by decide +kernel
theorem dX8_closeWindow_13 : decode cX8_closeWindow 13 = .ok (.aload 4, 2) := by decide +kernel
theorem dX8_closeWindow_15 : decode cX8_closeWindow 15 = .ok (.iconst 0, 1) := by decide +kernel
theorem dX8_closeWindow_16 : decode cX8_closeWindow 16 = .ok (.putfield 72, 3) := by decide +kernel
theorem dX8_closeWindow_19 : decode cX8_closeWindow 19 = .ok (.aload_n 3, 1) := by decide +kernel
theorem dX8_closeWindow_20 : decode cX8_closeWindow 20 = .ok (.aload 4, 2) := by decide +kernel
theorem dX8_closeWindow_22 : decode cX8_closeWindow 22 = .ok (.invokevirtual 76, 3) := by decide +kernel
theorem dX8_closeWindow_25 : decode cX8_closeWindow 25 = .ok (.aload_n 3, 1) := by decide +kernel
theorem dX8_closeWindow_26 : decode cX8_closeWindow 26 = .ok (.invokevirtual 80, 3) := by decide +kernel
theorem dX8_closeWindow_29 : decode cX8_closeWindow 29 = .ok (.pop, 1) := by decide +kernel
theorem dX8_closeWindow_30 : decode cX8_closeWindow 30 = .ok (.aload 4, 2) := by decide +kernel
theorem dX8_closeWindow_32 : decode cX8_closeWindow 32 = .ok (.getfield 84, 3) := by decide +kernel
theorem dX8_closeWindow_35 : decode cX8_closeWindow 35 = .ok (.ireturn, 1) := by decide +kernel
theorem dX8_moveWindow_0 : decode cX8_moveWindow 0 = .ok (.aload_n 0, 1) := by decide +kernel
theorem dX8_moveWindow_1 : decode cX8_moveWindow 1 = .ok (.iload_n 1, 1) := by decide +kernel
theorem dX8_moveWindow_2 : decode cX8_moveWindow 2 = .ok (.invokevirtual 37, 3) := by decide +kernel
theorem dX8_moveWindow_5 : decode cX8_moveWindow 5 = .ok (.astore 5, 2) := by decide +kernel
theorem dX8_moveWindow_7 : decode cX8_moveWindow 7 = .ok (.aload 5, 2) := by decide +kernel
theorem dX8_moveWindow_9 : decode cX8_moveWindow 9 = .ok (.iload_n 2, 1) := by decide +kernel
theorem dX8_moveWindow_10 : decode cX8_moveWindow 10 = .ok (.invokestatic 68, 3) := by decide +kernel
theorem dX8_moveWindow_13 : decode cX8_moveWindow 13 = .ok (.astore 6, 2) := by decide +kernel
theorem dX8_moveWindow_15 : decode cX8_moveWindow 15 = .ok (.iload_n 3, 1) := by decide +kernel
theorem dX8_moveWindow_16 : decode cX8_moveWindow 16 = .ok (.iload 4, 2) := by decide +kernel
theorem dX8_moveWindow_18 : decode cX8_moveWindow 18 = .ok (.invokestatic 41, 3) := by decide +kernel
theorem dX8_moveWindow_21 : decode cX8_moveWindow 21 = .ok (.ifCond .ne 13, 3) := by decide +kernel
theorem dX8_moveWindow_24 : decode cX8_moveWindow 24 = .ok (.new 48, 3) := by decide +kernel
theorem dX8_moveWindow_27 : decode cX8_moveWindow 27 = .ok (.dup, 1) := by decide +kernel
theorem dX8_moveWindow_28 : decode cX8_moveWindow 28 = .ok (.ldc 50, 2) := by decide +kernel
theorem dX8_moveWindow_30 : decode cX8_moveWindow 30 = .ok (.invokespecial 52, 3) := by decide +kernel
theorem dX8_moveWindow_33 : decode cX8_moveWindow 33 = .ok (.athrow, 1) := by decide +kernel
theorem dX8_moveWindow_34 : decode cX8_moveWindow 34 = .ok (.aload 6, 2) := by decide +kernel
theorem dX8_moveWindow_36 : decode cX8_moveWindow 36 = .ok (.iload_n 3, 1) := by decide +kernel
theorem dX8_moveWindow_37 : decode cX8_moveWindow 37 = .ok (.putfield 87, 3) := by decide +kernel
theorem dX8_moveWindow_40 : decode cX8_moveWindow 40 = .ok (.aload 6, 2) := by decide +kernel
theorem dX8_moveWindow_42 : decode cX8_moveWindow 42 = .ok (.iload 4, 2) := by decide +kernel
theorem dX8_moveWindow_44 : decode cX8_moveWindow 44 = .ok (.putfield 90, 3) := by decide +kernel
theorem dX8_moveWindow_47 : decode cX8_moveWindow 47 = .ok (.aload 5, 2) := by decide +kernel
theorem dX8_moveWindow_49 : decode cX8_moveWindow 49 = .ok (.invokevirtual 80, 3) := by decide +kernel
theorem dX8_moveWindow_52 : decode cX8_moveWindow 52 = .ok (.ireturn, 1) := by decide +kernel
theorem dX8_raise_0 : decode cX8_raise 0 = .ok (.aload_n 0, 1) := by decide +kernel
theorem dX8_raise_1 : decode cX8_raise 1 = .ok (.iload_n 1, 1) := by decide +kernel
theorem dX8_raise_2 : decode cX8_raise 2 = .ok (.invokevirtual 37, 3) := by decide +kernel
theorem dX8_raise_5 : decode cX8_raise 5 = .ok (.astore_n 3, 1) := by decide +kernel
theorem dX8_raise_6 : decode cX8_raise 6 = .ok (.aload_n 3, 1) := by decide +kernel
theorem dX8_raise_7 : decode cX8_raise 7 = .ok (.iload_n 2, 1) := by decide +kernel
theorem dX8_raise_8 : decode cX8_raise 8 = .ok (.invokestatic 68, 3) := by decide +kernel
theorem dX8_raise_11 : decode cX8_raise 11 = .ok (.astore 4, 2) := by decide +kernel
theorem dX8_raise_13 : decode cX8_raise 13 = .ok (.aload_n 3, 1) := by decide +kernel
theorem dX8_raise_14 : decode cX8_raise 14 = .ok (.aload 4, 2) := by decide +kernel
theorem dX8_raise_16 : decode cX8_raise 16 = .ok (.invokevirtual 93, 3) := by decide +kernel
theorem dX8_raise_19 : decode cX8_raise 19 = .ok (.ifCond .ne 7, 3) := by decide +kernel
theorem dX8_raise_22 : decode cX8_raise 22 = .ok (.iconst 1, 1) := by decide +kernel
theorem dX8_raise_23 : decode cX8_raise 23 = .ok (.goto 4, 3) := by decide +kernel
theorem dX8_raise_26 : decode cX8_raise 26 = .ok (.iconst 0, 1) := by decide +kernel
theorem dX8_raise_27 : decode cX8_raise 27 = .ok (.istore 5, 2) := by decide +kernel
theorem dX8_raise_29 : decode cX8_raise 29 = .ok (.aload_n 3, 1) := by decide +kernel
theorem dX8_raise_30 : decode cX8_raise 30 = .ok (.aload 4, 2) := by decide +kernel
theorem dX8_raise_32 : decode cX8_raise 32 = .ok (.invokevirtual 76, 3) := by decide +kernel
theorem dX8_raise_35 : decode cX8_raise 35 = .ok (.aload_n 3, 1) := by decide +kernel
theorem dX8_raise_36 : decode cX8_raise 36 = .ok (.getfield 97, 3) := by decide +kernel
theorem dX8_raise_39 : decode cX8_raise 39 = .ok (.aload 4, 2) := by decide +kernel
theorem dX8_raise_41 : decode cX8_raise 41 = .ok (.invokevirtual 101, 3) := by decide +kernel
theorem dX8_raise_44 : decode cX8_raise 44 = .ok (.pop, 1) := by decide +kernel
theorem dX8_raise_45 : decode cX8_raise 45 = .ok (.aload_n 3, 1) := by decide +kernel
theorem dX8_raise_46 : decode cX8_raise 46 = .ok (.invokevirtual 80, 3) := by decide +kernel
theorem dX8_raise_49 : decode cX8_raise 49 = .ok (.pop, 1) := by decide +kernel
theorem dX8_raise_50 : decode cX8_raise 50 = .ok (.iload 5, 2) := by decide +kernel
theorem dX8_raise_52 : decode cX8_raise 52 = .ok (.ireturn, 1) := by decide +kernel
theorem dX8_show_0 : decode cX8_show 0 = .ok (.aload_n 0, 1) := by decide +kernel
theorem dX8_show_1 : decode cX8_show 1 = .ok (.iload_n 1, 1) := by decide +kernel
theorem dX8_show_2 : decode cX8_show 2 = .ok (.invokevirtual 37, 3) := by decide +kernel
theorem dX8_show_5 : decode cX8_show 5 = .ok (.astore 4, 2) := by decide +kernel
theorem dX8_show_7 : decode cX8_show 7 = .ok (.aload 4, 2) := by decide +kernel
theorem dX8_show_9 : decode cX8_show 9 = .ok (.iload_n 2, 1) := by decide +kernel
theorem dX8_show_10 : decode cX8_show 10 = .ok (.invokestatic 68, 3) := by decide +kernel
theorem dX8_show_13 : decode cX8_show 13 = .ok (.astore 5, 2) := by decide +kernel
theorem dX8_show_15 : decode cX8_show 15 = .ok (.aload 5, 2) := by decide +kernel
theorem dX8_show_17 : decode cX8_show 17 = .ok (.getfield 84, 3) := by decide +kernel
theorem dX8_show_20 : decode cX8_show 20 = .ok (.istore 6, 2) := by decide +kernel
theorem dX8_show_22 : decode cX8_show 22 = .ok (.aload 5, 2) := by decide +kernel
theorem dX8_show_24 : decode cX8_show 24 = .ok (.iload_n 3, 1) := by decide +kernel
theorem dX8_show_25 : decode cX8_show 25 = .ok (.putfield 84, 3) := by decide +kernel
theorem dX8_show_28 : decode cX8_show 28 = .ok (.aload 4, 2) := by decide +kernel
theorem dX8_show_30 : decode cX8_show 30 = .ok (.invokevirtual 80, 3) := by decide +kernel
theorem dX8_show_33 : decode cX8_show 33 = .ok (.pop, 1) := by decide +kernel
theorem dX8_show_34 : decode cX8_show 34 = .ok (.iload 6, 2) := by decide +kernel
theorem dX8_show_36 : decode cX8_show 36 = .ok (.ireturn, 1) := by decide +kernel
theorem dX8_mark_0 : decode cX8_mark 0 = .ok (.aload_n 0, 1) := by decide +kernel
theorem dX8_mark_1 : decode cX8_mark 1 = .ok (.iload_n 1, 1) := by decide +kernel
theorem dX8_mark_2 : decode cX8_mark 2 = .ok (.invokevirtual 37, 3) := by decide +kernel
theorem dX8_mark_5 : decode cX8_mark 5 = .ok (.iload_n 2, 1) := by decide +kernel
theorem dX8_mark_6 : decode cX8_mark 6 = .ok (.invokestatic 68, 3) := by decide +kernel
theorem dX8_mark_9 : decode cX8_mark 9 = .ok (.astore 5, 2) := by decide +kernel
theorem dX8_mark_11 : decode cX8_mark 11 = .ok (.aload 5, 2) := by decide +kernel
theorem dX8_mark_13 : decode cX8_mark 13 = .ok (.getfield 107, 3) := by decide +kernel
theorem dX8_mark_16 : decode cX8_mark 16 = .ok (.iload_n 3, 1) := by decide +kernel
theorem dX8_mark_17 : decode cX8_mark 17 = .ok (.if_icmp .ne 13, 3) := by decide +kernel
theorem dX8_mark_20 : decode cX8_mark 20 = .ok (.aload 5, 2) := by decide +kernel
theorem dX8_mark_22 : decode cX8_mark 22 = .ok (.getfield 110, 3) := by decide +kernel
theorem dX8_mark_25 : decode cX8_mark 25 = .ok (.iload 4, 2) := by decide +kernel
theorem dX8_mark_27 : decode cX8_mark 27 = .ok (.if_icmp .eq 7, 3) := by decide +kernel
theorem dX8_mark_30 : decode cX8_mark 30 = .ok (.iconst 1, 1) := by decide +kernel
theorem dX8_mark_31 : decode cX8_mark 31 = .ok (.goto 4, 3) := by decide +kernel
theorem dX8_mark_34 : decode cX8_mark 34 = .ok (.iconst 0, 1) := by decide +kernel
theorem dX8_mark_35 : decode cX8_mark 35 = .ok (.istore 6, 2) := by decide +kernel
theorem dX8_mark_37 : decode cX8_mark 37 = .ok (.aload 5, 2) := by decide +kernel
theorem dX8_mark_39 : decode cX8_mark 39 = .ok (.iload_n 3, 1) := by decide +kernel
theorem dX8_mark_40 : decode cX8_mark 40 = .ok (.putfield 107, 3) := by decide +kernel
theorem dX8_mark_43 : decode cX8_mark 43 = .ok (.aload 5, 2) := by decide +kernel
theorem dX8_mark_45 : decode cX8_mark 45 = .ok (.iload 4, 2) := by decide +kernel
theorem dX8_mark_47 : decode cX8_mark 47 = .ok (.putfield 110, 3) := by decide +kernel
theorem dX8_mark_50 : decode cX8_mark 50 = .ok (.iload 6, 2) := by decide +kernel
theorem dX8_mark_52 : decode cX8_mark 52 = .ok (.ireturn, 1) := by decide +kernel
theorem dX8_draw_0 : decode cX8_draw 0 = .ok (.aload_n 0, 1) := by decide +kernel
theorem dX8_draw_1 : decode cX8_draw 1 = .ok (.iload_n 1, 1) := by decide +kernel
theorem dX8_draw_2 : decode cX8_draw 2 = .ok (.invokevirtual 37, 3) := by decide +kernel
theorem dX8_draw_5 : decode cX8_draw 5 = .ok (.astore 8, 2) := by decide +kernel
theorem dX8_draw_7 : decode cX8_draw 7 = .ok (.aload 8, 2) := by decide +kernel
theorem dX8_draw_9 : decode cX8_draw 9 = .ok (.iload_n 2, 1) := by decide +kernel
theorem dX8_draw_10 : decode cX8_draw 10 = .ok (.invokestatic 68, 3) := by decide +kernel
theorem dX8_draw_13 : decode cX8_draw 13 = .ok (.astore 9, 2) := by decide +kernel
theorem dX8_draw_15 : decode cX8_draw 15 = .ok (.iload_n 3, 1) := by decide +kernel
theorem dX8_draw_16 : decode cX8_draw 16 = .ok (.iload 4, 2) := by decide +kernel
theorem dX8_draw_18 : decode cX8_draw 18 = .ok (.invokestatic 113, 3) := by decide +kernel
theorem dX8_draw_21 : decode cX8_draw 21 = .ok (.ifCond .eq 25, 3) := by decide +kernel
theorem dX8_draw_24 : decode cX8_draw 24 = .ok (.iload 5, 2) := by decide +kernel
theorem dX8_draw_26 : decode cX8_draw 26 = .ok (.iload 6, 2) := by decide +kernel
theorem dX8_draw_28 : decode cX8_draw 28 = .ok (.invokestatic 45, 3) := by decide +kernel
theorem dX8_draw_31 : decode cX8_draw 31 = .ok (.ifCond .eq 15, 3) := by decide +kernel
theorem dX8_draw_34 : decode cX8_draw 34 = .ok (.iload 7, 2) := by decide +kernel
theorem dX8_draw_36 : decode cX8_draw 36 = .ok (.iconst 0, 1) := by decide +kernel
theorem dX8_draw_37 : decode cX8_draw 37 = .ok (.sipush 255, 3) := by decide +kernel
theorem dX8_draw_40 : decode cX8_draw 40 = .ok (.invokestatic 116, 3) := by decide +kernel
theorem dX8_draw_43 : decode cX8_draw 43 = .ok (.ifCond .ne 13, 3) := by decide +kernel
theorem dX8_draw_46 : decode cX8_draw 46 = .ok (.new 48, 3) := by decide +kernel
theorem dX8_draw_49 : decode cX8_draw 49 = .ok (.dup, 1) := by decide +kernel
theorem dX8_draw_50 : decode cX8_draw 50 = .ok (.ldc 50, 2) := by decide +kernel
theorem dX8_draw_52 : decode cX8_draw 52 = .ok (.invokespecial 52, 3) := by decide +kernel
theorem dX8_draw_55 : decode cX8_draw 55 = .ok (.athrow, 1) := by decide +kernel
theorem dX8_draw_56 : decode cX8_draw 56 = .ok (.aload 9, 2) := by decide +kernel
theorem dX8_draw_58 : decode cX8_draw 58 = .ok (.iload_n 3, 1) := by decide +kernel
theorem dX8_draw_59 : decode cX8_draw 59 = .ok (.iload 4, 2) := by decide +kernel
theorem dX8_draw_61 : decode cX8_draw 61 = .ok (.iload 5, 2) := by decide +kernel
theorem dX8_draw_63 : decode cX8_draw 63 = .ok (.iload 6, 2) := by decide +kernel
theorem dX8_draw_65 : decode cX8_draw 65 = .ok (.iload 7, 2) := by decide +kernel
theorem dX8_draw_67 : decode cX8_draw 67 = .ok (.invokevirtual 120, 3) := by decide +kernel
theorem dX8_draw_70 : decode cX8_draw 70 = .ok (.istore 10, 2) := by decide +kernel
theorem dX8_draw_72 : decode cX8_draw 72 = .ok (.aload 8, 2) := by decide +kernel
theorem dX8_draw_74 : decode cX8_draw 74 = .ok (.invokevirtual 80, 3) := by decide +kernel
theorem dX8_draw_77 : decode cX8_draw 77 = .ok (.pop, 1) := by decide +kernel
theorem dX8_draw_78 : decode cX8_draw 78 = .ok (.iload 10, 2) := by decide +kernel
theorem dX8_draw_80 : decode cX8_draw 80 = .ok (.ireturn, 1) := by decide +kernel
theorem dX8_screen_0 : decode cX8_screen 0 = .ok (.aload_n 0, 1) := by decide +kernel
theorem dX8_screen_1 : decode cX8_screen 1 = .ok (.iload_n 1, 1) := by decide +kernel
theorem dX8_screen_2 : decode cX8_screen 2 = .ok (.invokevirtual 37, 3) := by decide +kernel
theorem dX8_screen_5 : decode cX8_screen 5 = .ok (.astore 4, 2) := by decide +kernel
theorem dX8_screen_7 : decode cX8_screen 7 = .ok (.aload 4, 2) := by decide +kernel
theorem dX8_screen_9 : decode cX8_screen 9 = .ok (.getfield 124, 3) := by decide +kernel
theorem dX8_screen_12 : decode cX8_screen 12 = .ok (.iload_n 2, 1) := by decide +kernel
theorem dX8_screen_13 : decode cX8_screen 13 = .ok (.iload_n 3, 1) := by decide +kernel
theorem dX8_screen_14 : decode cX8_screen 14 = .ok (.invokestatic 128, 3) := by decide +kernel
theorem dX8_screen_17 : decode cX8_screen 17 = .ok (.iaload, 1) := by decide +kernel
theorem dX8_screen_18 : decode cX8_screen 18 = .ok (.ireturn, 1) := by decide +kernel
theorem dX8_join_0 : decode cX8_join 0 = .ok (.aload_n 0, 1) := by decide +kernel
theorem dX8_join_1 : decode cX8_join 1 = .ok (.iload_n 1, 1) := by decide +kernel
theorem dX8_join_2 : decode cX8_join 2 = .ok (.invokevirtual 37, 3) := by decide +kernel
theorem dX8_join_5 : decode cX8_join 5 = .ok (.astore_n 3, 1) := by decide +kernel
theorem dX8_join_6 : decode cX8_join 6 = .ok (.iload_n 2, 1) := by decide +kernel
theorem dX8_join_7 : decode cX8_join 7 = .ok (.iconst 0, 1) := by decide +kernel
theorem dX8_join_8 : decode cX8_join 8 = .ok (.bipush 9, 2) := by decide +kernel
theorem dX8_join_10 : decode cX8_join 10 = .ok (.invokestatic 116, 3) := by decide +kernel
theorem dX8_join_13 : decode cX8_join 13 = .ok (.ifCond .ne 13, 3) := by decide +kernel
theorem dX8_join_16 : decode cX8_join 16 = .ok (.new 48, 3) := by decide +kernel
theorem dX8_join_19 : decode cX8_join 19 = .ok (.dup, 1) := by decide +kernel
theorem dX8_join_20 : decode cX8_join 20 = .ok (.ldc 132, 2) := by decide +kernel
theorem dX8_join_22 : decode cX8_join 22 = .ok (.invokespecial 52, 3) := by decide +kernel
theorem dX8_join_25 : decode cX8_join 25 = .ok (.athrow, 1) := by decide +kernel
theorem dX8_join_26 : decode cX8_join 26 = .ok (.iconst 0, 1) := by decide +kernel
theorem dX8_join_27 : decode cX8_join 27 = .ok (.istore 4, 2) := by decide +kernel
theorem dX8_join_29 : decode cX8_join 29 = .ok (.iload 4, 2) := by decide +kernel
theorem dX8_join_31 : decode cX8_join 31 = .ok (.bipush 6, 2) := by decide +kernel
theorem dX8_join_33 : decode cX8_join 33 = .ok (.if_icmp .ge 38, 3) := by decide +kernel
theorem dX8_join_36 : decode cX8_join 36 = .ok (.aload_n 0, 1) := by decide +kernel
theorem dX8_join_37 : decode cX8_join 37 = .ok (.getfield 17, 3) := by decide +kernel
theorem dX8_join_40 : decode cX8_join 40 = .ok (.iload 4, 2) := by decide +kernel
theorem dX8_join_42 : decode cX8_join 42 = .ok (.aaload, 1) := by decide +kernel
theorem dX8_join_43 : decode cX8_join 43 = .ok (.ifnonnull 22, 3) := by decide +kernel
theorem dX8_join_46 : decode cX8_join 46 = .ok (.aload_n 0, 1) := by decide +kernel
theorem dX8_join_47 : decode cX8_join 47 = .ok (.getfield 17, 3) := by decide +kernel
theorem dX8_join_50 : decode cX8_join 50 = .ok (.iload 4, 2) := by decide +kernel
theorem dX8_join_52 : decode cX8_join 52 = .ok (.new 15, 3) := by decide +kernel
theorem dX8_join_55 : decode cX8_join 55 = .ok (.dup, 1) := by decide +kernel
theorem dX8_join_56 : decode cX8_join 56 = .ok (.aload_n 3, 1) := by decide +kernel
theorem dX8_join_57 : decode cX8_join 57 = .ok (.iload_n 2, 1) := by decide +kernel
theorem dX8_join_58 : decode cX8_join 58 = .ok (.invokespecial 134, 3) := by decide +kernel
theorem dX8_join_61 : decode cX8_join 61 = .ok (.aastore, 1) := by decide +kernel
theorem dX8_join_62 : decode cX8_join 62 = .ok (.iload 4, 2) := by decide +kernel
theorem dX8_join_64 : decode cX8_join 64 = .ok (.ireturn, 1) := by decide +kernel
theorem dX8_join_65 : decode cX8_join 65 = .ok (.iinc 4 1, 3) := by decide +kernel
theorem dX8_join_68 : decode cX8_join 68 = .ok (.goto (-39), 3) := by decide +kernel
theorem dX8_join_71 : decode cX8_join 71 = .ok (.new 30, 3) := by decide +kernel
theorem dX8_join_74 : decode cX8_join 74 = .ok (.dup, 1) := by decide +kernel
theorem dX8_join_75 : decode cX8_join 75 = .ok (.ldc 137, 2) := by decide +kernel
theorem dX8_join_77 : decode cX8_join 77 = .ok (.invokespecial 34, 3) := by decide +kernel
theorem dX8_join_80 : decode cX8_join 80 = .ok (.athrow, 1) := by decide +kernel
theorem dX8_bid_0 : decode cX8_bid 0 = .ok (.aload_n 0, 1) := by decide +kernel
theorem dX8_bid_1 : decode cX8_bid 1 = .ok (.iload_n 1, 1) := by decide +kernel
theorem dX8_bid_2 : decode cX8_bid 2 = .ok (.invokevirtual 139, 3) := by decide +kernel
theorem dX8_bid_5 : decode cX8_bid 5 = .ok (.astore_n 3, 1) := by decide +kernel
theorem dX8_bid_6 : decode cX8_bid 6 = .ok (.iload_n 2, 1) := by decide +kernel
theorem dX8_bid_7 : decode cX8_bid 7 = .ok (.iconst 0, 1) := by decide +kernel
theorem dX8_bid_8 : decode cX8_bid 8 = .ok (.bipush 9, 2) := by decide +kernel
theorem dX8_bid_10 : decode cX8_bid 10 = .ok (.invokestatic 116, 3) := by decide +kernel
theorem dX8_bid_13 : decode cX8_bid 13 = .ok (.ifCond .ne 13, 3) := by decide +kernel
theorem dX8_bid_16 : decode cX8_bid 16 = .ok (.new 48, 3) := by decide +kernel
theorem dX8_bid_19 : decode cX8_bid 19 = .ok (.dup, 1) := by decide +kernel
theorem dX8_bid_20 : decode cX8_bid 20 = .ok (.ldc 132, 2) := by decide +kernel
theorem dX8_bid_22 : decode cX8_bid 22 = .ok (.invokespecial 52, 3) := by decide +kernel
theorem dX8_bid_25 : decode cX8_bid 25 = .ok (.athrow, 1) := by decide +kernel
theorem dX8_bid_26 : decode cX8_bid 26 = .ok (.aload_n 3, 1) := by decide +kernel
theorem dX8_bid_27 : decode cX8_bid 27 = .ok (.getfield 143, 3) := by decide +kernel
theorem dX8_bid_30 : decode cX8_bid 30 = .ok (.istore 4, 2) := by decide +kernel
theorem dX8_bid_32 : decode cX8_bid 32 = .ok (.aload_n 3, 1) := by decide +kernel
theorem dX8_bid_33 : decode cX8_bid 33 = .ok (.iload_n 2, 1) := by decide +kernel
theorem dX8_bid_34 : decode cX8_bid 34 = .ok (.putfield 143, 3) := by decide +kernel
theorem dX8_bid_37 : decode cX8_bid 37 = .ok (.iload 4, 2) := by decide +kernel
theorem dX8_bid_39 : decode cX8_bid 39 = .ok (.ireturn, 1) := by decide +kernel
theorem dX8_money_0 : decode cX8_money 0 = .ok (.aload_n 0, 1) := by decide +kernel
theorem dX8_money_1 : decode cX8_money 1 = .ok (.iload_n 1, 1) := by decide +kernel
theorem dX8_money_2 : decode cX8_money 2 = .ok (.invokevirtual 139, 3) := by decide +kernel
theorem dX8_money_5 : decode cX8_money 5 = .ok (.getfield 146, 3) := by decide +kernel
theorem dX8_money_8 : decode cX8_money 8 = .ok (.ireturn, 1) := by decide +kernel
theorem dX8_picture_0 : decode cX8_picture 0 = .ok (.aload_n 0, 1) := by decide +kernel
theorem dX8_picture_1 : decode cX8_picture 1 = .ok (.iload_n 1, 1) := by decide +kernel
theorem dX8_picture_2 : decode cX8_picture 2 = .ok (.invokevirtual 139, 3) := by decide +kernel
theorem dX8_picture_5 : decode cX8_picture 5 = .ok (.astore 4, 2) := by decide +kernel
theorem dX8_picture_7 : decode cX8_picture 7 = .ok (.aload 4, 2) := by decide +kernel
theorem dX8_picture_9 : decode cX8_picture 9 = .ok (.getfield 149, 3) := by decide +kernel
theorem dX8_picture_12 : decode cX8_picture 12 = .ok (.iload_n 2, 1) := by decide +kernel
theorem dX8_picture_13 : decode cX8_picture 13 = .ok (.iload_n 3, 1) := by decide +kernel
theorem dX8_picture_14 : decode cX8_picture 14 = .ok (.invokestatic 128, 3) := by decide +kernel
theorem dX8_picture_17 : decode cX8_picture 17 = .ok (.iaload, 1) := by decide +kernel
theorem dX8_picture_18 : decode cX8_picture 18 = .ok (.ireturn, 1) := by decide +kernel
theorem dX8_seen_0 : decode cX8_seen 0 = .ok (.aload_n 0, 1) := by decide +kernel
theorem dX8_seen_1 : decode cX8_seen 1 = .ok (.iload_n 1, 1) := by decide +kernel
theorem dX8_seen_2 : decode cX8_seen 2 = .ok (.invokevirtual 139, 3) := by decide +kernel
theorem dX8_seen_5 : decode cX8_seen 5 = .ok (.astore 4, 2) := by decide +kernel
theorem dX8_seen_7 : decode cX8_seen 7 = .ok (.iload_n 2, 1) := by decide +kernel
theorem dX8_seen_8 : decode cX8_seen 8 = .ok (.iload_n 3, 1) := by decide +kernel
theorem dX8_seen_9 : decode cX8_seen 9 = .ok (.invokestatic 128, 3) := by decide +kernel
theorem dX8_seen_12 : decode cX8_seen 12 = .ok (.istore 5, 2) := by decide +kernel
theorem dX8_seen_14 : decode cX8_seen 14 = .ok (.aload 4, 2) := by decide +kernel
theorem dX8_seen_16 : decode cX8_seen 16 = .ok (.getfield 150, 3) := by decide +kernel
theorem dX8_seen_19 : decode cX8_seen 19 = .ok (.aload 4, 2) := by decide +kernel
theorem dX8_seen_21 : decode cX8_seen 21 = .ok (.iload 5, 2) := by decide +kernel
theorem dX8_seen_23 : decode cX8_seen 23 = .ok (.invokevirtual 154, 3) := by decide +kernel
theorem dX8_seen_26 : decode cX8_seen 26 = .ok (.astore 6, 2) := by decide +kernel
theorem dX8_seen_28 : decode cX8_seen 28 = .ok (.aload 6, 2) := by decide +kernel
theorem dX8_seen_30 : decode cX8_seen 30 = .ok (.ifnonnull 14, 3) := by decide +kernel
theorem dX8_seen_33 : decode cX8_seen 33 = .ok (.aload 4, 2) := by decide +kernel
theorem dX8_seen_35 : decode cX8_seen 35 = .ok (.getfield 149, 3) := by decide +kernel
theorem dX8_seen_38 : decode cX8_seen 38 = .ok (.iload 5, 2) := by decide +kernel
theorem dX8_seen_40 : decode cX8_seen 40 = .ok (.iaload, 1) := by decide +kernel
theorem dX8_seen_41 : decode cX8_seen 41 = .ok (.goto 8, 3) := by decide +kernel
theorem dX8_seen_44 : decode cX8_seen 44 = .ok (.aload 6, 2) := by decide +kernel
theorem dX8_seen_46 : decode cX8_seen 46 = .ok (.getfield 158, 3) := by decide +kernel
theorem dX8_seen_49 : decode cX8_seen 49 = .ok (.ireturn, 1) := by decide +kernel
theorem dX8_behind_0 : decode cX8_behind 0 = .ok (.aload_n 0, 1) := by decide +kernel
theorem dX8_behind_1 : decode cX8_behind 1 = .ok (.iload_n 1, 1) := by decide +kernel
theorem dX8_behind_2 : decode cX8_behind 2 = .ok (.invokevirtual 139, 3) := by decide +kernel
theorem dX8_behind_5 : decode cX8_behind 5 = .ok (.invokevirtual 163, 3) := by decide +kernel
theorem dX8_behind_8 : decode cX8_behind 8 = .ok (.ireturn, 1) := by decide +kernel
theorem dX8_next_0 : decode cX8_next 0 = .ok (.aload_n 0, 1) := by decide +kernel
theorem dX8_next_1 : decode cX8_next 1 = .ok (.iload_n 1, 1) := by decide +kernel
theorem dX8_next_2 : decode cX8_next 2 = .ok (.invokevirtual 166, 3) := by decide +kernel
theorem dX8_next_5 : decode cX8_next 5 = .ok (.getfield 170, 3) := by decide +kernel
theorem dX8_next_8 : decode cX8_next 8 = .ok (.ireturn, 1) := by decide +kernel
theorem dX8_nextCost_0 : decode cX8_nextCost 0 = .ok (.aload_n 0, 1) := by decide +kernel
theorem dX8_nextCost_1 : decode cX8_nextCost 1 = .ok (.iload_n 1, 1) := by decide +kernel
theorem dX8_nextCost_2 : decode cX8_nextCost 2 = .ok (.invokevirtual 166, 3) := by decide +kernel
theorem dX8_nextCost_5 : decode cX8_nextCost 5 = .ok (.getfield 176, 3) := by decide +kernel
theorem dX8_nextCost_8 : decode cX8_nextCost 8 = .ok (.ireturn, 1) := by decide +kernel
theorem dX8_tick_0 : decode cX8_tick 0 = .ok (.iload_n 1, 1) := by decide +kernel
theorem dX8_tick_1 : decode cX8_tick 1 = .ok (.iconst 1, 1) := by decide +kernel
theorem dX8_tick_2 : decode cX8_tick 2 = .ok (.bipush 20, 2) := by decide +kernel
theorem dX8_tick_4 : decode cX8_tick 4 = .ok (.invokestatic 116, 3) := by decide +kernel
theorem dX8_tick_7 : decode cX8_tick 7 = .ok (.ifCond .ne 13, 3) := by decide +kernel
theorem dX8_tick_10 : decode cX8_tick 10 = .ok (.new 48, 3) := by decide +kernel
theorem dX8_tick_13 : decode cX8_tick 13 = .ok (.dup, 1) := by decide +kernel
theorem dX8_tick_14 : decode cX8_tick 14 = .ok (.ldc 179, 2) := by decide +kernel
theorem dX8_tick_16 : decode cX8_tick 16 = .ok (.invokespecial 52, 3) := by decide +kernel
theorem dX8_tick_19 : decode cX8_tick 19 = .ok (.athrow, 1) := by decide +kernel
theorem dX8_tick_20 : decode cX8_tick 20 = .ok (.iconst 0, 1) := by decide +kernel
theorem dX8_tick_21 : decode cX8_tick 21 = .ok (.istore_n 2, 1) := by decide +kernel
theorem dX8_tick_22 : decode cX8_tick 22 = .ok (.iconst 0, 1) := by decide +kernel
theorem dX8_tick_23 : decode cX8_tick 23 = .ok (.istore_n 3, 1) := by decide +kernel
theorem dX8_tick_24 : decode cX8_tick 24 = .ok (.iload_n 3, 1) := by decide +kernel
theorem dX8_tick_25 : decode cX8_tick 25 = .ok (.iload_n 1, 1) := by decide +kernel
theorem dX8_tick_26 : decode cX8_tick 26 = .ok (.if_icmp .ge 16, 3) := by decide +kernel
theorem dX8_tick_29 : decode cX8_tick 29 = .ok (.iload_n 2, 1) := by decide +kernel
theorem dX8_tick_30 : decode cX8_tick 30 = .ok (.aload_n 0, 1) := by decide +kernel
theorem dX8_tick_31 : decode cX8_tick 31 = .ok (.invokevirtual 181, 3) := by decide +kernel
theorem dX8_tick_34 : decode cX8_tick 34 = .ok (.iadd, 1) := by decide +kernel
theorem dX8_tick_35 : decode cX8_tick 35 = .ok (.istore_n 2, 1) := by decide +kernel
theorem dX8_tick_36 : decode cX8_tick 36 = .ok (.iinc 3 1, 3) := by decide +kernel
theorem dX8_tick_39 : decode cX8_tick 39 = .ok (.goto (-15), 3) := by decide +kernel
theorem dX8_tick_42 : decode cX8_tick 42 = .ok (.aload_n 0, 1) := by decide +kernel
theorem dX8_tick_43 : decode cX8_tick 43 = .ok (.dup, 1) := by decide +kernel
theorem dX8_tick_44 : decode cX8_tick 44 = .ok (.getfield 25, 3) := by decide +kernel
theorem dX8_tick_47 : decode cX8_tick 47 = .ok (.iload_n 2, 1) := by decide +kernel
theorem dX8_tick_48 : decode cX8_tick 48 = .ok (.i2l, 1) := by decide +kernel
theorem dX8_tick_49 : decode cX8_tick 49 = .ok (.ladd, 1) := by decide +kernel
theorem dX8_tick_50 : decode cX8_tick 50 = .ok (.putfield 25, 3) := by decide +kernel
theorem dX8_tick_53 : decode cX8_tick 53 = .ok (.iload_n 2, 1) := by decide +kernel
theorem dX8_tick_54 : decode cX8_tick 54 = .ok (.ireturn, 1) := by decide +kernel
theorem dX8_carried_0 : decode cX8_carried 0 = .ok (.aload_n 0, 1) := by decide +kernel
theorem dX8_carried_1 : decode cX8_carried 1 = .ok (.getfield 25, 3) := by decide +kernel
theorem dX8_carried_4 : decode cX8_carried 4 = .ok (.lreturn, 1) := by decide +kernel
theorem dX8_type_0 : decode cX8_type 0 = .ok (.aload_n 0, 1) := by decide +kernel
theorem dX8_type_1 : decode cX8_type 1 = .ok (.iload_n 1, 1) := by decide +kernel
theorem dX8_type_2 : decode cX8_type 2 = .ok (.invokevirtual 139, 3) := by decide +kernel
theorem dX8_type_5 : decode cX8_type 5 = .ok (.astore_n 3, 1) := by decide +kernel
theorem dX8_type_6 : decode cX8_type 6 = .ok (.iload_n 2, 1) := by decide +kernel
theorem dX8_type_7 : decode cX8_type 7 = .ok (.bipush 97, 2) := by decide +kernel
theorem dX8_type_9 : decode cX8_type 9 = .ok (.if_icmp .lt 9, 3) := by decide +kernel
theorem dX8_type_12 : decode cX8_type 12 = .ok (.iload_n 2, 1) := by decide +kernel
theorem dX8_type_13 : decode cX8_type 13 = .ok (.bipush 122, 2) := by decide +kernel
theorem dX8_type_15 : decode cX8_type 15 = .ok (.if_icmp .le 13, 3) := by decide +kernel
theorem dX8_type_18 : decode cX8_type 18 = .ok (.new 48, 3) := by decide +kernel
theorem dX8_type_21 : decode cX8_type 21 = .ok (.dup, 1) := by decide +kernel
theorem dX8_type_22 : decode cX8_type 22 = .ok (.ldc 184, 2) := by decide +kernel
theorem dX8_type_24 : decode cX8_type 24 = .ok (.invokespecial 52, 3) := by decide +kernel
theorem dX8_type_27 : decode cX8_type 27 = .ok (.athrow, 1) := by decide +kernel
theorem dX8_type_28 : decode cX8_type 28 = .ok (.aload_n 3, 1) := by decide +kernel
theorem dX8_type_29 : decode cX8_type 29 = .ok (.getfield 150, 3) := by decide +kernel
theorem dX8_type_32 : decode cX8_type 32 = .ok (.astore 4, 2) := by decide +kernel
theorem dX8_type_34 : decode cX8_type 34 = .ok (.aload 4, 2) := by decide +kernel
theorem dX8_type_36 : decode cX8_type 36 = .ok (.invokevirtual 186, 3) := by decide +kernel
theorem dX8_type_39 : decode cX8_type 39 = .ok (.astore 5, 2) := by decide +kernel
theorem dX8_type_41 : decode cX8_type 41 = .ok (.aload 5, 2) := by decide +kernel
theorem dX8_type_43 : decode cX8_type 43 = .ok (.ifnonnull 13, 3) := by decide +kernel
theorem dX8_type_46 : decode cX8_type 46 = .ok (.new 190, 3) := by decide +kernel
theorem dX8_type_49 : decode cX8_type 49 = .ok (.dup, 1) := by decide +kernel
theorem dX8_type_50 : decode cX8_type 50 = .ok (.ldc 192, 2) := by decide +kernel
theorem dX8_type_52 : decode cX8_type 52 = .ok (.invokespecial 194, 3) := by decide +kernel
theorem dX8_type_55 : decode cX8_type 55 = .ok (.athrow, 1) := by decide +kernel
theorem dX8_type_56 : decode cX8_type 56 = .ok (.aload 4, 2) := by decide +kernel
theorem dX8_type_58 : decode cX8_type 58 = .ok (.getfield 195, 3) := by decide +kernel
theorem dX8_type_61 : decode cX8_type 61 = .ok (.invokevirtual 198, 3) := by decide +kernel
theorem dX8_type_64 : decode cX8_type 64 = .ok (.bipush 20, 2) := by decide +kernel
theorem dX8_type_66 : decode cX8_type 66 = .ok (.if_icmp .lt 13, 3) := by decide +kernel
theorem dX8_type_69 : decode cX8_type 69 = .ok (.new 30, 3) := by decide +kernel
theorem dX8_type_72 : decode cX8_type 72 = .ok (.dup, 1) := by decide +kernel
theorem dX8_type_73 : decode cX8_type 73 = .ok (.ldc 201, 2) := by decide +kernel
theorem dX8_type_75 : decode cX8_type 75 = .ok (.invokespecial 34, 3) := by decide +kernel
theorem dX8_type_78 : decode cX8_type 78 = .ok (.athrow, 1) := by decide +kernel
theorem dX8_type_79 : decode cX8_type 79 = .ok (.aload 5, 2) := by decide +kernel
theorem dX8_type_81 : decode cX8_type 81 = .ok (.aload 4, 2) := by decide +kernel
theorem dX8_type_83 : decode cX8_type 83 = .ok (.aload 5, 2) := by decide +kernel
theorem dX8_type_85 : decode cX8_type 85 = .ok (.invokevirtual 203, 3) := by decide +kernel
theorem dX8_type_88 : decode cX8_type 88 = .ok (.invokevirtual 206, 3) := by decide +kernel
theorem dX8_type_91 : decode cX8_type 91 = .ok (.istore 6, 2) := by decide +kernel
theorem dX8_type_93 : decode cX8_type 93 = .ok (.aload 4, 2) := by decide +kernel
theorem dX8_type_95 : decode cX8_type 95 = .ok (.getfield 195, 3) := by decide +kernel
theorem dX8_type_98 : decode cX8_type 98 = .ok (.new 159, 3) := by decide +kernel
theorem dX8_type_101 : decode cX8_type 101 = .ok (.dup, 1) := by decide +kernel
theorem dX8_type_102 : decode cX8_type 102 = .ok (.aload_n 3, 1) := by decide +kernel
theorem dX8_type_103 : decode cX8_type 103 = .ok (.aload 5, 2) := by decide +kernel
theorem dX8_type_105 : decode cX8_type 105 = .ok (.iload 6, 2) := by decide +kernel
theorem dX8_type_107 : decode cX8_type 107 = .ok (.bipush 100, 2) := by decide +kernel
theorem dX8_type_109 : decode cX8_type 109 = .ok (.iload_n 2, 1) := by decide +kernel
theorem dX8_type_110 : decode cX8_type 110 = .ok (.bipush 97, 2) := by decide +kernel
theorem dX8_type_112 : decode cX8_type 112 = .ok (.isub, 1) := by decide +kernel
theorem dX8_type_113 : decode cX8_type 113 = .ok (.iconst 1, 1) := by decide +kernel
theorem dX8_type_114 : decode cX8_type 114 = .ok (.iadd, 1) := by decide +kernel
theorem dX8_type_115 : decode cX8_type 115 = .ok (.iadd, 1) := by decide +kernel
theorem dX8_type_116 : decode cX8_type 116 = .ok (.invokespecial 210, 3) := by decide +kernel
theorem dX8_type_119 : decode cX8_type 119 = .ok (.invokevirtual 101, 3) := by decide +kernel
theorem dX8_type_122 : decode cX8_type 122 = .ok (.pop, 1) := by decide +kernel
theorem dX8_type_123 : decode cX8_type 123 = .ok (.aload 4, 2) := by decide +kernel
theorem dX8_type_125 : decode cX8_type 125 = .ok (.getfield 195, 3) := by decide +kernel
theorem dX8_type_128 : decode cX8_type 128 = .ok (.invokevirtual 198, 3) := by decide +kernel
theorem dX8_type_131 : decode cX8_type 131 = .ok (.ireturn, 1) := by decide +kernel
theorem dX8_guesses_0 : decode cX8_guesses 0 = .ok (.aload_n 0, 1) := by decide +kernel
theorem dX8_guesses_1 : decode cX8_guesses 1 = .ok (.iload_n 1, 1) := by decide +kernel
theorem dX8_guesses_2 : decode cX8_guesses 2 = .ok (.invokevirtual 139, 3) := by decide +kernel
theorem dX8_guesses_5 : decode cX8_guesses 5 = .ok (.astore_n 2, 1) := by decide +kernel
theorem dX8_guesses_6 : decode cX8_guesses 6 = .ok (.aload_n 2, 1) := by decide +kernel
theorem dX8_guesses_7 : decode cX8_guesses 7 = .ok (.getfield 150, 3) := by decide +kernel
theorem dX8_guesses_10 : decode cX8_guesses 10 = .ok (.aload_n 2, 1) := by decide +kernel
theorem dX8_guesses_11 : decode cX8_guesses 11 = .ok (.invokevirtual 213, 3) := by decide +kernel
theorem dX8_guesses_14 : decode cX8_guesses 14 = .ok (.ireturn, 1) := by decide +kernel
theorem dX8_copy_0 : decode cX8_copy 0 = .ok (.aload_n 0, 1) := by decide +kernel
theorem dX8_copy_1 : decode cX8_copy 1 = .ok (.iload_n 1, 1) := by decide +kernel
theorem dX8_copy_2 : decode cX8_copy 2 = .ok (.invokevirtual 37, 3) := by decide +kernel
theorem dX8_copy_5 : decode cX8_copy 5 = .ok (.getfield 228, 3) := by decide +kernel
theorem dX8_copy_8 : decode cX8_copy 8 = .ok (.astore 4, 2) := by decide +kernel
theorem dX8_copy_10 : decode cX8_copy 10 = .ok (.iload_n 2, 1) := by decide +kernel
theorem dX8_copy_11 : decode cX8_copy 11 = .ok (.iconst 0, 1) := by decide +kernel
theorem dX8_copy_12 : decode cX8_copy 12 = .ok (.iconst 2, 1) := by decide +kernel
theorem dX8_copy_13 : decode cX8_copy 13 = .ok (.invokestatic 116, 3) := by decide +kernel
theorem dX8_copy_16 : decode cX8_copy 16 = .ok (.ifCond .eq 14, 3) := by decide +kernel
theorem dX8_copy_19 : decode cX8_copy 19 = .ok (.iload_n 3, 1) := by decide +kernel
theorem dX8_copy_20 : decode cX8_copy 20 = .ok (.iconst 0, 1) := by decide +kernel
theorem dX8_copy_21 : decode cX8_copy 21 = .ok (.sipush 9999, 3) := by decide +kernel
theorem dX8_copy_24 : decode cX8_copy 24 = .ok (.invokestatic 116, 3) := by decide +kernel
theorem dX8_copy_27 : decode cX8_copy 27 = .ok (.ifCond .ne 13, 3) := by decide +kernel
theorem dX8_copy_30 : decode cX8_copy 30 = .ok (.new 48, 3) := by decide +kernel
theorem dX8_copy_33 : decode cX8_copy 33 = .ok (.dup, 1) := by decide +kernel
theorem dX8_copy_34 : decode cX8_copy 34 = .ok (.ldc 50, 2) := by decide +kernel
theorem dX8_copy_36 : decode cX8_copy 36 = .ok (.invokespecial 52, 3) := by decide +kernel
theorem dX8_copy_39 : decode cX8_copy 39 = .ok (.athrow, 1) := by decide +kernel
theorem dX8_copy_40 : decode cX8_copy 40 = .ok (.aload 4, 2) := by decide +kernel
theorem dX8_copy_42 : decode cX8_copy 42 = .ok (.getfield 232, 3) := by decide +kernel
theorem dX8_copy_45 : decode cX8_copy 45 = .ok (.istore 5, 2) := by decide +kernel
theorem dX8_copy_47 : decode cX8_copy 47 = .ok (.aload 4, 2) := by decide +kernel
theorem dX8_copy_49 : decode cX8_copy 49 = .ok (.iload_n 3, 1) := by decide +kernel
theorem dX8_copy_50 : decode cX8_copy 50 = .ok (.iload_n 2, 1) := by decide +kernel
theorem dX8_copy_51 : decode cX8_copy 51 = .ok (.iconst 1, 1) := by decide +kernel
theorem dX8_copy_52 : decode cX8_copy 52 = .ok (.iload_n 1, 1) := by decide +kernel
theorem dX8_copy_53 : decode cX8_copy 53 = .ok (.ishl, 1) := by decide +kernel
theorem dX8_copy_54 : decode cX8_copy 54 = .ok (.invokevirtual 237, 3) := by decide +kernel
theorem dX8_copy_57 : decode cX8_copy 57 = .ok (.iload 5, 2) := by decide +kernel
theorem dX8_copy_59 : decode cX8_copy 59 = .ok (.ireturn, 1) := by decide +kernel
theorem dX8_allow_0 : decode cX8_allow 0 = .ok (.aload_n 0, 1) := by decide +kernel
theorem dX8_allow_1 : decode cX8_allow 1 = .ok (.iload_n 1, 1) := by decide +kernel
theorem dX8_allow_2 : decode cX8_allow 2 = .ok (.invokevirtual 241, 3) := by decide +kernel
theorem dX8_allow_5 : decode cX8_allow 5 = .ok (.ifCond .eq 11, 3) := by decide +kernel
theorem dX8_allow_8 : decode cX8_allow 8 = .ok (.aload_n 0, 1) := by decide +kernel
theorem dX8_allow_9 : decode cX8_allow 9 = .ok (.iload_n 2, 1) := by decide +kernel
theorem dX8_allow_10 : decode cX8_allow 10 = .ok (.invokevirtual 241, 3) := by decide +kernel
theorem dX8_allow_13 : decode cX8_allow 13 = .ok (.ifCond .ne 13, 3) := by decide +kernel
theorem dX8_allow_16 : decode cX8_allow 16 = .ok (.new 245, 3) := by decide +kernel
theorem dX8_allow_19 : decode cX8_allow 19 = .ok (.dup, 1) := by decide +kernel
theorem dX8_allow_20 : decode cX8_allow 20 = .ok (.ldc 247, 2) := by decide +kernel
theorem dX8_allow_22 : decode cX8_allow 22 = .ok (.invokespecial 249, 3) := by decide +kernel
theorem dX8_allow_25 : decode cX8_allow 25 = .ok (.athrow, 1) := by decide +kernel
theorem dX8_allow_26 : decode cX8_allow 26 = .ok (.iload_n 3, 1) := by decide +kernel
theorem dX8_allow_27 : decode cX8_allow 27 = .ok (.iconst 0, 1) := by decide +kernel
theorem dX8_allow_28 : decode cX8_allow 28 = .ok (.iconst 2, 1) := by decide +kernel
theorem dX8_allow_29 : decode cX8_allow 29 = .ok (.invokestatic 116, 3) := by decide +kernel
theorem dX8_allow_32 : decode cX8_allow 32 = .ok (.ifCond .eq 8, 3) := by decide +kernel
theorem dX8_allow_35 : decode cX8_allow 35 = .ok (.iload_n 1, 1) := by decide +kernel
theorem dX8_allow_36 : decode cX8_allow 36 = .ok (.iload_n 2, 1) := by decide +kernel
theorem dX8_allow_37 : decode cX8_allow 37 = .ok (.if_icmp .ne 13, 3) := by decide +kernel
theorem dX8_allow_40 : decode cX8_allow 40 = .ok (.new 48, 3) := by decide +kernel
theorem dX8_allow_43 : decode cX8_allow 43 = .ok (.dup, 1) := by decide +kernel
theorem dX8_allow_44 : decode cX8_allow 44 = .ok (.ldc 250, 2) := by decide +kernel
theorem dX8_allow_46 : decode cX8_allow 46 = .ok (.invokespecial 52, 3) := by decide +kernel
theorem dX8_allow_49 : decode cX8_allow 49 = .ok (.athrow, 1) := by decide +kernel
theorem dX8_allow_50 : decode cX8_allow 50 = .ok (.iload_n 1, 1) := by decide +kernel
theorem dX8_allow_51 : decode cX8_allow 51 = .ok (.iload_n 2, 1) := by decide +kernel
theorem dX8_allow_52 : decode cX8_allow 52 = .ok (.iload_n 3, 1) := by decide +kernel
theorem dX8_allow_53 : decode cX8_allow 53 = .ok (.invokestatic 252, 3) := by decide +kernel
theorem dX8_allow_56 : decode cX8_allow 56 = .ok (.istore 5, 2) := by decide +kernel
theorem dX8_allow_58 : decode cX8_allow 58 = .ok (.aload_n 0, 1) := by decide +kernel
theorem dX8_allow_59 : decode cX8_allow 59 = .ok (.getfield 21, 3) := by decide +kernel
theorem dX8_allow_62 : decode cX8_allow 62 = .ok (.iload 5, 2) := by decide +kernel
theorem dX8_allow_64 : decode cX8_allow 64 = .ok (.baload, 1) := by decide +kernel
theorem dX8_allow_65 : decode cX8_allow 65 = .ok (.istore 6, 2) := by decide +kernel
theorem dX8_allow_67 : decode cX8_allow 67 = .ok (.aload_n 0, 1) := by decide +kernel
theorem dX8_allow_68 : decode cX8_allow 68 = .ok (.getfield 21, 3) := by decide +kernel
theorem dX8_allow_71 : decode cX8_allow 71 = .ok (.iload 5, 2) := by decide +kernel
theorem dX8_allow_73 : decode cX8_allow 73 = .ok (.iload 4, 2) := by decide +kernel
theorem dX8_allow_75 : decode cX8_allow 75 = .ok (.bastore, 1) := by decide +kernel
theorem dX8_allow_76 : decode cX8_allow 76 = .ok (.iload 6, 2) := by decide +kernel
theorem dX8_allow_78 : decode cX8_allow 78 = .ok (.ireturn, 1) := by decide +kernel
theorem dX8_paste_0 : decode cX8_paste 0 = .ok (.aload_n 0, 1) := by decide +kernel
theorem dX8_paste_1 : decode cX8_paste 1 = .ok (.iload_n 1, 1) := by decide +kernel
theorem dX8_paste_2 : decode cX8_paste 2 = .ok (.invokevirtual 37, 3) := by decide +kernel
theorem dX8_paste_5 : decode cX8_paste 5 = .ok (.getfield 228, 3) := by decide +kernel
theorem dX8_paste_8 : decode cX8_paste 8 = .ok (.astore_n 3, 1) := by decide +kernel
theorem dX8_paste_9 : decode cX8_paste 9 = .ok (.aload_n 0, 1) := by decide +kernel
theorem dX8_paste_10 : decode cX8_paste 10 = .ok (.iload_n 2, 1) := by decide +kernel
theorem dX8_paste_11 : decode cX8_paste 11 = .ok (.invokevirtual 37, 3) := by decide +kernel
theorem dX8_paste_14 : decode cX8_paste 14 = .ok (.getfield 228, 3) := by decide +kernel
theorem dX8_paste_17 : decode cX8_paste 17 = .ok (.astore 4, 2) := by decide +kernel
theorem dX8_paste_19 : decode cX8_paste 19 = .ok (.iload_n 1, 1) := by decide +kernel
theorem dX8_paste_20 : decode cX8_paste 20 = .ok (.iload_n 2, 1) := by decide +kernel
theorem dX8_paste_21 : decode cX8_paste 21 = .ok (.if_icmp .ne 14, 3) := by decide +kernel
theorem dX8_paste_24 : decode cX8_paste 24 = .ok (.new 245, 3) := by decide +kernel
theorem dX8_paste_27 : decode cX8_paste 27 = .ok (.dup, 1) := by decide +kernel
theorem dX8_paste_28 : decode cX8_paste 28 = .ok (.ldc_w 256, 3) := by decide +kernel
theorem dX8_paste_31 : decode cX8_paste 31 = .ok (.invokespecial 249, 3) := by decide +kernel
theorem dX8_paste_34 : decode cX8_paste 34 = .ok (.athrow, 1) := by decide +kernel
theorem dX8_paste_35 : decode cX8_paste 35 = .ok (.aload_n 3, 1) := by decide +kernel
theorem dX8_paste_36 : decode cX8_paste 36 = .ok (.getfield 232, 3) := by decide +kernel
theorem dX8_paste_39 : decode cX8_paste 39 = .ok (.iconst (-1), 1) := by decide +kernel
theorem dX8_paste_40 : decode cX8_paste 40 = .ok (.if_icmp .ne 14, 3) := by decide +kernel
theorem dX8_paste_43 : decode cX8_paste 43 = .ok (.new 258, 3) := by decide +kernel
theorem dX8_paste_46 : decode cX8_paste 46 = .ok (.dup, 1) := by decide +kernel
theorem dX8_paste_47 : decode cX8_paste 47 = .ok (.ldc_w 260, 3) := by decide +kernel
theorem dX8_paste_50 : decode cX8_paste 50 = .ok (.invokespecial 262, 3) := by decide +kernel
theorem dX8_paste_53 : decode cX8_paste 53 = .ok (.athrow, 1) := by decide +kernel
theorem dX8_paste_54 : decode cX8_paste 54 = .ok (.aload_n 0, 1) := by decide +kernel
theorem dX8_paste_55 : decode cX8_paste 55 = .ok (.aload_n 3, 1) := by decide +kernel
theorem dX8_paste_56 : decode cX8_paste 56 = .ok (.iload_n 2, 1) := by decide +kernel
theorem dX8_paste_57 : decode cX8_paste 57 = .ok (.invokevirtual 263, 3) := by decide +kernel
theorem dX8_paste_60 : decode cX8_paste 60 = .ok (.ifCond .ne 14, 3) := by decide +kernel
theorem dX8_paste_63 : decode cX8_paste 63 = .ok (.new 190, 3) := by decide +kernel
theorem dX8_paste_66 : decode cX8_paste 66 = .ok (.dup, 1) := by decide +kernel
theorem dX8_paste_67 : decode cX8_paste 67 = .ok (.ldc_w 267, 3) := by decide +kernel
theorem dX8_paste_70 : decode cX8_paste 70 = .ok (.invokespecial 194, 3) := by decide +kernel
theorem dX8_paste_73 : decode cX8_paste 73 = .ok (.athrow, 1) := by decide +kernel
theorem dX8_paste_74 : decode cX8_paste 74 = .ok (.aload 4, 2) := by decide +kernel
theorem dX8_paste_76 : decode cX8_paste 76 = .ok (.aload_n 3, 1) := by decide +kernel
theorem dX8_paste_77 : decode cX8_paste 77 = .ok (.getfield 232, 3) := by decide +kernel
theorem dX8_paste_80 : decode cX8_paste 80 = .ok (.aload_n 3, 1) := by decide +kernel
theorem dX8_paste_81 : decode cX8_paste 81 = .ok (.getfield 269, 3) := by decide +kernel
theorem dX8_paste_84 : decode cX8_paste 84 = .ok (.aload_n 3, 1) := by decide +kernel
theorem dX8_paste_85 : decode cX8_paste 85 = .ok (.getfield 272, 3) := by decide +kernel
theorem dX8_paste_88 : decode cX8_paste 88 = .ok (.iconst 1, 1) := by decide +kernel
theorem dX8_paste_89 : decode cX8_paste 89 = .ok (.iload_n 2, 1) := by decide +kernel
theorem dX8_paste_90 : decode cX8_paste 90 = .ok (.ishl, 1) := by decide +kernel
theorem dX8_paste_91 : decode cX8_paste 91 = .ok (.ior, 1) := by decide +kernel
theorem dX8_paste_92 : decode cX8_paste 92 = .ok (.invokevirtual 237, 3) := by decide +kernel
theorem dX8_paste_95 : decode cX8_paste 95 = .ok (.aload 4, 2) := by decide +kernel
theorem dX8_paste_97 : decode cX8_paste 97 = .ok (.getfield 232, 3) := by decide +kernel
theorem dX8_paste_100 : decode cX8_paste 100 = .ok (.ireturn, 1) := by decide +kernel
theorem dX8_move_0 : decode cX8_move 0 = .ok (.aload_n 0, 1) := by decide +kernel
theorem dX8_move_1 : decode cX8_move 1 = .ok (.iload_n 1, 1) := by decide +kernel
theorem dX8_move_2 : decode cX8_move 2 = .ok (.invokevirtual 37, 3) := by decide +kernel
theorem dX8_move_5 : decode cX8_move 5 = .ok (.getfield 275, 3) := by decide +kernel
theorem dX8_move_8 : decode cX8_move 8 = .ok (.astore_n 2, 1) := by decide +kernel
theorem dX8_move_9 : decode cX8_move 9 = .ok (.aload_n 2, 1) := by decide +kernel
theorem dX8_move_10 : decode cX8_move 10 = .ok (.getfield 279, 3) := by decide +kernel
theorem dX8_move_13 : decode cX8_move 13 = .ok (.ifCond .eq 14, 3) := by decide +kernel
theorem dX8_move_16 : decode cX8_move 16 = .ok (.new 30, 3) := by decide +kernel
theorem dX8_move_19 : decode cX8_move 19 = .ok (.dup, 1) := by decide +kernel
theorem dX8_move_20 : decode cX8_move 20 = .ok (.ldc_w 284, 3) := by decide +kernel
theorem dX8_move_23 : decode cX8_move 23 = .ok (.invokespecial 34, 3) := by decide +kernel
theorem dX8_move_26 : decode cX8_move 26 = .ok (.athrow, 1) := by decide +kernel
theorem dX8_move_27 : decode cX8_move 27 = .ok (.aload_n 2, 1) := by decide +kernel
theorem dX8_move_28 : decode cX8_move 28 = .ok (.invokevirtual 286, 3) := by decide +kernel
theorem dX8_move_31 : decode cX8_move 31 = .ok (.aload_n 2, 1) := by decide +kernel
theorem dX8_move_32 : decode cX8_move 32 = .ok (.getfield 289, 3) := by decide +kernel
theorem dX8_move_35 : decode cX8_move 35 = .ok (.ifCond .le 7, 3) := by decide +kernel
theorem dX8_move_38 : decode cX8_move 38 = .ok (.iconst 1, 1) := by decide +kernel
theorem dX8_move_39 : decode cX8_move 39 = .ok (.goto 4, 3) := by decide +kernel
theorem dX8_move_42 : decode cX8_move 42 = .ok (.iconst 0, 1) := by decide +kernel
theorem dX8_move_43 : decode cX8_move 43 = .ok (.ireturn, 1) := by decide +kernel
theorem dX8_left_0 : decode cX8_left 0 = .ok (.aload_n 0, 1) := by decide +kernel
theorem dX8_left_1 : decode cX8_left 1 = .ok (.iload_n 1, 1) := by decide +kernel
theorem dX8_left_2 : decode cX8_left 2 = .ok (.invokevirtual 37, 3) := by decide +kernel
theorem dX8_left_5 : decode cX8_left 5 = .ok (.astore_n 2, 1) := by decide +kernel
theorem dX8_left_6 : decode cX8_left 6 = .ok (.aload_n 2, 1) := by decide +kernel
theorem dX8_left_7 : decode cX8_left 7 = .ok (.getfield 275, 3) := by decide +kernel
theorem dX8_left_10 : decode cX8_left 10 = .ok (.getfield 279, 3) := by decide +kernel
theorem dX8_left_13 : decode cX8_left 13 = .ok (.ifCond .ne 14, 3) := by decide +kernel
theorem dX8_left_16 : decode cX8_left 16 = .ok (.new 30, 3) := by decide +kernel
theorem dX8_left_19 : decode cX8_left 19 = .ok (.dup, 1) := by decide +kernel
theorem dX8_left_20 : decode cX8_left 20 = .ok (.ldc_w 292, 3) := by decide +kernel
theorem dX8_left_23 : decode cX8_left 23 = .ok (.invokespecial 34, 3) := by decide +kernel
theorem dX8_left_26 : decode cX8_left 26 = .ok (.athrow, 1) := by decide +kernel
theorem dX8_left_27 : decode cX8_left 27 = .ok (.aload_n 2, 1) := by decide +kernel
theorem dX8_left_28 : decode cX8_left 28 = .ok (.getfield 275, 3) := by decide +kernel
theorem dX8_left_31 : decode cX8_left 31 = .ok (.aload_n 2, 1) := by decide +kernel
theorem dX8_left_32 : decode cX8_left 32 = .ok (.getfield 124, 3) := by decide +kernel
theorem dX8_left_35 : decode cX8_left 35 = .ok (.invokevirtual 294, 3) := by decide +kernel
theorem dX8_left_38 : decode cX8_left 38 = .ok (.ireturn, 1) := by decide +kernel
theorem dX8_host_0 : decode cX8_host 0 = .ok (.aload_n 0, 1) := by decide +kernel
theorem dX8_host_1 : decode cX8_host 1 = .ok (.iload_n 1, 1) := by decide +kernel
theorem dX8_host_2 : decode cX8_host 2 = .ok (.invokevirtual 37, 3) := by decide +kernel
theorem dX8_host_5 : decode cX8_host 5 = .ok (.getfield 275, 3) := by decide +kernel
theorem dX8_host_8 : decode cX8_host 8 = .ok (.getfield 289, 3) := by decide +kernel
theorem dX8_host_11 : decode cX8_host 11 = .ok (.ireturn, 1) := by decide +kernel
theorem dX8_record_0 : decode cX8_record 0 = .ok (.aload_n 0, 1) := by decide +kernel
theorem dX8_record_1 : decode cX8_record 1 = .ok (.iload_n 1, 1) := by decide +kernel
theorem dX8_record_2 : decode cX8_record 2 = .ok (.invokevirtual 37, 3) := by decide +kernel
theorem dX8_record_5 : decode cX8_record 5 = .ok (.astore_n 2, 1) := by decide +kernel
theorem dX8_record_6 : decode cX8_record 6 = .ok (.aload_n 2, 1) := by decide +kernel
theorem dX8_record_7 : decode cX8_record 7 = .ok (.getfield 298, 3) := by decide +kernel
theorem dX8_record_10 : decode cX8_record 10 = .ok (.ifnonnull 14, 3) := by decide +kernel
theorem dX8_record_13 : decode cX8_record 13 = .ok (.aload_n 2, 1) := by decide +kernel
theorem dX8_record_14 : decode cX8_record 14 = .ok (.new 302, 3) := by decide +kernel
theorem dX8_record_17 : decode cX8_record 17 = .ok (.dup, 1) := by decide +kernel
theorem dX8_record_18 : decode cX8_record 18 = .ok (.invokespecial 304, 3) := by decide +kernel
theorem dX8_record_21 : decode cX8_record 21 = .ok (.putfield 298, 3) := by decide +kernel
theorem dX8_record_24 : decode cX8_record 24 = .ok (.aload_n 2, 1) := by decide +kernel
theorem dX8_record_25 : decode cX8_record 25 = .ok (.getfield 298, 3) := by decide +kernel
theorem dX8_record_28 : decode cX8_record 28 = .ok (.getfield 305, 3) := by decide +kernel
theorem dX8_record_31 : decode cX8_record 31 = .ok (.istore_n 3, 1) := by decide +kernel
theorem dX8_record_32 : decode cX8_record 32 = .ok (.aload_n 2, 1) := by decide +kernel
theorem dX8_record_33 : decode cX8_record 33 = .ok (.getfield 298, 3) := by decide +kernel
theorem dX8_record_36 : decode cX8_record 36 = .ok (.invokevirtual 308, 3) := by decide +kernel
theorem dX8_record_39 : decode cX8_record 39 = .ok (.iload_n 3, 1) := by decide +kernel
theorem dX8_record_40 : decode cX8_record 40 = .ok (.ireturn, 1) := by decide +kernel
theorem dX8_played_0 : decode cX8_played 0 = .ok (.aload_n 0, 1) := by decide +kernel
theorem dX8_played_1 : decode cX8_played 1 = .ok (.iload_n 1, 1) := by decide +kernel
theorem dX8_played_2 : decode cX8_played 2 = .ok (.invokevirtual 37, 3) := by decide +kernel
theorem dX8_played_5 : decode cX8_played 5 = .ok (.getfield 298, 3) := by decide +kernel
theorem dX8_played_8 : decode cX8_played 8 = .ok (.astore 5, 2) := by decide +kernel
theorem dX8_played_10 : decode cX8_played 10 = .ok (.iload_n 3, 1) := by decide +kernel
theorem dX8_played_11 : decode cX8_played 11 = .ok (.iload 4, 2) := by decide +kernel
theorem dX8_played_13 : decode cX8_played 13 = .ok (.invokestatic 128, 3) := by decide +kernel
theorem dX8_played_16 : decode cX8_played 16 = .ok (.istore 6, 2) := by decide +kernel
theorem dX8_played_18 : decode cX8_played 18 = .ok (.aload 5, 2) := by decide +kernel
theorem dX8_played_20 : decode cX8_played 20 = .ok (.ifnull 16, 3) := by decide +kernel
theorem dX8_played_23 : decode cX8_played 23 = .ok (.iload_n 2, 1) := by decide +kernel
theorem dX8_played_24 : decode cX8_played 24 = .ok (.iconst 1, 1) := by decide +kernel
theorem dX8_played_25 : decode cX8_played 25 = .ok (.aload 5, 2) := by decide +kernel
theorem dX8_played_27 : decode cX8_played 27 = .ok (.getfield 305, 3) := by decide +kernel
theorem dX8_played_30 : decode cX8_played 30 = .ok (.invokestatic 116, 3) := by decide +kernel
theorem dX8_played_33 : decode cX8_played 33 = .ok (.ifCond .ne 14, 3) := by decide +kernel
theorem dX8_played_36 : decode cX8_played 36 = .ok (.new 258, 3) := by decide +kernel
theorem dX8_played_39 : decode cX8_played 39 = .ok (.dup, 1) := by decide +kernel
theorem dX8_played_40 : decode cX8_played 40 = .ok (.ldc_w 309, 3) := by decide +kernel
theorem dX8_played_43 : decode cX8_played 43 = .ok (.invokespecial 262, 3) := by decide +kernel
