theorem dX0_init_0 : decode cX0_init 0 = .ok (.aload_n 0, 1) := by decide +kernel
theorem dX0_init_1 : decode cX0_init 1 = .ok (.invokespecial 3, 3) := by decide +kernel
theorem dX0_init_4 : decode cX0_init 4 = .ok (.aload_n 0, 1) := by decide +kernel
theorem dX0_init_5 : decode cX0_init 5 = .ok (.aload_n 1, 1) := by decide +kernel
theorem dX0_init_6 : decode cX0_init 6 = .ok (.putfield 9, 3) := by decide +kernel
theorem dX0_init_9 : decode cX0_init 9 = .ok (.aload_n 0, 1) := by decide +kernel
theorem dX0_init_10 : decode cX0_init 10 = .ok (.bipush 96, 2) := by decide +kernel
theorem dX0_init_12 : decode cX0_init 12 = .ok (.newarray .int, 2) := by decide +kernel
theorem dX0_init_14 : decode cX0_init 14 = .ok (.putfield 15, 3) := by decide +kernel
theorem dX0_init_17 : decode cX0_init 17 = .ok (.aload_n 0, 1) := by decide +kernel
theorem dX0_init_18 : decode cX0_init 18 = .ok (.bipush 96, 2) := by decide +kernel
theorem dX0_init_20 : decode cX0_init 20 = .ok (.newarray .int, 2) := by decide +kernel
theorem dX0_init_22 : decode cX0_init 22 = .ok (.putfield 18, 3) := by decide +kernel
theorem dX0_init_25 : decode cX0_init 25 = .ok (.aload_n 0, 1) := by decide +kernel
theorem dX0_init_26 : decode cX0_init 26 = .ok (.bipush 9, 2) := by decide +kernel
theorem dX0_init_28 : decode cX0_init 28 = .ok (.newarray .int, 2) := by decide +kernel
theorem dX0_init_30 : decode cX0_init 30 = .ok (.putfield 21, 3) := by decide +kernel
theorem dX0_init_33 : decode cX0_init 33 = .ok (.aload_n 0, 1) := by decide +kernel
theorem dX0_init_34 : decode cX0_init 34 = .ok (.bipush 32, 2) := by decide +kernel
theorem dX0_init_36 : decode cX0_init 36 = .ok (.putfield 24, 3) := by decide +kernel
theorem dX0_init_39 : decode cX0_init 39 = .ok (.return_, 1) := by decide +kernel
theorem dX0_find_0 : decode cX0_find 0 = .ok (.aload_n 0, 1) := by decide +kernel
theorem dX0_find_1 : decode cX0_find 1 = .ok (.bipush 32, 2) := by decide +kernel
theorem dX0_find_3 : decode cX0_find 3 = .ok (.putfield 24, 3) := by decide +kernel
theorem dX0_find_6 : decode cX0_find 6 = .ok (.aload_n 0, 1) := by decide +kernel
theorem dX0_find_7 : decode cX0_find 7 = .ok (.iconst 0, 1) := by decide +kernel
theorem dX0_find_8 : decode cX0_find 8 = .ok (.putfield 28, 3) := by decide +kernel
theorem dX0_find_11 : decode cX0_find 11 = .ok (.aload_n 0, 1) := by decide +kernel
theorem dX0_find_12 : decode cX0_find 12 = .ok (.iconst 1, 1) := by decide +kernel
theorem dX0_find_13 : decode cX0_find 13 = .ok (.putfield 32, 3) := by decide +kernel
theorem dX0_find_16 : decode cX0_find 16 = .ok (.aload_n 0, 1) := by decide +kernel
theorem dX0_find_17 : decode cX0_find 17 = .ok (.iconst 0, 1) := by decide +kernel
theorem dX0_find_18 : decode cX0_find 18 = .ok (.putfield 35, 3) := by decide +kernel
theorem dX0_find_21 : decode cX0_find 21 = .ok (.aload_n 0, 1) := by decide +kernel
theorem dX0_find_22 : decode cX0_find 22 = .ok (.getfield 35, 3) := by decide +kernel
theorem dX0_find_25 : decode cX0_find 25 = .ok (.bipush 96, 2) := by decide +kernel
theorem dX0_find_27 : decode cX0_find 27 = .ok (.if_icmp .ge 27, 3) := by decide +kernel
theorem dX0_find_30 : decode cX0_find 30 = .ok (.aload_n 0, 1) := by decide +kernel
theorem dX0_find_31 : decode cX0_find 31 = .ok (.aload_n 0, 1) := by decide +kernel
theorem dX0_find_32 : decode cX0_find 32 = .ok (.getfield 35, 3) := by decide +kernel
theorem dX0_find_35 : decode cX0_find 35 = .ok (.invokevirtual 38, 3) := by decide +kernel
theorem dX0_find_38 : decode cX0_find 38 = .ok (.ifCond .ne 16, 3) := by decide +kernel
theorem dX0_find_41 : decode cX0_find 41 = .ok (.aload_n 0, 1) := by decide +kernel
theorem dX0_find_42 : decode cX0_find 42 = .ok (.dup, 1) := by decide +kernel
theorem dX0_find_43 : decode cX0_find 43 = .ok (.getfield 35, 3) := by decide +kernel
theorem dX0_find_46 : decode cX0_find 46 = .ok (.iconst 1, 1) := by decide +kernel
theorem dX0_find_47 : decode cX0_find 47 = .ok (.iadd, 1) := by decide +kernel
theorem dX0_find_48 : decode cX0_find 48 = .ok (.putfield 35, 3) := by decide +kernel
theorem dX0_find_51 : decode cX0_find 51 = .ok (.goto (-30), 3) := by decide +kernel
theorem dX0_find_54 : decode cX0_find 54 = .ok (.aload_n 0, 1) := by decide +kernel
theorem dX0_find_55 : decode cX0_find 55 = .ok (.getfield 35, 3) := by decide +kernel
theorem dX0_find_58 : decode cX0_find 58 = .ok (.bipush 96, 2) := by decide +kernel
theorem dX0_find_60 : decode cX0_find 60 = .ok (.if_icmp .ge 17, 3) := by decide +kernel
theorem dX0_find_63 : decode cX0_find 63 = .ok (.aload_n 0, 1) := by decide +kernel
theorem dX0_find_64 : decode cX0_find 64 = .ok (.invokevirtual 42, 3) := by decide +kernel
theorem dX0_find_67 : decode cX0_find 67 = .ok (.aload_n 0, 1) := by decide +kernel
theorem dX0_find_68 : decode cX0_find 68 = .ok (.iconst 0, 1) := by decide +kernel
theorem dX0_find_69 : decode cX0_find 69 = .ok (.iconst 0, 1) := by decide +kernel
theorem dX0_find_70 : decode cX0_find 70 = .ok (.invokevirtual 45, 3) := by decide +kernel
theorem dX0_find_73 : decode cX0_find 73 = .ok (.aload_n 0, 1) := by decide +kernel
theorem dX0_find_74 : decode cX0_find 74 = .ok (.invokevirtual 49, 3) := by decide +kernel
theorem dX0_find_77 : decode cX0_find 77 = .ok (.return_, 1) := by decide +kernel
theorem dX0_isBehind_0 : decode cX0_isBehind 0 = .ok (.aload_n 0, 1) := by decide +kernel
theorem dX0_isBehind_1 : decode cX0_isBehind 1 = .ok (.getfield 15, 3) := by decide +kernel
theorem dX0_isBehind_4 : decode cX0_isBehind 4 = .ok (.iload_n 1, 1) := by decide +kernel
theorem dX0_isBehind_5 : decode cX0_isBehind 5 = .ok (.iaload, 1) := by decide +kernel
theorem dX0_isBehind_6 : decode cX0_isBehind 6 = .ok (.aload_n 0, 1) := by decide +kernel
theorem dX0_isBehind_7 : decode cX0_isBehind 7 = .ok (.getfield 9, 3) := by decide +kernel
theorem dX0_isBehind_10 : decode cX0_isBehind 10 = .ok (.iload_n 1, 1) := by decide +kernel
theorem dX0_isBehind_11 : decode cX0_isBehind 11 = .ok (.iaload, 1) := by decide +kernel
theorem dX0_isBehind_12 : decode cX0_isBehind 12 = .ok (.if_icmp .eq 7, 3) := by decide +kernel
theorem dX0_isBehind_15 : decode cX0_isBehind 15 = .ok (.iconst 1, 1) := by decide +kernel
theorem dX0_isBehind_16 : decode cX0_isBehind 16 = .ok (.goto 4, 3) := by decide +kernel
theorem dX0_isBehind_19 : decode cX0_isBehind 19 = .ok (.iconst 0, 1) := by decide +kernel
theorem dX0_isBehind_20 : decode cX0_isBehind 20 = .ok (.ireturn, 1) := by decide +kernel
theorem dX0_tryCopies_0 : decode cX0_tryCopies 0 = .ok (.bipush (-2), 2) := by decide +kernel
theorem dX0_tryCopies_2 : decode cX0_tryCopies 2 = .ok (.istore_n 1, 1) := by decide +kernel
theorem dX0_tryCopies_3 : decode cX0_tryCopies 3 = .ok (.iload_n 1, 1) := by decide +kernel
theorem dX0_tryCopies_4 : decode cX0_tryCopies 4 = .ok (.iconst 2, 1) := by decide +kernel
theorem dX0_tryCopies_5 : decode cX0_tryCopies 5 = .ok (.if_icmp .gt 37, 3) := by decide +kernel
theorem dX0_tryCopies_8 : decode cX0_tryCopies 8 = .ok (.bipush (-2), 2) := by decide +kernel
theorem dX0_tryCopies_10 : decode cX0_tryCopies 10 = .ok (.istore_n 2, 1) := by decide +kernel
theorem dX0_tryCopies_11 : decode cX0_tryCopies 11 = .ok (.iload_n 2, 1) := by decide +kernel
theorem dX0_tryCopies_12 : decode cX0_tryCopies 12 = .ok (.iconst 2, 1) := by decide +kernel
theorem dX0_tryCopies_13 : decode cX0_tryCopies 13 = .ok (.if_icmp .gt 23, 3) := by decide +kernel
theorem dX0_tryCopies_16 : decode cX0_tryCopies 16 = .ok (.iload_n 1, 1) := by decide +kernel
theorem dX0_tryCopies_17 : decode cX0_tryCopies 17 = .ok (.ifCond .ne 7, 3) := by decide +kernel
theorem dX0_tryCopies_20 : decode cX0_tryCopies 20 = .ok (.iload_n 2, 1) := by decide +kernel
theorem dX0_tryCopies_21 : decode cX0_tryCopies 21 = .ok (.ifCond .eq 9, 3) := by decide +kernel
theorem dX0_tryCopies_24 : decode cX0_tryCopies 24 = .ok (.aload_n 0, 1) := by decide +kernel
theorem dX0_tryCopies_25 : decode cX0_tryCopies 25 = .ok (.iload_n 1, 1) := by decide +kernel
theorem dX0_tryCopies_26 : decode cX0_tryCopies 26 = .ok (.iload_n 2, 1) := by decide +kernel
theorem dX0_tryCopies_27 : decode cX0_tryCopies 27 = .ok (.invokevirtual 45, 3) := by decide +kernel
theorem dX0_tryCopies_30 : decode cX0_tryCopies 30 = .ok (.iinc 2 1, 3) := by decide +kernel
theorem dX0_tryCopies_33 : decode cX0_tryCopies 33 = .ok (.goto (-22), 3) := by decide +kernel
theorem dX0_tryCopies_36 : decode cX0_tryCopies 36 = .ok (.iinc 1 1, 3) := by decide +kernel
theorem dX0_tryCopies_39 : decode cX0_tryCopies 39 = .ok (.goto (-36), 3) := by decide +kernel
theorem dX0_tryCopies_42 : decode cX0_tryCopies 42 = .ok (.return_, 1) := by decide +kernel
theorem dX0_tryRectangles_0 : decode cX0_tryRectangles 0 = .ok (.aload_n 0, 1) := by decide +kernel
theorem dX0_tryRectangles_1 : decode cX0_tryRectangles 1 = .ok (.getfield 35, 3) := by decide +kernel
theorem dX0_tryRectangles_4 : decode cX0_tryRectangles 4 = .ok (.bipush 12, 2) := by decide +kernel
theorem dX0_tryRectangles_6 : decode cX0_tryRectangles 6 = .ok (.irem, 1) := by decide +kernel
theorem dX0_tryRectangles_7 : decode cX0_tryRectangles 7 = .ok (.istore_n 3, 1) := by decide +kernel
theorem dX0_tryRectangles_8 : decode cX0_tryRectangles 8 = .ok (.aload_n 0, 1) := by decide +kernel
theorem dX0_tryRectangles_9 : decode cX0_tryRectangles 9 = .ok (.getfield 35, 3) := by decide +kernel
theorem dX0_tryRectangles_12 : decode cX0_tryRectangles 12 = .ok (.bipush 12, 2) := by decide +kernel
theorem dX0_tryRectangles_14 : decode cX0_tryRectangles 14 = .ok (.idiv, 1) := by decide +kernel
theorem dX0_tryRectangles_15 : decode cX0_tryRectangles 15 = .ok (.istore 4, 2) := by decide +kernel
theorem dX0_tryRectangles_17 : decode cX0_tryRectangles 17 = .ok (.iload 4, 2) := by decide +kernel
theorem dX0_tryRectangles_19 : decode cX0_tryRectangles 19 = .ok (.iload_n 1, 1) := by decide +kernel
theorem dX0_tryRectangles_20 : decode cX0_tryRectangles 20 = .ok (.iadd, 1) := by decide +kernel
theorem dX0_tryRectangles_21 : decode cX0_tryRectangles 21 = .ok (.ifCond .lt 9, 3) := by decide +kernel
theorem dX0_tryRectangles_24 : decode cX0_tryRectangles 24 = .ok (.iload_n 3, 1) := by decide +kernel
theorem dX0_tryRectangles_25 : decode cX0_tryRectangles 25 = .ok (.iload_n 2, 1) := by decide +kernel
theorem dX0_tryRectangles_26 : decode cX0_tryRectangles 26 = .ok (.iadd, 1) := by decide +kernel
theorem dX0_tryRectangles_27 : decode cX0_tryRectangles 27 = .ok (.ifCond .ge 4, 3) := by decide +kernel
theorem dX0_tryRectangles_30 : decode cX0_tryRectangles 30 = .ok (.return_, 1) := by decide +kernel
theorem dX0_tryRectangles_31 : decode cX0_tryRectangles 31 = .ok (.iload_n 1, 1) := by decide +kernel
theorem dX0_tryRectangles_32 : decode cX0_tryRectangles 32 = .ok (.bipush 12, 2) := by decide +kernel
theorem dX0_tryRectangles_34 : decode cX0_tryRectangles 34 = .ok (.imul, 1) := by decide +kernel
theorem dX0_tryRectangles_35 : decode cX0_tryRectangles 35 = .ok (.iload_n 2, 1) := by decide +kernel
theorem dX0_tryRectangles_36 : decode cX0_tryRectangles 36 = .ok (.iadd, 1) := by decide +kernel
theorem dX0_tryRectangles_37 : decode cX0_tryRectangles 37 = .ok (.istore 5, 2) := by decide +kernel
theorem dX0_tryRectangles_39 : decode cX0_tryRectangles 39 = .ok (.bipush 12, 2) := by decide +kernel
theorem dX0_tryRectangles_41 : decode cX0_tryRectangles 41 = .ok (.iload_n 3, 1) := by decide +kernel
theorem dX0_tryRectangles_42 : decode cX0_tryRectangles 42 = .ok (.iload_n 3, 1) := by decide +kernel
theorem dX0_tryRectangles_43 : decode cX0_tryRectangles 43 = .ok (.iload_n 2, 1) := by decide +kernel
theorem dX0_tryRectangles_44 : decode cX0_tryRectangles 44 = .ok (.iadd, 1) := by decide +kernel
theorem dX0_tryRectangles_45 : decode cX0_tryRectangles 45 = .ok (.invokestatic 52, 3) := by decide +kernel
theorem dX0_tryRectangles_48 : decode cX0_tryRectangles 48 = .ok (.isub, 1) := by decide +kernel
theorem dX0_tryRectangles_49 : decode cX0_tryRectangles 49 = .ok (.istore 6, 2) := by decide +kernel
theorem dX0_tryRectangles_51 : decode cX0_tryRectangles 51 = .ok (.bipush 8, 2) := by decide +kernel
theorem dX0_tryRectangles_53 : decode cX0_tryRectangles 53 = .ok (.iload 4, 2) := by decide +kernel
theorem dX0_tryRectangles_55 : decode cX0_tryRectangles 55 = .ok (.iload 4, 2) := by decide +kernel
theorem dX0_tryRectangles_57 : decode cX0_tryRectangles 57 = .ok (.iload_n 1, 1) := by decide +kernel
theorem dX0_tryRectangles_58 : decode cX0_tryRectangles 58 = .ok (.iadd, 1) := by decide +kernel
theorem dX0_tryRectangles_59 : decode cX0_tryRectangles 59 = .ok (.invokestatic 52, 3) := by decide +kernel
theorem dX0_tryRectangles_62 : decode cX0_tryRectangles 62 = .ok (.isub, 1) := by decide +kernel
theorem dX0_tryRectangles_63 : decode cX0_tryRectangles 63 = .ok (.istore 7, 2) := by decide +kernel
theorem dX0_tryRectangles_65 : decode cX0_tryRectangles 65 = .ok (.iload 5, 2) := by decide +kernel
theorem dX0_tryRectangles_67 : decode cX0_tryRectangles 67 = .ok (.ifCond .eq 20, 3) := by decide +kernel
theorem dX0_tryRectangles_70 : decode cX0_tryRectangles 70 = .ok (.iload 6, 2) := by decide +kernel
theorem dX0_tryRectangles_72 : decode cX0_tryRectangles 72 = .ok (.bipush 6, 2) := by decide +kernel
theorem dX0_tryRectangles_74 : decode cX0_tryRectangles 74 = .ok (.invokestatic 58, 3) := by decide +kernel
theorem dX0_tryRectangles_77 : decode cX0_tryRectangles 77 = .ok (.istore 6, 2) := by decide +kernel
theorem dX0_tryRectangles_79 : decode cX0_tryRectangles 79 = .ok (.iload 7, 2) := by decide +kernel
theorem dX0_tryRectangles_81 : decode cX0_tryRectangles 81 = .ok (.iconst 4, 1) := by decide +kernel
theorem dX0_tryRectangles_82 : decode cX0_tryRectangles 82 = .ok (.invokestatic 58, 3) := by decide +kernel
theorem dX0_tryRectangles_85 : decode cX0_tryRectangles 85 = .ok (.istore 7, 2) := by decide +kernel
theorem dX0_tryRectangles_87 : decode cX0_tryRectangles 87 = .ok (.aload_n 0, 1) := by decide +kernel
theorem dX0_tryRectangles_88 : decode cX0_tryRectangles 88 = .ok (.getfield 21, 3) := by decide +kernel
theorem dX0_tryRectangles_91 : decode cX0_tryRectangles 91 = .ok (.iconst 0, 1) := by decide +kernel
theorem dX0_tryRectangles_92 : decode cX0_tryRectangles 92 = .ok (.invokestatic 61, 3) := by decide +kernel
theorem dX0_tryRectangles_95 : decode cX0_tryRectangles 95 = .ok (.iconst 1, 1) := by decide +kernel
theorem dX0_tryRectangles_96 : decode cX0_tryRectangles 96 = .ok (.istore 8, 2) := by decide +kernel
theorem dX0_tryRectangles_98 : decode cX0_tryRectangles 98 = .ok (.iload 8, 2) := by decide +kernel
theorem dX0_tryRectangles_100 : decode cX0_tryRectangles 100 = .ok (.iload 6, 2) := by decide +kernel
theorem dX0_tryRectangles_102 : decode cX0_tryRectangles 102 = .ok (.if_icmp .gt 156, 3) := by decide +kernel
theorem dX0_tryRectangles_105 : decode cX0_tryRectangles 105 = .ok (.iconst 0, 1) := by decide +kernel
theorem dX0_tryRectangles_106 : decode cX0_tryRectangles 106 = .ok (.istore 9, 2) := by decide +kernel
theorem dX0_tryRectangles_108 : decode cX0_tryRectangles 108 = .ok (.iconst 1, 1) := by decide +kernel
theorem dX0_tryRectangles_109 : decode cX0_tryRectangles 109 = .ok (.istore 10, 2) := by decide +kernel
theorem dX0_tryRectangles_111 : decode cX0_tryRectangles 111 = .ok (.iload 10, 2) := by decide +kernel
theorem dX0_tryRectangles_113 : decode cX0_tryRectangles 113 = .ok (.iload 7, 2) := by decide +kernel
theorem dX0_tryRectangles_115 : decode cX0_tryRectangles 115 = .ok (.if_icmp .gt 137, 3) := by decide +kernel
theorem dX0_tryRectangles_118 : decode cX0_tryRectangles 118 = .ok (.aload_n 0, 1) := by decide +kernel
theorem dX0_tryRectangles_119 : decode cX0_tryRectangles 119 = .ok (.getfield 35, 3) := by decide +kernel
theorem dX0_tryRectangles_122 : decode cX0_tryRectangles 122 = .ok (.iload 10, 2) := by decide +kernel
theorem dX0_tryRectangles_124 : decode cX0_tryRectangles 124 = .ok (.iconst 1, 1) := by decide +kernel
theorem dX0_tryRectangles_125 : decode cX0_tryRectangles 125 = .ok (.isub, 1) := by decide +kernel
theorem dX0_tryRectangles_126 : decode cX0_tryRectangles 126 = .ok (.bipush 12, 2) := by decide +kernel
theorem dX0_tryRectangles_128 : decode cX0_tryRectangles 128 = .ok (.imul, 1) := by decide +kernel
theorem dX0_tryRectangles_129 : decode cX0_tryRectangles 129 = .ok (.iadd, 1) := by decide +kernel
theorem dX0_tryRectangles_130 : decode cX0_tryRectangles 130 = .ok (.iload 8, 2) := by decide +kernel
theorem dX0_tryRectangles_132 : decode cX0_tryRectangles 132 = .ok (.iadd, 1) := by decide +kernel
theorem dX0_tryRectangles_133 : decode cX0_tryRectangles 133 = .ok (.iconst 1, 1) := by decide +kernel
theorem dX0_tryRectangles_134 : decode cX0_tryRectangles 134 = .ok (.isub, 1) := by decide +kernel
theorem dX0_tryRectangles_135 : decode cX0_tryRectangles 135 = .ok (.istore 11, 2) := by decide +kernel
theorem dX0_tryRectangles_137 : decode cX0_tryRectangles 137 = .ok (.iload 5, 2) := by decide +kernel
theorem dX0_tryRectangles_139 : decode cX0_tryRectangles 139 = .ok (.ifCond .ne 15, 3) := by decide +kernel
theorem dX0_tryRectangles_142 : decode cX0_tryRectangles 142 = .ok (.aload_n 0, 1) := by decide +kernel
theorem dX0_tryRectangles_143 : decode cX0_tryRectangles 143 = .ok (.getfield 9, 3) := by decide +kernel
theorem dX0_tryRectangles_146 : decode cX0_tryRectangles 146 = .ok (.aload_n 0, 1) := by decide +kernel
theorem dX0_tryRectangles_147 : decode cX0_tryRectangles 147 = .ok (.getfield 35, 3) := by decide +kernel
theorem dX0_tryRectangles_150 : decode cX0_tryRectangles 150 = .ok (.iaload, 1) := by decide +kernel
theorem dX0_tryRectangles_151 : decode cX0_tryRectangles 151 = .ok (.goto 13, 3) := by decide +kernel
theorem dX0_tryRectangles_154 : decode cX0_tryRectangles 154 = .ok (.aload_n 0, 1) := by decide +kernel
theorem dX0_tryRectangles_155 : decode cX0_tryRectangles 155 = .ok (.getfield 15, 3) := by decide +kernel
theorem dX0_tryRectangles_158 : decode cX0_tryRectangles 158 = .ok (.iload 11, 2) := by decide +kernel
theorem dX0_tryRectangles_160 : decode cX0_tryRectangles 160 = .ok (.iload 5, 2) := by decide +kernel
theorem dX0_tryRectangles_162 : decode cX0_tryRectangles 162 = .ok (.iadd, 1) := by decide +kernel
theorem dX0_tryRectangles_163 : decode cX0_tryRectangles 163 = .ok (.iaload, 1) := by decide +kernel
theorem dX0_tryRectangles_164 : decode cX0_tryRectangles 164 = .ok (.istore 12, 2) := by decide +kernel
theorem dX0_tryRectangles_166 : decode cX0_tryRectangles 166 = .ok (.iload 9, 2) := by decide +kernel
theorem dX0_tryRectangles_168 : decode cX0_tryRectangles 168 = .ok (.aload_n 0, 1) := by decide +kernel
theorem dX0_tryRectangles_169 : decode cX0_tryRectangles 169 = .ok (.iload 11, 2) := by decide +kernel
theorem dX0_tryRectangles_171 : decode cX0_tryRectangles 171 = .ok (.iload 12, 2) := by decide +kernel
theorem dX0_tryRectangles_173 : decode cX0_tryRectangles 173 = .ok (.invokevirtual 67, 3) := by decide +kernel
theorem dX0_tryRectangles_176 : decode cX0_tryRectangles 176 = .ok (.iadd, 1) := by decide +kernel
theorem dX0_tryRectangles_177 : decode cX0_tryRectangles 177 = .ok (.istore 9, 2) := by decide +kernel
theorem dX0_tryRectangles_179 : decode cX0_tryRectangles 179 = .ok (.aload_n 0, 1) := by decide +kernel
theorem dX0_tryRectangles_180 : decode cX0_tryRectangles 180 = .ok (.getfield 21, 3) := by decide +kernel
theorem dX0_tryRectangles_183 : decode cX0_tryRectangles 183 = .ok (.iload 10, 2) := by decide +kernel
theorem dX0_tryRectangles_185 : decode cX0_tryRectangles 185 = .ok (.dup2, 1) := by decide +kernel
theorem dX0_tryRectangles_186 : decode cX0_tryRectangles 186 = .ok (.iaload, 1) := by decide +kernel
theorem dX0_tryRectangles_187 : decode cX0_tryRectangles 187 = .ok (.iload 9, 2) := by decide +kernel
theorem dX0_tryRectangles_189 : decode cX0_tryRectangles 189 = .ok (.iadd, 1) := by decide +kernel
theorem dX0_tryRectangles_190 : decode cX0_tryRectangles 190 = .ok (.iastore, 1) := by decide +kernel
theorem dX0_tryRectangles_191 : decode cX0_tryRectangles 191 = .ok (.iload 5, 2) := by decide +kernel
theorem dX0_tryRectangles_193 : decode cX0_tryRectangles 193 = .ok (.ifCond .ne 26, 3) := by decide +kernel
theorem dX0_tryRectangles_196 : decode cX0_tryRectangles 196 = .ok (.aload_n 0, 1) := by decide +kernel
theorem dX0_tryRectangles_197 : decode cX0_tryRectangles 197 = .ok (.bipush 102, 2) := by decide +kernel
theorem dX0_tryRectangles_199 : decode cX0_tryRectangles 199 = .ok (.aload_n 0, 1) := by decide +kernel
theorem dX0_tryRectangles_200 : decode cX0_tryRectangles 200 = .ok (.getfield 21, 3) := by decide +kernel
theorem dX0_tryRectangles_203 : decode cX0_tryRectangles 203 = .ok (.iload 10, 2) := by decide +kernel
theorem dX0_tryRectangles_205 : decode cX0_tryRectangles 205 = .ok (.iaload, 1) := by decide +kernel
theorem dX0_tryRectangles_206 : decode cX0_tryRectangles 206 = .ok (.iconst 5, 1) := by decide +kernel
theorem dX0_tryRectangles_207 : decode cX0_tryRectangles 207 = .ok (.iload 5, 2) := by decide +kernel
theorem dX0_tryRectangles_209 : decode cX0_tryRectangles 209 = .ok (.iload 8, 2) := by decide +kernel
theorem dX0_tryRectangles_211 : decode cX0_tryRectangles 211 = .ok (.iload 10, 2) := by decide +kernel
theorem dX0_tryRectangles_213 : decode cX0_tryRectangles 213 = .ok (.invokevirtual 70, 3) := by decide +kernel
theorem dX0_tryRectangles_216 : decode cX0_tryRectangles 216 = .ok (.goto 30, 3) := by decide +kernel
theorem dX0_tryRectangles_219 : decode cX0_tryRectangles 219 = .ok (.iload 8, 2) := by decide +kernel
theorem dX0_tryRectangles_221 : decode cX0_tryRectangles 221 = .ok (.iconst 1, 1) := by decide +kernel
theorem dX0_tryRectangles_222 : decode cX0_tryRectangles 222 = .ok (.if_icmp .le 24, 3) := by decide +kernel
theorem dX0_tryRectangles_225 : decode cX0_tryRectangles 225 = .ok (.aload_n 0, 1) := by decide +kernel
theorem dX0_tryRectangles_226 : decode cX0_tryRectangles 226 = .ok (.bipush 99, 2) := by decide +kernel
theorem dX0_tryRectangles_228 : decode cX0_tryRectangles 228 = .ok (.aload_n 0, 1) := by decide +kernel
theorem dX0_tryRectangles_229 : decode cX0_tryRectangles 229 = .ok (.getfield 21, 3) := by decide +kernel
theorem dX0_tryRectangles_232 : decode cX0_tryRectangles 232 = .ok (.iload 10, 2) := by decide +kernel
theorem dX0_tryRectangles_234 : decode cX0_tryRectangles 234 = .ok (.iaload, 1) := by decide +kernel
theorem dX0_tryRectangles_235 : decode cX0_tryRectangles 235 = .ok (.bipush 6, 2) := by decide +kernel
theorem dX0_tryRectangles_237 : decode cX0_tryRectangles 237 = .ok (.iload 5, 2) := by decide +kernel
theorem dX0_tryRectangles_239 : decode cX0_tryRectangles 239 = .ok (.iload 8, 2) := by decide +kernel
theorem dX0_tryRectangles_241 : decode cX0_tryRectangles 241 = .ok (.iload 10, 2) := by decide +kernel
theorem dX0_tryRectangles_243 : decode cX0_tryRectangles 243 = .ok (.invokevirtual 70, 3) := by decide +kernel
theorem dX0_tryRectangles_246 : decode cX0_tryRectangles 246 = .ok (.iinc 10 1, 3) := by decide +kernel
theorem dX0_tryRectangles_249 : decode cX0_tryRectangles 249 = .ok (.goto (-138), 3) := by decide +kernel
theorem dX0_tryRectangles_252 : decode cX0_tryRectangles 252 = .ok (.iinc 8 1, 3) := by decide +kernel
theorem dX0_tryRectangles_255 : decode cX0_tryRectangles 255 = .ok (.goto (-157), 3) := by decide +kernel
theorem dX0_tryRectangles_258 : decode cX0_tryRectangles 258 = .ok (.return_, 1) := by decide +kernel
theorem dX0_tryCells_0 : decode cX0_tryCells 0 = .ok (.bipush 12, 2) := by decide +kernel
theorem dX0_tryCells_2 : decode cX0_tryCells 2 = .ok (.aload_n 0, 1) := by decide +kernel
theorem dX0_tryCells_3 : decode cX0_tryCells 3 = .ok (.getfield 35, 3) := by decide +kernel
theorem dX0_tryCells_6 : decode cX0_tryCells 6 = .ok (.bipush 12, 2) := by decide +kernel
theorem dX0_tryCells_8 : decode cX0_tryCells 8 = .ok (.irem, 1) := by decide +kernel
theorem dX0_tryCells_9 : decode cX0_tryCells 9 = .ok (.isub, 1) := by decide +kernel
theorem dX0_tryCells_10 : decode cX0_tryCells 10 = .ok (.istore_n 1, 1) := by decide +kernel
theorem dX0_tryCells_11 : decode cX0_tryCells 11 = .ok (.iconst 0, 1) := by decide +kernel
theorem dX0_tryCells_12 : decode cX0_tryCells 12 = .ok (.istore_n 2, 1) := by decide +kernel
theorem dX0_tryCells_13 : decode cX0_tryCells 13 = .ok (.iload_n 2, 1) := by decide +kernel
theorem dX0_tryCells_14 : decode cX0_tryCells 14 = .ok (.iload_n 1, 1) := by decide +kernel
theorem dX0_tryCells_15 : decode cX0_tryCells 15 = .ok (.if_icmp .ge 22, 3) := by decide +kernel
theorem dX0_tryCells_18 : decode cX0_tryCells 18 = .ok (.aload_n 0, 1) := by decide +kernel
theorem dX0_tryCells_19 : decode cX0_tryCells 19 = .ok (.aload_n 0, 1) := by decide +kernel
theorem dX0_tryCells_20 : decode cX0_tryCells 20 = .ok (.getfield 35, 3) := by decide +kernel
theorem dX0_tryCells_23 : decode cX0_tryCells 23 = .ok (.iload_n 2, 1) := by decide +kernel
theorem dX0_tryCells_24 : decode cX0_tryCells 24 = .ok (.iadd, 1) := by decide +kernel
theorem dX0_tryCells_25 : decode cX0_tryCells 25 = .ok (.invokevirtual 38, 3) := by decide +kernel
theorem dX0_tryCells_28 : decode cX0_tryCells 28 = .ok (.ifCond .eq 9, 3) := by decide +kernel
theorem dX0_tryCells_31 : decode cX0_tryCells 31 = .ok (.iinc 2 1, 3) := by decide +kernel
theorem dX0_tryCells_34 : decode cX0_tryCells 34 = .ok (.goto (-21), 3) := by decide +kernel
theorem dX0_tryCells_37 : decode cX0_tryCells 37 = .ok (.aload_n 0, 1) := by decide +kernel
theorem dX0_tryCells_38 : decode cX0_tryCells 38 = .ok (.bipush 114, 2) := by decide +kernel
theorem dX0_tryCells_40 : decode cX0_tryCells 40 = .ok (.iload_n 2, 1) := by decide +kernel
theorem dX0_tryCells_41 : decode cX0_tryCells 41 = .ok (.iconst 2, 1) := by decide +kernel
theorem dX0_tryCells_42 : decode cX0_tryCells 42 = .ok (.iload_n 2, 1) := by decide +kernel
theorem dX0_tryCells_43 : decode cX0_tryCells 43 = .ok (.iadd, 1) := by decide +kernel
theorem dX0_tryCells_44 : decode cX0_tryCells 44 = .ok (.iconst 0, 1) := by decide +kernel
theorem dX0_tryCells_45 : decode cX0_tryCells 45 = .ok (.iload_n 2, 1) := by decide +kernel
theorem dX0_tryCells_46 : decode cX0_tryCells 46 = .ok (.iconst 1, 1) := by decide +kernel
theorem dX0_tryCells_47 : decode cX0_tryCells 47 = .ok (.invokevirtual 70, 3) := by decide +kernel
theorem dX0_tryCells_50 : decode cX0_tryCells 50 = .ok (.return_, 1) := by decide +kernel
theorem dX0_gainOf_0 : decode cX0_gainOf 0 = .ok (.aload_n 0, 1) := by decide +kernel
theorem dX0_gainOf_1 : decode cX0_gainOf 1 = .ok (.getfield 15, 3) := by decide +kernel
theorem dX0_gainOf_4 : decode cX0_gainOf 4 = .ok (.iload_n 1, 1) := by decide +kernel
theorem dX0_gainOf_5 : decode cX0_gainOf 5 = .ok (.iaload, 1) := by decide +kernel
theorem dX0_gainOf_6 : decode cX0_gainOf 6 = .ok (.aload_n 0, 1) := by decide +kernel
theorem dX0_gainOf_7 : decode cX0_gainOf 7 = .ok (.getfield 9, 3) := by decide +kernel
theorem dX0_gainOf_10 : decode cX0_gainOf 10 = .ok (.iload_n 1, 1) := by decide +kernel
theorem dX0_gainOf_11 : decode cX0_gainOf 11 = .ok (.iaload, 1) := by decide +kernel
theorem dX0_gainOf_12 : decode cX0_gainOf 12 = .ok (.if_icmp .ne 7, 3) := by decide +kernel
theorem dX0_gainOf_15 : decode cX0_gainOf 15 = .ok (.iconst 1, 1) := by decide +kernel
theorem dX0_gainOf_16 : decode cX0_gainOf 16 = .ok (.goto 4, 3) := by decide +kernel
theorem dX0_gainOf_19 : decode cX0_gainOf 19 = .ok (.iconst 0, 1) := by decide +kernel
theorem dX0_gainOf_20 : decode cX0_gainOf 20 = .ok (.istore_n 3, 1) := by decide +kernel
theorem dX0_gainOf_21 : decode cX0_gainOf 21 = .ok (.iload_n 2, 1) := by decide +kernel
theorem dX0_gainOf_22 : decode cX0_gainOf 22 = .ok (.aload_n 0, 1) := by decide +kernel
theorem dX0_gainOf_23 : decode cX0_gainOf 23 = .ok (.getfield 9, 3) := by decide +kernel
theorem dX0_gainOf_26 : decode cX0_gainOf 26 = .ok (.iload_n 1, 1) := by decide +kernel
theorem dX0_gainOf_27 : decode cX0_gainOf 27 = .ok (.iaload, 1) := by decide +kernel
theorem dX0_gainOf_28 : decode cX0_gainOf 28 = .ok (.if_icmp .ne 7, 3) := by decide +kernel
theorem dX0_gainOf_31 : decode cX0_gainOf 31 = .ok (.iconst 1, 1) := by decide +kernel
theorem dX0_gainOf_32 : decode cX0_gainOf 32 = .ok (.goto 4, 3) := by decide +kernel
theorem dX0_gainOf_35 : decode cX0_gainOf 35 = .ok (.iconst 0, 1) := by decide +kernel
theorem dX0_gainOf_36 : decode cX0_gainOf 36 = .ok (.istore 4, 2) := by decide +kernel
theorem dX0_gainOf_38 : decode cX0_gainOf 38 = .ok (.iload 4, 2) := by decide +kernel
theorem dX0_gainOf_40 : decode cX0_gainOf 40 = .ok (.iload_n 3, 1) := by decide +kernel
theorem dX0_gainOf_41 : decode cX0_gainOf 41 = .ok (.isub, 1) := by decide +kernel
theorem dX0_gainOf_42 : decode cX0_gainOf 42 = .ok (.ireturn, 1) := by decide +kernel
theorem dX0_consider_0 : decode cX0_consider 0 = .ok (.iload_n 2, 1) := by decide +kernel
theorem dX0_consider_1 : decode cX0_consider 1 = .ok (.aload_n 0, 1) := by decide +kernel
theorem dX0_consider_2 : decode cX0_consider 2 = .ok (.getfield 32, 3) := by decide +kernel
theorem dX0_consider_5 : decode cX0_consider 5 = .ok (.imul, 1) := by decide +kernel
theorem dX0_consider_6 : decode cX0_consider 6 = .ok (.aload_n 0, 1) := by decide +kernel
theorem dX0_consider_7 : decode cX0_consider 7 = .ok (.getfield 28, 3) := by decide +kernel
theorem dX0_consider_10 : decode cX0_consider 10 = .ok (.iload_n 3, 1) := by decide +kernel
theorem dX0_consider_11 : decode cX0_consider 11 = .ok (.imul, 1) := by decide +kernel
theorem dX0_consider_12 : decode cX0_consider 12 = .ok (.if_icmp .le 36, 3) := by decide +kernel
theorem dX0_consider_15 : decode cX0_consider 15 = .ok (.aload_n 0, 1) := by decide +kernel
theorem dX0_consider_16 : decode cX0_consider 16 = .ok (.iload_n 1, 1) := by decide +kernel
theorem dX0_consider_17 : decode cX0_consider 17 = .ok (.putfield 24, 3) := by decide +kernel
theorem dX0_consider_20 : decode cX0_consider 20 = .ok (.aload_n 0, 1) := by decide +kernel
theorem dX0_consider_21 : decode cX0_consider 21 = .ok (.iload_n 2, 1) := by decide +kernel
theorem dX0_consider_22 : decode cX0_consider 22 = .ok (.putfield 28, 3) := by decide +kernel
theorem dX0_consider_25 : decode cX0_consider 25 = .ok (.aload_n 0, 1) := by decide +kernel
theorem dX0_consider_26 : decode cX0_consider 26 = .ok (.iload_n 3, 1) := by decide +kernel
theorem dX0_consider_27 : decode cX0_consider 27 = .ok (.putfield 32, 3) := by decide +kernel
theorem dX0_consider_30 : decode cX0_consider 30 = .ok (.aload_n 0, 1) := by decide +kernel
theorem dX0_consider_31 : decode cX0_consider 31 = .ok (.iload 4, 2) := by decide +kernel
theorem dX0_consider_33 : decode cX0_consider 33 = .ok (.putfield 74, 3) := by decide +kernel
theorem dX0_consider_36 : decode cX0_consider 36 = .ok (.aload_n 0, 1) := by decide +kernel
theorem dX0_consider_37 : decode cX0_consider 37 = .ok (.iload 5, 2) := by decide +kernel
theorem dX0_consider_39 : decode cX0_consider 39 = .ok (.putfield 77, 3) := by decide +kernel
theorem dX0_consider_42 : decode cX0_consider 42 = .ok (.aload_n 0, 1) := by decide +kernel
theorem dX0_consider_43 : decode cX0_consider 43 = .ok (.iload 6, 2) := by decide +kernel
theorem dX0_consider_45 : decode cX0_consider 45 = .ok (.putfield 80, 3) := by decide +kernel
theorem dX0_consider_48 : decode cX0_consider 48 = .ok (.return_, 1) := by decide +kernel
theorem dX0_apply_0 : decode cX0_apply 0 = .ok (.aload_n 0, 1) := by decide +kernel
theorem dX0_apply_1 : decode cX0_apply 1 = .ok (.getfield 24, 3) := by decide +kernel
theorem dX0_apply_4 : decode cX0_apply 4 = .ok (.bipush 32, 2) := by decide +kernel
theorem dX0_apply_6 : decode cX0_apply 6 = .ok (.if_icmp .ne 4, 3) := by decide +kernel
theorem dX0_apply_9 : decode cX0_apply 9 = .ok (.return_, 1) := by decide +kernel
theorem dX0_apply_10 : decode cX0_apply 10 = .ok (.aload_n 0, 1) := by decide +kernel
theorem dX0_apply_11 : decode cX0_apply 11 = .ok (.getfield 15, 3) := by decide +kernel
theorem dX0_apply_14 : decode cX0_apply 14 = .ok (.iconst 0, 1) := by decide +kernel
theorem dX0_apply_15 : decode cX0_apply 15 = .ok (.aload_n 0, 1) := by decide +kernel
theorem dX0_apply_16 : decode cX0_apply 16 = .ok (.getfield 18, 3) := by decide +kernel
theorem dX0_apply_19 : decode cX0_apply 19 = .ok (.iconst 0, 1) := by decide +kernel
theorem dX0_apply_20 : decode cX0_apply 20 = .ok (.bipush 96, 2) := by decide +kernel
theorem dX0_apply_22 : decode cX0_apply 22 = .ok (.invokestatic 83, 3) := by decide +kernel
theorem dX0_apply_25 : decode cX0_apply 25 = .ok (.iconst 0, 1) := by decide +kernel
theorem dX0_apply_26 : decode cX0_apply 26 = .ok (.istore_n 1, 1) := by decide +kernel
theorem dX0_apply_27 : decode cX0_apply 27 = .ok (.iload_n 1, 1) := by decide +kernel
theorem dX0_apply_28 : decode cX0_apply 28 = .ok (.aload_n 0, 1) := by decide +kernel
theorem dX0_apply_29 : decode cX0_apply 29 = .ok (.getfield 80, 3) := by decide +kernel
theorem dX0_apply_32 : decode cX0_apply 32 = .ok (.if_icmp .ge 48, 3) := by decide +kernel
theorem dX0_apply_35 : decode cX0_apply 35 = .ok (.iconst 0, 1) := by decide +kernel
theorem dX0_apply_36 : decode cX0_apply 36 = .ok (.istore_n 2, 1) := by decide +kernel
theorem dX0_apply_37 : decode cX0_apply 37 = .ok (.iload_n 2, 1) := by decide +kernel
theorem dX0_apply_38 : decode cX0_apply 38 = .ok (.aload_n 0, 1) := by decide +kernel
theorem dX0_apply_39 : decode cX0_apply 39 = .ok (.getfield 77, 3) := by decide +kernel
theorem dX0_apply_42 : decode cX0_apply 42 = .ok (.if_icmp .ge 32, 3) := by decide +kernel
theorem dX0_apply_45 : decode cX0_apply 45 = .ok (.aload_n 0, 1) := by decide +kernel
theorem dX0_apply_46 : decode cX0_apply 46 = .ok (.getfield 35, 3) := by decide +kernel
theorem dX0_apply_49 : decode cX0_apply 49 = .ok (.iload_n 1, 1) := by decide +kernel
theorem dX0_apply_50 : decode cX0_apply 50 = .ok (.bipush 12, 2) := by decide +kernel
theorem dX0_apply_52 : decode cX0_apply 52 = .ok (.imul, 1) := by decide +kernel
theorem dX0_apply_53 : decode cX0_apply 53 = .ok (.iadd, 1) := by decide +kernel
theorem dX0_apply_54 : decode cX0_apply 54 = .ok (.iload_n 2, 1) := by decide +kernel
theorem dX0_apply_55 : decode cX0_apply 55 = .ok (.iadd, 1) := by decide +kernel
theorem dX0_apply_56 : decode cX0_apply 56 = .ok (.istore_n 3, 1) := by decide +kernel
theorem dX0_apply_57 : decode cX0_apply 57 = .ok (.aload_n 0, 1) := by decide +kernel
theorem dX0_apply_58 : decode cX0_apply 58 = .ok (.getfield 15, 3) := by decide +kernel
theorem dX0_apply_61 : decode cX0_apply 61 = .ok (.iload_n 3, 1) := by decide +kernel
theorem dX0_apply_62 : decode cX0_apply 62 = .ok (.aload_n 0, 1) := by decide +kernel
theorem dX0_apply_63 : decode cX0_apply 63 = .ok (.iload_n 3, 1) := by decide +kernel
theorem dX0_apply_64 : decode cX0_apply 64 = .ok (.invokevirtual 89, 3) := by decide +kernel
theorem dX0_apply_67 : decode cX0_apply 67 = .ok (.iastore, 1) := by decide +kernel
theorem dX0_apply_68 : decode cX0_apply 68 = .ok (.iinc 2 1, 3) := by decide +kernel
theorem dX0_apply_71 : decode cX0_apply 71 = .ok (.goto (-34), 3) := by decide +kernel
theorem dX0_apply_74 : decode cX0_apply 74 = .ok (.iinc 1 1, 3) := by decide +kernel
theorem dX0_apply_77 : decode cX0_apply 77 = .ok (.goto (-50), 3) := by decide +kernel
theorem dX0_apply_80 : decode cX0_apply 80 = .ok (.return_, 1) := by decide +kernel
theorem dX0_colourAfter_0 : decode cX0_colourAfter 0 = .ok (.aload_n 0, 1) := by decide +kernel
theorem dX0_colourAfter_1 : decode cX0_colourAfter 1 = .ok (.getfield 24, 3) := by decide +kernel
theorem dX0_colourAfter_4 : decode cX0_colourAfter 4 = .ok (.bipush 99, 2) := by decide +kernel
theorem dX0_colourAfter_6 : decode cX0_colourAfter 6 = .ok (.if_icmp .ne 15, 3) := by decide +kernel
theorem dX0_colourAfter_9 : decode cX0_colourAfter 9 = .ok (.aload_n 0, 1) := by decide +kernel
theorem dX0_colourAfter_10 : decode cX0_colourAfter 10 = .ok (.getfield 18, 3) := by decide +kernel
theorem dX0_colourAfter_13 : decode cX0_colourAfter 13 = .ok (.iload_n 1, 1) := by decide +kernel
theorem dX0_colourAfter_14 : decode cX0_colourAfter 14 = .ok (.aload_n 0, 1) := by decide +kernel
theorem dX0_colourAfter_15 : decode cX0_colourAfter 15 = .ok (.getfield 74, 3) := by decide +kernel
theorem dX0_colourAfter_18 : decode cX0_colourAfter 18 = .ok (.iadd, 1) := by decide +kernel
theorem dX0_colourAfter_19 : decode cX0_colourAfter 19 = .ok (.iaload, 1) := by decide +kernel
theorem dX0_colourAfter_20 : decode cX0_colourAfter 20 = .ok (.ireturn, 1) := by decide +kernel
theorem dX0_colourAfter_21 : decode cX0_colourAfter 21 = .ok (.aload_n 0, 1) := by decide +kernel
theorem dX0_colourAfter_22 : decode cX0_colourAfter 22 = .ok (.getfield 24, 3) := by decide +kernel
theorem dX0_colourAfter_25 : decode cX0_colourAfter 25 = .ok (.bipush 102, 2) := by decide +kernel
theorem dX0_colourAfter_27 : decode cX0_colourAfter 27 = .ok (.if_icmp .ne 15, 3) := by decide +kernel
theorem dX0_colourAfter_30 : decode cX0_colourAfter 30 = .ok (.aload_n 0, 1) := by decide +kernel
theorem dX0_colourAfter_31 : decode cX0_colourAfter 31 = .ok (.getfield 9, 3) := by decide +kernel
theorem dX0_colourAfter_34 : decode cX0_colourAfter 34 = .ok (.aload_n 0, 1) := by decide +kernel
theorem dX0_colourAfter_35 : decode cX0_colourAfter 35 = .ok (.getfield 35, 3) := by decide +kernel
theorem dX0_colourAfter_38 : decode cX0_colourAfter 38 = .ok (.iaload, 1) := by decide +kernel
theorem dX0_colourAfter_39 : decode cX0_colourAfter 39 = .ok (.goto 9, 3) := by decide +kernel
theorem dX0_colourAfter_42 : decode cX0_colourAfter 42 = .ok (.aload_n 0, 1) := by decide +kernel
theorem dX0_colourAfter_43 : decode cX0_colourAfter 43 = .ok (.getfield 9, 3) := by decide +kernel
theorem dX0_colourAfter_46 : decode cX0_colourAfter 46 = .ok (.iload_n 1, 1) := by decide +kernel
theorem dX0_colourAfter_47 : decode cX0_colourAfter 47 = .ok (.iaload, 1) := by decide +kernel
theorem dX0_colourAfter_48 : decode cX0_colourAfter 48 = .ok (.ireturn, 1) := by decide +kernel
theorem dX1_init_0 : decode cX1_init 0 = .ok (.aload_n 0, 1) := by decide +kernel
theorem dX1_init_1 : decode cX1_init 1 = .ok (.invokespecial 3, 3) := by decide +kernel
theorem dX1_init_4 : decode cX1_init 4 = .ok (.aload_n 0, 1) := by decide +kernel
theorem dX1_init_5 : decode cX1_init 5 = .ok (.aload_n 1, 1) := by decide +kernel
theorem dX1_init_6 : decode cX1_init 6 = .ok (.putfield 9, 3) := by decide +kernel
theorem dX1_init_9 : decode cX1_init 9 = .ok (.aload_n 0, 1) := by decide +kernel
theorem dX1_init_10 : decode cX1_init 10 = .ok (.iload_n 2, 1) := by decide +kernel
theorem dX1_init_11 : decode cX1_init 11 = .ok (.putfield 15, 3) := by decide +kernel
theorem dX1_init_14 : decode cX1_init 14 = .ok (.aload_n 0, 1) := by decide +kernel
theorem dX1_init_15 : decode cX1_init 15 = .ok (.new 19, 3) := by decide +kernel
theorem dX1_init_18 : decode cX1_init 18 = .ok (.dup, 1) := by decide +kernel
theorem dX1_init_19 : decode cX1_init 19 = .ok (.aload_n 1, 1) := by decide +kernel
theorem dX1_init_20 : decode cX1_init 20 = .ok (.getfield 21, 3) := by decide +kernel
theorem dX1_init_23 : decode cX1_init 23 = .ok (.invokespecial 27, 3) := by decide +kernel
theorem dX1_init_26 : decode cX1_init 26 = .ok (.putfield 30, 3) := by decide +kernel
theorem dX1_init_29 : decode cX1_init 29 = .ok (.aload_n 0, 1) := by decide +kernel
theorem dX1_init_30 : decode cX1_init 30 = .ok (.aload_n 0, 1) := by decide +kernel
theorem dX1_init_31 : decode cX1_init 31 = .ok (.getfield 30, 3) := by decide +kernel
theorem dX1_init_34 : decode cX1_init 34 = .ok (.getfield 34, 3) := by decide +kernel
theorem dX1_init_37 : decode cX1_init 37 = .ok (.putfield 37, 3) := by decide +kernel
theorem dX1_init_40 : decode cX1_init 40 = .ok (.return_, 1) := by decide +kernel
theorem dX1_countBehind_0 : decode cX1_countBehind 0 = .ok (.iconst 0, 1) := by decide +kernel
theorem dX1_countBehind_1 : decode cX1_countBehind 1 = .ok (.istore_n 1, 1) := by decide +kernel
theorem dX1_countBehind_2 : decode cX1_countBehind 2 = .ok (.iconst 0, 1) := by decide +kernel
theorem dX1_countBehind_3 : decode cX1_countBehind 3 = .ok (.istore_n 2, 1) := by decide +kernel
theorem dX1_countBehind_4 : decode cX1_countBehind 4 = .ok (.iload_n 2, 1) := by decide +kernel
theorem dX1_countBehind_5 : decode cX1_countBehind 5 = .ok (.bipush 96, 2) := by decide +kernel
theorem dX1_countBehind_7 : decode cX1_countBehind 7 = .ok (.if_icmp .ge 23, 3) := by decide +kernel
theorem dX1_countBehind_10 : decode cX1_countBehind 10 = .ok (.aload_n 0, 1) := by decide +kernel
theorem dX1_countBehind_11 : decode cX1_countBehind 11 = .ok (.getfield 30, 3) := by decide +kernel
theorem dX1_countBehind_14 : decode cX1_countBehind 14 = .ok (.iload_n 2, 1) := by decide +kernel
theorem dX1_countBehind_15 : decode cX1_countBehind 15 = .ok (.invokevirtual 38, 3) := by decide +kernel
theorem dX1_countBehind_18 : decode cX1_countBehind 18 = .ok (.ifCond .eq 6, 3) := by decide +kernel
theorem dX1_countBehind_21 : decode cX1_countBehind 21 = .ok (.iinc 1 1, 3) := by decide +kernel
theorem dX1_countBehind_24 : decode cX1_countBehind 24 = .ok (.iinc 2 1, 3) := by decide +kernel
theorem dX1_countBehind_27 : decode cX1_countBehind 27 = .ok (.goto (-23), 3) := by decide +kernel
theorem dX1_countBehind_30 : decode cX1_countBehind 30 = .ok (.iload_n 1, 1) := by decide +kernel
theorem dX1_countBehind_31 : decode cX1_countBehind 31 = .ok (.ireturn, 1) := by decide +kernel
theorem dX1_endGuess_0 : decode cX1_endGuess 0 = .ok (.aload_n 0, 1) := by decide +kernel
theorem dX1_endGuess_1 : decode cX1_endGuess 1 = .ok (.dup, 1) := by decide +kernel
theorem dX1_endGuess_2 : decode cX1_endGuess 2 = .ok (.getfield 42, 3) := by decide +kernel
theorem dX1_endGuess_5 : decode cX1_endGuess 5 = .ok (.iconst 1, 1) := by decide +kernel
theorem dX1_endGuess_6 : decode cX1_endGuess 6 = .ok (.iadd, 1) := by decide +kernel
theorem dX1_endGuess_7 : decode cX1_endGuess 7 = .ok (.putfield 42, 3) := by decide +kernel
theorem dX1_endGuess_10 : decode cX1_endGuess 10 = .ok (.iload_n 1, 1) := by decide +kernel
theorem dX1_endGuess_11 : decode cX1_endGuess 11 = .ok (.ifCond .eq 13, 3) := by decide +kernel
theorem dX1_endGuess_14 : decode cX1_endGuess 14 = .ok (.aload_n 0, 1) := by decide +kernel
theorem dX1_endGuess_15 : decode cX1_endGuess 15 = .ok (.dup, 1) := by decide +kernel
theorem dX1_endGuess_16 : decode cX1_endGuess 16 = .ok (.getfield 45, 3) := by decide +kernel
theorem dX1_endGuess_19 : decode cX1_endGuess 19 = .ok (.iconst 1, 1) := by decide +kernel
theorem dX1_endGuess_20 : decode cX1_endGuess 20 = .ok (.iadd, 1) := by decide +kernel
theorem dX1_endGuess_21 : decode cX1_endGuess 21 = .ok (.putfield 45, 3) := by decide +kernel
theorem dX1_endGuess_24 : decode cX1_endGuess 24 = .ok (.return_, 1) := by decide +kernel
theorem dX2_init_0 : decode cX2_init 0 = .ok (.aload_n 0, 1) := by decide +kernel
theorem dX2_init_1 : decode cX2_init 1 = .ok (.invokespecial 3, 3) := by decide +kernel
theorem dX2_init_4 : decode cX2_init 4 = .ok (.aload_n 0, 1) := by decide +kernel
theorem dX2_init_5 : decode cX2_init 5 = .ok (.iconst (-1), 1) := by decide +kernel
theorem dX2_init_6 : decode cX2_init 6 = .ok (.putfield 9, 3) := by decide +kernel
theorem dX2_init_9 : decode cX2_init 9 = .ok (.return_, 1) := by decide +kernel
theorem dX2_hold_0 : decode cX2_hold 0 = .ok (.aload_n 0, 1) := by decide +kernel
theorem dX2_hold_1 : decode cX2_hold 1 = .ok (.iload_n 1, 1) := by decide +kernel
theorem dX2_hold_2 : decode cX2_hold 2 = .ok (.putfield 9, 3) := by decide +kernel
theorem dX2_hold_5 : decode cX2_hold 5 = .ok (.aload_n 0, 1) := by decide +kernel
theorem dX2_hold_6 : decode cX2_hold 6 = .ok (.iload_n 2, 1) := by decide +kernel
theorem dX2_hold_7 : decode cX2_hold 7 = .ok (.putfield 15, 3) := by decide +kernel
theorem dX2_hold_10 : decode cX2_hold 10 = .ok (.aload_n 0, 1) := by decide +kernel
theorem dX2_hold_11 : decode cX2_hold 11 = .ok (.iload_n 3, 1) := by decide +kernel
theorem dX2_hold_12 : decode cX2_hold 12 = .ok (.putfield 18, 3) := by decide +kernel
theorem dX2_hold_15 : decode cX2_hold 15 = .ok (.return_, 1) := by decide +kernel
theorem dX3_init_0 : decode cX3_init 0 = .ok (.aload_n 0, 1) := by decide +kernel
theorem dX3_init_1 : decode cX3_init 1 = .ok (.invokespecial 1, 3) := by decide +kernel
theorem dX3_init_4 : decode cX3_init 4 = .ok (.aload_n 0, 1) := by decide +kernel
theorem dX3_init_5 : decode cX3_init 5 = .ok (.aload_n 1, 1) := by decide +kernel
theorem dX3_init_6 : decode cX3_init 6 = .ok (.putfield 7, 3) := by decide +kernel
theorem dX3_init_9 : decode cX3_init 9 = .ok (.aload_n 0, 1) := by decide +kernel
theorem dX3_init_10 : decode cX3_init 10 = .ok (.aload_n 2, 1) := by decide +kernel
theorem dX3_init_11 : decode cX3_init 11 = .ok (.putfield 13, 3) := by decide +kernel
theorem dX3_init_14 : decode cX3_init 14 = .ok (.aload_n 0, 1) := by decide +kernel
theorem dX3_init_15 : decode cX3_init 15 = .ok (.iload_n 3, 1) := by decide +kernel
theorem dX3_init_16 : decode cX3_init 16 = .ok (.putfield 17, 3) := by decide +kernel
theorem dX3_init_19 : decode cX3_init 19 = .ok (.aload_n 0, 1) := by decide +kernel
theorem dX3_init_20 : decode cX3_init 20 = .ok (.iload 4, 2) := by decide +kernel
theorem dX3_init_22 : decode cX3_init 22 = .ok (.putfield 21, 3) := by decide +kernel
theorem dX3_init_25 : decode cX3_init 25 = .ok (.return_, 1) := by decide +kernel
theorem dX4_init_0 : decode cX4_init 0 = .ok (.aload_n 0, 1) := by decide +kernel
theorem dX4_init_1 : decode cX4_init 1 = .ok (.invokespecial 3, 3) := by decide +kernel
theorem dX4_init_4 : decode cX4_init 4 = .ok (.aload_n 0, 1) := by decide +kernel
theorem dX4_init_5 : decode cX4_init 5 = .ok (.sipush 5760, 3) := by decide +kernel
theorem dX4_init_8 : decode cX4_init 8 = .ok (.newarray .int, 2) := by decide +kernel
theorem dX4_init_10 : decode cX4_init 10 = .ok (.putfield 9, 3) := by decide +kernel
theorem dX4_init_13 : decode cX4_init 13 = .ok (.aload_n 0, 1) := by decide +kernel
theorem dX4_init_14 : decode cX4_init 14 = .ok (.sipush 5760, 3) := by decide +kernel
theorem dX4_init_17 : decode cX4_init 17 = .ok (.newarray .int, 2) := by decide +kernel
theorem dX4_init_19 : decode cX4_init 19 = .ok (.putfield 15, 3) := by decide +kernel
theorem dX4_init_22 : decode cX4_init 22 = .ok (.aload_n 0, 1) := by decide +kernel
theorem dX4_init_23 : decode cX4_init 23 = .ok (.bipush 61, 2) := by decide +kernel
theorem dX4_init_25 : decode cX4_init 25 = .ok (.newarray .int, 2) := by decide +kernel
theorem dX4_init_27 : decode cX4_init 27 = .ok (.putfield 18, 3) := by decide +kernel
theorem dX4_init_30 : decode cX4_init 30 = .ok (.aload_n 0, 1) := by decide +kernel
theorem dX4_init_31 : decode cX4_init 31 = .ok (.bipush 96, 2) := by decide +kernel
theorem dX4_init_33 : decode cX4_init 33 = .ok (.newarray .int, 2) := by decide +kernel
theorem dX4_init_35 : decode cX4_init 35 = .ok (.putfield 21, 3) := by decide +kernel
theorem dX4_init_38 : decode cX4_init 38 = .ok (.aload_n 0, 1) := by decide +kernel
theorem dX4_init_39 : decode cX4_init 39 = .ok (.bipush 96, 2) := by decide +kernel
theorem dX4_init_41 : decode cX4_init 41 = .ok (.newarray .int, 2) := by decide +kernel
theorem dX4_init_43 : decode cX4_init 43 = .ok (.putfield 24, 3) := by decide +kernel
theorem dX4_init_46 : decode cX4_init 46 = .ok (.return_, 1) := by decide +kernel
theorem dX4_begin_0 : decode cX4_begin 0 = .ok (.aload_n 0, 1) := by decide +kernel
theorem dX4_begin_1 : decode cX4_begin 1 = .ok (.iconst 0, 1) := by decide +kernel
theorem dX4_begin_2 : decode cX4_begin 2 = .ok (.putfield 27, 3) := by decide +kernel
theorem dX4_begin_5 : decode cX4_begin 5 = .ok (.aload_n 0, 1) := by decide +kernel
theorem dX4_begin_6 : decode cX4_begin 6 = .ok (.iconst 0, 1) := by decide +kernel
theorem dX4_begin_7 : decode cX4_begin 7 = .ok (.putfield 31, 3) := by decide +kernel
theorem dX4_begin_10 : decode cX4_begin 10 = .ok (.aload_n 0, 1) := by decide +kernel
theorem dX4_begin_11 : decode cX4_begin 11 = .ok (.getfield 21, 3) := by decide +kernel
theorem dX4_begin_14 : decode cX4_begin 14 = .ok (.iconst 0, 1) := by decide +kernel
theorem dX4_begin_15 : decode cX4_begin 15 = .ok (.invokestatic 34, 3) := by decide +kernel
theorem dX4_begin_18 : decode cX4_begin 18 = .ok (.return_, 1) := by decide +kernel
theorem dX4_isFull_0 : decode cX4_isFull 0 = .ok (.aload_n 0, 1) := by decide +kernel
theorem dX4_isFull_1 : decode cX4_isFull 1 = .ok (.getfield 27, 3) := by decide +kernel
theorem dX4_isFull_4 : decode cX4_isFull 4 = .ok (.bipush 60, 2) := by decide +kernel
theorem dX4_isFull_6 : decode cX4_isFull 6 = .ok (.if_icmp .lt 7, 3) := by decide +kernel
theorem dX4_isFull_9 : decode cX4_isFull 9 = .ok (.iconst 1, 1) := by decide +kernel
theorem dX4_isFull_10 : decode cX4_isFull 10 = .ok (.goto 4, 3) := by decide +kernel
theorem dX4_isFull_13 : decode cX4_isFull 13 = .ok (.iconst 0, 1) := by decide +kernel
theorem dX4_isFull_14 : decode cX4_isFull 14 = .ok (.ireturn, 1) := by decide +kernel
theorem dX4_look_0 : decode cX4_look 0 = .ok (.aload_n 0, 1) := by decide +kernel
theorem dX4_look_1 : decode cX4_look 1 = .ok (.getfield 21, 3) := by decide +kernel
theorem dX4_look_4 : decode cX4_look 4 = .ok (.iload_n 1, 1) := by decide +kernel
theorem dX4_look_5 : decode cX4_look 5 = .ok (.iaload, 1) := by decide +kernel
theorem dX4_look_6 : decode cX4_look 6 = .ok (.iload_n 2, 1) := by decide +kernel
theorem dX4_look_7 : decode cX4_look 7 = .ok (.if_icmp .eq 52, 3) := by decide +kernel
theorem dX4_look_10 : decode cX4_look 10 = .ok (.aload_n 0, 1) := by decide +kernel
theorem dX4_look_11 : decode cX4_look 11 = .ok (.getfield 31, 3) := by decide +kernel
theorem dX4_look_14 : decode cX4_look 14 = .ok (.aload_n 0, 1) := by decide +kernel
theorem dX4_look_15 : decode cX4_look 15 = .ok (.getfield 9, 3) := by decide +kernel
theorem dX4_look_18 : decode cX4_look 18 = .ok (.arraylength, 1) := by decide +kernel
theorem dX4_look_19 : decode cX4_look 19 = .ok (.if_icmp .ge 40, 3) := by decide +kernel
theorem dX4_look_22 : decode cX4_look 22 = .ok (.aload_n 0, 1) := by decide +kernel
theorem dX4_look_23 : decode cX4_look 23 = .ok (.getfield 9, 3) := by decide +kernel
theorem dX4_look_26 : decode cX4_look 26 = .ok (.aload_n 0, 1) := by decide +kernel
theorem dX4_look_27 : decode cX4_look 27 = .ok (.getfield 31, 3) := by decide +kernel
theorem dX4_look_30 : decode cX4_look 30 = .ok (.iload_n 1, 1) := by decide +kernel
theorem dX4_look_31 : decode cX4_look 31 = .ok (.iastore, 1) := by decide +kernel
theorem dX4_look_32 : decode cX4_look 32 = .ok (.aload_n 0, 1) := by decide +kernel
theorem dX4_look_33 : decode cX4_look 33 = .ok (.getfield 15, 3) := by decide +kernel
theorem dX4_look_36 : decode cX4_look 36 = .ok (.aload_n 0, 1) := by decide +kernel
theorem dX4_look_37 : decode cX4_look 37 = .ok (.getfield 31, 3) := by decide +kernel
theorem dX4_look_40 : decode cX4_look 40 = .ok (.iload_n 2, 1) := by decide +kernel
theorem dX4_look_41 : decode cX4_look 41 = .ok (.iastore, 1) := by decide +kernel
theorem dX4_look_42 : decode cX4_look 42 = .ok (.aload_n 0, 1) := by decide +kernel
theorem dX4_look_43 : decode cX4_look 43 = .ok (.dup, 1) := by decide +kernel
theorem dX4_look_44 : decode cX4_look 44 = .ok (.getfield 31, 3) := by decide +kernel
theorem dX4_look_47 : decode cX4_look 47 = .ok (.iconst 1, 1) := by decide +kernel
theorem dX4_look_48 : decode cX4_look 48 = .ok (.iadd, 1) := by decide +kernel
theorem dX4_look_49 : decode cX4_look 49 = .ok (.putfield 31, 3) := by decide +kernel
theorem dX4_look_52 : decode cX4_look 52 = .ok (.aload_n 0, 1) := by decide +kernel
theorem dX4_look_53 : decode cX4_look 53 = .ok (.getfield 21, 3) := by decide +kernel
theorem dX4_look_56 : decode cX4_look 56 = .ok (.iload_n 1, 1) := by decide +kernel
theorem dX4_look_57 : decode cX4_look 57 = .ok (.iload_n 2, 1) := by decide +kernel
theorem dX4_look_58 : decode cX4_look 58 = .ok (.iastore, 1) := by decide +kernel
theorem dX4_look_59 : decode cX4_look 59 = .ok (.return_, 1) := by decide +kernel
theorem dX4_endTick_0 : decode cX4_endTick 0 = .ok (.aload_n 0, 1) := by decide +kernel
theorem dX4_endTick_1 : decode cX4_endTick 1 = .ok (.getfield 27, 3) := by decide +kernel
theorem dX4_endTick_4 : decode cX4_endTick 4 = .ok (.bipush 60, 2) := by decide +kernel
theorem dX4_endTick_6 : decode cX4_endTick 6 = .ok (.if_icmp .ge 26, 3) := by decide +kernel
theorem dX4_endTick_9 : decode cX4_endTick 9 = .ok (.aload_n 0, 1) := by decide +kernel
theorem dX4_endTick_10 : decode cX4_endTick 10 = .ok (.dup, 1) := by decide +kernel
theorem dX4_endTick_11 : decode cX4_endTick 11 = .ok (.getfield 27, 3) := by decide +kernel
theorem dX4_endTick_14 : decode cX4_endTick 14 = .ok (.iconst 1, 1) := by decide +kernel
theorem dX4_endTick_15 : decode cX4_endTick 15 = .ok (.iadd, 1) := by decide +kernel
theorem dX4_endTick_16 : decode cX4_endTick 16 = .ok (.putfield 27, 3) := by decide +kernel
theorem dX4_endTick_19 : decode cX4_endTick 19 = .ok (.aload_n 0, 1) := by decide +kernel
theorem dX4_endTick_20 : decode cX4_endTick 20 = .ok (.getfield 18, 3) := by decide +kernel
theorem dX4_endTick_23 : decode cX4_endTick 23 = .ok (.aload_n 0, 1) := by decide +kernel
theorem dX4_endTick_24 : decode cX4_endTick 24 = .ok (.getfield 27, 3) := by decide +kernel
theorem dX4_endTick_27 : decode cX4_endTick 27 = .ok (.aload_n 0, 1) := by decide +kernel
theorem dX4_endTick_28 : decode cX4_endTick 28 = .ok (.getfield 31, 3) := by decide +kernel
theorem dX4_endTick_31 : decode cX4_endTick 31 = .ok (.iastore, 1) := by decide +kernel
theorem dX4_endTick_32 : decode cX4_endTick 32 = .ok (.return_, 1) := by decide +kernel
theorem dX4_play_0 : decode cX4_play 0 = .ok (.aload_n 0, 1) := by decide +kernel
theorem dX4_play_1 : decode cX4_play 1 = .ok (.getfield 24, 3) := by decide +kernel
theorem dX4_play_4 : decode cX4_play 4 = .ok (.iconst 0, 1) := by decide +kernel
theorem dX4_play_5 : decode cX4_play 5 = .ok (.invokestatic 34, 3) := by decide +kernel
theorem dX4_play_8 : decode cX4_play 8 = .ok (.iload_n 1, 1) := by decide +kernel
theorem dX4_play_9 : decode cX4_play 9 = .ok (.iconst 1, 1) := by decide +kernel
theorem dX4_play_10 : decode cX4_play 10 = .ok (.aload_n 0, 1) := by decide +kernel
theorem dX4_play_11 : decode cX4_play 11 = .ok (.getfield 27, 3) := by decide +kernel
theorem dX4_play_14 : decode cX4_play 14 = .ok (.invokestatic 40, 3) := by decide +kernel
theorem dX4_play_17 : decode cX4_play 17 = .ok (.ifCond .eq 40, 3) := by decide +kernel
theorem dX4_play_20 : decode cX4_play 20 = .ok (.aload_n 0, 1) := by decide +kernel
theorem dX4_play_21 : decode cX4_play 21 = .ok (.getfield 18, 3) := by decide +kernel
theorem dX4_play_24 : decode cX4_play 24 = .ok (.iload_n 1, 1) := by decide +kernel
theorem dX4_play_25 : decode cX4_play 25 = .ok (.iaload, 1) := by decide +kernel
theorem dX4_play_26 : decode cX4_play 26 = .ok (.istore_n 2, 1) := by decide +kernel
theorem dX4_play_27 : decode cX4_play 27 = .ok (.iconst 0, 1) := by decide +kernel
theorem dX4_play_28 : decode cX4_play 28 = .ok (.istore_n 3, 1) := by decide +kernel
theorem dX4_play_29 : decode cX4_play 29 = .ok (.iload_n 3, 1) := by decide +kernel
theorem dX4_play_30 : decode cX4_play 30 = .ok (.iload_n 2, 1) := by decide +kernel
theorem dX4_play_31 : decode cX4_play 31 = .ok (.if_icmp .ge 26, 3) := by decide +kernel
theorem dX4_play_34 : decode cX4_play 34 = .ok (.aload_n 0, 1) := by decide +kernel
theorem dX4_play_35 : decode cX4_play 35 = .ok (.getfield 24, 3) := by decide +kernel
theorem dX4_play_38 : decode cX4_play 38 = .ok (.aload_n 0, 1) := by decide +kernel
theorem dX4_play_39 : decode cX4_play 39 = .ok (.getfield 9, 3) := by decide +kernel
theorem dX4_play_42 : decode cX4_play 42 = .ok (.iload_n 3, 1) := by decide +kernel
theorem dX4_play_43 : decode cX4_play 43 = .ok (.iaload, 1) := by decide +kernel
theorem dX4_play_44 : decode cX4_play 44 = .ok (.aload_n 0, 1) := by decide +kernel
theorem dX4_play_45 : decode cX4_play 45 = .ok (.getfield 15, 3) := by decide +kernel
theorem dX4_play_48 : decode cX4_play 48 = .ok (.iload_n 3, 1) := by decide +kernel
theorem dX4_play_49 : decode cX4_play 49 = .ok (.iaload, 1) := by decide +kernel
theorem dX4_play_50 : decode cX4_play 50 = .ok (.iastore, 1) := by decide +kernel
theorem dX4_play_51 : decode cX4_play 51 = .ok (.iinc 3 1, 3) := by decide +kernel
theorem dX4_play_54 : decode cX4_play 54 = .ok (.goto (-25), 3) := by decide +kernel
theorem dX4_play_57 : decode cX4_play 57 = .ok (.return_, 1) := by decide +kernel
theorem dX4_isAsLookedAt_0 : decode cX4_isAsLookedAt 0 = .ok (.aload_n 0, 1) := by decide +kernel
theorem dX4_isAsLookedAt_1 : decode cX4_isAsLookedAt 1 = .ok (.aload_n 0, 1) := by decide +kernel
theorem dX4_isAsLookedAt_2 : decode cX4_isAsLookedAt 2 = .ok (.getfield 27, 3) := by decide +kernel
theorem dX4_isAsLookedAt_5 : decode cX4_isAsLookedAt 5 = .ok (.invokevirtual 44, 3) := by decide +kernel
theorem dX4_isAsLookedAt_8 : decode cX4_isAsLookedAt 8 = .ok (.iconst 0, 1) := by decide +kernel
theorem dX4_isAsLookedAt_9 : decode cX4_isAsLookedAt 9 = .ok (.istore_n 1, 1) := by decide +kernel
theorem dX4_isAsLookedAt_10 : decode cX4_isAsLookedAt 10 = .ok (.iload_n 1, 1) := by decide +kernel
theorem dX4_isAsLookedAt_11 : decode cX4_isAsLookedAt 11 = .ok (.bipush 96, 2) := by decide +kernel
theorem dX4_isAsLookedAt_13 : decode cX4_isAsLookedAt 13 = .ok (.if_icmp .ge 26, 3) := by decide +kernel
theorem dX4_isAsLookedAt_16 : decode cX4_isAsLookedAt 16 = .ok (.aload_n 0, 1) := by decide +kernel
theorem dX4_isAsLookedAt_17 : decode cX4_isAsLookedAt 17 = .ok (.getfield 24, 3) := by decide +kernel
theorem dX4_isAsLookedAt_20 : decode cX4_isAsLookedAt 20 = .ok (.iload_n 1, 1) := by decide +kernel
theorem dX4_isAsLookedAt_21 : decode cX4_isAsLookedAt 21 = .ok (.iaload, 1) := by decide +kernel
theorem dX4_isAsLookedAt_22 : decode cX4_isAsLookedAt 22 = .ok (.aload_n 0, 1) := by decide +kernel
theorem dX4_isAsLookedAt_23 : decode cX4_isAsLookedAt 23 = .ok (.getfield 21, 3) := by decide +kernel
theorem dX4_isAsLookedAt_26 : decode cX4_isAsLookedAt 26 = .ok (.iload_n 1, 1) := by decide +kernel
theorem dX4_isAsLookedAt_27 : decode cX4_isAsLookedAt 27 = .ok (.iaload, 1) := by decide +kernel
theorem dX4_isAsLookedAt_28 : decode cX4_isAsLookedAt 28 = .ok (.if_icmp .eq 5, 3) := by decide +kernel
theorem dX4_isAsLookedAt_31 : decode cX4_isAsLookedAt 31 = .ok (.iconst 0, 1) := by decide +kernel
theorem dX4_isAsLookedAt_32 : decode cX4_isAsLookedAt 32 = .ok (.ireturn, 1) := by decide +kernel
theorem dX4_isAsLookedAt_33 : decode cX4_isAsLookedAt 33 = .ok (.iinc 1 1, 3) := by decide +kernel
theorem dX4_isAsLookedAt_36 : decode cX4_isAsLookedAt 36 = .ok (.goto (-26), 3) := by decide +kernel
theorem dX4_isAsLookedAt_39 : decode cX4_isAsLookedAt 39 = .ok (.iconst 1, 1) := by decide +kernel
theorem dX4_isAsLookedAt_40 : decode cX4_isAsLookedAt 40 = .ok (.ireturn, 1) := by decide +kernel
theorem dX5_init_0 : decode cX5_init 0 = .ok (.aload_n 0, 1) := by decide +kernel
theorem dX5_init_1 : decode cX5_init 1 = .ok (.invokespecial 3, 3) := by decide +kernel
theorem dX5_init_4 : decode cX5_init 4 = .ok (.aload_n 0, 1) := by decide +kernel
theorem dX5_init_5 : decode cX5_init 5 = .ok (.bipush 6, 2) := by decide +kernel
theorem dX5_init_7 : decode cX5_init 7 = .ok (.anewarray 9, 3) := by decide +kernel
theorem dX5_init_10 : decode cX5_init 10 = .ok (.putfield 11, 3) := by decide +kernel
theorem dX5_init_13 : decode cX5_init 13 = .ok (.aload_n 0, 1) := by decide +kernel
theorem dX5_init_14 : decode cX5_init 14 = .ok (.new 17, 3) := by decide +kernel
theorem dX5_init_17 : decode cX5_init 17 = .ok (.dup, 1) := by decide +kernel
theorem dX5_init_18 : decode cX5_init 18 = .ok (.invokespecial 19, 3) := by decide +kernel
theorem dX5_init_21 : decode cX5_init 21 = .ok (.putfield 20, 3) := by decide +kernel
theorem dX5_init_24 : decode cX5_init 24 = .ok (.aload_n 0, 1) := by decide +kernel
theorem dX5_init_25 : decode cX5_init 25 = .ok (.new 17, 3) := by decide +kernel
theorem dX5_init_28 : decode cX5_init 28 = .ok (.dup, 1) := by decide +kernel
theorem dX5_init_29 : decode cX5_init 29 = .ok (.invokespecial 19, 3) := by decide +kernel
theorem dX5_init_32 : decode cX5_init 32 = .ok (.putfield 24, 3) := by decide +kernel
theorem dX5_init_35 : decode cX5_init 35 = .ok (.aload_n 0, 1) := by decide +kernel
theorem dX5_init_36 : decode cX5_init 36 = .ok (.bipush 96, 2) := by decide +kernel
theorem dX5_init_38 : decode cX5_init 38 = .ok (.newarray .int, 2) := by decide +kernel
theorem dX5_init_40 : decode cX5_init 40 = .ok (.putfield 27, 3) := by decide +kernel
theorem dX5_init_43 : decode cX5_init 43 = .ok (.aload_n 0, 1) := by decide +kernel
theorem dX5_init_44 : decode cX5_init 44 = .ok (.new 31, 3) := by decide +kernel
theorem dX5_init_47 : decode cX5_init 47 = .ok (.dup, 1) := by decide +kernel
theorem dX5_init_48 : decode cX5_init 48 = .ok (.invokespecial 33, 3) := by decide +kernel
theorem dX5_init_51 : decode cX5_init 51 = .ok (.putfield 34, 3) := by decide +kernel
theorem dX5_init_54 : decode cX5_init 54 = .ok (.aload_n 0, 1) := by decide +kernel
theorem dX5_init_55 : decode cX5_init 55 = .ok (.new 38, 3) := by decide +kernel
theorem dX5_init_58 : decode cX5_init 58 = .ok (.dup, 1) := by decide +kernel
theorem dX5_init_59 : decode cX5_init 59 = .ok (.invokespecial 40, 3) := by decide +kernel
theorem dX5_init_62 : decode cX5_init 62 = .ok (.putfield 41, 3) := by decide +kernel
theorem dX5_init_65 : decode cX5_init 65 = .ok (.return_, 1) := by decide +kernel
theorem dX5_addWindow_0 : decode cX5_addWindow 0 = .ok (.aload_n 0, 1) := by decide +kernel
theorem dX5_addWindow_1 : decode cX5_addWindow 1 = .ok (.getfield 45, 3) := by decide +kernel
theorem dX5_addWindow_4 : decode cX5_addWindow 4 = .ok (.istore_n 2, 1) := by decide +kernel
theorem dX5_addWindow_5 : decode cX5_addWindow 5 = .ok (.iload_n 2, 1) := by decide +kernel
theorem dX5_addWindow_6 : decode cX5_addWindow 6 = .ok (.bipush 6, 2) := by decide +kernel
theorem dX5_addWindow_8 : decode cX5_addWindow 8 = .ok (.if_icmp .ge 31, 3) := by decide +kernel
theorem dX5_addWindow_11 : decode cX5_addWindow 11 = .ok (.aload_n 0, 1) := by decide +kernel
theorem dX5_addWindow_12 : decode cX5_addWindow 12 = .ok (.getfield 11, 3) := by decide +kernel
theorem dX5_addWindow_15 : decode cX5_addWindow 15 = .ok (.iload_n 2, 1) := by decide +kernel
theorem dX5_addWindow_16 : decode cX5_addWindow 16 = .ok (.aload_n 1, 1) := by decide +kernel
theorem dX5_addWindow_17 : decode cX5_addWindow 17 = .ok (.aastore, 1) := by decide +kernel
theorem dX5_addWindow_18 : decode cX5_addWindow 18 = .ok (.aload_n 0, 1) := by decide +kernel
theorem dX5_addWindow_19 : decode cX5_addWindow 19 = .ok (.iload_n 2, 1) := by decide +kernel
theorem dX5_addWindow_20 : decode cX5_addWindow 20 = .ok (.iconst 1, 1) := by decide +kernel
theorem dX5_addWindow_21 : decode cX5_addWindow 21 = .ok (.iadd, 1) := by decide +kernel
theorem dX5_addWindow_22 : decode cX5_addWindow 22 = .ok (.putfield 45, 3) := by decide +kernel
theorem dX5_addWindow_25 : decode cX5_addWindow 25 = .ok (.aload_n 0, 1) := by decide +kernel
theorem dX5_addWindow_26 : decode cX5_addWindow 26 = .ok (.getfield 20, 3) := by decide +kernel
theorem dX5_addWindow_29 : decode cX5_addWindow 29 = .ok (.aload_n 1, 1) := by decide +kernel
theorem dX5_addWindow_30 : decode cX5_addWindow 30 = .ok (.invokevirtual 49, 3) := by decide +kernel
theorem dX5_addWindow_33 : decode cX5_addWindow 33 = .ok (.pop, 1) := by decide +kernel
theorem dX5_addWindow_34 : decode cX5_addWindow 34 = .ok (.aload_n 0, 1) := by decide +kernel
theorem dX5_addWindow_35 : decode cX5_addWindow 35 = .ok (.invokevirtual 53, 3) := by decide +kernel
theorem dX5_addWindow_38 : decode cX5_addWindow 38 = .ok (.pop, 1) := by decide +kernel
theorem dX5_addWindow_39 : decode cX5_addWindow 39 = .ok (.iload_n 2, 1) := by decide +kernel
theorem dX5_addWindow_40 : decode cX5_addWindow 40 = .ok (.ireturn, 1) := by decide +kernel
theorem dX5_takeFromPile_0 : decode cX5_takeFromPile 0 = .ok (.aload_n 0, 1) := by decide +kernel
theorem dX5_takeFromPile_1 : decode cX5_takeFromPile 1 = .ok (.getfield 20, 3) := by decide +kernel
theorem dX5_takeFromPile_4 : decode cX5_takeFromPile 4 = .ok (.invokevirtual 57, 3) := by decide +kernel
theorem dX5_takeFromPile_7 : decode cX5_takeFromPile 7 = .ok (.iconst 1, 1) := by decide +kernel
theorem dX5_takeFromPile_8 : decode cX5_takeFromPile 8 = .ok (.isub, 1) := by decide +kernel
theorem dX5_takeFromPile_9 : decode cX5_takeFromPile 9 = .ok (.istore_n 2, 1) := by decide +kernel
theorem dX5_takeFromPile_10 : decode cX5_takeFromPile 10 = .ok (.iload_n 2, 1) := by decide +kernel
theorem dX5_takeFromPile_11 : decode cX5_takeFromPile 11 = .ok (.ifCond .lt 30, 3) := by decide +kernel
theorem dX5_takeFromPile_14 : decode cX5_takeFromPile 14 = .ok (.aload_n 0, 1) := by decide +kernel
theorem dX5_takeFromPile_15 : decode cX5_takeFromPile 15 = .ok (.getfield 20, 3) := by decide +kernel
theorem dX5_takeFromPile_18 : decode cX5_takeFromPile 18 = .ok (.iload_n 2, 1) := by decide +kernel
theorem dX5_takeFromPile_19 : decode cX5_takeFromPile 19 = .ok (.invokevirtual 60, 3) := by decide +kernel
theorem dX5_takeFromPile_22 : decode cX5_takeFromPile 22 = .ok (.aload_n 1, 1) := by decide +kernel
theorem dX5_takeFromPile_23 : decode cX5_takeFromPile 23 = .ok (.if_acmp .ne 12, 3) := by decide +kernel
theorem dX5_takeFromPile_26 : decode cX5_takeFromPile 26 = .ok (.aload_n 0, 1) := by decide +kernel
theorem dX5_takeFromPile_27 : decode cX5_takeFromPile 27 = .ok (.getfield 20, 3) := by decide +kernel
theorem dX5_takeFromPile_30 : decode cX5_takeFromPile 30 = .ok (.iload_n 2, 1) := by decide +kernel
theorem dX5_takeFromPile_31 : decode cX5_takeFromPile 31 = .ok (.invokevirtual 64, 3) := by decide +kernel
theorem dX5_takeFromPile_34 : decode cX5_takeFromPile 34 = .ok (.pop, 1) := by decide +kernel
theorem dX5_takeFromPile_35 : decode cX5_takeFromPile 35 = .ok (.iinc 2 (-1), 3) := by decide +kernel
theorem dX5_takeFromPile_38 : decode cX5_takeFromPile 38 = .ok (.goto (-28), 3) := by decide +kernel
theorem dX5_takeFromPile_41 : decode cX5_takeFromPile 41 = .ok (.return_, 1) := by decide +kernel
theorem dX5_isOnTop_0 : decode cX5_isOnTop 0 = .ok (.aload_n 0, 1) := by decide +kernel
theorem dX5_isOnTop_1 : decode cX5_isOnTop 1 = .ok (.getfield 20, 3) := by decide +kernel
theorem dX5_isOnTop_4 : decode cX5_isOnTop 4 = .ok (.invokevirtual 57, 3) := by decide +kernel
theorem dX5_isOnTop_7 : decode cX5_isOnTop 7 = .ok (.istore_n 2, 1) := by decide +kernel
theorem dX5_isOnTop_8 : decode cX5_isOnTop 8 = .ok (.iload_n 2, 1) := by decide +kernel
theorem dX5_isOnTop_9 : decode cX5_isOnTop 9 = .ok (.ifCond .le 21, 3) := by decide +kernel
theorem dX5_isOnTop_12 : decode cX5_isOnTop 12 = .ok (.aload_n 0, 1) := by decide +kernel
theorem dX5_isOnTop_13 : decode cX5_isOnTop 13 = .ok (.getfield 20, 3) := by decide +kernel
theorem dX5_isOnTop_16 : decode cX5_isOnTop 16 = .ok (.iload_n 2, 1) := by decide +kernel
theorem dX5_isOnTop_17 : decode cX5_isOnTop 17 = .ok (.iconst 1, 1) := by decide +kernel
theorem dX5_isOnTop_18 : decode cX5_isOnTop 18 = .ok (.isub, 1) := by decide +kernel
theorem dX5_isOnTop_19 : decode cX5_isOnTop 19 = .ok (.invokevirtual 60, 3) := by decide +kernel
theorem dX5_isOnTop_22 : decode cX5_isOnTop 22 = .ok (.aload_n 1, 1) := by decide +kernel
theorem dX5_isOnTop_23 : decode cX5_isOnTop 23 = .ok (.if_acmp .ne 7, 3) := by decide +kernel
theorem dX5_isOnTop_26 : decode cX5_isOnTop 26 = .ok (.iconst 1, 1) := by decide +kernel
theorem dX5_isOnTop_27 : decode cX5_isOnTop 27 = .ok (.goto 4, 3) := by decide +kernel
theorem dX5_isOnTop_30 : decode cX5_isOnTop 30 = .ok (.iconst 0, 1) := by decide +kernel
theorem dX5_isOnTop_31 : decode cX5_isOnTop 31 = .ok (.ireturn, 1) := by decide +kernel
theorem dX5_topShown_0 : decode cX5_topShown 0 = .ok (.aload_n 0, 1) := by decide +kernel
theorem dX5_topShown_1 : decode cX5_topShown 1 = .ok (.getfield 20, 3) := by decide +kernel
theorem dX5_topShown_4 : decode cX5_topShown 4 = .ok (.invokevirtual 57, 3) := by decide +kernel
theorem dX5_topShown_7 : decode cX5_topShown 7 = .ok (.iconst 1, 1) := by decide +kernel
theorem dX5_topShown_8 : decode cX5_topShown 8 = .ok (.isub, 1) := by decide +kernel
theorem dX5_topShown_9 : decode cX5_topShown 9 = .ok (.istore_n 1, 1) := by decide +kernel
theorem dX5_topShown_10 : decode cX5_topShown 10 = .ok (.iload_n 1, 1) := by decide +kernel
theorem dX5_topShown_11 : decode cX5_topShown 11 = .ok (.ifCond .lt 30, 3) := by decide +kernel
theorem dX5_topShown_14 : decode cX5_topShown 14 = .ok (.aload_n 0, 1) := by decide +kernel
theorem dX5_topShown_15 : decode cX5_topShown 15 = .ok (.getfield 20, 3) := by decide +kernel
theorem dX5_topShown_18 : decode cX5_topShown 18 = .ok (.iload_n 1, 1) := by decide +kernel
theorem dX5_topShown_19 : decode cX5_topShown 19 = .ok (.invokevirtual 60, 3) := by decide +kernel
theorem dX5_topShown_22 : decode cX5_topShown 22 = .ok (.checkcast 9, 3) := by decide +kernel
theorem dX5_topShown_25 : decode cX5_topShown 25 = .ok (.astore_n 2, 1) := by decide +kernel
theorem dX5_topShown_26 : decode cX5_topShown 26 = .ok (.aload_n 2, 1) := by decide +kernel
theorem dX5_topShown_27 : decode cX5_topShown 27 = .ok (.getfield 67, 3) := by decide +kernel
theorem dX5_topShown_30 : decode cX5_topShown 30 = .ok (.ifCond .eq 5, 3) := by decide +kernel
theorem dX5_topShown_33 : decode cX5_topShown 33 = .ok (.aload_n 2, 1) := by decide +kernel
theorem dX5_topShown_34 : decode cX5_topShown 34 = .ok (.areturn, 1) := by decide +kernel
theorem dX5_topShown_35 : decode cX5_topShown 35 = .ok (.iinc 1 (-1), 3) := by decide +kernel
theorem dX5_topShown_38 : decode cX5_topShown 38 = .ok (.goto (-28), 3) := by decide +kernel
theorem dX5_topShown_41 : decode cX5_topShown 41 = .ok (.aconst_null, 1) := by decide +kernel
theorem dX5_topShown_42 : decode cX5_topShown 42 = .ok (.areturn, 1) := by decide +kernel
theorem dX5_topShownAt_0 : decode cX5_topShownAt 0 = .ok (.aload_n 0, 1) := by decide +kernel
theorem dX5_topShownAt_1 : decode cX5_topShownAt 1 = .ok (.getfield 20, 3) := by decide +kernel
theorem dX5_topShownAt_4 : decode cX5_topShownAt 4 = .ok (.invokevirtual 57, 3) := by decide +kernel
theorem dX5_topShownAt_7 : decode cX5_topShownAt 7 = .ok (.iconst 1, 1) := by decide +kernel
theorem dX5_topShownAt_8 : decode cX5_topShownAt 8 = .ok (.isub, 1) := by decide +kernel
theorem dX5_topShownAt_9 : decode cX5_topShownAt 9 = .ok (.istore_n 3, 1) := by decide +kernel
theorem dX5_topShownAt_10 : decode cX5_topShownAt 10 = .ok (.iload_n 3, 1) := by decide +kernel
theorem dX5_topShownAt_11 : decode cX5_topShownAt 11 = .ok (.ifCond .lt 43, 3) := by decide +kernel
theorem dX5_topShownAt_14 : decode cX5_topShownAt 14 = .ok (.aload_n 0, 1) := by decide +kernel
theorem dX5_topShownAt_15 : decode cX5_topShownAt 15 = .ok (.getfield 20, 3) := by decide +kernel
theorem dX5_topShownAt_18 : decode cX5_topShownAt 18 = .ok (.iload_n 3, 1) := by decide +kernel
theorem dX5_topShownAt_19 : decode cX5_topShownAt 19 = .ok (.invokevirtual 60, 3) := by decide +kernel
theorem dX5_topShownAt_22 : decode cX5_topShownAt 22 = .ok (.checkcast 9, 3) := by decide +kernel
theorem dX5_topShownAt_25 : decode cX5_topShownAt 25 = .ok (.astore 4, 2) := by decide +kernel
theorem dX5_topShownAt_27 : decode cX5_topShownAt 27 = .ok (.aload 4, 2) := by decide +kernel
theorem dX5_topShownAt_29 : decode cX5_topShownAt 29 = .ok (.getfield 67, 3) := by decide +kernel
theorem dX5_topShownAt_32 : decode cX5_topShownAt 32 = .ok (.ifCond .eq 16, 3) := by decide +kernel
theorem dX5_topShownAt_35 : decode cX5_topShownAt 35 = .ok (.aload 4, 2) := by decide +kernel
theorem dX5_topShownAt_37 : decode cX5_topShownAt 37 = .ok (.iload_n 1, 1) := by decide +kernel
theorem dX5_topShownAt_38 : decode cX5_topShownAt 38 = .ok (.iload_n 2, 1) := by decide +kernel
theorem dX5_topShownAt_39 : decode cX5_topShownAt 39 = .ok (.invokevirtual 71, 3) := by decide +kernel
theorem dX5_topShownAt_42 : decode cX5_topShownAt 42 = .ok (.ifCond .eq 6, 3) := by decide +kernel
theorem dX5_topShownAt_45 : decode cX5_topShownAt 45 = .ok (.aload 4, 2) := by decide +kernel
theorem dX5_topShownAt_47 : decode cX5_topShownAt 47 = .ok (.areturn, 1) := by decide +kernel
theorem dX5_topShownAt_48 : decode cX5_topShownAt 48 = .ok (.iinc 3 (-1), 3) := by decide +kernel
theorem dX5_topShownAt_51 : decode cX5_topShownAt 51 = .ok (.goto (-41), 3) := by decide +kernel
theorem dX5_topShownAt_54 : decode cX5_topShownAt 54 = .ok (.aconst_null, 1) := by decide +kernel
theorem dX5_topShownAt_55 : decode cX5_topShownAt 55 = .ok (.areturn, 1) := by decide +kernel
theorem dX5_colourOfWindows_0 : decode cX5_colourOfWindows 0 = .ok (.iload_n 1, 1) := by decide +kernel
theorem dX5_colourOfWindows_1 : decode cX5_colourOfWindows 1 = .ok (.bipush 12, 2) := by decide +kernel
theorem dX5_colourOfWindows_3 : decode cX5_colourOfWindows 3 = .ok (.irem, 1) := by decide +kernel
theorem dX5_colourOfWindows_4 : decode cX5_colourOfWindows 4 = .ok (.istore_n 2, 1) := by decide +kernel
theorem dX5_colourOfWindows_5 : decode cX5_colourOfWindows 5 = .ok (.iload_n 1, 1) := by decide +kernel
theorem dX5_colourOfWindows_6 : decode cX5_colourOfWindows 6 = .ok (.bipush 12, 2) := by decide +kernel
theorem dX5_colourOfWindows_8 : decode cX5_colourOfWindows 8 = .ok (.idiv, 1) := by decide +kernel
theorem dX5_colourOfWindows_9 : decode cX5_colourOfWindows 9 = .ok (.istore_n 3, 1) := by decide +kernel
theorem dX5_colourOfWindows_10 : decode cX5_colourOfWindows 10 = .ok (.aload_n 0, 1) := by decide +kernel
theorem dX5_colourOfWindows_11 : decode cX5_colourOfWindows 11 = .ok (.iload_n 2, 1) := by decide +kernel
theorem dX5_colourOfWindows_12 : decode cX5_colourOfWindows 12 = .ok (.iload_n 3, 1) := by decide +kernel
theorem dX5_colourOfWindows_13 : decode cX5_colourOfWindows 13 = .ok (.invokevirtual 75, 3) := by decide +kernel
theorem dX5_colourOfWindows_16 : decode cX5_colourOfWindows 16 = .ok (.astore 4, 2) := by decide +kernel
theorem dX5_colourOfWindows_18 : decode cX5_colourOfWindows 18 = .ok (.aload 4, 2) := by decide +kernel
theorem dX5_colourOfWindows_20 : decode cX5_colourOfWindows 20 = .ok (.ifnonnull 7, 3) := by decide +kernel
theorem dX5_colourOfWindows_23 : decode cX5_colourOfWindows 23 = .ok (.iconst 0, 1) := by decide +kernel
theorem dX5_colourOfWindows_24 : decode cX5_colourOfWindows 24 = .ok (.goto 10, 3) := by decide +kernel
theorem dX5_colourOfWindows_27 : decode cX5_colourOfWindows 27 = .ok (.aload 4, 2) := by decide +kernel
theorem dX5_colourOfWindows_29 : decode cX5_colourOfWindows 29 = .ok (.iload_n 2, 1) := by decide +kernel
theorem dX5_colourOfWindows_30 : decode cX5_colourOfWindows 30 = .ok (.iload_n 3, 1) := by decide +kernel
theorem dX5_colourOfWindows_31 : decode cX5_colourOfWindows 31 = .ok (.invokevirtual 79, 3) := by decide +kernel
theorem dX5_colourOfWindows_34 : decode cX5_colourOfWindows 34 = .ok (.ireturn, 1) := by decide +kernel
theorem dX5_repaint_0 : decode cX5_repaint 0 = .ok (.iconst 0, 1) := by decide +kernel
theorem dX5_repaint_1 : decode cX5_repaint 1 = .ok (.istore_n 1, 1) := by decide +kernel
theorem dX5_repaint_2 : decode cX5_repaint 2 = .ok (.iconst 0, 1) := by decide +kernel
theorem dX5_repaint_3 : decode cX5_repaint 3 = .ok (.istore_n 2, 1) := by decide +kernel
theorem dX5_repaint_4 : decode cX5_repaint 4 = .ok (.iload_n 2, 1) := by decide +kernel
theorem dX5_repaint_5 : decode cX5_repaint 5 = .ok (.bipush 96, 2) := by decide +kernel
theorem dX5_repaint_7 : decode cX5_repaint 7 = .ok (.if_icmp .ge 35, 3) := by decide +kernel
theorem dX5_repaint_10 : decode cX5_repaint 10 = .ok (.aload_n 0, 1) := by decide +kernel
theorem dX5_repaint_11 : decode cX5_repaint 11 = .ok (.iload_n 2, 1) := by decide +kernel
theorem dX5_repaint_12 : decode cX5_repaint 12 = .ok (.invokevirtual 83, 3) := by decide +kernel
theorem dX5_repaint_15 : decode cX5_repaint 15 = .ok (.istore_n 3, 1) := by decide +kernel
theorem dX5_repaint_16 : decode cX5_repaint 16 = .ok (.aload_n 0, 1) := by decide +kernel
theorem dX5_repaint_17 : decode cX5_repaint 17 = .ok (.getfield 27, 3) := by decide +kernel
theorem dX5_repaint_20 : decode cX5_repaint 20 = .ok (.iload_n 2, 1) := by decide +kernel
theorem dX5_repaint_21 : decode cX5_repaint 21 = .ok (.iaload, 1) := by decide +kernel
theorem dX5_repaint_22 : decode cX5_repaint 22 = .ok (.iload_n 3, 1) := by decide +kernel
theorem dX5_repaint_23 : decode cX5_repaint 23 = .ok (.if_icmp .eq 13, 3) := by decide +kernel
theorem dX5_repaint_26 : decode cX5_repaint 26 = .ok (.aload_n 0, 1) := by decide +kernel
theorem dX5_repaint_27 : decode cX5_repaint 27 = .ok (.getfield 27, 3) := by decide +kernel
theorem dX5_repaint_30 : decode cX5_repaint 30 = .ok (.iload_n 2, 1) := by decide +kernel
theorem dX5_repaint_31 : decode cX5_repaint 31 = .ok (.iload_n 3, 1) := by decide +kernel
theorem dX5_repaint_32 : decode cX5_repaint 32 = .ok (.iastore, 1) := by decide +kernel
theorem dX5_repaint_33 : decode cX5_repaint 33 = .ok (.iinc 1 1, 3) := by decide +kernel
theorem dX5_repaint_36 : decode cX5_repaint 36 = .ok (.iinc 2 1, 3) := by decide +kernel
theorem dX5_repaint_39 : decode cX5_repaint 39 = .ok (.goto (-35), 3) := by decide +kernel
theorem dX5_repaint_42 : decode cX5_repaint 42 = .ok (.iload_n 1, 1) := by decide +kernel
theorem dX5_repaint_43 : decode cX5_repaint 43 = .ok (.ireturn, 1) := by decide +kernel
theorem dX5_isPainted_0 : decode cX5_isPainted 0 = .ok (.iconst 0, 1) := by decide +kernel
theorem dX5_isPainted_1 : decode cX5_isPainted 1 = .ok (.istore_n 1, 1) := by decide +kernel
theorem dX5_isPainted_2 : decode cX5_isPainted 2 = .ok (.iload_n 1, 1) := by decide +kernel
theorem dX5_isPainted_3 : decode cX5_isPainted 3 = .ok (.bipush 96, 2) := by decide +kernel
theorem dX5_isPainted_5 : decode cX5_isPainted 5 = .ok (.if_icmp .ge 25, 3) := by decide +kernel
theorem dX5_isPainted_8 : decode cX5_isPainted 8 = .ok (.aload_n 0, 1) := by decide +kernel
theorem dX5_isPainted_9 : decode cX5_isPainted 9 = .ok (.getfield 27, 3) := by decide +kernel
theorem dX5_isPainted_12 : decode cX5_isPainted 12 = .ok (.iload_n 1, 1) := by decide +kernel
theorem dX5_isPainted_13 : decode cX5_isPainted 13 = .ok (.iaload, 1) := by decide +kernel
theorem dX5_isPainted_14 : decode cX5_isPainted 14 = .ok (.aload_n 0, 1) := by decide +kernel
theorem dX5_isPainted_15 : decode cX5_isPainted 15 = .ok (.iload_n 1, 1) := by decide +kernel
theorem dX5_isPainted_16 : decode cX5_isPainted 16 = .ok (.invokevirtual 83, 3) := by decide +kernel
theorem dX5_isPainted_19 : decode cX5_isPainted 19 = .ok (.if_icmp .eq 5, 3) := by decide +kernel
theorem dX5_isPainted_22 : decode cX5_isPainted 22 = .ok (.iconst 0, 1) := by decide +kernel
theorem dX5_isPainted_23 : decode cX5_isPainted 23 = .ok (.ireturn, 1) := by decide +kernel
theorem dX5_isPainted_24 : decode cX5_isPainted 24 = .ok (.iinc 1 1, 3) := by decide +kernel
theorem dX5_isPainted_27 : decode cX5_isPainted 27 = .ok (.goto (-25), 3) := by decide +kernel
theorem dX5_isPainted_30 : decode cX5_isPainted 30 = .ok (.iconst 1, 1) := by decide +kernel
theorem dX5_isPainted_31 : decode cX5_isPainted 31 = .ok (.ireturn, 1) := by decide +kernel
theorem dX5_isTrue_0 : decode cX5_isTrue 0 = .ok (.aload_n 0, 1) := by decide +kernel
theorem dX5_isTrue_1 : decode cX5_isTrue 1 = .ok (.invokevirtual 87, 3) := by decide +kernel
theorem dX5_isTrue_4 : decode cX5_isTrue 4 = .ok (.ifCond .eq 24, 3) := by decide +kernel
theorem dX5_isTrue_7 : decode cX5_isTrue 7 = .ok (.aload_n 0, 1) := by decide +kernel
theorem dX5_isTrue_8 : decode cX5_isTrue 8 = .ok (.getfield 91, 3) := by decide +kernel
theorem dX5_isTrue_11 : decode cX5_isTrue 11 = .ok (.ifnull 13, 3) := by decide +kernel
theorem dX5_isTrue_14 : decode cX5_isTrue 14 = .ok (.aload_n 0, 1) := by decide +kernel
theorem dX5_isTrue_15 : decode cX5_isTrue 15 = .ok (.getfield 91, 3) := by decide +kernel
theorem dX5_isTrue_18 : decode cX5_isTrue 18 = .ok (.invokevirtual 95, 3) := by decide +kernel
theorem dX5_isTrue_21 : decode cX5_isTrue 21 = .ok (.ifCond .eq 7, 3) := by decide +kernel
theorem dX5_isTrue_24 : decode cX5_isTrue 24 = .ok (.iconst 1, 1) := by decide +kernel
theorem dX5_isTrue_25 : decode cX5_isTrue 25 = .ok (.goto 4, 3) := by decide +kernel
theorem dX5_isTrue_28 : decode cX5_isTrue 28 = .ok (.iconst 0, 1) := by decide +kernel
theorem dX5_isTrue_29 : decode cX5_isTrue 29 = .ok (.ireturn, 1) := by decide +kernel
theorem dX5_countKeysOf_0 : decode cX5_countKeysOf 0 = .ok (.iconst 0, 1) := by decide +kernel
theorem dX5_countKeysOf_1 : decode cX5_countKeysOf 1 = .ok (.istore_n 2, 1) := by decide +kernel
theorem dX5_countKeysOf_2 : decode cX5_countKeysOf 2 = .ok (.iconst 0, 1) := by decide +kernel
theorem dX5_countKeysOf_3 : decode cX5_countKeysOf 3 = .ok (.istore_n 3, 1) := by decide +kernel
theorem dX5_countKeysOf_4 : decode cX5_countKeysOf 4 = .ok (.iload_n 3, 1) := by decide +kernel
theorem dX5_countKeysOf_5 : decode cX5_countKeysOf 5 = .ok (.aload_n 0, 1) := by decide +kernel
theorem dX5_countKeysOf_6 : decode cX5_countKeysOf 6 = .ok (.getfield 24, 3) := by decide +kernel
theorem dX5_countKeysOf_9 : decode cX5_countKeysOf 9 = .ok (.invokevirtual 57, 3) := by decide +kernel
theorem dX5_countKeysOf_12 : decode cX5_countKeysOf 12 = .ok (.if_icmp .ge 30, 3) := by decide +kernel
theorem dX5_countKeysOf_15 : decode cX5_countKeysOf 15 = .ok (.aload_n 0, 1) := by decide +kernel
theorem dX5_countKeysOf_16 : decode cX5_countKeysOf 16 = .ok (.getfield 24, 3) := by decide +kernel
theorem dX5_countKeysOf_19 : decode cX5_countKeysOf 19 = .ok (.iload_n 3, 1) := by decide +kernel
theorem dX5_countKeysOf_20 : decode cX5_countKeysOf 20 = .ok (.invokevirtual 60, 3) := by decide +kernel
theorem dX5_countKeysOf_23 : decode cX5_countKeysOf 23 = .ok (.checkcast 100, 3) := by decide +kernel
theorem dX5_countKeysOf_26 : decode cX5_countKeysOf 26 = .ok (.getfield 102, 3) := by decide +kernel
theorem dX5_countKeysOf_29 : decode cX5_countKeysOf 29 = .ok (.aload_n 1, 1) := by decide +kernel
theorem dX5_countKeysOf_30 : decode cX5_countKeysOf 30 = .ok (.if_acmp .ne 6, 3) := by decide +kernel
theorem dX5_countKeysOf_33 : decode cX5_countKeysOf 33 = .ok (.iinc 2 1, 3) := by decide +kernel
theorem dX5_countKeysOf_36 : decode cX5_countKeysOf 36 = .ok (.iinc 3 1, 3) := by decide +kernel
theorem dX5_countKeysOf_39 : decode cX5_countKeysOf 39 = .ok (.goto (-35), 3) := by decide +kernel
theorem dX5_countKeysOf_42 : decode cX5_countKeysOf 42 = .ok (.iload_n 2, 1) := by decide +kernel
theorem dX5_countKeysOf_43 : decode cX5_countKeysOf 43 = .ok (.ireturn, 1) := by decide +kernel
theorem dX5_countKeysBy_0 : decode cX5_countKeysBy 0 = .ok (.iconst 0, 1) := by decide +kernel
theorem dX5_countKeysBy_1 : decode cX5_countKeysBy 1 = .ok (.istore_n 2, 1) := by decide +kernel
theorem dX5_countKeysBy_2 : decode cX5_countKeysBy 2 = .ok (.iconst 0, 1) := by decide +kernel
theorem dX5_countKeysBy_3 : decode cX5_countKeysBy 3 = .ok (.istore_n 3, 1) := by decide +kernel
theorem dX5_countKeysBy_4 : decode cX5_countKeysBy 4 = .ok (.iload_n 3, 1) := by decide +kernel
theorem dX5_countKeysBy_5 : decode cX5_countKeysBy 5 = .ok (.aload_n 0, 1) := by decide +kernel
theorem dX5_countKeysBy_6 : decode cX5_countKeysBy 6 = .ok (.getfield 24, 3) := by decide +kernel
theorem dX5_countKeysBy_9 : decode cX5_countKeysBy 9 = .ok (.invokevirtual 57, 3) := by decide +kernel
theorem dX5_countKeysBy_12 : decode cX5_countKeysBy 12 = .ok (.if_icmp .ge 30, 3) := by decide +kernel
theorem dX5_countKeysBy_15 : decode cX5_countKeysBy 15 = .ok (.aload_n 0, 1) := by decide +kernel
theorem dX5_countKeysBy_16 : decode cX5_countKeysBy 16 = .ok (.getfield 24, 3) := by decide +kernel
theorem dX5_countKeysBy_19 : decode cX5_countKeysBy 19 = .ok (.iload_n 3, 1) := by decide +kernel
theorem dX5_countKeysBy_20 : decode cX5_countKeysBy 20 = .ok (.invokevirtual 60, 3) := by decide +kernel
theorem dX5_countKeysBy_23 : decode cX5_countKeysBy 23 = .ok (.checkcast 100, 3) := by decide +kernel
theorem dX5_countKeysBy_26 : decode cX5_countKeysBy 26 = .ok (.getfield 106, 3) := by decide +kernel
theorem dX5_countKeysBy_29 : decode cX5_countKeysBy 29 = .ok (.aload_n 1, 1) := by decide +kernel
theorem dX5_countKeysBy_30 : decode cX5_countKeysBy 30 = .ok (.if_acmp .ne 6, 3) := by decide +kernel
theorem dX5_countKeysBy_33 : decode cX5_countKeysBy 33 = .ok (.iinc 2 1, 3) := by decide +kernel
theorem dX5_countKeysBy_36 : decode cX5_countKeysBy 36 = .ok (.iinc 3 1, 3) := by decide +kernel
theorem dX5_countKeysBy_39 : decode cX5_countKeysBy 39 = .ok (.goto (-35), 3) := by decide +kernel
theorem dX5_countKeysBy_42 : decode cX5_countKeysBy 42 = .ok (.iload_n 2, 1) := by decide +kernel
theorem dX5_countKeysBy_43 : decode cX5_countKeysBy 43 = .ok (.ireturn, 1) := by decide +kernel
theorem dX5_lastGuessAt_0 : decode cX5_lastGuessAt 0 = .ok (.aload_n 0, 1) := by decide +kernel
theorem dX5_lastGuessAt_1 : decode cX5_lastGuessAt 1 = .ok (.getfield 24, 3) := by decide +kernel
theorem dX5_lastGuessAt_4 : decode cX5_lastGuessAt 4 = .ok (.invokevirtual 57, 3) := by decide +kernel
theorem dX5_lastGuessAt_7 : decode cX5_lastGuessAt 7 = .ok (.iconst 1, 1) := by decide +kernel
theorem dX5_lastGuessAt_8 : decode cX5_lastGuessAt 8 = .ok (.isub, 1) := by decide +kernel
theorem dX5_lastGuessAt_9 : decode cX5_lastGuessAt 9 = .ok (.istore_n 3, 1) := by decide +kernel
theorem dX5_lastGuessAt_10 : decode cX5_lastGuessAt 10 = .ok (.iload_n 3, 1) := by decide +kernel
theorem dX5_lastGuessAt_11 : decode cX5_lastGuessAt 11 = .ok (.ifCond .lt 51, 3) := by decide +kernel
theorem dX5_lastGuessAt_14 : decode cX5_lastGuessAt 14 = .ok (.aload_n 0, 1) := by decide +kernel
theorem dX5_lastGuessAt_15 : decode cX5_lastGuessAt 15 = .ok (.getfield 24, 3) := by decide +kernel
theorem dX5_lastGuessAt_18 : decode cX5_lastGuessAt 18 = .ok (.iload_n 3, 1) := by decide +kernel
theorem dX5_lastGuessAt_19 : decode cX5_lastGuessAt 19 = .ok (.invokevirtual 60, 3) := by decide +kernel
theorem dX5_lastGuessAt_22 : decode cX5_lastGuessAt 22 = .ok (.checkcast 100, 3) := by decide +kernel
theorem dX5_lastGuessAt_25 : decode cX5_lastGuessAt 25 = .ok (.astore 4, 2) := by decide +kernel
theorem dX5_lastGuessAt_27 : decode cX5_lastGuessAt 27 = .ok (.aload 4, 2) := by decide +kernel
theorem dX5_lastGuessAt_29 : decode cX5_lastGuessAt 29 = .ok (.getfield 106, 3) := by decide +kernel
theorem dX5_lastGuessAt_32 : decode cX5_lastGuessAt 32 = .ok (.aload_n 1, 1) := by decide +kernel
theorem dX5_lastGuessAt_33 : decode cX5_lastGuessAt 33 = .ok (.if_acmp .ne 23, 3) := by decide +kernel
theorem dX5_lastGuessAt_36 : decode cX5_lastGuessAt 36 = .ok (.aload 4, 2) := by decide +kernel
theorem dX5_lastGuessAt_38 : decode cX5_lastGuessAt 38 = .ok (.getfield 102, 3) := by decide +kernel
theorem dX5_lastGuessAt_41 : decode cX5_lastGuessAt 41 = .ok (.aload 4, 2) := by decide +kernel
theorem dX5_lastGuessAt_43 : decode cX5_lastGuessAt 43 = .ok (.getfield 110, 3) := by decide +kernel
theorem dX5_lastGuessAt_46 : decode cX5_lastGuessAt 46 = .ok (.invokevirtual 113, 3) := by decide +kernel
theorem dX5_lastGuessAt_49 : decode cX5_lastGuessAt 49 = .ok (.iload_n 2, 1) := by decide +kernel
theorem dX5_lastGuessAt_50 : decode cX5_lastGuessAt 50 = .ok (.if_icmp .ne 6, 3) := by decide +kernel
theorem dX5_lastGuessAt_53 : decode cX5_lastGuessAt 53 = .ok (.aload 4, 2) := by decide +kernel
theorem dX5_lastGuessAt_55 : decode cX5_lastGuessAt 55 = .ok (.areturn, 1) := by decide +kernel
theorem dX5_lastGuessAt_56 : decode cX5_lastGuessAt 56 = .ok (.iinc 3 (-1), 3) := by decide +kernel
theorem dX5_lastGuessAt_59 : decode cX5_lastGuessAt 59 = .ok (.goto (-49), 3) := by decide +kernel
theorem dX5_lastGuessAt_62 : decode cX5_lastGuessAt 62 = .ok (.aconst_null, 1) := by decide +kernel
theorem dX5_lastGuessAt_63 : decode cX5_lastGuessAt 63 = .ok (.areturn, 1) := by decide +kernel
theorem dX5_advanceMove_0 : decode cX5_advanceMove 0 = .ok (.aload_n 0, 1) := by decide +kernel
theorem dX5_advanceMove_1 : decode cX5_advanceMove 1 = .ok (.aload_n 0, 1) := by decide +kernel
theorem dX5_advanceMove_2 : decode cX5_advanceMove 2 = .ok (.getfield 41, 3) := by decide +kernel
theorem dX5_advanceMove_5 : decode cX5_advanceMove 5 = .ok (.getfield 116, 3) := by decide +kernel
theorem dX5_advanceMove_8 : decode cX5_advanceMove 8 = .ok (.ifCond .eq 21, 3) := by decide +kernel
theorem dX5_advanceMove_11 : decode cX5_advanceMove 11 = .ok (.aload_n 0, 1) := by decide +kernel
theorem dX5_advanceMove_12 : decode cX5_advanceMove 12 = .ok (.getfield 41, 3) := by decide +kernel
theorem dX5_advanceMove_15 : decode cX5_advanceMove 15 = .ok (.aload_n 0, 1) := by decide +kernel
theorem dX5_advanceMove_16 : decode cX5_advanceMove 16 = .ok (.getfield 27, 3) := by decide +kernel
theorem dX5_advanceMove_19 : decode cX5_advanceMove 19 = .ok (.invokevirtual 119, 3) := by decide +kernel
theorem dX5_advanceMove_22 : decode cX5_advanceMove 22 = .ok (.ifCond .eq 7, 3) := by decide +kernel
theorem dX5_advanceMove_25 : decode cX5_advanceMove 25 = .ok (.iconst 1, 1) := by decide +kernel
theorem dX5_advanceMove_26 : decode cX5_advanceMove 26 = .ok (.goto 4, 3) := by decide +kernel
theorem dX5_advanceMove_29 : decode cX5_advanceMove 29 = .ok (.iconst 0, 1) := by decide +kernel
theorem dX5_advanceMove_30 : decode cX5_advanceMove 30 = .ok (.putfield 123, 3) := by decide +kernel
theorem dX5_advanceMove_33 : decode cX5_advanceMove 33 = .ok (.return_, 1) := by decide +kernel
theorem dX5_doKeys_0 : decode cX5_doKeys 0 = .ok (.aload_n 0, 1) := by decide +kernel
theorem dX5_doKeys_1 : decode cX5_doKeys 1 = .ok (.getfield 123, 3) := by decide +kernel
theorem dX5_doKeys_4 : decode cX5_doKeys 4 = .ok (.ifCond .eq 4, 3) := by decide +kernel
theorem dX5_doKeys_7 : decode cX5_doKeys 7 = .ok (.return_, 1) := by decide +kernel
theorem dX5_doKeys_8 : decode cX5_doKeys 8 = .ok (.iconst 0, 1) := by decide +kernel
theorem dX5_doKeys_9 : decode cX5_doKeys 9 = .ok (.istore_n 1, 1) := by decide +kernel
theorem dX5_doKeys_10 : decode cX5_doKeys 10 = .ok (.iload_n 1, 1) := by decide +kernel
theorem dX5_doKeys_11 : decode cX5_doKeys 11 = .ok (.aload_n 0, 1) := by decide +kernel
theorem dX5_doKeys_12 : decode cX5_doKeys 12 = .ok (.getfield 24, 3) := by decide +kernel
theorem dX5_doKeys_15 : decode cX5_doKeys 15 = .ok (.invokevirtual 57, 3) := by decide +kernel
theorem dX5_doKeys_18 : decode cX5_doKeys 18 = .ok (.if_icmp .ge 59, 3) := by decide +kernel
theorem dX5_doKeys_21 : decode cX5_doKeys 21 = .ok (.aload_n 0, 1) := by decide +kernel
theorem dX5_doKeys_22 : decode cX5_doKeys 22 = .ok (.getfield 24, 3) := by decide +kernel
theorem dX5_doKeys_25 : decode cX5_doKeys 25 = .ok (.iload_n 1, 1) := by decide +kernel
theorem dX5_doKeys_26 : decode cX5_doKeys 26 = .ok (.invokevirtual 60, 3) := by decide +kernel
theorem dX5_doKeys_29 : decode cX5_doKeys 29 = .ok (.checkcast 100, 3) := by decide +kernel
theorem dX5_doKeys_32 : decode cX5_doKeys 32 = .ok (.astore_n 2, 1) := by decide +kernel
theorem dX5_doKeys_33 : decode cX5_doKeys 33 = .ok (.aload_n 2, 1) := by decide +kernel
theorem dX5_doKeys_34 : decode cX5_doKeys 34 = .ok (.getfield 102, 3) := by decide +kernel
theorem dX5_doKeys_37 : decode cX5_doKeys 37 = .ok (.getfield 126, 3) := by decide +kernel
theorem dX5_doKeys_40 : decode cX5_doKeys 40 = .ok (.ifCond .eq 19, 3) := by decide +kernel
theorem dX5_doKeys_43 : decode cX5_doKeys 43 = .ok (.aload_n 2, 1) := by decide +kernel
theorem dX5_doKeys_44 : decode cX5_doKeys 44 = .ok (.getfield 102, 3) := by decide +kernel
theorem dX5_doKeys_47 : decode cX5_doKeys 47 = .ok (.aload_n 2, 1) := by decide +kernel
theorem dX5_doKeys_48 : decode cX5_doKeys 48 = .ok (.getfield 129, 3) := by decide +kernel
theorem dX5_doKeys_51 : decode cX5_doKeys 51 = .ok (.invokevirtual 132, 3) := by decide +kernel
theorem dX5_doKeys_54 : decode cX5_doKeys 54 = .ok (.aload_n 0, 1) := by decide +kernel
theorem dX5_doKeys_55 : decode cX5_doKeys 55 = .ok (.invokevirtual 53, 3) := by decide +kernel
theorem dX5_doKeys_58 : decode cX5_doKeys 58 = .ok (.pop, 1) := by decide +kernel
theorem dX5_doKeys_59 : decode cX5_doKeys 59 = .ok (.aload_n 2, 1) := by decide +kernel
theorem dX5_doKeys_60 : decode cX5_doKeys 60 = .ok (.getfield 106, 3) := by decide +kernel
theorem dX5_doKeys_63 : decode cX5_doKeys 63 = .ok (.aload_n 0, 1) := by decide +kernel
theorem dX5_doKeys_64 : decode cX5_doKeys 64 = .ok (.aload_n 2, 1) := by decide +kernel
theorem dX5_doKeys_65 : decode cX5_doKeys 65 = .ok (.invokevirtual 136, 3) := by decide +kernel
theorem dX5_doKeys_68 : decode cX5_doKeys 68 = .ok (.invokevirtual 140, 3) := by decide +kernel
theorem dX5_doKeys_71 : decode cX5_doKeys 71 = .ok (.iinc 1 1, 3) := by decide +kernel
theorem dX5_doKeys_74 : decode cX5_doKeys 74 = .ok (.goto (-64), 3) := by decide +kernel
theorem dX5_doKeys_77 : decode cX5_doKeys 77 = .ok (.aload_n 0, 1) := by decide +kernel
theorem dX5_doKeys_78 : decode cX5_doKeys 78 = .ok (.getfield 24, 3) := by decide +kernel
theorem dX5_doKeys_81 : decode cX5_doKeys 81 = .ok (.invokevirtual 146, 3) := by decide +kernel
theorem dX5_doKeys_84 : decode cX5_doKeys 84 = .ok (.return_, 1) := by decide +kernel
theorem dX5_isRight_0 : decode cX5_isRight 0 = .ok (.aload_n 1, 1) := by decide +kernel
theorem dX5_isRight_1 : decode cX5_isRight 1 = .ok (.getfield 102, 3) := by decide +kernel
theorem dX5_isRight_4 : decode cX5_isRight 4 = .ok (.aload_n 1, 1) := by decide +kernel
theorem dX5_isRight_5 : decode cX5_isRight 5 = .ok (.getfield 110, 3) := by decide +kernel
theorem dX5_isRight_8 : decode cX5_isRight 8 = .ok (.invokevirtual 113, 3) := by decide +kernel
theorem dX5_isRight_11 : decode cX5_isRight 11 = .ok (.istore_n 2, 1) := by decide +kernel
theorem dX5_isRight_12 : decode cX5_isRight 12 = .ok (.iload_n 2, 1) := by decide +kernel
theorem dX5_isRight_13 : decode cX5_isRight 13 = .ok (.iconst (-1), 1) := by decide +kernel
theorem dX5_isRight_14 : decode cX5_isRight 14 = .ok (.if_icmp .eq 30, 3) := by decide +kernel
theorem dX5_isRight_17 : decode cX5_isRight 17 = .ok (.aload_n 1, 1) := by decide +kernel
theorem dX5_isRight_18 : decode cX5_isRight 18 = .ok (.getfield 102, 3) := by decide +kernel
theorem dX5_isRight_21 : decode cX5_isRight 21 = .ok (.getfield 126, 3) := by decide +kernel
theorem dX5_isRight_24 : decode cX5_isRight 24 = .ok (.ifCond .eq 20, 3) := by decide +kernel
theorem dX5_isRight_27 : decode cX5_isRight 27 = .ok (.aload_n 0, 1) := by decide +kernel
theorem dX5_isRight_28 : decode cX5_isRight 28 = .ok (.getfield 27, 3) := by decide +kernel
theorem dX5_isRight_31 : decode cX5_isRight 31 = .ok (.iload_n 2, 1) := by decide +kernel
theorem dX5_isRight_32 : decode cX5_isRight 32 = .ok (.iaload, 1) := by decide +kernel
theorem dX5_isRight_33 : decode cX5_isRight 33 = .ok (.aload_n 1, 1) := by decide +kernel
theorem dX5_isRight_34 : decode cX5_isRight 34 = .ok (.getfield 129, 3) := by decide +kernel
theorem dX5_isRight_37 : decode cX5_isRight 37 = .ok (.if_icmp .ne 7, 3) := by decide +kernel
theorem dX5_isRight_40 : decode cX5_isRight 40 = .ok (.iconst 1, 1) := by decide +kernel
theorem dX5_isRight_41 : decode cX5_isRight 41 = .ok (.goto 4, 3) := by decide +kernel
theorem dX5_isRight_44 : decode cX5_isRight 44 = .ok (.iconst 0, 1) := by decide +kernel
theorem dX5_isRight_45 : decode cX5_isRight 45 = .ok (.ireturn, 1) := by decide +kernel
theorem dX5_lookForRecording_0 : decode cX5_lookForRecording 0 = .ok (.aload_n 0, 1) := by decide +kernel
theorem dX5_lookForRecording_1 : decode cX5_lookForRecording 1 = .ok (.getfield 91, 3) := by decide +kernel
theorem dX5_lookForRecording_4 : decode cX5_lookForRecording 4 = .ok (.ifnull 13, 3) := by decide +kernel
theorem dX5_lookForRecording_7 : decode cX5_lookForRecording 7 = .ok (.aload_n 0, 1) := by decide +kernel
theorem dX5_lookForRecording_8 : decode cX5_lookForRecording 8 = .ok (.getfield 91, 3) := by decide +kernel
theorem dX5_lookForRecording_11 : decode cX5_lookForRecording 11 = .ok (.invokevirtual 149, 3) := by decide +kernel
theorem dX5_lookForRecording_14 : decode cX5_lookForRecording 14 = .ok (.ifCond .eq 4, 3) := by decide +kernel
theorem dX5_lookForRecording_17 : decode cX5_lookForRecording 17 = .ok (.return_, 1) := by decide +kernel
theorem dX5_lookForRecording_18 : decode cX5_lookForRecording 18 = .ok (.iconst 0, 1) := by decide +kernel
theorem dX5_lookForRecording_19 : decode cX5_lookForRecording 19 = .ok (.istore_n 1, 1) := by decide +kernel
theorem dX5_lookForRecording_20 : decode cX5_lookForRecording 20 = .ok (.iload_n 1, 1) := by decide +kernel
theorem dX5_lookForRecording_21 : decode cX5_lookForRecording 21 = .ok (.bipush 96, 2) := by decide +kernel
theorem dX5_lookForRecording_23 : decode cX5_lookForRecording 23 = .ok (.if_icmp .ge 63, 3) := by decide +kernel
theorem dX5_lookForRecording_26 : decode cX5_lookForRecording 26 = .ok (.aload_n 0, 1) := by decide +kernel
theorem dX5_lookForRecording_27 : decode cX5_lookForRecording 27 = .ok (.iload_n 1, 1) := by decide +kernel
theorem dX5_lookForRecording_28 : decode cX5_lookForRecording 28 = .ok (.bipush 12, 2) := by decide +kernel
theorem dX5_lookForRecording_30 : decode cX5_lookForRecording 30 = .ok (.irem, 1) := by decide +kernel
theorem dX5_lookForRecording_31 : decode cX5_lookForRecording 31 = .ok (.iload_n 1, 1) := by decide +kernel
theorem dX5_lookForRecording_32 : decode cX5_lookForRecording 32 = .ok (.bipush 12, 2) := by decide +kernel
theorem dX5_lookForRecording_34 : decode cX5_lookForRecording 34 = .ok (.idiv, 1) := by decide +kernel
theorem dX5_lookForRecording_35 : decode cX5_lookForRecording 35 = .ok (.invokevirtual 75, 3) := by decide +kernel
theorem dX5_lookForRecording_38 : decode cX5_lookForRecording 38 = .ok (.astore_n 2, 1) := by decide +kernel
theorem dX5_lookForRecording_39 : decode cX5_lookForRecording 39 = .ok (.aload_n 2, 1) := by decide +kernel
theorem dX5_lookForRecording_40 : decode cX5_lookForRecording 40 = .ok (.ifnull 14, 3) := by decide +kernel
theorem dX5_lookForRecording_43 : decode cX5_lookForRecording 43 = .ok (.aload_n 2, 1) := by decide +kernel
theorem dX5_lookForRecording_44 : decode cX5_lookForRecording 44 = .ok (.getfield 152, 3) := by decide +kernel
theorem dX5_lookForRecording_47 : decode cX5_lookForRecording 47 = .ok (.ifCond .eq 7, 3) := by decide +kernel
theorem dX5_lookForRecording_50 : decode cX5_lookForRecording 50 = .ok (.iconst 1, 1) := by decide +kernel
theorem dX5_lookForRecording_51 : decode cX5_lookForRecording 51 = .ok (.goto 4, 3) := by decide +kernel
theorem dX5_lookForRecording_54 : decode cX5_lookForRecording 54 = .ok (.iconst 0, 1) := by decide +kernel
theorem dX5_lookForRecording_55 : decode cX5_lookForRecording 55 = .ok (.istore_n 3, 1) := by decide +kernel
theorem dX5_lookForRecording_56 : decode cX5_lookForRecording 56 = .ok (.aload_n 0, 1) := by decide +kernel
theorem dX5_lookForRecording_57 : decode cX5_lookForRecording 57 = .ok (.getfield 91, 3) := by decide +kernel
theorem dX5_lookForRecording_60 : decode cX5_lookForRecording 60 = .ok (.iload_n 1, 1) := by decide +kernel
theorem dX5_lookForRecording_61 : decode cX5_lookForRecording 61 = .ok (.iload_n 3, 1) := by decide +kernel
theorem dX5_lookForRecording_62 : decode cX5_lookForRecording 62 = .ok (.ifCond .eq 9, 3) := by decide +kernel
theorem dX5_lookForRecording_65 : decode cX5_lookForRecording 65 = .ok (.sipush 255, 3) := by decide +kernel
theorem dX5_lookForRecording_68 : decode cX5_lookForRecording 68 = .ok (.goto 9, 3) := by decide +kernel
theorem dX5_lookForRecording_71 : decode cX5_lookForRecording 71 = .ok (.aload_n 0, 1) := by decide +kernel
theorem dX5_lookForRecording_72 : decode cX5_lookForRecording 72 = .ok (.getfield 27, 3) := by decide +kernel
theorem dX5_lookForRecording_75 : decode cX5_lookForRecording 75 = .ok (.iload_n 1, 1) := by decide +kernel
theorem dX5_lookForRecording_76 : decode cX5_lookForRecording 76 = .ok (.iaload, 1) := by decide +kernel
theorem dX5_lookForRecording_77 : decode cX5_lookForRecording 77 = .ok (.invokevirtual 155, 3) := by decide +kernel
theorem dX5_lookForRecording_80 : decode cX5_lookForRecording 80 = .ok (.iinc 1 1, 3) := by decide +kernel
theorem dX5_lookForRecording_83 : decode cX5_lookForRecording 83 = .ok (.goto (-63), 3) := by decide +kernel
theorem dX5_lookForRecording_86 : decode cX5_lookForRecording 86 = .ok (.aload_n 0, 1) := by decide +kernel
theorem dX5_lookForRecording_87 : decode cX5_lookForRecording 87 = .ok (.getfield 91, 3) := by decide +kernel
theorem dX5_lookForRecording_90 : decode cX5_lookForRecording 90 = .ok (.invokevirtual 159, 3) := by decide +kernel
theorem dX5_lookForRecording_93 : decode cX5_lookForRecording 93 = .ok (.return_, 1) := by decide +kernel
theorem dX6_init_0 : decode cX6_init 0 = .ok (.aload_n 0, 1) := by decide +kernel
theorem dX6_init_1 : decode cX6_init 1 = .ok (.invokespecial 3, 3) := by decide +kernel
theorem dX6_init_4 : decode cX6_init 4 = .ok (.aload_n 0, 1) := by decide +kernel
theorem dX6_init_5 : decode cX6_init 5 = .ok (.bipush 96, 2) := by decide +kernel
theorem dX6_init_7 : decode cX6_init 7 = .ok (.newarray .int, 2) := by decide +kernel
theorem dX6_init_9 : decode cX6_init 9 = .ok (.putfield 9, 3) := by decide +kernel
theorem dX6_init_12 : decode cX6_init 12 = .ok (.aload_n 0, 1) := by decide +kernel
theorem dX6_init_13 : decode cX6_init 13 = .ok (.bipush 8, 2) := by decide +kernel
theorem dX6_init_15 : decode cX6_init 15 = .ok (.newarray .boolean, 2) := by decide +kernel
theorem dX6_init_17 : decode cX6_init 17 = .ok (.putfield 15, 3) := by decide +kernel
theorem dX6_init_20 : decode cX6_init 20 = .ok (.return_, 1) := by decide +kernel
theorem dX6_begin_0 : decode cX6_begin 0 = .ok (.aload_n 0, 1) := by decide +kernel
theorem dX6_begin_1 : decode cX6_begin 1 = .ok (.iconst 1, 1) := by decide +kernel
theorem dX6_begin_2 : decode cX6_begin 2 = .ok (.putfield 19, 3) := by decide +kernel
theorem dX6_begin_5 : decode cX6_begin 5 = .ok (.iconst 0, 1) := by decide +kernel
theorem dX6_begin_6 : decode cX6_begin 6 = .ok (.istore_n 1, 1) := by decide +kernel
theorem dX6_begin_7 : decode cX6_begin 7 = .ok (.iload_n 1, 1) := by decide +kernel
theorem dX6_begin_8 : decode cX6_begin 8 = .ok (.bipush 8, 2) := by decide +kernel
theorem dX6_begin_10 : decode cX6_begin 10 = .ok (.if_icmp .ge 16, 3) := by decide +kernel
theorem dX6_begin_13 : decode cX6_begin 13 = .ok (.aload_n 0, 1) := by decide +kernel
theorem dX6_begin_14 : decode cX6_begin 14 = .ok (.getfield 15, 3) := by decide +kernel
theorem dX6_begin_17 : decode cX6_begin 17 = .ok (.iload_n 1, 1) := by decide +kernel
theorem dX6_begin_18 : decode cX6_begin 18 = .ok (.iconst 0, 1) := by decide +kernel
theorem dX6_begin_19 : decode cX6_begin 19 = .ok (.bastore, 1) := by decide +kernel
theorem dX6_begin_20 : decode cX6_begin 20 = .ok (.iinc 1 1, 3) := by decide +kernel
theorem dX6_begin_23 : decode cX6_begin 23 = .ok (.goto (-16), 3) := by decide +kernel
theorem dX6_begin_26 : decode cX6_begin 26 = .ok (.return_, 1) := by decide +kernel
theorem dX6_isOther_0 : decode cX6_isOther 0 = .ok (.iload_n 2, 1) := by decide +kernel
theorem dX6_isOther_1 : decode cX6_isOther 1 = .ok (.bipush 12, 2) := by decide +kernel
theorem dX6_isOther_3 : decode cX6_isOther 3 = .ok (.imul, 1) := by decide +kernel
theorem dX6_isOther_4 : decode cX6_isOther 4 = .ok (.istore_n 3, 1) := by decide +kernel
theorem dX6_isOther_5 : decode cX6_isOther 5 = .ok (.iload_n 3, 1) := by decide +kernel
theorem dX6_isOther_6 : decode cX6_isOther 6 = .ok (.iload_n 2, 1) := by decide +kernel
theorem dX6_isOther_7 : decode cX6_isOther 7 = .ok (.iconst 1, 1) := by decide +kernel
theorem dX6_isOther_8 : decode cX6_isOther 8 = .ok (.iadd, 1) := by decide +kernel
theorem dX6_isOther_9 : decode cX6_isOther 9 = .ok (.bipush 12, 2) := by decide +kernel
theorem dX6_isOther_11 : decode cX6_isOther 11 = .ok (.imul, 1) := by decide +kernel
theorem dX6_isOther_12 : decode cX6_isOther 12 = .ok (.if_icmp .ge 23, 3) := by decide +kernel
theorem dX6_isOther_15 : decode cX6_isOther 15 = .ok (.aload_n 0, 1) := by decide +kernel
theorem dX6_isOther_16 : decode cX6_isOther 16 = .ok (.getfield 9, 3) := by decide +kernel
theorem dX6_isOther_19 : decode cX6_isOther 19 = .ok (.iload_n 3, 1) := by decide +kernel
theorem dX6_isOther_20 : decode cX6_isOther 20 = .ok (.iaload, 1) := by decide +kernel
theorem dX6_isOther_21 : decode cX6_isOther 21 = .ok (.aload_n 1, 1) := by decide +kernel
theorem dX6_isOther_22 : decode cX6_isOther 22 = .ok (.iload_n 3, 1) := by decide +kernel
theorem dX6_isOther_23 : decode cX6_isOther 23 = .ok (.iaload, 1) := by decide +kernel
theorem dX6_isOther_24 : decode cX6_isOther 24 = .ok (.if_icmp .eq 5, 3) := by decide +kernel
theorem dX6_isOther_27 : decode cX6_isOther 27 = .ok (.iconst 1, 1) := by decide +kernel
theorem dX6_isOther_28 : decode cX6_isOther 28 = .ok (.ireturn, 1) := by decide +kernel
theorem dX6_isOther_29 : decode cX6_isOther 29 = .ok (.iinc 3 1, 3) := by decide +kernel
theorem dX6_isOther_32 : decode cX6_isOther 32 = .ok (.goto (-27), 3) := by decide +kernel
theorem dX6_isOther_35 : decode cX6_isOther 35 = .ok (.iconst 0, 1) := by decide +kernel
theorem dX6_isOther_36 : decode cX6_isOther 36 = .ok (.ireturn, 1) := by decide +kernel
theorem dX6_countRowsLeft_0 : decode cX6_countRowsLeft 0 = .ok (.iconst 0, 1) := by decide +kernel
theorem dX6_countRowsLeft_1 : decode cX6_countRowsLeft 1 = .ok (.istore_n 2, 1) := by decide +kernel
theorem dX6_countRowsLeft_2 : decode cX6_countRowsLeft 2 = .ok (.iconst 0, 1) := by decide +kernel
theorem dX6_countRowsLeft_3 : decode cX6_countRowsLeft 3 = .ok (.istore_n 3, 1) := by decide +kernel
theorem dX6_countRowsLeft_4 : decode cX6_countRowsLeft 4 = .ok (.iload_n 3, 1) := by decide +kernel
theorem dX6_countRowsLeft_5 : decode cX6_countRowsLeft 5 = .ok (.bipush 8, 2) := by decide +kernel
theorem dX6_countRowsLeft_7 : decode cX6_countRowsLeft 7 = .ok (.if_icmp .ge 30, 3) := by decide +kernel
theorem dX6_countRowsLeft_10 : decode cX6_countRowsLeft 10 = .ok (.aload_n 0, 1) := by decide +kernel
theorem dX6_countRowsLeft_11 : decode cX6_countRowsLeft 11 = .ok (.getfield 15, 3) := by decide +kernel
theorem dX6_countRowsLeft_14 : decode cX6_countRowsLeft 14 = .ok (.iload_n 3, 1) := by decide +kernel
theorem dX6_countRowsLeft_15 : decode cX6_countRowsLeft 15 = .ok (.baload, 1) := by decide +kernel
theorem dX6_countRowsLeft_16 : decode cX6_countRowsLeft 16 = .ok (.ifCond .eq 12, 3) := by decide +kernel
theorem dX6_countRowsLeft_19 : decode cX6_countRowsLeft 19 = .ok (.aload_n 0, 1) := by decide +kernel
theorem dX6_countRowsLeft_20 : decode cX6_countRowsLeft 20 = .ok (.aload_n 1, 1) := by decide +kernel
theorem dX6_countRowsLeft_21 : decode cX6_countRowsLeft 21 = .ok (.iload_n 3, 1) := by decide +kernel
theorem dX6_countRowsLeft_22 : decode cX6_countRowsLeft 22 = .ok (.invokevirtual 23, 3) := by decide +kernel
theorem dX6_countRowsLeft_25 : decode cX6_countRowsLeft 25 = .ok (.ifCond .eq 6, 3) := by decide +kernel
theorem dX6_countRowsLeft_28 : decode cX6_countRowsLeft 28 = .ok (.iinc 2 1, 3) := by decide +kernel
theorem dX6_countRowsLeft_31 : decode cX6_countRowsLeft 31 = .ok (.iinc 3 1, 3) := by decide +kernel
theorem dX6_countRowsLeft_34 : decode cX6_countRowsLeft 34 = .ok (.goto (-30), 3) := by decide +kernel
theorem dX6_countRowsLeft_37 : decode cX6_countRowsLeft 37 = .ok (.iload_n 2, 1) := by decide +kernel
theorem dX6_countRowsLeft_38 : decode cX6_countRowsLeft 38 = .ok (.ireturn, 1) := by decide +kernel
theorem dX6_advance_0 : decode cX6_advance 0 = .ok (.aload_n 0, 1) := by decide +kernel
theorem dX6_advance_1 : decode cX6_advance 1 = .ok (.aload_n 1, 1) := by decide +kernel
theorem dX6_advance_2 : decode cX6_advance 2 = .ok (.invokevirtual 27, 3) := by decide +kernel
theorem dX6_advance_5 : decode cX6_advance 5 = .ok (.iconst 2, 1) := by decide +kernel
theorem dX6_advance_6 : decode cX6_advance 6 = .ok (.if_icmp .gt 20, 3) := by decide +kernel
theorem dX6_advance_9 : decode cX6_advance 9 = .ok (.aload_n 0, 1) := by decide +kernel
theorem dX6_advance_10 : decode cX6_advance 10 = .ok (.iconst 0, 1) := by decide +kernel
theorem dX6_advance_11 : decode cX6_advance 11 = .ok (.putfield 19, 3) := by decide +kernel
theorem dX6_advance_14 : decode cX6_advance 14 = .ok (.aload_n 0, 1) := by decide +kernel
theorem dX6_advance_15 : decode cX6_advance 15 = .ok (.dup, 1) := by decide +kernel
theorem dX6_advance_16 : decode cX6_advance 16 = .ok (.getfield 31, 3) := by decide +kernel
theorem dX6_advance_19 : decode cX6_advance 19 = .ok (.iconst 1, 1) := by decide +kernel
theorem dX6_advance_20 : decode cX6_advance 20 = .ok (.iadd, 1) := by decide +kernel
theorem dX6_advance_21 : decode cX6_advance 21 = .ok (.putfield 31, 3) := by decide +kernel
theorem dX6_advance_24 : decode cX6_advance 24 = .ok (.iconst 1, 1) := by decide +kernel
theorem dX6_advance_25 : decode cX6_advance 25 = .ok (.ireturn, 1) := by decide +kernel
theorem dX6_advance_26 : decode cX6_advance 26 = .ok (.aload_n 0, 1) := by decide +kernel
theorem dX6_advance_27 : decode cX6_advance 27 = .ok (.aload_n 1, 1) := by decide +kernel
theorem dX6_advance_28 : decode cX6_advance 28 = .ok (.invokevirtual 35, 3) := by decide +kernel
theorem dX6_advance_31 : decode cX6_advance 31 = .ok (.istore_n 2, 1) := by decide +kernel
theorem dX6_advance_32 : decode cX6_advance 32 = .ok (.aload_n 0, 1) := by decide +kernel
theorem dX6_advance_33 : decode cX6_advance 33 = .ok (.getfield 15, 3) := by decide +kernel
theorem dX6_advance_36 : decode cX6_advance 36 = .ok (.iload_n 2, 1) := by decide +kernel
theorem dX6_advance_37 : decode cX6_advance 37 = .ok (.iconst 1, 1) := by decide +kernel
theorem dX6_advance_38 : decode cX6_advance 38 = .ok (.bastore, 1) := by decide +kernel
theorem dX6_advance_39 : decode cX6_advance 39 = .ok (.aload_n 1, 1) := by decide +kernel
theorem dX6_advance_40 : decode cX6_advance 40 = .ok (.iload_n 2, 1) := by decide +kernel
theorem dX6_advance_41 : decode cX6_advance 41 = .ok (.bipush 12, 2) := by decide +kernel
theorem dX6_advance_43 : decode cX6_advance 43 = .ok (.imul, 1) := by decide +kernel
theorem dX6_advance_44 : decode cX6_advance 44 = .ok (.aload_n 0, 1) := by decide +kernel
theorem dX6_advance_45 : decode cX6_advance 45 = .ok (.getfield 9, 3) := by decide +kernel
theorem dX6_advance_48 : decode cX6_advance 48 = .ok (.iload_n 2, 1) := by decide +kernel
theorem dX6_advance_49 : decode cX6_advance 49 = .ok (.bipush 12, 2) := by decide +kernel
theorem dX6_advance_51 : decode cX6_advance 51 = .ok (.imul, 1) := by decide +kernel
theorem dX6_advance_52 : decode cX6_advance 52 = .ok (.bipush 12, 2) := by decide +kernel
theorem dX6_advance_54 : decode cX6_advance 54 = .ok (.invokestatic 38, 3) := by decide +kernel
theorem dX6_advance_57 : decode cX6_advance 57 = .ok (.iconst 0, 1) := by decide +kernel
theorem dX6_advance_58 : decode cX6_advance 58 = .ok (.ireturn, 1) := by decide +kernel
theorem dX6_nextRow_0 : decode cX6_nextRow 0 = .ok (.iconst 0, 1) := by decide +kernel
theorem dX6_nextRow_1 : decode cX6_nextRow 1 = .ok (.istore_n 2, 1) := by decide +kernel
theorem dX6_nextRow_2 : decode cX6_nextRow 2 = .ok (.iload_n 2, 1) := by decide +kernel
theorem dX6_nextRow_3 : decode cX6_nextRow 3 = .ok (.bipush 8, 2) := by decide +kernel
theorem dX6_nextRow_5 : decode cX6_nextRow 5 = .ok (.if_icmp .ge 20, 3) := by decide +kernel
theorem dX6_nextRow_8 : decode cX6_nextRow 8 = .ok (.aload_n 0, 1) := by decide +kernel
theorem dX6_nextRow_9 : decode cX6_nextRow 9 = .ok (.getfield 15, 3) := by decide +kernel
theorem dX6_nextRow_12 : decode cX6_nextRow 12 = .ok (.iload_n 2, 1) := by decide +kernel
theorem dX6_nextRow_13 : decode cX6_nextRow 13 = .ok (.baload, 1) := by decide +kernel
theorem dX6_nextRow_14 : decode cX6_nextRow 14 = .ok (.ifCond .ne 5, 3) := by decide +kernel
theorem dX6_nextRow_17 : decode cX6_nextRow 17 = .ok (.iload_n 2, 1) := by decide +kernel
theorem dX6_nextRow_18 : decode cX6_nextRow 18 = .ok (.ireturn, 1) := by decide +kernel
theorem dX6_nextRow_19 : decode cX6_nextRow 19 = .ok (.iinc 2 1, 3) := by decide +kernel
theorem dX6_nextRow_22 : decode cX6_nextRow 22 = .ok (.goto (-20), 3) := by decide +kernel
theorem dX6_nextRow_25 : decode cX6_nextRow 25 = .ok (.iconst 0, 1) := by decide +kernel
theorem dX6_nextRow_26 : decode cX6_nextRow 26 = .ok (.istore_n 2, 1) := by decide +kernel
theorem dX6_nextRow_27 : decode cX6_nextRow 27 = .ok (.iload_n 2, 1) := by decide +kernel
theorem dX6_nextRow_28 : decode cX6_nextRow 28 = .ok (.bipush 8, 2) := by decide +kernel
theorem dX6_nextRow_30 : decode cX6_nextRow 30 = .ok (.if_icmp .ge 20, 3) := by decide +kernel
theorem dX6_nextRow_33 : decode cX6_nextRow 33 = .ok (.aload_n 0, 1) := by decide +kernel
theorem dX6_nextRow_34 : decode cX6_nextRow 34 = .ok (.aload_n 1, 1) := by decide +kernel
theorem dX6_nextRow_35 : decode cX6_nextRow 35 = .ok (.iload_n 2, 1) := by decide +kernel
theorem dX6_nextRow_36 : decode cX6_nextRow 36 = .ok (.invokevirtual 23, 3) := by decide +kernel
theorem dX6_nextRow_39 : decode cX6_nextRow 39 = .ok (.ifCond .eq 5, 3) := by decide +kernel
theorem dX6_nextRow_42 : decode cX6_nextRow 42 = .ok (.iload_n 2, 1) := by decide +kernel
theorem dX6_nextRow_43 : decode cX6_nextRow 43 = .ok (.ireturn, 1) := by decide +kernel
theorem dX6_nextRow_44 : decode cX6_nextRow 44 = .ok (.iinc 2 1, 3) := by decide +kernel
theorem dX6_nextRow_47 : decode cX6_nextRow 47 = .ok (.goto (-20), 3) := by decide +kernel
theorem dX6_nextRow_50 : decode cX6_nextRow 50 = .ok (.iconst 0, 1) := by decide +kernel
theorem dX6_nextRow_51 : decode cX6_nextRow 51 = .ok (.ireturn, 1) := by decide +kernel
theorem dX7_init_0 : decode cX7_init 0 = .ok (.aload_n 0, 1) := by decide +kernel
theorem dX7_init_1 : decode cX7_init 1 = .ok (.invokespecial 3, 3) := by decide +kernel
theorem dX7_init_4 : decode cX7_init 4 = .ok (.aload_n 0, 1) := by decide +kernel
theorem dX7_init_5 : decode cX7_init 5 = .ok (.iload_n 1, 1) := by decide +kernel
theorem dX7_init_6 : decode cX7_init 6 = .ok (.putfield 9, 3) := by decide +kernel
theorem dX7_init_9 : decode cX7_init 9 = .ok (.aload_n 0, 1) := by decide +kernel
theorem dX7_init_10 : decode cX7_init 10 = .ok (.iload_n 2, 1) := by decide +kernel
theorem dX7_init_11 : decode cX7_init 11 = .ok (.putfield 15, 3) := by decide +kernel
theorem dX7_init_14 : decode cX7_init 14 = .ok (.aload_n 0, 1) := by decide +kernel
theorem dX7_init_15 : decode cX7_init 15 = .ok (.iload_n 3, 1) := by decide +kernel
theorem dX7_init_16 : decode cX7_init 16 = .ok (.putfield 18, 3) := by decide +kernel
theorem dX7_init_19 : decode cX7_init 19 = .ok (.aload_n 0, 1) := by decide +kernel
theorem dX7_init_20 : decode cX7_init 20 = .ok (.iload 4, 2) := by decide +kernel
theorem dX7_init_22 : decode cX7_init 22 = .ok (.putfield 21, 3) := by decide +kernel
theorem dX7_init_25 : decode cX7_init 25 = .ok (.aload_n 0, 1) := by decide +kernel
theorem dX7_init_26 : decode cX7_init 26 = .ok (.iload_n 3, 1) := by decide +kernel
theorem dX7_init_27 : decode cX7_init 27 = .ok (.iload 4, 2) := by decide +kernel
theorem dX7_init_29 : decode cX7_init 29 = .ok (.imul, 1) := by decide +kernel
theorem dX7_init_30 : decode cX7_init 30 = .ok (.newarray .int, 2) := by decide +kernel
theorem dX7_init_32 : decode cX7_init 32 = .ok (.putfield 24, 3) := by decide +kernel
theorem dX7_init_35 : decode cX7_init 35 = .ok (.aload_n 0, 1) := by decide +kernel
theorem dX7_init_36 : decode cX7_init 36 = .ok (.iconst 1, 1) := by decide +kernel
theorem dX7_init_37 : decode cX7_init 37 = .ok (.putfield 28, 3) := by decide +kernel
theorem dX7_init_40 : decode cX7_init 40 = .ok (.aload_n 0, 1) := by decide +kernel
theorem dX7_init_41 : decode cX7_init 41 = .ok (.iconst 1, 1) := by decide +kernel
theorem dX7_init_42 : decode cX7_init 42 = .ok (.putfield 32, 3) := by decide +kernel
theorem dX7_init_45 : decode cX7_init 45 = .ok (.return_, 1) := by decide +kernel
theorem dX7_covers_0 : decode cX7_covers 0 = .ok (.iload_n 1, 1) := by decide +kernel
theorem dX7_covers_1 : decode cX7_covers 1 = .ok (.aload_n 0, 1) := by decide +kernel
theorem dX7_covers_2 : decode cX7_covers 2 = .ok (.getfield 9, 3) := by decide +kernel
theorem dX7_covers_5 : decode cX7_covers 5 = .ok (.if_icmp .lt 41, 3) := by decide +kernel
theorem dX7_covers_8 : decode cX7_covers 8 = .ok (.iload_n 1, 1) := by decide +kernel
theorem dX7_covers_9 : decode cX7_covers 9 = .ok (.aload_n 0, 1) := by decide +kernel
theorem dX7_covers_10 : decode cX7_covers 10 = .ok (.getfield 9, 3) := by decide +kernel
theorem dX7_covers_13 : decode cX7_covers 13 = .ok (.aload_n 0, 1) := by decide +kernel
theorem dX7_covers_14 : decode cX7_covers 14 = .ok (.getfield 18, 3) := by decide +kernel
theorem dX7_covers_17 : decode cX7_covers 17 = .ok (.iadd, 1) := by decide +kernel
theorem dX7_covers_18 : decode cX7_covers 18 = .ok (.if_icmp .ge 28, 3) := by decide +kernel
theorem dX7_covers_21 : decode cX7_covers 21 = .ok (.iload_n 2, 1) := by decide +kernel
theorem dX7_covers_22 : decode cX7_covers 22 = .ok (.aload_n 0, 1) := by decide +kernel
theorem dX7_covers_23 : decode cX7_covers 23 = .ok (.getfield 15, 3) := by decide +kernel
theorem dX7_covers_26 : decode cX7_covers 26 = .ok (.if_icmp .lt 20, 3) := by decide +kernel
theorem dX7_covers_29 : decode cX7_covers 29 = .ok (.iload_n 2, 1) := by decide +kernel
theorem dX7_covers_30 : decode cX7_covers 30 = .ok (.aload_n 0, 1) := by decide +kernel
theorem dX7_covers_31 : decode cX7_covers 31 = .ok (.getfield 15, 3) := by decide +kernel
theorem dX7_covers_34 : decode cX7_covers 34 = .ok (.aload_n 0, 1) := by decide +kernel
theorem dX7_covers_35 : decode cX7_covers 35 = .ok (.getfield 21, 3) := by decide +kernel
theorem dX7_covers_38 : decode cX7_covers 38 = .ok (.iadd, 1) := by decide +kernel
theorem dX7_covers_39 : decode cX7_covers 39 = .ok (.if_icmp .ge 7, 3) := by decide +kernel
theorem dX7_covers_42 : decode cX7_covers 42 = .ok (.iconst 1, 1) := by decide +kernel
theorem dX7_covers_43 : decode cX7_covers 43 = .ok (.goto 4, 3) := by decide +kernel
theorem dX7_covers_46 : decode cX7_covers 46 = .ok (.iconst 0, 1) := by decide +kernel
theorem dX7_covers_47 : decode cX7_covers 47 = .ok (.ireturn, 1) := by decide +kernel
theorem dX7_colourAt_0 : decode cX7_colourAt 0 = .ok (.aload_n 0, 1) := by decide +kernel
theorem dX7_colourAt_1 : decode cX7_colourAt 1 = .ok (.getfield 24, 3) := by decide +kernel
theorem dX7_colourAt_4 : decode cX7_colourAt 4 = .ok (.iload_n 2, 1) := by decide +kernel
theorem dX7_colourAt_5 : decode cX7_colourAt 5 = .ok (.aload_n 0, 1) := by decide +kernel
theorem dX7_colourAt_6 : decode cX7_colourAt 6 = .ok (.getfield 15, 3) := by decide +kernel
theorem dX7_colourAt_9 : decode cX7_colourAt 9 = .ok (.isub, 1) := by decide +kernel
theorem dX7_colourAt_10 : decode cX7_colourAt 10 = .ok (.aload_n 0, 1) := by decide +kernel
theorem dX7_colourAt_11 : decode cX7_colourAt 11 = .ok (.getfield 18, 3) := by decide +kernel
theorem dX7_colourAt_14 : decode cX7_colourAt 14 = .ok (.imul, 1) := by decide +kernel
theorem dX7_colourAt_15 : decode cX7_colourAt 15 = .ok (.iload_n 1, 1) := by decide +kernel
theorem dX7_colourAt_16 : decode cX7_colourAt 16 = .ok (.iadd, 1) := by decide +kernel
theorem dX7_colourAt_17 : decode cX7_colourAt 17 = .ok (.aload_n 0, 1) := by decide +kernel
theorem dX7_colourAt_18 : decode cX7_colourAt 18 = .ok (.getfield 9, 3) := by decide +kernel
theorem dX7_colourAt_21 : decode cX7_colourAt 21 = .ok (.isub, 1) := by decide +kernel
theorem dX7_colourAt_22 : decode cX7_colourAt 22 = .ok (.iaload, 1) := by decide +kernel
theorem dX7_colourAt_23 : decode cX7_colourAt 23 = .ok (.ireturn, 1) := by decide +kernel
theorem dX7_fillPart_0 : decode cX7_fillPart 0 = .ok (.iconst 0, 1) := by decide +kernel
theorem dX7_fillPart_1 : decode cX7_fillPart 1 = .ok (.istore 6, 2) := by decide +kernel
theorem dX7_fillPart_3 : decode cX7_fillPart 3 = .ok (.iload_n 1, 1) := by decide +kernel
theorem dX7_fillPart_4 : decode cX7_fillPart 4 = .ok (.iload_n 3, 1) := by decide +kernel
theorem dX7_fillPart_5 : decode cX7_fillPart 5 = .ok (.iadd, 1) := by decide +kernel
theorem dX7_fillPart_6 : decode cX7_fillPart 6 = .ok (.aload_n 0, 1) := by decide +kernel
theorem dX7_fillPart_7 : decode cX7_fillPart 7 = .ok (.getfield 18, 3) := by decide +kernel
theorem dX7_fillPart_10 : decode cX7_fillPart 10 = .ok (.invokestatic 35, 3) := by decide +kernel
theorem dX7_fillPart_13 : decode cX7_fillPart 13 = .ok (.istore 7, 2) := by decide +kernel
theorem dX7_fillPart_15 : decode cX7_fillPart 15 = .ok (.iload_n 2, 1) := by decide +kernel
theorem dX7_fillPart_16 : decode cX7_fillPart 16 = .ok (.iload 4, 2) := by decide +kernel
theorem dX7_fillPart_18 : decode cX7_fillPart 18 = .ok (.iadd, 1) := by decide +kernel
theorem dX7_fillPart_19 : decode cX7_fillPart 19 = .ok (.aload_n 0, 1) := by decide +kernel
theorem dX7_fillPart_20 : decode cX7_fillPart 20 = .ok (.getfield 21, 3) := by decide +kernel
theorem dX7_fillPart_23 : decode cX7_fillPart 23 = .ok (.invokestatic 35, 3) := by decide +kernel
theorem dX7_fillPart_26 : decode cX7_fillPart 26 = .ok (.istore 8, 2) := by decide +kernel
theorem dX7_fillPart_28 : decode cX7_fillPart 28 = .ok (.iload_n 2, 1) := by decide +kernel
theorem dX7_fillPart_29 : decode cX7_fillPart 29 = .ok (.istore 9, 2) := by decide +kernel
theorem dX7_fillPart_31 : decode cX7_fillPart 31 = .ok (.iload 9, 2) := by decide +kernel
theorem dX7_fillPart_33 : decode cX7_fillPart 33 = .ok (.iload 8, 2) := by decide +kernel
theorem dX7_fillPart_35 : decode cX7_fillPart 35 = .ok (.if_icmp .ge 61, 3) := by decide +kernel
theorem dX7_fillPart_38 : decode cX7_fillPart 38 = .ok (.iload_n 1, 1) := by decide +kernel
theorem dX7_fillPart_39 : decode cX7_fillPart 39 = .ok (.istore 10, 2) := by decide +kernel
theorem dX7_fillPart_41 : decode cX7_fillPart 41 = .ok (.iload 10, 2) := by decide +kernel
theorem dX7_fillPart_43 : decode cX7_fillPart 43 = .ok (.iload 7, 2) := by decide +kernel
theorem dX7_fillPart_45 : decode cX7_fillPart 45 = .ok (.if_icmp .ge 45, 3) := by decide +kernel
theorem dX7_fillPart_48 : decode cX7_fillPart 48 = .ok (.iload 9, 2) := by decide +kernel
theorem dX7_fillPart_50 : decode cX7_fillPart 50 = .ok (.aload_n 0, 1) := by decide +kernel
theorem dX7_fillPart_51 : decode cX7_fillPart 51 = .ok (.getfield 18, 3) := by decide +kernel
theorem dX7_fillPart_54 : decode cX7_fillPart 54 = .ok (.imul, 1) := by decide +kernel
theorem dX7_fillPart_55 : decode cX7_fillPart 55 = .ok (.iload 10, 2) := by decide +kernel
theorem dX7_fillPart_57 : decode cX7_fillPart 57 = .ok (.iadd, 1) := by decide +kernel
theorem dX7_fillPart_58 : decode cX7_fillPart 58 = .ok (.istore 11, 2) := by decide +kernel
theorem dX7_fillPart_60 : decode cX7_fillPart 60 = .ok (.aload_n 0, 1) := by decide +kernel
theorem dX7_fillPart_61 : decode cX7_fillPart 61 = .ok (.getfield 24, 3) := by decide +kernel
theorem dX7_fillPart_64 : decode cX7_fillPart 64 = .ok (.iload 11, 2) := by decide +kernel
theorem dX7_fillPart_66 : decode cX7_fillPart 66 = .ok (.iaload, 1) := by decide +kernel
theorem dX7_fillPart_67 : decode cX7_fillPart 67 = .ok (.iload 5, 2) := by decide +kernel
theorem dX7_fillPart_69 : decode cX7_fillPart 69 = .ok (.if_icmp .eq 15, 3) := by decide +kernel
theorem dX7_fillPart_72 : decode cX7_fillPart 72 = .ok (.aload_n 0, 1) := by decide +kernel
theorem dX7_fillPart_73 : decode cX7_fillPart 73 = .ok (.getfield 24, 3) := by decide +kernel
theorem dX7_fillPart_76 : decode cX7_fillPart 76 = .ok (.iload 11, 2) := by decide +kernel
theorem dX7_fillPart_78 : decode cX7_fillPart 78 = .ok (.iload 5, 2) := by decide +kernel
theorem dX7_fillPart_80 : decode cX7_fillPart 80 = .ok (.iastore, 1) := by decide +kernel
theorem dX7_fillPart_81 : decode cX7_fillPart 81 = .ok (.iinc 6 1, 3) := by decide +kernel
theorem dX7_fillPart_84 : decode cX7_fillPart 84 = .ok (.iinc 10 1, 3) := by decide +kernel
theorem dX7_fillPart_87 : decode cX7_fillPart 87 = .ok (.goto (-46), 3) := by decide +kernel
theorem dX7_fillPart_90 : decode cX7_fillPart 90 = .ok (.iinc 9 1, 3) := by decide +kernel
theorem dX7_fillPart_93 : decode cX7_fillPart 93 = .ok (.goto (-62), 3) := by decide +kernel
theorem dX7_fillPart_96 : decode cX7_fillPart 96 = .ok (.iload 6, 2) := by decide +kernel
theorem dX7_fillPart_98 : decode cX7_fillPart 98 = .ok (.ireturn, 1) := by decide +kernel
theorem dX7_cellAhead_0 : decode cX7_cellAhead 0 = .ok (.aload_n 0, 1) := by decide +kernel
theorem dX7_cellAhead_1 : decode cX7_cellAhead 1 = .ok (.getfield 41, 3) := by decide +kernel
theorem dX7_cellAhead_4 : decode cX7_cellAhead 4 = .ok (.iload_n 1, 1) := by decide +kernel
theorem dX7_cellAhead_5 : decode cX7_cellAhead 5 = .ok (.iadd, 1) := by decide +kernel
theorem dX7_cellAhead_6 : decode cX7_cellAhead 6 = .ok (.aload_n 0, 1) := by decide +kernel
theorem dX7_cellAhead_7 : decode cX7_cellAhead 7 = .ok (.getfield 24, 3) := by decide +kernel
theorem dX7_cellAhead_10 : decode cX7_cellAhead 10 = .ok (.arraylength, 1) := by decide +kernel
theorem dX7_cellAhead_11 : decode cX7_cellAhead 11 = .ok (.irem, 1) := by decide +kernel
theorem dX7_cellAhead_12 : decode cX7_cellAhead 12 = .ok (.ireturn, 1) := by decide +kernel
theorem dX7_placeOf_0 : decode cX7_placeOf 0 = .ok (.aload_n 0, 1) := by decide +kernel
theorem dX7_placeOf_1 : decode cX7_placeOf 1 = .ok (.getfield 9, 3) := by decide +kernel
theorem dX7_placeOf_4 : decode cX7_placeOf 4 = .ok (.iload_n 1, 1) := by decide +kernel
theorem dX7_placeOf_5 : decode cX7_placeOf 5 = .ok (.aload_n 0, 1) := by decide +kernel
theorem dX7_placeOf_6 : decode cX7_placeOf 6 = .ok (.getfield 18, 3) := by decide +kernel
theorem dX7_placeOf_9 : decode cX7_placeOf 9 = .ok (.irem, 1) := by decide +kernel
theorem dX7_placeOf_10 : decode cX7_placeOf 10 = .ok (.iadd, 1) := by decide +kernel
theorem dX7_placeOf_11 : decode cX7_placeOf 11 = .ok (.istore_n 2, 1) := by decide +kernel
theorem dX7_placeOf_12 : decode cX7_placeOf 12 = .ok (.aload_n 0, 1) := by decide +kernel
theorem dX7_placeOf_13 : decode cX7_placeOf 13 = .ok (.getfield 15, 3) := by decide +kernel
theorem dX7_placeOf_16 : decode cX7_placeOf 16 = .ok (.iload_n 1, 1) := by decide +kernel
theorem dX7_placeOf_17 : decode cX7_placeOf 17 = .ok (.aload_n 0, 1) := by decide +kernel
theorem dX7_placeOf_18 : decode cX7_placeOf 18 = .ok (.getfield 18, 3) := by decide +kernel
theorem dX7_placeOf_21 : decode cX7_placeOf 21 = .ok (.idiv, 1) := by decide +kernel
theorem dX7_placeOf_22 : decode cX7_placeOf 22 = .ok (.iadd, 1) := by decide +kernel
theorem dX7_placeOf_23 : decode cX7_placeOf 23 = .ok (.istore_n 3, 1) := by decide +kernel
theorem dX7_placeOf_24 : decode cX7_placeOf 24 = .ok (.iload_n 2, 1) := by decide +kernel
theorem dX7_placeOf_25 : decode cX7_placeOf 25 = .ok (.iload_n 3, 1) := by decide +kernel
theorem dX7_placeOf_26 : decode cX7_placeOf 26 = .ok (.invokestatic 44, 3) := by decide +kernel
theorem dX7_placeOf_29 : decode cX7_placeOf 29 = .ok (.ifCond .eq 12, 3) := by decide +kernel
theorem dX7_placeOf_32 : decode cX7_placeOf 32 = .ok (.iload_n 3, 1) := by decide +kernel
theorem dX7_placeOf_33 : decode cX7_placeOf 33 = .ok (.bipush 12, 2) := by decide +kernel
theorem dX7_placeOf_35 : decode cX7_placeOf 35 = .ok (.imul, 1) := by decide +kernel
theorem dX7_placeOf_36 : decode cX7_placeOf 36 = .ok (.iload_n 2, 1) := by decide +kernel
theorem dX7_placeOf_37 : decode cX7_placeOf 37 = .ok (.iadd, 1) := by decide +kernel
theorem dX7_placeOf_38 : decode cX7_placeOf 38 = .ok (.goto 4, 3) := by decide +kernel
theorem dX7_placeOf_41 : decode cX7_placeOf 41 = .ok (.iconst (-1), 1) := by decide +kernel
theorem dX7_placeOf_42 : decode cX7_placeOf 42 = .ok (.ireturn, 1) := by decide +kernel
theorem dX7_put_0 : decode cX7_put 0 = .ok (.aload_n 0, 1) := by decide +kernel
theorem dX7_put_1 : decode cX7_put 1 = .ok (.getfield 24, 3) := by decide +kernel
theorem dX7_put_4 : decode cX7_put 4 = .ok (.aload_n 0, 1) := by decide +kernel
theorem dX7_put_5 : decode cX7_put 5 = .ok (.getfield 41, 3) := by decide +kernel
theorem dX7_put_8 : decode cX7_put 8 = .ok (.aload_n 0, 1) := by decide +kernel
theorem dX7_put_9 : decode cX7_put 9 = .ok (.getfield 48, 3) := by decide +kernel
theorem dX7_put_12 : decode cX7_put 12 = .ok (.ifCond .eq 8, 3) := by decide +kernel
theorem dX7_put_15 : decode cX7_put 15 = .ok (.bipush 7, 2) := by decide +kernel
theorem dX7_put_17 : decode cX7_put 17 = .ok (.goto 4, 3) := by decide +kernel
theorem dX7_put_20 : decode cX7_put 20 = .ok (.iload_n 1, 1) := by decide +kernel
theorem dX7_put_21 : decode cX7_put 21 = .ok (.iastore, 1) := by decide +kernel
theorem dX7_put_22 : decode cX7_put 22 = .ok (.aload_n 0, 1) := by decide +kernel
theorem dX7_put_23 : decode cX7_put 23 = .ok (.aload_n 0, 1) := by decide +kernel
theorem dX7_put_24 : decode cX7_put 24 = .ok (.iconst 1, 1) := by decide +kernel
theorem dX7_put_25 : decode cX7_put 25 = .ok (.invokevirtual 51, 3) := by decide +kernel
theorem dX7_put_28 : decode cX7_put 28 = .ok (.putfield 41, 3) := by decide +kernel
theorem dX7_put_31 : decode cX7_put 31 = .ok (.return_, 1) := by decide +kernel
theorem dX8_init_0 : decode cX8_init 0 = .ok (.aload_n 0, 1) := by decide +kernel
theorem dX8_init_1 : decode cX8_init 1 = .ok (.invokespecial 1, 3) := by decide +kernel
theorem dX8_init_4 : decode cX8_init 4 = .ok (.aload_n 0, 1) := by decide +kernel
theorem dX8_init_5 : decode cX8_init 5 = .ok (.iconst 4, 1) := by decide +kernel
theorem dX8_init_6 : decode cX8_init 6 = .ok (.anewarray 9, 3) := by decide +kernel
theorem dX8_init_9 : decode cX8_init 9 = .ok (.putfield 11, 3) := by decide +kernel
theorem dX8_init_12 : decode cX8_init 12 = .ok (.aload_n 0, 1) := by decide +kernel
theorem dX8_init_13 : decode cX8_init 13 = .ok (.bipush 6, 2) := by decide +kernel
theorem dX8_init_15 : decode cX8_init 15 = .ok (.anewarray 15, 3) := by decide +kernel
theorem dX8_init_18 : decode cX8_init 18 = .ok (.putfield 17, 3) := by decide +kernel
theorem dX8_init_21 : decode cX8_init 21 = .ok (.aload_n 0, 1) := by decide +kernel
theorem dX8_init_22 : decode cX8_init 22 = .ok (.bipush 48, 2) := by decide +kernel
theorem dX8_init_24 : decode cX8_init 24 = .ok (.newarray .boolean, 2) := by decide +kernel
theorem dX8_init_26 : decode cX8_init 26 = .ok (.putfield 21, 3) := by decide +kernel
theorem dX8_init_29 : decode cX8_init 29 = .ok (.aload_n 0, 1) := by decide +kernel
theorem dX8_init_30 : decode cX8_init 30 = .ok (.lconst 0, 1) := by decide +kernel
theorem dX8_init_31 : decode cX8_init 31 = .ok (.putfield 25, 3) := by decide +kernel
theorem dX8_init_34 : decode cX8_init 34 = .ok (.return_, 1) := by decide +kernel
theorem dX8_openSession_0 : decode cX8_openSession 0 = .ok (.iconst 0, 1) := by decide +kernel
theorem dX8_openSession_1 : decode cX8_openSession 1 = .ok (.istore_n 1, 1) := by decide +kernel
theorem dX8_openSession_2 : decode cX8_openSession 2 = .ok (.iload_n 1, 1) := by decide +kernel
theorem dX8_openSession_3 : decode cX8_openSession 3 = .ok (.iconst 4, 1) := by decide +kernel
theorem dX8_openSession_4 : decode cX8_openSession 4 = .ok (.if_icmp .ge 33, 3) := by decide +kernel
theorem dX8_openSession_7 : decode cX8_openSession 7 = .ok (.aload_n 0, 1) := by decide +kernel
theorem dX8_openSession_8 : decode cX8_openSession 8 = .ok (.getfield 11, 3) := by decide +kernel
theorem dX8_openSession_11 : decode cX8_openSession 11 = .ok (.iload_n 1, 1) := by decide +kernel
theorem dX8_openSession_12 : decode cX8_openSession 12 = .ok (.aaload, 1) := by decide +kernel
theorem dX8_openSession_13 : decode cX8_openSession 13 = .ok (.ifnonnull 18, 3) := by decide +kernel
theorem dX8_openSession_16 : decode cX8_openSession 16 = .ok (.aload_n 0, 1) := by decide +kernel
theorem dX8_openSession_17 : decode cX8_openSession 17 = .ok (.getfield 11, 3) := by decide +kernel
theorem dX8_openSession_20 : decode cX8_openSession 20 = .ok (.iload_n 1, 1) := by decide +kernel
theorem dX8_openSession_21 : decode cX8_openSession 21 = .ok (.new 9, 3) := by decide +kernel
theorem dX8_openSession_24 : decode cX8_openSession 24 = .ok (.dup, 1) := by decide +kernel
theorem dX8_openSession_25 : decode cX8_openSession 25 = .ok (.invokespecial 29, 3) := by decide +kernel
theorem dX8_openSession_28 : decode cX8_openSession 28 = .ok (.aastore, 1) := by decide +kernel
theorem dX8_openSession_29 : decode cX8_openSession 29 = .ok (.iload_n 1, 1) := by decide +kernel
theorem dX8_openSession_30 : decode cX8_openSession 30 = .ok (.ireturn, 1) := by decide +kernel
theorem dX8_openSession_31 : decode cX8_openSession 31 = .ok (.iinc 1 1, 3) := by decide +kernel
theorem dX8_openSession_34 : decode cX8_openSession 34 = .ok (.goto (-32), 3) := by decide +kernel
theorem dX8_openSession_37 : decode cX8_openSession 37 = .ok (.new 30, 3) := by decide +kernel
theorem dX8_openSession_40 : decode cX8_openSession 40 = .ok (.dup, 1) := by decide +kernel
theorem dX8_openSession_41 : decode cX8_openSession 41 = .ok (.ldc 32, 2) := by decide +kernel
theorem dX8_openSession_43 : decode cX8_openSession 43 = .ok (.invokespecial 34, 3) := by decide +kernel
theorem dX8_openSession_46 : decode cX8_openSession 46 = .ok (.athrow, 1) := by decide +kernel
theorem dX8_openWindow_0 : decode cX8_openWindow 0 = .ok (.aload_n 0, 1) := by decide +kernel
theorem dX8_openWindow_1 : decode cX8_openWindow 1 = .ok (.iload_n 1, 1) := by decide +kernel
theorem dX8_openWindow_2 : decode cX8_openWindow 2 = .ok (.invokevirtual 37, 3) := by decide +kernel
theorem dX8_openWindow_5 : decode cX8_openWindow 5 = .ok (.astore 6, 2) := by decide +kernel
theorem dX8_openWindow_7 : decode cX8_openWindow 7 = .ok (.iload_n 2, 1) := by decide +kernel
theorem dX8_openWindow_8 : decode cX8_openWindow 8 = .ok (.iload_n 3, 1) := by decide +kernel
theorem dX8_openWindow_9 : decode cX8_openWindow 9 = .ok (.invokestatic 41, 3) := by decide +kernel
theorem dX8_openWindow_12 : decode cX8_openWindow 12 = .ok (.ifCond .eq 13, 3) := by decide +kernel
theorem dX8_openWindow_15 : decode cX8_openWindow 15 = .ok (.iload 4, 2) := by decide +kernel
theorem dX8_openWindow_17 : decode cX8_openWindow 17 = .ok (.iload 5, 2) := by decide +kernel
theorem dX8_openWindow_19 : decode cX8_openWindow 19 = .ok (.invokestatic 45, 3) := by decide +kernel
theorem dX8_openWindow_22 : decode cX8_openWindow 22 = .ok (.ifCond .ne 13, 3) := by decide +kernel
theorem dX8_openWindow_25 : decode cX8_openWindow 25 = .ok (.new 48, 3) := by decide +kernel
theorem dX8_openWindow_28 : decode cX8_openWindow 28 = .ok (.dup, 1) := by decide +kernel
theorem dX8_openWindow_29 : decode cX8_openWindow 29 = .ok (.ldc 50, 2) := by decide +kernel
theorem dX8_openWindow_31 : decode cX8_openWindow 31 = .ok (.invokespecial 52, 3) := by decide +kernel
theorem dX8_openWindow_34 : decode cX8_openWindow 34 = .ok (.athrow, 1) := by decide +kernel
theorem dX8_openWindow_35 : decode cX8_openWindow 35 = .ok (.aload 6, 2) := by decide +kernel
theorem dX8_openWindow_37 : decode cX8_openWindow 37 = .ok (.getfield 53, 3) := by decide +kernel
theorem dX8_openWindow_40 : decode cX8_openWindow 40 = .ok (.bipush 6, 2) := by decide +kernel
theorem dX8_openWindow_42 : decode cX8_openWindow 42 = .ok (.if_icmp .lt 13, 3) := by decide +kernel
theorem dX8_openWindow_45 : decode cX8_openWindow 45 = .ok (.new 30, 3) := by decide +kernel
theorem dX8_openWindow_48 : decode cX8_openWindow 48 = .ok (.dup, 1) := by decide +kernel
theorem dX8_openWindow_49 : decode cX8_openWindow 49 = .ok (.ldc 57, 2) := by decide +kernel
theorem dX8_openWindow_51 : decode cX8_openWindow 51 = .ok (.invokespecial 34, 3) := by decide +kernel
theorem dX8_openWindow_54 : decode cX8_openWindow 54 = .ok (.athrow, 1) := by decide +kernel
theorem dX8_openWindow_55 : decode cX8_openWindow 55 = .ok (.aload 6, 2) := by decide +kernel
theorem dX8_openWindow_57 : decode cX8_openWindow 57 = .ok (.new 59, 3) := by decide +kernel
theorem dX8_openWindow_60 : decode cX8_openWindow 60 = .ok (.dup, 1) := by decide +kernel
theorem dX8_openWindow_61 : decode cX8_openWindow 61 = .ok (.iload_n 2, 1) := by decide +kernel
theorem dX8_openWindow_62 : decode cX8_openWindow 62 = .ok (.iload_n 3, 1) := by decide +kernel
theorem dX8_openWindow_63 : decode cX8_openWindow 63 = .ok (.iload 4, 2) := by decide +kernel
theorem dX8_openWindow_65 : decode cX8_openWindow 65 = .ok (.iload 5, 2) := by decide +kernel
theorem dX8_openWindow_67 : decode cX8_openWindow 67 = .ok (.invokespecial 61, 3) := by decide +kernel
theorem dX8_openWindow_70 : decode cX8_openWindow 70 = .ok (.invokevirtual 64, 3) := by decide +kernel
theorem dX8_openWindow_73 : decode cX8_openWindow 73 = .ok (.ireturn, 1) := by decide +kernel
theorem dX8_closeWindow_0 : decode cX8_closeWindow 0 = .ok (.aload_n 0, 1) := by decide +kernel
theorem dX8_closeWindow_1 : decode cX8_closeWindow 1 = .ok (.iload_n 1, 1) := by decide +kernel
theorem dX8_closeWindow_2 : decode cX8_closeWindow 2 = .ok (.invokevirtual 37, 3) := by decide +kernel
theorem dX8_closeWindow_5 : decode cX8_closeWindow 5 = .ok (.astore_n 3, 1) := by decide +kernel
theorem dX8_closeWindow_6 : decode cX8_closeWindow 6 = .ok (.aload_n 3, 1) := by decide +kernel
theorem dX8_closeWindow_7 : decode cX8_closeWindow 7 = .ok (.iload_n 2, 1) := by decide +kernel
theorem dX8_closeWindow_8 : decode cX8_closeWindow 8 = .ok (.invokestatic 68, 3) := by decide +kernel
theorem dX8_closeWindow_11 : decode cX8_closeWindow 11 = .ok (.astore 4, 2) := by decide +kernel
theorem dX8_closeWindow_13 : decode cX8_closeWindow 13 = .ok (.aload 4, 2) := by decide +kernel
theorem dX8_closeWindow_15 : decode cX8_closeWindow 15 = .ok (.iconst 0, 1) := by decide +kernel
theorem dX8_closeWindow_16 : decode cX8_closeWindow 16 = .ok (.putfield 72, 3) := by decide +kernel
theorem dX8_closeWindow_19 : decode cX8_closeWindow 19 = .ok (.aload_n 3, 1) := by decide +kernel
theorem dX8_closeWindow_20 : decode cX8_closeWindow 20 = .ok (.aload 4, 2) := by decide +kernel
theorem dX8_closeWindow_22 : decode cX8_closeWindow 22 = .ok (.invokevirtual 76, 3) := by decide +kernel
theorem dX8_closeWindow_25 : decode cX8_closeWindow 25 = .ok (.aload_n 3, 1) := by decide +kernel
theorem dX8_closeWindow_26 : decode cX8_closeWindow 26 = .ok (.invokevirtual 80, 3) := by decide +kernel
theorem dX8_closeWindow_29 : decode cX8_closeWindow 29 = .ok (.pop, 1) := by decide +kernel
theorem dX8_closeWindow_30 : decode cX8_closeWindow 30 = .ok (.aload 4, 2) := by decide +kernel
theorem dX8_closeWindow_32 : decode cX8_closeWindow 32 = .ok (.getfield 84, 3) := by decide +kernel
theorem dX8_closeWindow_35 : decode cX8_closeWindow 35 = .ok (.ireturn, 1) := by decide +kernel
theorem dX8_moveWindow_0 : decode cX8_moveWindow 0 = .ok (.aload_n 0, 1) := by decide +kernel
theorem dX8_moveWindow_1 : decode cX8_moveWindow 1 = .ok (.iload_n 1, 1) := by decide +kernel
theorem dX8_moveWindow_2 : decode cX8_moveWindow 2 = .ok (.invokevirtual 37, 3) := by decide +kernel
theorem dX8_moveWindow_5 : decode cX8_moveWindow 5 = .ok (.astore 5, 2) := by decide +kernel
theorem dX8_moveWindow_7 : decode cX8_moveWindow 7 = .ok (.aload 5, 2) := by decide +kernel
theorem dX8_moveWindow_9 : decode cX8_moveWindow 9 = .ok (.iload_n 2, 1) := by decide +kernel
theorem dX8_moveWindow_10 : decode cX8_moveWindow 10 = .ok (.invokestatic 68, 3) := by decide +kernel
theorem dX8_moveWindow_13 : decode cX8_moveWindow 13 = .ok (.astore 6, 2) := by decide +kernel
theorem dX8_moveWindow_15 : decode cX8_moveWindow 15 = .ok (.iload_n 3, 1) := by decide +kernel
theorem dX8_moveWindow_16 : decode cX8_moveWindow 16 = .ok (.iload 4, 2) := by decide +kernel
theorem dX8_moveWindow_18 : decode cX8_moveWindow 18 = .ok (.invokestatic 41, 3) := by decide +kernel
theorem dX8_moveWindow_21 : decode cX8_moveWindow 21 = .ok (.ifCond .ne 13, 3) := by decide +kernel
theorem dX8_moveWindow_24 : decode cX8_moveWindow 24 = .ok (.new 48, 3) := by decide +kernel
theorem dX8_moveWindow_27 : decode cX8_moveWindow 27 = .ok (.dup, 1) := by decide +kernel
theorem dX8_moveWindow_28 : decode cX8_moveWindow 28 = .ok (.ldc 50, 2) := by decide +kernel
theorem dX8_moveWindow_30 : decode cX8_moveWindow 30 = .ok (.invokespecial 52, 3) := by decide +kernel
theorem dX8_moveWindow_33 : decode cX8_moveWindow 33 = .ok (.athrow, 1) := by decide +kernel
theorem dX8_moveWindow_34 : decode cX8_moveWindow 34 = .ok (.aload 6, 2) := by decide +kernel
theorem dX8_moveWindow_36 : decode cX8_moveWindow 36 = .ok (.iload_n 3, 1) := by decide +kernel
theorem dX8_moveWindow_37 : decode cX8_moveWindow 37 = .ok (.putfield 87, 3) := by decide +kernel
theorem dX8_moveWindow_40 : decode cX8_moveWindow 40 = .ok (.aload 6, 2) := by decide +kernel
theorem dX8_moveWindow_42 : decode cX8_moveWindow 42 = .ok (.iload 4, 2) := by decide +kernel
theorem dX8_moveWindow_44 : decode cX8_moveWindow 44 = .ok (.putfield 90, 3) := by decide +kernel
theorem dX8_moveWindow_47 : decode cX8_moveWindow 47 = .ok (.aload 5, 2) := by decide +kernel
theorem dX8_moveWindow_49 : decode cX8_moveWindow 49 = .ok (.invokevirtual 80, 3) := by decide +kernel
theorem dX8_moveWindow_52 : decode cX8_moveWindow 52 = .ok (.ireturn, 1) := by decide +kernel
theorem dX8_raise_0 : decode cX8_raise 0 = .ok (.aload_n 0, 1) := by decide +kernel
theorem dX8_raise_1 : decode cX8_raise 1 = .ok (.iload_n 1, 1) := by decide +kernel
theorem dX8_raise_2 : decode cX8_raise 2 = .ok (.invokevirtual 37, 3) := by decide +kernel
theorem dX8_raise_5 : decode cX8_raise 5 = .ok (.astore_n 3, 1) := by decide +kernel
theorem dX8_raise_6 : decode cX8_raise 6 = .ok (.aload_n 3, 1) := by decide +kernel
theorem dX8_raise_7 : decode cX8_raise 7 = .ok (.iload_n 2, 1) := by decide +kernel
theorem dX8_raise_8 : decode cX8_raise 8 = .ok (.invokestatic 68, 3) := by decide +kernel
theorem dX8_raise_11 : decode cX8_raise 11 = .ok (.astore 4, 2) := by decide +kernel
theorem dX8_raise_13 : decode cX8_raise 13 = .ok (.aload_n 3, 1) := by decide +kernel
theorem dX8_raise_14 : decode cX8_raise 14 = .ok (.aload 4, 2) := by decide +kernel
theorem dX8_raise_16 : decode cX8_raise 16 = .ok (.invokevirtual 93, 3) := by decide +kernel
theorem dX8_raise_19 : decode cX8_raise 19 = .ok (.ifCond .ne 7, 3) := by decide +kernel
theorem dX8_raise_22 : decode cX8_raise 22 = .ok (.iconst 1, 1) := by decide +kernel
theorem dX8_raise_23 : decode cX8_raise 23 = .ok (.goto 4, 3) := by decide +kernel
theorem dX8_raise_26 : decode cX8_raise 26 = .ok (.iconst 0, 1) := by decide +kernel
theorem dX8_raise_27 : decode cX8_raise 27 = .ok (.istore 5, 2) := by decide +kernel
theorem dX8_raise_29 : decode cX8_raise 29 = .ok (.aload_n 3, 1) := by decide +kernel
theorem dX8_raise_30 : decode cX8_raise 30 = .ok (.aload 4, 2) := by decide +kernel
theorem dX8_raise_32 : decode cX8_raise 32 = .ok (.invokevirtual 76, 3) := by decide +kernel
theorem dX8_raise_35 : decode cX8_raise 35 = .ok (.aload_n 3, 1) := by decide +kernel
theorem dX8_raise_36 : decode cX8_raise 36 = .ok (.getfield 97, 3) := by decide +kernel
theorem dX8_raise_39 : decode cX8_raise 39 = .ok (.aload 4, 2) := by decide +kernel
theorem dX8_raise_41 : decode cX8_raise 41 = .ok (.invokevirtual 101, 3) := by decide +kernel
theorem dX8_raise_44 : decode cX8_raise 44 = .ok (.pop, 1) := by decide +kernel
theorem dX8_raise_45 : decode cX8_raise 45 = .ok (.aload_n 3, 1) := by decide +kernel
theorem dX8_raise_46 : decode cX8_raise 46 = .ok (.invokevirtual 80, 3) := by decide +kernel
theorem dX8_raise_49 : decode cX8_raise 49 = .ok (.pop, 1) := by decide +kernel
theorem dX8_raise_50 : decode cX8_raise 50 = .ok (.iload 5, 2) := by decide +kernel
theorem dX8_raise_52 : decode cX8_raise 52 = .ok (.ireturn, 1) := by decide +kernel
theorem dX8_show_0 : decode cX8_show 0 = .ok (.aload_n 0, 1) := by decide +kernel
theorem dX8_show_1 : decode cX8_show 1 = .ok (.iload_n 1, 1) := by decide +kernel
theorem dX8_show_2 : decode cX8_show 2 = .ok (.invokevirtual 37, 3) := by decide +kernel
theorem dX8_show_5 : decode cX8_show 5 = .ok (.astore 4, 2) := by decide +kernel
theorem dX8_show_7 : decode cX8_show 7 = .ok (.aload 4, 2) := by decide +kernel
theorem dX8_show_9 : decode cX8_show 9 = .ok (.iload_n 2, 1) := by decide +kernel
theorem dX8_show_10 : decode cX8_show 10 = .ok (.invokestatic 68, 3) := by decide +kernel
theorem dX8_show_13 : decode cX8_show 13 = .ok (.astore 5, 2) := by decide +kernel
theorem dX8_show_15 : decode cX8_show 15 = .ok (.aload 5, 2) := by decide +kernel
theorem dX8_show_17 : decode cX8_show 17 = .ok (.getfield 84, 3) := by decide +kernel
theorem dX8_show_20 : decode cX8_show 20 = .ok (.istore 6, 2) := by decide +kernel
theorem dX8_show_22 : decode cX8_show 22 = .ok (.aload 5, 2) := by decide +kernel
theorem dX8_show_24 : decode cX8_show 24 = .ok (.iload_n 3, 1) := by decide +kernel
theorem dX8_show_25 : decode cX8_show 25 = .ok (.putfield 84, 3) := by decide +kernel
theorem dX8_show_28 : decode cX8_show 28 = .ok (.aload 4, 2) := by decide +kernel
theorem dX8_show_30 : decode cX8_show 30 = .ok (.invokevirtual 80, 3) := by decide +kernel
theorem dX8_show_33 : decode cX8_show 33 = .ok (.pop, 1) := by decide +kernel
theorem dX8_show_34 : decode cX8_show 34 = .ok (.iload 6, 2) := by decide +kernel
theorem dX8_show_36 : decode cX8_show 36 = .ok (.ireturn, 1) := by decide +kernel
theorem dX8_mark_0 : decode cX8_mark 0 = .ok (.aload_n 0, 1) := by decide +kernel
theorem dX8_mark_1 : decode cX8_mark 1 = .ok (.iload_n 1, 1) := by decide +kernel
theorem dX8_mark_2 : decode cX8_mark 2 = .ok (.invokevirtual 37, 3) := by decide +kernel
theorem dX8_mark_5 : decode cX8_mark 5 = .ok (.iload_n 2, 1) := by decide +kernel
theorem dX8_mark_6 : decode cX8_mark 6 = .ok (.invokestatic 68, 3) := by decide +kernel
theorem dX8_mark_9 : decode cX8_mark 9 = .ok (.astore 5, 2) := by decide +kernel
theorem dX8_mark_11 : decode cX8_mark 11 = .ok (.aload 5, 2) := by decide +kernel
theorem dX8_mark_13 : decode cX8_mark 13 = .ok (.getfield 107, 3) := by decide +kernel
theorem dX8_mark_16 : decode cX8_mark 16 = .ok (.iload_n 3, 1) := by decide +kernel
theorem dX8_mark_17 : decode cX8_mark 17 = .ok (.if_icmp .ne 13, 3) := by decide +kernel
theorem dX8_mark_20 : decode cX8_mark 20 = .ok (.aload 5, 2) := by decide +kernel
theorem dX8_mark_22 : decode cX8_mark 22 = .ok (.getfield 110, 3) := by decide +kernel
theorem dX8_mark_25 : decode cX8_mark 25 = .ok (.iload 4, 2) := by decide +kernel
theorem dX8_mark_27 : decode cX8_mark 27 = .ok (.if_icmp .eq 7, 3) := by decide +kernel
theorem dX8_mark_30 : decode cX8_mark 30 = .ok (.iconst 1, 1) := by decide +kernel
theorem dX8_mark_31 : decode cX8_mark 31 = .ok (.goto 4, 3) := by decide +kernel
theorem dX8_mark_34 : decode cX8_mark 34 = .ok (.iconst 0, 1) := by decide +kernel
theorem dX8_mark_35 : decode cX8_mark 35 = .ok (.istore 6, 2) := by decide +kernel
theorem dX8_mark_37 : decode cX8_mark 37 = .ok (.aload 5, 2) := by decide +kernel
theorem dX8_mark_39 : decode cX8_mark 39 = .ok (.iload_n 3, 1) := by decide +kernel
theorem dX8_mark_40 : decode cX8_mark 40 = .ok (.putfield 107, 3) := by decide +kernel
theorem dX8_mark_43 : decode cX8_mark 43 = .ok (.aload 5, 2) := by decide +kernel
theorem dX8_mark_45 : decode cX8_mark 45 = .ok (.iload 4, 2) := by decide +kernel
theorem dX8_mark_47 : decode cX8_mark 47 = .ok (.putfield 110, 3) := by decide +kernel
theorem dX8_mark_50 : decode cX8_mark 50 = .ok (.iload 6, 2) := by decide +kernel
theorem dX8_mark_52 : decode cX8_mark 52 = .ok (.ireturn, 1) := by decide +kernel
theorem dX8_draw_0 : decode cX8_draw 0 = .ok (.aload_n 0, 1) := by decide +kernel
theorem dX8_draw_1 : decode cX8_draw 1 = .ok (.iload_n 1, 1) := by decide +kernel
theorem dX8_draw_2 : decode cX8_draw 2 = .ok (.invokevirtual 37, 3) := by decide +kernel
theorem dX8_draw_5 : decode cX8_draw 5 = .ok (.astore 8, 2) := by decide +kernel
theorem dX8_draw_7 : decode cX8_draw 7 = .ok (.aload 8, 2) := by decide +kernel
theorem dX8_draw_9 : decode cX8_draw 9 = .ok (.iload_n 2, 1) := by decide +kernel
theorem dX8_draw_10 : decode cX8_draw 10 = .ok (.invokestatic 68, 3) := by decide +kernel
theorem dX8_draw_13 : decode cX8_draw 13 = .ok (.astore 9, 2) := by decide +kernel
theorem dX8_draw_15 : decode cX8_draw 15 = .ok (.iload_n 3, 1) := by decide +kernel
theorem dX8_draw_16 : decode cX8_draw 16 = .ok (.iload 4, 2) := by decide +kernel
theorem dX8_draw_18 : decode cX8_draw 18 = .ok (.invokestatic 113, 3) := by decide +kernel
theorem dX8_draw_21 : decode cX8_draw 21 = .ok (.ifCond .eq 25, 3) := by decide +kernel
theorem dX8_draw_24 : decode cX8_draw 24 = .ok (.iload 5, 2) := by decide +kernel
theorem dX8_draw_26 : decode cX8_draw 26 = .ok (.iload 6, 2) := by decide +kernel
theorem dX8_draw_28 : decode cX8_draw 28 = .ok (.invokestatic 45, 3) := by decide +kernel
theorem dX8_draw_31 : decode cX8_draw 31 = .ok (.ifCond .eq 15, 3) := by decide +kernel
theorem dX8_draw_34 : decode cX8_draw 34 = .ok (.iload 7, 2) := by decide +kernel
theorem dX8_draw_36 : decode cX8_draw 36 = .ok (.iconst 0, 1) := by decide +kernel
theorem dX8_draw_37 : decode cX8_draw 37 = .ok (.sipush 255, 3) := by decide +kernel
theorem dX8_draw_40 : decode cX8_draw 40 = .ok (.invokestatic 116, 3) := by decide +kernel
theorem dX8_draw_43 : decode cX8_draw 43 = .ok (.ifCond .ne 13, 3) := by decide +kernel
theorem dX8_draw_46 : decode cX8_draw 46 = .ok (.new 48, 3) := by decide +kernel
theorem dX8_draw_49 : decode cX8_draw 49 = .ok (.dup, 1) := by decide +kernel
theorem dX8_draw_50 : decode cX8_draw 50 = .ok (.ldc 50, 2) := by decide +kernel
theorem dX8_draw_52 : decode cX8_draw 52 = .ok (.invokespecial 52, 3) := by decide +kernel
theorem dX8_draw_55 : decode cX8_draw 55 = .ok (.athrow, 1) := by decide +kernel
theorem dX8_draw_56 : decode cX8_draw 56 = .ok (.aload 9, 2) := by decide +kernel
theorem dX8_draw_58 : decode cX8_draw 58 = .ok (.iload_n 3, 1) := by decide +kernel
theorem dX8_draw_59 : decode cX8_draw 59 = .ok (.iload 4, 2) := by decide +kernel
theorem dX8_draw_61 : decode cX8_draw 61 = .ok (.iload 5, 2) := by decide +kernel
theorem dX8_draw_63 : decode cX8_draw 63 = .ok (.iload 6, 2) := by decide +kernel
theorem dX8_draw_65 : decode cX8_draw 65 = .ok (.iload 7, 2) := by decide +kernel
theorem dX8_draw_67 : decode cX8_draw 67 = .ok (.invokevirtual 120, 3) := by decide +kernel
theorem dX8_draw_70 : decode cX8_draw 70 = .ok (.istore 10, 2) := by decide +kernel
theorem dX8_draw_72 : decode cX8_draw 72 = .ok (.aload 8, 2) := by decide +kernel
theorem dX8_draw_74 : decode cX8_draw 74 = .ok (.invokevirtual 80, 3) := by decide +kernel
theorem dX8_draw_77 : decode cX8_draw 77 = .ok (.pop, 1) := by decide +kernel
theorem dX8_draw_78 : decode cX8_draw 78 = .ok (.iload 10, 2) := by decide +kernel
theorem dX8_draw_80 : decode cX8_draw 80 = .ok (.ireturn, 1) := by decide +kernel
theorem dX8_screen_0 : decode cX8_screen 0 = .ok (.aload_n 0, 1) := by decide +kernel
theorem dX8_screen_1 : decode cX8_screen 1 = .ok (.iload_n 1, 1) := by decide +kernel
theorem dX8_screen_2 : decode cX8_screen 2 = .ok (.invokevirtual 37, 3) := by decide +kernel
theorem dX8_screen_5 : decode cX8_screen 5 = .ok (.astore 4, 2) := by decide +kernel
theorem dX8_screen_7 : decode cX8_screen 7 = .ok (.aload 4, 2) := by decide +kernel
theorem dX8_screen_9 : decode cX8_screen 9 = .ok (.getfield 124, 3) := by decide +kernel
theorem dX8_screen_12 : decode cX8_screen 12 = .ok (.iload_n 2, 1) := by decide +kernel
theorem dX8_screen_13 : decode cX8_screen 13 = .ok (.iload_n 3, 1) := by decide +kernel
theorem dX8_screen_14 : decode cX8_screen 14 = .ok (.invokestatic 128, 3) := by decide +kernel
theorem dX8_screen_17 : decode cX8_screen 17 = .ok (.iaload, 1) := by decide +kernel
theorem dX8_screen_18 : decode cX8_screen 18 = .ok (.ireturn, 1) := by decide +kernel
theorem dX8_join_0 : decode cX8_join 0 = .ok (.aload_n 0, 1) := by decide +kernel
theorem dX8_join_1 : decode cX8_join 1 = .ok (.iload_n 1, 1) := by decide +kernel
theorem dX8_join_2 : decode cX8_join 2 = .ok (.invokevirtual 37, 3) := by decide +kernel
theorem dX8_join_5 : decode cX8_join 5 = .ok (.astore_n 3, 1) := by decide +kernel
theorem dX8_join_6 : decode cX8_join 6 = .ok (.iload_n 2, 1) := by decide +kernel
theorem dX8_join_7 : decode cX8_join 7 = .ok (.iconst 0, 1) := by decide +kernel
theorem dX8_join_8 : decode cX8_join 8 = .ok (.bipush 9, 2) := by decide +kernel
theorem dX8_join_10 : decode cX8_join 10 = .ok (.invokestatic 116, 3) := by decide +kernel
theorem dX8_join_13 : decode cX8_join 13 = .ok (.ifCond .ne 13, 3) := by decide +kernel
theorem dX8_join_16 : decode cX8_join 16 = .ok (.new 48, 3) := by decide +kernel
theorem dX8_join_19 : decode cX8_join 19 = .ok (.dup, 1) := by decide +kernel
theorem dX8_join_20 : decode cX8_join 20 = .ok (.ldc 132, 2) := by decide +kernel
theorem dX8_join_22 : decode cX8_join 22 = .ok (.invokespecial 52, 3) := by decide +kernel
theorem dX8_join_25 : decode cX8_join 25 = .ok (.athrow, 1) := by decide +kernel
theorem dX8_join_26 : decode cX8_join 26 = .ok (.iconst 0, 1) := by decide +kernel
theorem dX8_join_27 : decode cX8_join 27 = .ok (.istore 4, 2) := by decide +kernel
theorem dX8_join_29 : decode cX8_join 29 = .ok (.iload 4, 2) := by decide +kernel
theorem dX8_join_31 : decode cX8_join 31 = .ok (.bipush 6, 2) := by decide +kernel
theorem dX8_join_33 : decode cX8_join 33 = .ok (.if_icmp .ge 38, 3) := by decide +kernel
theorem dX8_join_36 : decode cX8_join 36 = .ok (.aload_n 0, 1) := by decide +kernel
theorem dX8_join_37 : decode cX8_join 37 = .ok (.getfield 17, 3) := by decide +kernel
theorem dX8_join_40 : decode cX8_join 40 = .ok (.iload 4, 2) := by decide +kernel
theorem dX8_join_42 : decode cX8_join 42 = .ok (.aaload, 1) := by decide +kernel
theorem dX8_join_43 : decode cX8_join 43 = .ok (.ifnonnull 22, 3) := by decide +kernel
theorem dX8_join_46 : decode cX8_join 46 = .ok (.aload_n 0, 1) := by decide +kernel
theorem dX8_join_47 : decode cX8_join 47 = .ok (.getfield 17, 3) := by decide +kernel
theorem dX8_join_50 : decode cX8_join 50 = .ok (.iload 4, 2) := by decide +kernel
theorem dX8_join_52 : decode cX8_join 52 = .ok (.new 15, 3) := by decide +kernel
theorem dX8_join_55 : decode cX8_join 55 = .ok (.dup, 1) := by decide +kernel
theorem dX8_join_56 : decode cX8_join 56 = .ok (.aload_n 3, 1) := by decide +kernel
theorem dX8_join_57 : decode cX8_join 57 = .ok (.iload_n 2, 1) := by decide +kernel
theorem dX8_join_58 : decode cX8_join 58 = .ok (.invokespecial 134, 3) := by decide +kernel
theorem dX8_join_61 : decode cX8_join 61 = .ok (.aastore, 1) := by decide +kernel
theorem dX8_join_62 : decode cX8_join 62 = .ok (.iload 4, 2) := by decide +kernel
theorem dX8_join_64 : decode cX8_join 64 = .ok (.ireturn, 1) := by decide +kernel
theorem dX8_join_65 : decode cX8_join 65 = .ok (.iinc 4 1, 3) := by decide +kernel
theorem dX8_join_68 : decode cX8_join 68 = .ok (.goto (-39), 3) := by decide +kernel
theorem dX8_join_71 : decode cX8_join 71 = .ok (.new 30, 3) := by decide +kernel
theorem dX8_join_74 : decode cX8_join 74 = .ok (.dup, 1) := by decide +kernel
theorem dX8_join_75 : decode cX8_join 75 = .ok (.ldc 137, 2) := by decide +kernel
theorem dX8_join_77 : decode cX8_join 77 = .ok (.invokespecial 34, 3) := by decide +kernel
theorem dX8_join_80 : decode cX8_join 80 = .ok (.athrow, 1) := by decide +kernel
theorem dX8_bid_0 : decode cX8_bid 0 = .ok (.aload_n 0, 1) := by decide +kernel
theorem dX8_bid_1 : decode cX8_bid 1 = .ok (.iload_n 1, 1) := by decide +kernel
theorem dX8_bid_2 : decode cX8_bid 2 = .ok (.invokevirtual 139, 3) := by decide +kernel
theorem dX8_bid_5 : decode cX8_bid 5 = .ok (.astore_n 3, 1) := by decide +kernel
theorem dX8_bid_6 : decode cX8_bid 6 = .ok (.iload_n 2, 1) := by decide +kernel
theorem dX8_bid_7 : decode cX8_bid 7 = .ok (.iconst 0, 1) := by decide +kernel
theorem dX8_bid_8 : decode cX8_bid 8 = .ok (.bipush 9, 2) := by decide +kernel
theorem dX8_bid_10 : decode cX8_bid 10 = .ok (.invokestatic 116, 3) := by decide +kernel
theorem dX8_bid_13 : decode cX8_bid 13 = .ok (.ifCond .ne 13, 3) := by decide +kernel
theorem dX8_bid_16 : decode cX8_bid 16 = .ok (.new 48, 3) := by decide +kernel
theorem dX8_bid_19 : decode cX8_bid 19 = .ok (.dup, 1) := by decide +kernel
theorem dX8_bid_20 : decode cX8_bid 20 = .ok (.ldc 132, 2) := by decide +kernel
theorem dX8_bid_22 : decode cX8_bid 22 = .ok (.invokespecial 52, 3) := by decide +kernel
theorem dX8_bid_25 : decode cX8_bid 25 = .ok (.athrow, 1) := by decide +kernel
theorem dX8_bid_26 : decode cX8_bid 26 = .ok (.aload_n 3, 1) := by decide +kernel
theorem dX8_bid_27 : decode cX8_bid 27 = .ok (.getfield 143, 3) := by decide +kernel
theorem dX8_bid_30 : decode cX8_bid 30 = .ok (.istore 4, 2) := by decide +kernel
theorem dX8_bid_32 : decode cX8_bid 32 = .ok (.aload_n 3, 1) := by decide +kernel
theorem dX8_bid_33 : decode cX8_bid 33 = .ok (.iload_n 2, 1) := by decide +kernel
theorem dX8_bid_34 : decode cX8_bid 34 = .ok (.putfield 143, 3) := by decide +kernel
theorem dX8_bid_37 : decode cX8_bid 37 = .ok (.iload 4, 2) := by decide +kernel
theorem dX8_bid_39 : decode cX8_bid 39 = .ok (.ireturn, 1) := by decide +kernel
theorem dX8_money_0 : decode cX8_money 0 = .ok (.aload_n 0, 1) := by decide +kernel
theorem dX8_money_1 : decode cX8_money 1 = .ok (.iload_n 1, 1) := by decide +kernel
theorem dX8_money_2 : decode cX8_money 2 = .ok (.invokevirtual 139, 3) := by decide +kernel
theorem dX8_money_5 : decode cX8_money 5 = .ok (.getfield 146, 3) := by decide +kernel
theorem dX8_money_8 : decode cX8_money 8 = .ok (.ireturn, 1) := by decide +kernel
theorem dX8_picture_0 : decode cX8_picture 0 = .ok (.aload_n 0, 1) := by decide +kernel
theorem dX8_picture_1 : decode cX8_picture 1 = .ok (.iload_n 1, 1) := by decide +kernel
theorem dX8_picture_2 : decode cX8_picture 2 = .ok (.invokevirtual 139, 3) := by decide +kernel
theorem dX8_picture_5 : decode cX8_picture 5 = .ok (.astore 4, 2) := by decide +kernel
theorem dX8_picture_7 : decode cX8_picture 7 = .ok (.aload 4, 2) := by decide +kernel
theorem dX8_picture_9 : decode cX8_picture 9 = .ok (.getfield 149, 3) := by decide +kernel
theorem dX8_picture_12 : decode cX8_picture 12 = .ok (.iload_n 2, 1) := by decide +kernel
theorem dX8_picture_13 : decode cX8_picture 13 = .ok (.iload_n 3, 1) := by decide +kernel
theorem dX8_picture_14 : decode cX8_picture 14 = .ok (.invokestatic 128, 3) := by decide +kernel
theorem dX8_picture_17 : decode cX8_picture 17 = .ok (.iaload, 1) := by decide +kernel
theorem dX8_picture_18 : decode cX8_picture 18 = .ok (.ireturn, 1) := by decide +kernel
theorem dX8_seen_0 : decode cX8_seen 0 = .ok (.aload_n 0, 1) := by decide +kernel
theorem dX8_seen_1 : decode cX8_seen 1 = .ok (.iload_n 1, 1) := by decide +kernel
theorem dX8_seen_2 : decode cX8_seen 2 = .ok (.invokevirtual 139, 3) := by decide +kernel
theorem dX8_seen_5 : decode cX8_seen 5 = .ok (.astore 4, 2) := by decide +kernel
theorem dX8_seen_7 : decode cX8_seen 7 = .ok (.iload_n 2, 1) := by decide +kernel
theorem dX8_seen_8 : decode cX8_seen 8 = .ok (.iload_n 3, 1) := by decide +kernel
theorem dX8_seen_9 : decode cX8_seen 9 = .ok (.invokestatic 128, 3) := by decide +kernel
theorem dX8_seen_12 : decode cX8_seen 12 = .ok (.istore 5, 2) := by decide +kernel
theorem dX8_seen_14 : decode cX8_seen 14 = .ok (.aload 4, 2) := by decide +kernel
theorem dX8_seen_16 : decode cX8_seen 16 = .ok (.getfield 150, 3) := by decide +kernel
theorem dX8_seen_19 : decode cX8_seen 19 = .ok (.aload 4, 2) := by decide +kernel
theorem dX8_seen_21 : decode cX8_seen 21 = .ok (.iload 5, 2) := by decide +kernel
theorem dX8_seen_23 : decode cX8_seen 23 = .ok (.invokevirtual 154, 3) := by decide +kernel
theorem dX8_seen_26 : decode cX8_seen 26 = .ok (.astore 6, 2) := by decide +kernel
theorem dX8_seen_28 : decode cX8_seen 28 = .ok (.aload 6, 2) := by decide +kernel
theorem dX8_seen_30 : decode cX8_seen 30 = .ok (.ifnonnull 14, 3) := by decide +kernel
theorem dX8_seen_33 : decode cX8_seen 33 = .ok (.aload 4, 2) := by decide +kernel
theorem dX8_seen_35 : decode cX8_seen 35 = .ok (.getfield 149, 3) := by decide +kernel
theorem dX8_seen_38 : decode cX8_seen 38 = .ok (.iload 5, 2) := by decide +kernel
theorem dX8_seen_40 : decode cX8_seen 40 = .ok (.iaload, 1) := by decide +kernel
theorem dX8_seen_41 : decode cX8_seen 41 = .ok (.goto 8, 3) := by decide +kernel
theorem dX8_seen_44 : decode cX8_seen 44 = .ok (.aload 6, 2) := by decide +kernel
theorem dX8_seen_46 : decode cX8_seen 46 = .ok (.getfield 158, 3) := by decide +kernel
theorem dX8_seen_49 : decode cX8_seen 49 = .ok (.ireturn, 1) := by decide +kernel
theorem dX8_behind_0 : decode cX8_behind 0 = .ok (.aload_n 0, 1) := by decide +kernel
theorem dX8_behind_1 : decode cX8_behind 1 = .ok (.iload_n 1, 1) := by decide +kernel
theorem dX8_behind_2 : decode cX8_behind 2 = .ok (.invokevirtual 139, 3) := by decide +kernel
theorem dX8_behind_5 : decode cX8_behind 5 = .ok (.invokevirtual 163, 3) := by decide +kernel
theorem dX8_behind_8 : decode cX8_behind 8 = .ok (.ireturn, 1) := by decide +kernel
theorem dX8_next_0 : decode cX8_next 0 = .ok (.aload_n 0, 1) := by decide +kernel
theorem dX8_next_1 : decode cX8_next 1 = .ok (.iload_n 1, 1) := by decide +kernel
theorem dX8_next_2 : decode cX8_next 2 = .ok (.invokevirtual 166, 3) := by decide +kernel
theorem dX8_next_5 : decode cX8_next 5 = .ok (.getfield 170, 3) := by decide +kernel
theorem dX8_next_8 : decode cX8_next 8 = .ok (.ireturn, 1) := by decide +kernel
theorem dX8_nextCost_0 : decode cX8_nextCost 0 = .ok (.aload_n 0, 1) := by decide +kernel
theorem dX8_nextCost_1 : decode cX8_nextCost 1 = .ok (.iload_n 1, 1) := by decide +kernel
theorem dX8_nextCost_2 : decode cX8_nextCost 2 = .ok (.invokevirtual 166, 3) := by decide +kernel
theorem dX8_nextCost_5 : decode cX8_nextCost 5 = .ok (.getfield 176, 3) := by decide +kernel
theorem dX8_nextCost_8 : decode cX8_nextCost 8 = .ok (.ireturn, 1) := by decide +kernel
theorem dX8_tick_0 : decode cX8_tick 0 = .ok (.iload_n 1, 1) := by decide +kernel
theorem dX8_tick_1 : decode cX8_tick 1 = .ok (.iconst 1, 1) := by decide +kernel
theorem dX8_tick_2 : decode cX8_tick 2 = .ok (.bipush 20, 2) := by decide +kernel
theorem dX8_tick_4 : decode cX8_tick 4 = .ok (.invokestatic 116, 3) := by decide +kernel
theorem dX8_tick_7 : decode cX8_tick 7 = .ok (.ifCond .ne 13, 3) := by decide +kernel
theorem dX8_tick_10 : decode cX8_tick 10 = .ok (.new 48, 3) := by decide +kernel
theorem dX8_tick_13 : decode cX8_tick 13 = .ok (.dup, 1) := by decide +kernel
theorem dX8_tick_14 : decode cX8_tick 14 = .ok (.ldc 179, 2) := by decide +kernel
theorem dX8_tick_16 : decode cX8_tick 16 = .ok (.invokespecial 52, 3) := by decide +kernel
theorem dX8_tick_19 : decode cX8_tick 19 = .ok (.athrow, 1) := by decide +kernel
theorem dX8_tick_20 : decode cX8_tick 20 = .ok (.iconst 0, 1) := by decide +kernel
theorem dX8_tick_21 : decode cX8_tick 21 = .ok (.istore_n 2, 1) := by decide +kernel
theorem dX8_tick_22 : decode cX8_tick 22 = .ok (.iconst 0, 1) := by decide +kernel
theorem dX8_tick_23 : decode cX8_tick 23 = .ok (.istore_n 3, 1) := by decide +kernel
theorem dX8_tick_24 : decode cX8_tick 24 = .ok (.iload_n 3, 1) := by decide +kernel
theorem dX8_tick_25 : decode cX8_tick 25 = .ok (.iload_n 1, 1) := by decide +kernel
theorem dX8_tick_26 : decode cX8_tick 26 = .ok (.if_icmp .ge 16, 3) := by decide +kernel
theorem dX8_tick_29 : decode cX8_tick 29 = .ok (.iload_n 2, 1) := by decide +kernel
theorem dX8_tick_30 : decode cX8_tick 30 = .ok (.aload_n 0, 1) := by decide +kernel
theorem dX8_tick_31 : decode cX8_tick 31 = .ok (.invokevirtual 181, 3) := by decide +kernel
theorem dX8_tick_34 : decode cX8_tick 34 = .ok (.iadd, 1) := by decide +kernel
theorem dX8_tick_35 : decode cX8_tick 35 = .ok (.istore_n 2, 1) := by decide +kernel
theorem dX8_tick_36 : decode cX8_tick 36 = .ok (.iinc 3 1, 3) := by decide +kernel
theorem dX8_tick_39 : decode cX8_tick 39 = .ok (.goto (-15), 3) := by decide +kernel
theorem dX8_tick_42 : decode cX8_tick 42 = .ok (.aload_n 0, 1) := by decide +kernel
theorem dX8_tick_43 : decode cX8_tick 43 = .ok (.dup, 1) := by decide +kernel
theorem dX8_tick_44 : decode cX8_tick 44 = .ok (.getfield 25, 3) := by decide +kernel
theorem dX8_tick_47 : decode cX8_tick 47 = .ok (.iload_n 2, 1) := by decide +kernel
theorem dX8_tick_48 : decode cX8_tick 48 = .ok (.i2l, 1) := by decide +kernel
theorem dX8_tick_49 : decode cX8_tick 49 = .ok (.ladd, 1) := by decide +kernel
theorem dX8_tick_50 : decode cX8_tick 50 = .ok (.putfield 25, 3) := by decide +kernel
theorem dX8_tick_53 : decode cX8_tick 53 = .ok (.iload_n 2, 1) := by decide +kernel
theorem dX8_tick_54 : decode cX8_tick 54 = .ok (.ireturn, 1) := by decide +kernel
theorem dX8_carried_0 : decode cX8_carried 0 = .ok (.aload_n 0, 1) := by decide +kernel
theorem dX8_carried_1 : decode cX8_carried 1 = .ok (.getfield 25, 3) := by decide +kernel
theorem dX8_carried_4 : decode cX8_carried 4 = .ok (.lreturn, 1) := by decide +kernel
theorem dX8_type_0 : decode cX8_type 0 = .ok (.aload_n 0, 1) := by decide +kernel
theorem dX8_type_1 : decode cX8_type 1 = .ok (.iload_n 1, 1) := by decide +kernel
theorem dX8_type_2 : decode cX8_type 2 = .ok (.invokevirtual 139, 3) := by decide +kernel
theorem dX8_type_5 : decode cX8_type 5 = .ok (.astore_n 3, 1) := by decide +kernel
theorem dX8_type_6 : decode cX8_type 6 = .ok (.iload_n 2, 1) := by decide +kernel
theorem dX8_type_7 : decode cX8_type 7 = .ok (.bipush 97, 2) := by decide +kernel
theorem dX8_type_9 : decode cX8_type 9 = .ok (.if_icmp .lt 9, 3) := by decide +kernel
theorem dX8_type_12 : decode cX8_type 12 = .ok (.iload_n 2, 1) := by decide +kernel
theorem dX8_type_13 : decode cX8_type 13 = .ok (.bipush 122, 2) := by decide +kernel
theorem dX8_type_15 : decode cX8_type 15 = .ok (.if_icmp .le 13, 3) := by decide +kernel
theorem dX8_type_18 : decode cX8_type 18 = .ok (.new 48, 3) := by decide +kernel
theorem dX8_type_21 : decode cX8_type 21 = .ok (.dup, 1) := by decide +kernel
theorem dX8_type_22 : decode cX8_type 22 = .ok (.ldc 184, 2) := by decide +kernel
theorem dX8_type_24 : decode cX8_type 24 = .ok (.invokespecial 52, 3) := by decide +kernel
theorem dX8_type_27 : decode cX8_type 27 = .ok (.athrow, 1) := by decide +kernel
theorem dX8_type_28 : decode cX8_type 28 = .ok (.aload_n 3, 1) := by decide +kernel
theorem dX8_type_29 : decode cX8_type 29 = .ok (.getfield 150, 3) := by decide +kernel
theorem dX8_type_32 : decode cX8_type 32 = .ok (.astore 4, 2) := by decide +kernel
theorem dX8_type_34 : decode cX8_type 34 = .ok (.aload 4, 2) := by decide +kernel
theorem dX8_type_36 : decode cX8_type 36 = .ok (.invokevirtual 186, 3) := by decide +kernel
theorem dX8_type_39 : decode cX8_type 39 = .ok (.astore 5, 2) := by decide +kernel
theorem dX8_type_41 : decode cX8_type 41 = .ok (.aload 5, 2) := by decide +kernel
theorem dX8_type_43 : decode cX8_type 43 = .ok (.ifnonnull 13, 3) := by decide +kernel
theorem dX8_type_46 : decode cX8_type 46 = .ok (.new 190, 3) := by decide +kernel
theorem dX8_type_49 : decode cX8_type 49 = .ok (.dup, 1) := by decide +kernel
theorem dX8_type_50 : decode cX8_type 50 = .ok (.ldc 192, 2) := by decide +kernel
theorem dX8_type_52 : decode cX8_type 52 = .ok (.invokespecial 194, 3) := by decide +kernel
theorem dX8_type_55 : decode cX8_type 55 = .ok (.athrow, 1) := by decide +kernel
theorem dX8_type_56 : decode cX8_type 56 = .ok (.aload 4, 2) := by decide +kernel
theorem dX8_type_58 : decode cX8_type 58 = .ok (.getfield 195, 3) := by decide +kernel
theorem dX8_type_61 : decode cX8_type 61 = .ok (.invokevirtual 198, 3) := by decide +kernel
theorem dX8_type_64 : decode cX8_type 64 = .ok (.bipush 20, 2) := by decide +kernel
theorem dX8_type_66 : decode cX8_type 66 = .ok (.if_icmp .lt 13, 3) := by decide +kernel
theorem dX8_type_69 : decode cX8_type 69 = .ok (.new 30, 3) := by decide +kernel
theorem dX8_type_72 : decode cX8_type 72 = .ok (.dup, 1) := by decide +kernel
theorem dX8_type_73 : decode cX8_type 73 = .ok (.ldc 201, 2) := by decide +kernel
theorem dX8_type_75 : decode cX8_type 75 = .ok (.invokespecial 34, 3) := by decide +kernel
theorem dX8_type_78 : decode cX8_type 78 = .ok (.athrow, 1) := by decide +kernel
theorem dX8_type_79 : decode cX8_type 79 = .ok (.aload 5, 2) := by decide +kernel
theorem dX8_type_81 : decode cX8_type 81 = .ok (.aload 4, 2) := by decide +kernel
theorem dX8_type_83 : decode cX8_type 83 = .ok (.aload 5, 2) := by decide +kernel
theorem dX8_type_85 : decode cX8_type 85 = .ok (.invokevirtual 203, 3) := by decide +kernel
theorem dX8_type_88 : decode cX8_type 88 = .ok (.invokevirtual 206, 3) := by decide +kernel
theorem dX8_type_91 : decode cX8_type 91 = .ok (.istore 6, 2) := by decide +kernel
theorem dX8_type_93 : decode cX8_type 93 = .ok (.aload 4, 2) := by decide +kernel
theorem dX8_type_95 : decode cX8_type 95 = .ok (.getfield 195, 3) := by decide +kernel
theorem dX8_type_98 : decode cX8_type 98 = .ok (.new 159, 3) := by decide +kernel
theorem dX8_type_101 : decode cX8_type 101 = .ok (.dup, 1) := by decide +kernel
theorem dX8_type_102 : decode cX8_type 102 = .ok (.aload_n 3, 1) := by decide +kernel
theorem dX8_type_103 : decode cX8_type 103 = .ok (.aload 5, 2) := by decide +kernel
theorem dX8_type_105 : decode cX8_type 105 = .ok (.iload 6, 2) := by decide +kernel
theorem dX8_type_107 : decode cX8_type 107 = .ok (.bipush 100, 2) := by decide +kernel
theorem dX8_type_109 : decode cX8_type 109 = .ok (.iload_n 2, 1) := by decide +kernel
theorem dX8_type_110 : decode cX8_type 110 = .ok (.bipush 97, 2) := by decide +kernel
theorem dX8_type_112 : decode cX8_type 112 = .ok (.isub, 1) := by decide +kernel
theorem dX8_type_113 : decode cX8_type 113 = .ok (.iconst 1, 1) := by decide +kernel
theorem dX8_type_114 : decode cX8_type 114 = .ok (.iadd, 1) := by decide +kernel
theorem dX8_type_115 : decode cX8_type 115 = .ok (.iadd, 1) := by decide +kernel
theorem dX8_type_116 : decode cX8_type 116 = .ok (.invokespecial 210, 3) := by decide +kernel
theorem dX8_type_119 : decode cX8_type 119 = .ok (.invokevirtual 101, 3) := by decide +kernel
theorem dX8_type_122 : decode cX8_type 122 = .ok (.pop, 1) := by decide +kernel
theorem dX8_type_123 : decode cX8_type 123 = .ok (.aload 4, 2) := by decide +kernel
theorem dX8_type_125 : decode cX8_type 125 = .ok (.getfield 195, 3) := by decide +kernel
theorem dX8_type_128 : decode cX8_type 128 = .ok (.invokevirtual 198, 3) := by decide +kernel
theorem dX8_type_131 : decode cX8_type 131 = .ok (.ireturn, 1) := by decide +kernel
theorem dX8_guesses_0 : decode cX8_guesses 0 = .ok (.aload_n 0, 1) := by decide +kernel
theorem dX8_guesses_1 : decode cX8_guesses 1 = .ok (.iload_n 1, 1) := by decide +kernel
theorem dX8_guesses_2 : decode cX8_guesses 2 = .ok (.invokevirtual 139, 3) := by decide +kernel
theorem dX8_guesses_5 : decode cX8_guesses 5 = .ok (.astore_n 2, 1) := by decide +kernel
theorem dX8_guesses_6 : decode cX8_guesses 6 = .ok (.aload_n 2, 1) := by decide +kernel
theorem dX8_guesses_7 : decode cX8_guesses 7 = .ok (.getfield 150, 3) := by decide +kernel
theorem dX8_guesses_10 : decode cX8_guesses 10 = .ok (.aload_n 2, 1) := by decide +kernel
theorem dX8_guesses_11 : decode cX8_guesses 11 = .ok (.invokevirtual 213, 3) := by decide +kernel
theorem dX8_guesses_14 : decode cX8_guesses 14 = .ok (.ireturn, 1) := by decide +kernel
theorem dX8_rightShare_0 : decode cX8_rightShare 0 = .ok (.aload_n 0, 1) := by decide +kernel
theorem dX8_rightShare_1 : decode cX8_rightShare 1 = .ok (.iload_n 1, 1) := by decide +kernel
theorem dX8_rightShare_2 : decode cX8_rightShare 2 = .ok (.invokevirtual 139, 3) := by decide +kernel
theorem dX8_rightShare_5 : decode cX8_rightShare 5 = .ok (.astore_n 2, 1) := by decide +kernel
theorem dX8_rightShare_6 : decode cX8_rightShare 6 = .ok (.aload_n 2, 1) := by decide +kernel
theorem dX8_rightShare_7 : decode cX8_rightShare 7 = .ok (.getfield 217, 3) := by decide +kernel
theorem dX8_rightShare_10 : decode cX8_rightShare 10 = .ok (.ifCond .gt 13, 3) := by decide +kernel
theorem dX8_rightShare_13 : decode cX8_rightShare 13 = .ok (.new 220, 3) := by decide +kernel
theorem dX8_rightShare_16 : decode cX8_rightShare 16 = .ok (.dup, 1) := by decide +kernel
theorem dX8_rightShare_17 : decode cX8_rightShare 17 = .ok (.ldc 222, 2) := by decide +kernel
theorem dX8_rightShare_19 : decode cX8_rightShare 19 = .ok (.invokespecial 224, 3) := by decide +kernel
theorem dX8_rightShare_22 : decode cX8_rightShare 22 = .ok (.athrow, 1) := by decide +kernel
theorem dX8_rightShare_23 : decode cX8_rightShare 23 = .ok (.aload_n 2, 1) := by decide +kernel
theorem dX8_rightShare_24 : decode cX8_rightShare 24 = .ok (.getfield 225, 3) := by decide +kernel
theorem dX8_rightShare_27 : decode cX8_rightShare 27 = .ok (.i2f, 1) := by decide +kernel
theorem dX8_rightShare_28 : decode cX8_rightShare 28 = .ok (.aload_n 2, 1) := by decide +kernel
theorem dX8_rightShare_29 : decode cX8_rightShare 29 = .ok (.getfield 217, 3) := by decide +kernel
theorem dX8_rightShare_32 : decode cX8_rightShare 32 = .ok (.i2f, 1) := by decide +kernel
theorem dX8_rightShare_33 : decode cX8_rightShare 33 = .ok (.fdiv, 1) := by decide +kernel
theorem dX8_rightShare_34 : decode cX8_rightShare 34 = .ok (.freturn, 1) := by decide +kernel
theorem dX8_copy_0 : decode cX8_copy 0 = .ok (.aload_n 0, 1) := by decide +kernel
theorem dX8_copy_1 : decode cX8_copy 1 = .ok (.iload_n 1, 1) := by decide +kernel
theorem dX8_copy_2 : decode cX8_copy 2 = .ok (.invokevirtual 37, 3) := by decide +kernel
theorem dX8_copy_5 : decode cX8_copy 5 = .ok (.getfield 228, 3) := by decide +kernel
theorem dX8_copy_8 : decode cX8_copy 8 = .ok (.astore 4, 2) := by decide +kernel
theorem dX8_copy_10 : decode cX8_copy 10 = .ok (.iload_n 2, 1) := by decide +kernel
theorem dX8_copy_11 : decode cX8_copy 11 = .ok (.iconst 0, 1) := by decide +kernel
theorem dX8_copy_12 : decode cX8_copy 12 = .ok (.iconst 2, 1) := by decide +kernel
theorem dX8_copy_13 : decode cX8_copy 13 = .ok (.invokestatic 116, 3) := by decide +kernel
theorem dX8_copy_16 : decode cX8_copy 16 = .ok (.ifCond .eq 14, 3) := by decide +kernel
theorem dX8_copy_19 : decode cX8_copy 19 = .ok (.iload_n 3, 1) := by decide +kernel
theorem dX8_copy_20 : decode cX8_copy 20 = .ok (.iconst 0, 1) := by decide +kernel
theorem dX8_copy_21 : decode cX8_copy 21 = .ok (.sipush 9999, 3) := by decide +kernel
theorem dX8_copy_24 : decode cX8_copy 24 = .ok (.invokestatic 116, 3) := by decide +kernel
theorem dX8_copy_27 : decode cX8_copy 27 = .ok (.ifCond .ne 13, 3) := by decide +kernel
theorem dX8_copy_30 : decode cX8_copy 30 = .ok (.new 48, 3) := by decide +kernel
theorem dX8_copy_33 : decode cX8_copy 33 = .ok (.dup, 1) := by decide +kernel
theorem dX8_copy_34 : decode cX8_copy 34 = .ok (.ldc 50, 2) := by decide +kernel
theorem dX8_copy_36 : decode cX8_copy 36 = .ok (.invokespecial 52, 3) := by decide +kernel
theorem dX8_copy_39 : decode cX8_copy 39 = .ok (.athrow, 1) := by decide +kernel
theorem dX8_copy_40 : decode cX8_copy 40 = .ok (.aload 4, 2) := by decide +kernel
theorem dX8_copy_42 : decode cX8_copy 42 = .ok (.getfield 232, 3) := by decide +kernel
theorem dX8_copy_45 : decode cX8_copy 45 = .ok (.istore 5, 2) := by decide +kernel
theorem dX8_copy_47 : decode cX8_copy 47 = .ok (.aload 4, 2) := by decide +kernel
theorem dX8_copy_49 : decode cX8_copy 49 = .ok (.iload_n 3, 1) := by decide +kernel
theorem dX8_copy_50 : decode cX8_copy 50 = .ok (.iload_n 2, 1) := by decide +kernel
theorem dX8_copy_51 : decode cX8_copy 51 = .ok (.iconst 1, 1) := by decide +kernel
theorem dX8_copy_52 : decode cX8_copy 52 = .ok (.iload_n 1, 1) := by decide +kernel
theorem dX8_copy_53 : decode cX8_copy 53 = .ok (.ishl, 1) := by decide +kernel
theorem dX8_copy_54 : decode cX8_copy 54 = .ok (.invokevirtual 237, 3) := by decide +kernel
theorem dX8_copy_57 : decode cX8_copy 57 = .ok (.iload 5, 2) := by decide +kernel
theorem dX8_copy_59 : decode cX8_copy 59 = .ok (.ireturn, 1) := by decide +kernel
theorem dX8_allow_0 : decode cX8_allow 0 = .ok (.aload_n 0, 1) := by decide +kernel
theorem dX8_allow_1 : decode cX8_allow 1 = .ok (.iload_n 1, 1) := by decide +kernel
theorem dX8_allow_2 : decode cX8_allow 2 = .ok (.invokevirtual 241, 3) := by decide +kernel
theorem dX8_allow_5 : decode cX8_allow 5 = .ok (.ifCond .eq 11, 3) := by decide +kernel
theorem dX8_allow_8 : decode cX8_allow 8 = .ok (.aload_n 0, 1) := by decide +kernel
theorem dX8_allow_9 : decode cX8_allow 9 = .ok (.iload_n 2, 1) := by decide +kernel
theorem dX8_allow_10 : decode cX8_allow 10 = .ok (.invokevirtual 241, 3) := by decide +kernel
theorem dX8_allow_13 : decode cX8_allow 13 = .ok (.ifCond .ne 13, 3) := by decide +kernel
theorem dX8_allow_16 : decode cX8_allow 16 = .ok (.new 245, 3) := by decide +kernel
theorem dX8_allow_19 : decode cX8_allow 19 = .ok (.dup, 1) := by decide +kernel
theorem dX8_allow_20 : decode cX8_allow 20 = .ok (.ldc 247, 2) := by decide +kernel
theorem dX8_allow_22 : decode cX8_allow 22 = .ok (.invokespecial 249, 3) := by decide +kernel
theorem dX8_allow_25 : decode cX8_allow 25 = .ok (.athrow, 1) := by decide +kernel
theorem dX8_allow_26 : decode cX8_allow 26 = .ok (.iload_n 3, 1) := by decide +kernel
theorem dX8_allow_27 : decode cX8_allow 27 = .ok (.iconst 0, 1) := by decide +kernel
theorem dX8_allow_28 : decode cX8_allow 28 = .ok (.iconst 2, 1) := by decide +kernel
theorem dX8_allow_29 : decode cX8_allow 29 = .ok (.invokestatic 116, 3) := by decide +kernel
theorem dX8_allow_32 : decode cX8_allow 32 = .ok (.ifCond .eq 8, 3) := by decide +kernel
theorem dX8_allow_35 : decode cX8_allow 35 = .ok (.iload_n 1, 1) := by decide +kernel
theorem dX8_allow_36 : decode cX8_allow 36 = .ok (.iload_n 2, 1) := by decide +kernel
theorem dX8_allow_37 : decode cX8_allow 37 = .ok (.if_icmp .ne 13, 3) := by decide +kernel
theorem dX8_allow_40 : decode cX8_allow 40 = .ok (.new 48, 3) := by decide +kernel
theorem dX8_allow_43 : decode cX8_allow 43 = .ok (.dup, 1) := by decide +kernel
theorem dX8_allow_44 : decode cX8_allow 44 = .ok (.ldc 250, 2) := by decide +kernel
theorem dX8_allow_46 : decode cX8_allow 46 = .ok (.invokespecial 52, 3) := by decide +kernel
theorem dX8_allow_49 : decode cX8_allow 49 = .ok (.athrow, 1) := by decide +kernel
theorem dX8_allow_50 : decode cX8_allow 50 = .ok (.iload_n 1, 1) := by decide +kernel
theorem dX8_allow_51 : decode cX8_allow 51 = .ok (.iload_n 2, 1) := by decide +kernel
theorem dX8_allow_52 : decode cX8_allow 52 = .ok (.iload_n 3, 1) := by decide +kernel
theorem dX8_allow_53 : decode cX8_allow 53 = .ok (.invokestatic 252, 3) := by decide +kernel
theorem dX8_allow_56 : decode cX8_allow 56 = .ok (.istore 5, 2) := by decide +kernel
theorem dX8_allow_58 : decode cX8_allow 58 = .ok (.aload_n 0, 1) := by decide +kernel
theorem dX8_allow_59 : decode cX8_allow 59 = .ok (.getfield 21, 3) := by decide +kernel
theorem dX8_allow_62 : decode cX8_allow 62 = .ok (.iload 5, 2) := by decide +kernel
theorem dX8_allow_64 : decode cX8_allow 64 = .ok (.baload, 1) := by decide +kernel
theorem dX8_allow_65 : decode cX8_allow 65 = .ok (.istore 6, 2) := by decide +kernel
theorem dX8_allow_67 : decode cX8_allow 67 = .ok (.aload_n 0, 1) := by decide +kernel
theorem dX8_allow_68 : decode cX8_allow 68 = .ok (.getfield 21, 3) := by decide +kernel
theorem dX8_allow_71 : decode cX8_allow 71 = .ok (.iload 5, 2) := by decide +kernel
theorem dX8_allow_73 : decode cX8_allow 73 = .ok (.iload 4, 2) := by decide +kernel
theorem dX8_allow_75 : decode cX8_allow 75 = .ok (.bastore, 1) := by decide +kernel
theorem dX8_allow_76 : decode cX8_allow 76 = .ok (.iload 6, 2) := by decide +kernel
theorem dX8_allow_78 : decode cX8_allow 78 = .ok (.ireturn, 1) := by decide +kernel
theorem dX8_paste_0 : decode cX8_paste 0 = .ok (.aload_n 0, 1) := by decide +kernel
theorem dX8_paste_1 : decode cX8_paste 1 = .ok (.iload_n 1, 1) := by decide +kernel
theorem dX8_paste_2 : decode cX8_paste 2 = .ok (.invokevirtual 37, 3) := by decide +kernel
theorem dX8_paste_5 : decode cX8_paste 5 = .ok (.getfield 228, 3) := by decide +kernel
theorem dX8_paste_8 : decode cX8_paste 8 = .ok (.astore_n 3, 1) := by decide +kernel
theorem dX8_paste_9 : decode cX8_paste 9 = .ok (.aload_n 0, 1) := by decide +kernel
theorem dX8_paste_10 : decode cX8_paste 10 = .ok (.iload_n 2, 1) := by decide +kernel
theorem dX8_paste_11 : decode cX8_paste 11 = .ok (.invokevirtual 37, 3) := by decide +kernel
theorem dX8_paste_14 : decode cX8_paste 14 = .ok (.getfield 228, 3) := by decide +kernel
theorem dX8_paste_17 : decode cX8_paste 17 = .ok (.astore 4, 2) := by decide +kernel
theorem dX8_paste_19 : decode cX8_paste 19 = .ok (.iload_n 1, 1) := by decide +kernel
theorem dX8_paste_20 : decode cX8_paste 20 = .ok (.iload_n 2, 1) := by decide +kernel
theorem dX8_paste_21 : decode cX8_paste 21 = .ok (.if_icmp .ne 14, 3) := by decide +kernel
theorem dX8_paste_24 : decode cX8_paste 24 = .ok (.new 245, 3) := by decide +kernel
theorem dX8_paste_27 : decode cX8_paste 27 = .ok (.dup, 1) := by decide +kernel
theorem dX8_paste_28 : decode cX8_paste 28 = .ok (.ldc_w 256, 3) := by decide +kernel
theorem dX8_paste_31 : decode cX8_paste 31 = .ok (.invokespecial 249, 3) := by decide +kernel
theorem dX8_paste_34 : decode cX8_paste 34 = .ok (.athrow, 1) := by decide +kernel
theorem dX8_paste_35 : decode cX8_paste 35 = .ok (.aload_n 3, 1) := by decide +kernel
theorem dX8_paste_36 : decode cX8_paste 36 = .ok (.getfield 232, 3) := by decide +kernel
theorem dX8_paste_39 : decode cX8_paste 39 = .ok (.iconst (-1), 1) := by decide +kernel
theorem dX8_paste_40 : decode cX8_paste 40 = .ok (.if_icmp .ne 14, 3) := by decide +kernel
theorem dX8_paste_43 : decode cX8_paste 43 = .ok (.new 258, 3) := by decide +kernel
theorem dX8_paste_46 : decode cX8_paste 46 = .ok (.dup, 1) := by decide +kernel
theorem dX8_paste_47 : decode cX8_paste 47 = .ok (.ldc_w 260, 3) := by decide +kernel
theorem dX8_paste_50 : decode cX8_paste 50 = .ok (.invokespecial 262, 3) := by decide +kernel
theorem dX8_paste_53 : decode cX8_paste 53 = .ok (.athrow, 1) := by decide +kernel
theorem dX8_paste_54 : decode cX8_paste 54 = .ok (.aload_n 0, 1) := by decide +kernel
theorem dX8_paste_55 : decode cX8_paste 55 = .ok (.aload_n 3, 1) := by decide +kernel
theorem dX8_paste_56 : decode cX8_paste 56 = .ok (.iload_n 2, 1) := by decide +kernel
theorem dX8_paste_57 : decode cX8_paste 57 = .ok (.invokevirtual 263, 3) := by decide +kernel
theorem dX8_paste_60 : decode cX8_paste 60 = .ok (.ifCond .ne 14, 3) := by decide +kernel
theorem dX8_paste_63 : decode cX8_paste 63 = .ok (.new 190, 3) := by decide +kernel
theorem dX8_paste_66 : decode cX8_paste 66 = .ok (.dup, 1) := by decide +kernel
theorem dX8_paste_67 : decode cX8_paste 67 = .ok (.ldc_w 267, 3) := by decide +kernel
theorem dX8_paste_70 : decode cX8_paste 70 = .ok (.invokespecial 194, 3) := by decide +kernel
theorem dX8_paste_73 : decode cX8_paste 73 = .ok (.athrow, 1) := by decide +kernel
theorem dX8_paste_74 : decode cX8_paste 74 = .ok (.aload 4, 2) := by decide +kernel
theorem dX8_paste_76 : decode cX8_paste 76 = .ok (.aload_n 3, 1) := by decide +kernel
theorem dX8_paste_77 : decode cX8_paste 77 = .ok (.getfield 232, 3) := by decide +kernel
theorem dX8_paste_80 : decode cX8_paste 80 = .ok (.aload_n 3, 1) := by decide +kernel
theorem dX8_paste_81 : decode cX8_paste 81 = .ok (.getfield 269, 3) := by decide +kernel
theorem dX8_paste_84 : decode cX8_paste 84 = .ok (.aload_n 3, 1) := by decide +kernel
theorem dX8_paste_85 : decode cX8_paste 85 = .ok (.getfield 272, 3) := by decide +kernel
theorem dX8_paste_88 : decode cX8_paste 88 = .ok (.iconst 1, 1) := by decide +kernel
theorem dX8_paste_89 : decode cX8_paste 89 = .ok (.iload_n 2, 1) := by decide +kernel
theorem dX8_paste_90 : decode cX8_paste 90 = .ok (.ishl, 1) := by decide +kernel
theorem dX8_paste_91 : decode cX8_paste 91 = .ok (.ior, 1) := by decide +kernel
theorem dX8_paste_92 : decode cX8_paste 92 = .ok (.invokevirtual 237, 3) := by decide +kernel
theorem dX8_paste_95 : decode cX8_paste 95 = .ok (.aload 4, 2) := by decide +kernel
theorem dX8_paste_97 : decode cX8_paste 97 = .ok (.getfield 232, 3) := by decide +kernel
theorem dX8_paste_100 : decode cX8_paste 100 = .ok (.ireturn, 1) := by decide +kernel
theorem dX8_move_0 : decode cX8_move 0 = .ok (.aload_n 0, 1) := by decide +kernel
theorem dX8_move_1 : decode cX8_move 1 = .ok (.iload_n 1, 1) := by decide +kernel
theorem dX8_move_2 : decode cX8_move 2 = .ok (.invokevirtual 37, 3) := by decide +kernel
theorem dX8_move_5 : decode cX8_move 5 = .ok (.getfield 275, 3) := by decide +kernel
theorem dX8_move_8 : decode cX8_move 8 = .ok (.astore_n 2, 1) := by decide +kernel
theorem dX8_move_9 : decode cX8_move 9 = .ok (.aload_n 2, 1) := by decide +kernel
theorem dX8_move_10 : decode cX8_move 10 = .ok (.getfield 279, 3) := by decide +kernel
theorem dX8_move_13 : decode cX8_move 13 = .ok (.ifCond .eq 14, 3) := by decide +kernel
theorem dX8_move_16 : decode cX8_move 16 = .ok (.new 30, 3) := by decide +kernel
theorem dX8_move_19 : decode cX8_move 19 = .ok (.dup, 1) := by decide +kernel
theorem dX8_move_20 : decode cX8_move 20 = .ok (.ldc_w 284, 3) := by decide +kernel
theorem dX8_move_23 : decode cX8_move 23 = .ok (.invokespecial 34, 3) := by decide +kernel
theorem dX8_move_26 : decode cX8_move 26 = .ok (.athrow, 1) := by decide +kernel
theorem dX8_move_27 : decode cX8_move 27 = .ok (.aload_n 2, 1) := by decide +kernel
theorem dX8_move_28 : decode cX8_move 28 = .ok (.invokevirtual 286, 3) := by decide +kernel
theorem dX8_move_31 : decode cX8_move 31 = .ok (.aload_n 2, 1) := by decide +kernel
theorem dX8_move_32 : decode cX8_move 32 = .ok (.getfield 289, 3) := by decide +kernel
theorem dX8_move_35 : decode cX8_move 35 = .ok (.ifCond .le 7, 3) := by decide +kernel
theorem dX8_move_38 : decode cX8_move 38 = .ok (.iconst 1, 1) := by decide +kernel
theorem dX8_move_39 : decode cX8_move 39 = .ok (.goto 4, 3) := by decide +kernel
theorem dX8_move_42 : decode cX8_move 42 = .ok (.iconst 0, 1) := by decide +kernel
theorem dX8_move_43 : decode cX8_move 43 = .ok (.ireturn, 1) := by decide +kernel
theorem dX8_left_0 : decode cX8_left 0 = .ok (.aload_n 0, 1) := by decide +kernel
theorem dX8_left_1 : decode cX8_left 1 = .ok (.iload_n 1, 1) := by decide +kernel
theorem dX8_left_2 : decode cX8_left 2 = .ok (.invokevirtual 37, 3) := by decide +kernel
theorem dX8_left_5 : decode cX8_left 5 = .ok (.astore_n 2, 1) := by decide +kernel
theorem dX8_left_6 : decode cX8_left 6 = .ok (.aload_n 2, 1) := by decide +kernel
theorem dX8_left_7 : decode cX8_left 7 = .ok (.getfield 275, 3) := by decide +kernel
theorem dX8_left_10 : decode cX8_left 10 = .ok (.getfield 279, 3) := by decide +kernel
theorem dX8_left_13 : decode cX8_left 13 = .ok (.ifCond .ne 14, 3) := by decide +kernel
theorem dX8_left_16 : decode cX8_left 16 = .ok (.new 30, 3) := by decide +kernel
theorem dX8_left_19 : decode cX8_left 19 = .ok (.dup, 1) := by decide +kernel
theorem dX8_left_20 : decode cX8_left 20 = .ok (.ldc_w 292, 3) := by decide +kernel
theorem dX8_left_23 : decode cX8_left 23 = .ok (.invokespecial 34, 3) := by decide +kernel
theorem dX8_left_26 : decode cX8_left 26 = .ok (.athrow, 1) := by decide +kernel
theorem dX8_left_27 : decode cX8_left 27 = .ok (.aload_n 2, 1) := by decide +kernel
theorem dX8_left_28 : decode cX8_left 28 = .ok (.getfield 275, 3) := by decide +kernel
theorem dX8_left_31 : decode cX8_left 31 = .ok (.aload_n 2, 1) := by decide +kernel
theorem dX8_left_32 : decode cX8_left 32 = .ok (.getfield 124, 3) := by decide +kernel
theorem dX8_left_35 : decode cX8_left 35 = .ok (.invokevirtual 294, 3) := by decide +kernel
theorem dX8_left_38 : decode cX8_left 38 = .ok (.ireturn, 1) := by decide +kernel
theorem dX8_host_0 : decode cX8_host 0 = .ok (.aload_n 0, 1) := by decide +kernel
theorem dX8_host_1 : decode cX8_host 1 = .ok (.iload_n 1, 1) := by decide +kernel
theorem dX8_host_2 : decode cX8_host 2 = .ok (.invokevirtual 37, 3) := by decide +kernel
theorem dX8_host_5 : decode cX8_host 5 = .ok (.getfield 275, 3) := by decide +kernel
theorem dX8_host_8 : decode cX8_host 8 = .ok (.getfield 289, 3) := by decide +kernel
theorem dX8_host_11 : decode cX8_host 11 = .ok (.ireturn, 1) := by decide +kernel
theorem dX8_record_0 : decode cX8_record 0 = .ok (.aload_n 0, 1) := by decide +kernel
theorem dX8_record_1 : decode cX8_record 1 = .ok (.iload_n 1, 1) := by decide +kernel
theorem dX8_record_2 : decode cX8_record 2 = .ok (.invokevirtual 37, 3) := by decide +kernel
theorem dX8_record_5 : decode cX8_record 5 = .ok (.astore_n 2, 1) := by decide +kernel
theorem dX8_record_6 : decode cX8_record 6 = .ok (.aload_n 2, 1) := by decide +kernel
theorem dX8_record_7 : decode cX8_record 7 = .ok (.getfield 298, 3) := by decide +kernel
theorem dX8_record_10 : decode cX8_record 10 = .ok (.ifnonnull 14, 3) := by decide +kernel
theorem dX8_record_13 : decode cX8_record 13 = .ok (.aload_n 2, 1) := by decide +kernel
theorem dX8_record_14 : decode cX8_record 14 = .ok (.new 302, 3) := by decide +kernel
theorem dX8_record_17 : decode cX8_record 17 = .ok (.dup, 1) := by decide +kernel
theorem dX8_record_18 : decode cX8_record 18 = .ok (.invokespecial 304, 3) := by decide +kernel
theorem dX8_record_21 : decode cX8_record 21 = .ok (.putfield 298, 3) := by decide +kernel
theorem dX8_record_24 : decode cX8_record 24 = .ok (.aload_n 2, 1) := by decide +kernel
theorem dX8_record_25 : decode cX8_record 25 = .ok (.getfield 298, 3) := by decide +kernel
theorem dX8_record_28 : decode cX8_record 28 = .ok (.getfield 305, 3) := by decide +kernel
theorem dX8_record_31 : decode cX8_record 31 = .ok (.istore_n 3, 1) := by decide +kernel
theorem dX8_record_32 : decode cX8_record 32 = .ok (.aload_n 2, 1) := by decide +kernel
theorem dX8_record_33 : decode cX8_record 33 = .ok (.getfield 298, 3) := by decide +kernel
theorem dX8_record_36 : decode cX8_record 36 = .ok (.invokevirtual 308, 3) := by decide +kernel
theorem dX8_record_39 : decode cX8_record 39 = .ok (.iload_n 3, 1) := by decide +kernel
theorem dX8_record_40 : decode cX8_record 40 = .ok (.ireturn, 1) := by decide +kernel
theorem dX8_played_0 : decode cX8_played 0 = .ok (.aload_n 0, 1) := by decide +kernel
theorem dX8_played_1 : decode cX8_played 1 = .ok (.iload_n 1, 1) := by decide +kernel
theorem dX8_played_2 : decode cX8_played 2 = .ok (.invokevirtual 37, 3) := by decide +kernel
theorem dX8_played_5 : decode cX8_played 5 = .ok (.getfield 298, 3) := by decide +kernel
theorem dX8_played_8 : decode cX8_played 8 = .ok (.astore 5, 2) := by decide +kernel
theorem dX8_played_10 : decode cX8_played 10 = .ok (.iload_n 3, 1) := by decide +kernel
theorem dX8_played_11 : decode cX8_played 11 = .ok (.iload 4, 2) := by decide +kernel
theorem dX8_played_13 : decode cX8_played 13 = .ok (.invokestatic 128, 3) := by decide +kernel
theorem dX8_played_16 : decode cX8_played 16 = .ok (.istore 6, 2) := by decide +kernel
theorem dX8_played_18 : decode cX8_played 18 = .ok (.aload 5, 2) := by decide +kernel
theorem dX8_played_20 : decode cX8_played 20 = .ok (.ifnull 16, 3) := by decide +kernel
theorem dX8_played_23 : decode cX8_played 23 = .ok (.iload_n 2, 1) := by decide +kernel
theorem dX8_played_24 : decode cX8_played 24 = .ok (.iconst 1, 1) := by decide +kernel
theorem dX8_played_25 : decode cX8_played 25 = .ok (.aload 5, 2) := by decide +kernel
theorem dX8_played_27 : decode cX8_played 27 = .ok (.getfield 305, 3) := by decide +kernel
theorem dX8_played_30 : decode cX8_played 30 = .ok (.invokestatic 116, 3) := by decide +kernel
theorem dX8_played_33 : decode cX8_played 33 = .ok (.ifCond .ne 14, 3) := by decide +kernel
theorem dX8_played_36 : decode cX8_played 36 = .ok (.new 258, 3) := by decide +kernel
theorem dX8_played_39 : decode cX8_played 39 = .ok (.dup, 1) := by decide +kernel
theorem dX8_played_40 : decode cX8_played 40 = .ok (.ldc_w 309, 3) := by decide +kernel
theorem dX8_played_43 : decode cX8_played 43 = .ok (.invokespecial 262, 3) := by decide +kernel
theorem dX8_played_46 : decode cX8_played 46 = .ok (.athrow, 1) := by decide +kernel
theorem dX8_played_47 : decode cX8_played 47 = .ok (.aload 5, 2) := by decide +kernel
theorem dX8_played_49 : decode cX8_played 49 = .ok (.iload_n 2, 1) := by decide +kernel
theorem dX8_played_50 : decode cX8_played 50 = .ok (.invokevirtual 311, 3) := by decide +kernel
theorem dX8_played_53 : decode cX8_played 53 = .ok (.aload 5, 2) := by decide +kernel
theorem dX8_played_55 : decode cX8_played 55 = .ok (.getfield 315, 3) := by decide +kernel
theorem dX8_played_58 : decode cX8_played 58 = .ok (.iload 6, 2) := by decide +kernel
theorem dX8_played_60 : decode cX8_played 60 = .ok (.iaload, 1) := by decide +kernel
theorem dX8_played_61 : decode cX8_played 61 = .ok (.ireturn, 1) := by decide +kernel
theorem dX8_noted_0 : decode cX8_noted 0 = .ok (.aload_n 0, 1) := by decide +kernel
theorem dX8_noted_1 : decode cX8_noted 1 = .ok (.iload_n 1, 1) := by decide +kernel
theorem dX8_noted_2 : decode cX8_noted 2 = .ok (.invokevirtual 37, 3) := by decide +kernel
theorem dX8_noted_5 : decode cX8_noted 5 = .ok (.getfield 298, 3) := by decide +kernel
theorem dX8_noted_8 : decode cX8_noted 8 = .ok (.astore_n 2, 1) := by decide +kernel
theorem dX8_noted_9 : decode cX8_noted 9 = .ok (.aload_n 2, 1) := by decide +kernel
theorem dX8_noted_10 : decode cX8_noted 10 = .ok (.ifnonnull 14, 3) := by decide +kernel
theorem dX8_noted_13 : decode cX8_noted 13 = .ok (.new 258, 3) := by decide +kernel
theorem dX8_noted_16 : decode cX8_noted 16 = .ok (.dup, 1) := by decide +kernel
theorem dX8_noted_17 : decode cX8_noted 17 = .ok (.ldc_w 318, 3) := by decide +kernel
theorem dX8_noted_20 : decode cX8_noted 20 = .ok (.invokespecial 262, 3) := by decide +kernel
theorem dX8_noted_23 : decode cX8_noted 23 = .ok (.athrow, 1) := by decide +kernel
theorem dX8_noted_24 : decode cX8_noted 24 = .ok (.aload_n 2, 1) := by decide +kernel
theorem dX8_noted_25 : decode cX8_noted 25 = .ok (.getfield 320, 3) := by decide +kernel
theorem dX8_noted_28 : decode cX8_noted 28 = .ok (.ireturn, 1) := by decide +kernel
theorem dX8_meanBehind_0 : decode cX8_meanBehind 0 = .ok (.iconst 0, 1) := by decide +kernel
theorem dX8_meanBehind_1 : decode cX8_meanBehind 1 = .ok (.istore_n 1, 1) := by decide +kernel
theorem dX8_meanBehind_2 : decode cX8_meanBehind 2 = .ok (.iconst 0, 1) := by decide +kernel
theorem dX8_meanBehind_3 : decode cX8_meanBehind 3 = .ok (.istore_n 2, 1) := by decide +kernel
theorem dX8_meanBehind_4 : decode cX8_meanBehind 4 = .ok (.aload_n 0, 1) := by decide +kernel
theorem dX8_meanBehind_5 : decode cX8_meanBehind 5 = .ok (.getfield 17, 3) := by decide +kernel
theorem dX8_meanBehind_8 : decode cX8_meanBehind 8 = .ok (.astore_n 3, 1) := by decide +kernel
theorem dX8_meanBehind_9 : decode cX8_meanBehind 9 = .ok (.aload_n 3, 1) := by decide +kernel
theorem dX8_meanBehind_10 : decode cX8_meanBehind 10 = .ok (.arraylength, 1) := by decide +kernel
theorem dX8_meanBehind_11 : decode cX8_meanBehind 11 = .ok (.istore 4, 2) := by decide +kernel
theorem dX8_meanBehind_13 : decode cX8_meanBehind 13 = .ok (.iconst 0, 1) := by decide +kernel
theorem dX8_meanBehind_14 : decode cX8_meanBehind 14 = .ok (.istore 5, 2) := by decide +kernel
theorem dX8_meanBehind_16 : decode cX8_meanBehind 16 = .ok (.iload 5, 2) := by decide +kernel
theorem dX8_meanBehind_18 : decode cX8_meanBehind 18 = .ok (.iload 4, 2) := by decide +kernel
theorem dX8_meanBehind_20 : decode cX8_meanBehind 20 = .ok (.if_icmp .ge 31, 3) := by decide +kernel
theorem dX8_meanBehind_23 : decode cX8_meanBehind 23 = .ok (.aload_n 3, 1) := by decide +kernel
theorem dX8_meanBehind_24 : decode cX8_meanBehind 24 = .ok (.iload 5, 2) := by decide +kernel
theorem dX8_meanBehind_26 : decode cX8_meanBehind 26 = .ok (.aaload, 1) := by decide +kernel
theorem dX8_meanBehind_27 : decode cX8_meanBehind 27 = .ok (.astore 6, 2) := by decide +kernel
theorem dX8_meanBehind_29 : decode cX8_meanBehind 29 = .ok (.aload 6, 2) := by decide +kernel
theorem dX8_meanBehind_31 : decode cX8_meanBehind 31 = .ok (.ifnull 14, 3) := by decide +kernel
theorem dX8_meanBehind_34 : decode cX8_meanBehind 34 = .ok (.iload_n 1, 1) := by decide +kernel
theorem dX8_meanBehind_35 : decode cX8_meanBehind 35 = .ok (.aload 6, 2) := by decide +kernel
theorem dX8_meanBehind_37 : decode cX8_meanBehind 37 = .ok (.invokevirtual 163, 3) := by decide +kernel
theorem dX8_meanBehind_40 : decode cX8_meanBehind 40 = .ok (.iadd, 1) := by decide +kernel
theorem dX8_meanBehind_41 : decode cX8_meanBehind 41 = .ok (.istore_n 1, 1) := by decide +kernel
theorem dX8_meanBehind_42 : decode cX8_meanBehind 42 = .ok (.iinc 2 1, 3) := by decide +kernel
theorem dX8_meanBehind_45 : decode cX8_meanBehind 45 = .ok (.iinc 5 1, 3) := by decide +kernel
theorem dX8_meanBehind_48 : decode cX8_meanBehind 48 = .ok (.goto (-32), 3) := by decide +kernel
theorem dX8_meanBehind_51 : decode cX8_meanBehind 51 = .ok (.iload_n 2, 1) := by decide +kernel
theorem dX8_meanBehind_52 : decode cX8_meanBehind 52 = .ok (.ifCond .ne 14, 3) := by decide +kernel
theorem dX8_meanBehind_55 : decode cX8_meanBehind 55 = .ok (.new 220, 3) := by decide +kernel
theorem dX8_meanBehind_58 : decode cX8_meanBehind 58 = .ok (.dup, 1) := by decide +kernel
theorem dX8_meanBehind_59 : decode cX8_meanBehind 59 = .ok (.ldc_w 323, 3) := by decide +kernel
theorem dX8_meanBehind_62 : decode cX8_meanBehind 62 = .ok (.invokespecial 224, 3) := by decide +kernel
theorem dX8_meanBehind_65 : decode cX8_meanBehind 65 = .ok (.athrow, 1) := by decide +kernel
theorem dX8_meanBehind_66 : decode cX8_meanBehind 66 = .ok (.iload_n 1, 1) := by decide +kernel
theorem dX8_meanBehind_67 : decode cX8_meanBehind 67 = .ok (.i2d, 1) := by decide +kernel
theorem dX8_meanBehind_68 : decode cX8_meanBehind 68 = .ok (.iload_n 2, 1) := by decide +kernel
theorem dX8_meanBehind_69 : decode cX8_meanBehind 69 = .ok (.i2d, 1) := by decide +kernel
theorem dX8_meanBehind_70 : decode cX8_meanBehind 70 = .ok (.ddiv, 1) := by decide +kernel
theorem dX8_meanBehind_71 : decode cX8_meanBehind 71 = .ok (.dreturn, 1) := by decide +kernel
theorem dX8_isConsistent_0 : decode cX8_isConsistent 0 = .ok (.aload_n 0, 1) := by decide +kernel
theorem dX8_isConsistent_1 : decode cX8_isConsistent 1 = .ok (.getfield 11, 3) := by decide +kernel
theorem dX8_isConsistent_4 : decode cX8_isConsistent 4 = .ok (.astore_n 1, 1) := by decide +kernel
theorem dX8_isConsistent_5 : decode cX8_isConsistent 5 = .ok (.aload_n 1, 1) := by decide +kernel
theorem dX8_isConsistent_6 : decode cX8_isConsistent 6 = .ok (.arraylength, 1) := by decide +kernel
theorem dX8_isConsistent_7 : decode cX8_isConsistent 7 = .ok (.istore_n 2, 1) := by decide +kernel
theorem dX8_isConsistent_8 : decode cX8_isConsistent 8 = .ok (.iconst 0, 1) := by decide +kernel
theorem dX8_isConsistent_9 : decode cX8_isConsistent 9 = .ok (.istore_n 3, 1) := by decide +kernel
theorem dX8_isConsistent_10 : decode cX8_isConsistent 10 = .ok (.iload_n 3, 1) := by decide +kernel
theorem dX8_isConsistent_11 : decode cX8_isConsistent 11 = .ok (.iload_n 2, 1) := by decide +kernel
theorem dX8_isConsistent_12 : decode cX8_isConsistent 12 = .ok (.if_icmp .ge 29, 3) := by decide +kernel
theorem dX8_isConsistent_15 : decode cX8_isConsistent 15 = .ok (.aload_n 1, 1) := by decide +kernel
theorem dX8_isConsistent_16 : decode cX8_isConsistent 16 = .ok (.iload_n 3, 1) := by decide +kernel
theorem dX8_isConsistent_17 : decode cX8_isConsistent 17 = .ok (.aaload, 1) := by decide +kernel
theorem dX8_isConsistent_18 : decode cX8_isConsistent 18 = .ok (.astore 4, 2) := by decide +kernel
theorem dX8_isConsistent_20 : decode cX8_isConsistent 20 = .ok (.aload 4, 2) := by decide +kernel
theorem dX8_isConsistent_22 : decode cX8_isConsistent 22 = .ok (.ifnull 13, 3) := by decide +kernel
theorem dX8_isConsistent_25 : decode cX8_isConsistent 25 = .ok (.aload 4, 2) := by decide +kernel
theorem dX8_isConsistent_27 : decode cX8_isConsistent 27 = .ok (.invokevirtual 325, 3) := by decide +kernel
theorem dX8_isConsistent_30 : decode cX8_isConsistent 30 = .ok (.ifCond .ne 5, 3) := by decide +kernel
theorem dX8_isConsistent_33 : decode cX8_isConsistent 33 = .ok (.iconst 0, 1) := by decide +kernel
theorem dX8_isConsistent_34 : decode cX8_isConsistent 34 = .ok (.ireturn, 1) := by decide +kernel
theorem dX8_isConsistent_35 : decode cX8_isConsistent 35 = .ok (.iinc 3 1, 3) := by decide +kernel
theorem dX8_isConsistent_38 : decode cX8_isConsistent 38 = .ok (.goto (-28), 3) := by decide +kernel
theorem dX8_isConsistent_41 : decode cX8_isConsistent 41 = .ok (.aload_n 0, 1) := by decide +kernel
theorem dX8_isConsistent_42 : decode cX8_isConsistent 42 = .ok (.getfield 17, 3) := by decide +kernel
theorem dX8_isConsistent_45 : decode cX8_isConsistent 45 = .ok (.astore_n 1, 1) := by decide +kernel
theorem dX8_isConsistent_46 : decode cX8_isConsistent 46 = .ok (.aload_n 1, 1) := by decide +kernel
theorem dX8_isConsistent_47 : decode cX8_isConsistent 47 = .ok (.arraylength, 1) := by decide +kernel
theorem dX8_isConsistent_48 : decode cX8_isConsistent 48 = .ok (.istore_n 2, 1) := by decide +kernel
theorem dX8_isConsistent_49 : decode cX8_isConsistent 49 = .ok (.iconst 0, 1) := by decide +kernel
theorem dX8_isConsistent_50 : decode cX8_isConsistent 50 = .ok (.istore_n 3, 1) := by decide +kernel
theorem dX8_isConsistent_51 : decode cX8_isConsistent 51 = .ok (.iload_n 3, 1) := by decide +kernel
theorem dX8_isConsistent_52 : decode cX8_isConsistent 52 = .ok (.iload_n 2, 1) := by decide +kernel
theorem dX8_isConsistent_53 : decode cX8_isConsistent 53 = .ok (.if_icmp .ge 35, 3) := by decide +kernel
theorem dX8_isConsistent_56 : decode cX8_isConsistent 56 = .ok (.aload_n 1, 1) := by decide +kernel
theorem dX8_isConsistent_57 : decode cX8_isConsistent 57 = .ok (.iload_n 3, 1) := by decide +kernel
theorem dX8_isConsistent_58 : decode cX8_isConsistent 58 = .ok (.aaload, 1) := by decide +kernel
theorem dX8_isConsistent_59 : decode cX8_isConsistent 59 = .ok (.astore 4, 2) := by decide +kernel
theorem dX8_isConsistent_61 : decode cX8_isConsistent 61 = .ok (.aload 4, 2) := by decide +kernel
theorem dX8_isConsistent_63 : decode cX8_isConsistent 63 = .ok (.ifnull 19, 3) := by decide +kernel
theorem dX8_isConsistent_66 : decode cX8_isConsistent 66 = .ok (.aload 4, 2) := by decide +kernel
theorem dX8_isConsistent_68 : decode cX8_isConsistent 68 = .ok (.getfield 146, 3) := by decide +kernel
theorem dX8_isConsistent_71 : decode cX8_isConsistent 71 = .ok (.iconst 0, 1) := by decide +kernel
theorem dX8_isConsistent_72 : decode cX8_isConsistent 72 = .ok (.bipush 60, 2) := by decide +kernel
theorem dX8_isConsistent_74 : decode cX8_isConsistent 74 = .ok (.invokestatic 116, 3) := by decide +kernel
theorem dX8_isConsistent_77 : decode cX8_isConsistent 77 = .ok (.ifCond .ne 5, 3) := by decide +kernel
theorem dX8_isConsistent_80 : decode cX8_isConsistent 80 = .ok (.iconst 0, 1) := by decide +kernel
theorem dX8_isConsistent_81 : decode cX8_isConsistent 81 = .ok (.ireturn, 1) := by decide +kernel
theorem dX8_isConsistent_82 : decode cX8_isConsistent 82 = .ok (.iinc 3 1, 3) := by decide +kernel
theorem dX8_isConsistent_85 : decode cX8_isConsistent 85 = .ok (.goto (-34), 3) := by decide +kernel
theorem dX8_isConsistent_88 : decode cX8_isConsistent 88 = .ok (.iconst 1, 1) := by decide +kernel
theorem dX8_isConsistent_89 : decode cX8_isConsistent 89 = .ok (.ireturn, 1) := by decide +kernel
theorem dX8_isWithin_0 : decode cX8_isWithin 0 = .ok (.iload_n 0, 1) := by decide +kernel
theorem dX8_isWithin_1 : decode cX8_isWithin 1 = .ok (.iload_n 1, 1) := by decide +kernel
theorem dX8_isWithin_2 : decode cX8_isWithin 2 = .ok (.if_icmp .lt 12, 3) := by decide +kernel
theorem dX8_isWithin_5 : decode cX8_isWithin 5 = .ok (.iload_n 0, 1) := by decide +kernel
theorem dX8_isWithin_6 : decode cX8_isWithin 6 = .ok (.iload_n 2, 1) := by decide +kernel
theorem dX8_isWithin_7 : decode cX8_isWithin 7 = .ok (.if_icmp .gt 7, 3) := by decide +kernel
theorem dX8_isWithin_10 : decode cX8_isWithin 10 = .ok (.iconst 1, 1) := by decide +kernel
theorem dX8_isWithin_11 : decode cX8_isWithin 11 = .ok (.goto 4, 3) := by decide +kernel
theorem dX8_isWithin_14 : decode cX8_isWithin 14 = .ok (.iconst 0, 1) := by decide +kernel
theorem dX8_isWithin_15 : decode cX8_isWithin 15 = .ok (.ireturn, 1) := by decide +kernel
theorem dX8_isScreenCell_0 : decode cX8_isScreenCell 0 = .ok (.iload_n 0, 1) := by decide +kernel
theorem dX8_isScreenCell_1 : decode cX8_isScreenCell 1 = .ok (.iconst 0, 1) := by decide +kernel
theorem dX8_isScreenCell_2 : decode cX8_isScreenCell 2 = .ok (.bipush 11, 2) := by decide +kernel
theorem dX8_isScreenCell_4 : decode cX8_isScreenCell 4 = .ok (.invokestatic 116, 3) := by decide +kernel
theorem dX8_isScreenCell_7 : decode cX8_isScreenCell 7 = .ok (.ifCond .eq 17, 3) := by decide +kernel
theorem dX8_isScreenCell_10 : decode cX8_isScreenCell 10 = .ok (.iload_n 1, 1) := by decide +kernel
theorem dX8_isScreenCell_11 : decode cX8_isScreenCell 11 = .ok (.iconst 0, 1) := by decide +kernel
theorem dX8_isScreenCell_12 : decode cX8_isScreenCell 12 = .ok (.bipush 7, 2) := by decide +kernel
theorem dX8_isScreenCell_14 : decode cX8_isScreenCell 14 = .ok (.invokestatic 116, 3) := by decide +kernel
theorem dX8_isScreenCell_17 : decode cX8_isScreenCell 17 = .ok (.ifCond .eq 7, 3) := by decide +kernel
theorem dX8_isScreenCell_20 : decode cX8_isScreenCell 20 = .ok (.iconst 1, 1) := by decide +kernel
theorem dX8_isScreenCell_21 : decode cX8_isScreenCell 21 = .ok (.goto 4, 3) := by decide +kernel
theorem dX8_isScreenCell_24 : decode cX8_isScreenCell 24 = .ok (.iconst 0, 1) := by decide +kernel
theorem dX8_isScreenCell_25 : decode cX8_isScreenCell 25 = .ok (.ireturn, 1) := by decide +kernel
theorem dX8_isWindowPlace_0 : decode cX8_isWindowPlace 0 = .ok (.iload_n 0, 1) := by decide +kernel
theorem dX8_isWindowPlace_1 : decode cX8_isWindowPlace 1 = .ok (.bipush (-5), 2) := by decide +kernel
theorem dX8_isWindowPlace_3 : decode cX8_isWindowPlace 3 = .ok (.bipush 11, 2) := by decide +kernel
theorem dX8_isWindowPlace_5 : decode cX8_isWindowPlace 5 = .ok (.invokestatic 116, 3) := by decide +kernel
theorem dX8_isWindowPlace_8 : decode cX8_isWindowPlace 8 = .ok (.ifCond .eq 18, 3) := by decide +kernel
theorem dX8_isWindowPlace_11 : decode cX8_isWindowPlace 11 = .ok (.iload_n 1, 1) := by decide +kernel
theorem dX8_isWindowPlace_12 : decode cX8_isWindowPlace 12 = .ok (.bipush (-5), 2) := by decide +kernel
theorem dX8_isWindowPlace_14 : decode cX8_isWindowPlace 14 = .ok (.bipush 7, 2) := by decide +kernel
theorem dX8_isWindowPlace_16 : decode cX8_isWindowPlace 16 = .ok (.invokestatic 116, 3) := by decide +kernel
theorem dX8_isWindowPlace_19 : decode cX8_isWindowPlace 19 = .ok (.ifCond .eq 7, 3) := by decide +kernel
theorem dX8_isWindowPlace_22 : decode cX8_isWindowPlace 22 = .ok (.iconst 1, 1) := by decide +kernel
theorem dX8_isWindowPlace_23 : decode cX8_isWindowPlace 23 = .ok (.goto 4, 3) := by decide +kernel
theorem dX8_isWindowPlace_26 : decode cX8_isWindowPlace 26 = .ok (.iconst 0, 1) := by decide +kernel
theorem dX8_isWindowPlace_27 : decode cX8_isWindowPlace 27 = .ok (.ireturn, 1) := by decide +kernel
theorem dX8_isSize_0 : decode cX8_isSize 0 = .ok (.iload_n 0, 1) := by decide +kernel
theorem dX8_isSize_1 : decode cX8_isSize 1 = .ok (.iconst 1, 1) := by decide +kernel
theorem dX8_isSize_2 : decode cX8_isSize 2 = .ok (.bipush 12, 2) := by decide +kernel
theorem dX8_isSize_4 : decode cX8_isSize 4 = .ok (.invokestatic 116, 3) := by decide +kernel
theorem dX8_isSize_7 : decode cX8_isSize 7 = .ok (.ifCond .eq 17, 3) := by decide +kernel
theorem dX8_isSize_10 : decode cX8_isSize 10 = .ok (.iload_n 1, 1) := by decide +kernel
theorem dX8_isSize_11 : decode cX8_isSize 11 = .ok (.iconst 1, 1) := by decide +kernel
theorem dX8_isSize_12 : decode cX8_isSize 12 = .ok (.bipush 8, 2) := by decide +kernel
theorem dX8_isSize_14 : decode cX8_isSize 14 = .ok (.invokestatic 116, 3) := by decide +kernel
theorem dX8_isSize_17 : decode cX8_isSize 17 = .ok (.ifCond .eq 7, 3) := by decide +kernel
theorem dX8_isSize_20 : decode cX8_isSize 20 = .ok (.iconst 1, 1) := by decide +kernel
theorem dX8_isSize_21 : decode cX8_isSize 21 = .ok (.goto 4, 3) := by decide +kernel
theorem dX8_isSize_24 : decode cX8_isSize 24 = .ok (.iconst 0, 1) := by decide +kernel
theorem dX8_isSize_25 : decode cX8_isSize 25 = .ok (.ireturn, 1) := by decide +kernel
theorem dX8_screenCell_0 : decode cX8_screenCell 0 = .ok (.iload_n 0, 1) := by decide +kernel
theorem dX8_screenCell_1 : decode cX8_screenCell 1 = .ok (.iload_n 1, 1) := by decide +kernel
theorem dX8_screenCell_2 : decode cX8_screenCell 2 = .ok (.invokestatic 113, 3) := by decide +kernel
theorem dX8_screenCell_5 : decode cX8_screenCell 5 = .ok (.ifCond .ne 14, 3) := by decide +kernel
theorem dX8_screenCell_8 : decode cX8_screenCell 8 = .ok (.new 245, 3) := by decide +kernel
theorem dX8_screenCell_11 : decode cX8_screenCell 11 = .ok (.dup, 1) := by decide +kernel
theorem dX8_screenCell_12 : decode cX8_screenCell 12 = .ok (.ldc_w 329, 3) := by decide +kernel
theorem dX8_screenCell_15 : decode cX8_screenCell 15 = .ok (.invokespecial 249, 3) := by decide +kernel
theorem dX8_screenCell_18 : decode cX8_screenCell 18 = .ok (.athrow, 1) := by decide +kernel
theorem dX8_screenCell_19 : decode cX8_screenCell 19 = .ok (.iload_n 1, 1) := by decide +kernel
theorem dX8_screenCell_20 : decode cX8_screenCell 20 = .ok (.bipush 12, 2) := by decide +kernel
theorem dX8_screenCell_22 : decode cX8_screenCell 22 = .ok (.imul, 1) := by decide +kernel
theorem dX8_screenCell_23 : decode cX8_screenCell 23 = .ok (.iload_n 0, 1) := by decide +kernel
theorem dX8_screenCell_24 : decode cX8_screenCell 24 = .ok (.iadd, 1) := by decide +kernel
theorem dX8_screenCell_25 : decode cX8_screenCell 25 = .ok (.ireturn, 1) := by decide +kernel
theorem dX8_rightNumber_0 : decode cX8_rightNumber 0 = .ok (.iload_n 0, 1) := by decide +kernel
theorem dX8_rightNumber_1 : decode cX8_rightNumber 1 = .ok (.iconst 4, 1) := by decide +kernel
theorem dX8_rightNumber_2 : decode cX8_rightNumber 2 = .ok (.imul, 1) := by decide +kernel
theorem dX8_rightNumber_3 : decode cX8_rightNumber 3 = .ok (.iload_n 1, 1) := by decide +kernel
theorem dX8_rightNumber_4 : decode cX8_rightNumber 4 = .ok (.iadd, 1) := by decide +kernel
theorem dX8_rightNumber_5 : decode cX8_rightNumber 5 = .ok (.iconst 3, 1) := by decide +kernel
theorem dX8_rightNumber_6 : decode cX8_rightNumber 6 = .ok (.imul, 1) := by decide +kernel
theorem dX8_rightNumber_7 : decode cX8_rightNumber 7 = .ok (.iload_n 2, 1) := by decide +kernel
theorem dX8_rightNumber_8 : decode cX8_rightNumber 8 = .ok (.iadd, 1) := by decide +kernel
theorem dX8_rightNumber_9 : decode cX8_rightNumber 9 = .ok (.ireturn, 1) := by decide +kernel
theorem dX8_isSession_0 : decode cX8_isSession 0 = .ok (.iload_n 1, 1) := by decide +kernel
theorem dX8_isSession_1 : decode cX8_isSession 1 = .ok (.iconst 0, 1) := by decide +kernel
theorem dX8_isSession_2 : decode cX8_isSession 2 = .ok (.iconst 3, 1) := by decide +kernel
theorem dX8_isSession_3 : decode cX8_isSession 3 = .ok (.invokestatic 116, 3) := by decide +kernel
theorem dX8_isSession_6 : decode cX8_isSession 6 = .ok (.ifCond .eq 16, 3) := by decide +kernel
theorem dX8_isSession_9 : decode cX8_isSession 9 = .ok (.aload_n 0, 1) := by decide +kernel
theorem dX8_isSession_10 : decode cX8_isSession 10 = .ok (.getfield 11, 3) := by decide +kernel
theorem dX8_isSession_13 : decode cX8_isSession 13 = .ok (.iload_n 1, 1) := by decide +kernel
theorem dX8_isSession_14 : decode cX8_isSession 14 = .ok (.aaload, 1) := by decide +kernel
theorem dX8_isSession_15 : decode cX8_isSession 15 = .ok (.ifnull 7, 3) := by decide +kernel
theorem dX8_isSession_18 : decode cX8_isSession 18 = .ok (.iconst 1, 1) := by decide +kernel
theorem dX8_isSession_19 : decode cX8_isSession 19 = .ok (.goto 4, 3) := by decide +kernel
theorem dX8_isSession_22 : decode cX8_isSession 22 = .ok (.iconst 0, 1) := by decide +kernel
theorem dX8_isSession_23 : decode cX8_isSession 23 = .ok (.ireturn, 1) := by decide +kernel
theorem dX8_sessionAt_0 : decode cX8_sessionAt 0 = .ok (.aload_n 0, 1) := by decide +kernel
theorem dX8_sessionAt_1 : decode cX8_sessionAt 1 = .ok (.iload_n 1, 1) := by decide +kernel
theorem dX8_sessionAt_2 : decode cX8_sessionAt 2 = .ok (.invokevirtual 241, 3) := by decide +kernel
theorem dX8_sessionAt_5 : decode cX8_sessionAt 5 = .ok (.ifCond .ne 13, 3) := by decide +kernel
theorem dX8_sessionAt_8 : decode cX8_sessionAt 8 = .ok (.new 245, 3) := by decide +kernel
theorem dX8_sessionAt_11 : decode cX8_sessionAt 11 = .ok (.dup, 1) := by decide +kernel
theorem dX8_sessionAt_12 : decode cX8_sessionAt 12 = .ok (.ldc 247, 2) := by decide +kernel
theorem dX8_sessionAt_14 : decode cX8_sessionAt 14 = .ok (.invokespecial 249, 3) := by decide +kernel
theorem dX8_sessionAt_17 : decode cX8_sessionAt 17 = .ok (.athrow, 1) := by decide +kernel
theorem dX8_sessionAt_18 : decode cX8_sessionAt 18 = .ok (.aload_n 0, 1) := by decide +kernel
theorem dX8_sessionAt_19 : decode cX8_sessionAt 19 = .ok (.getfield 11, 3) := by decide +kernel
theorem dX8_sessionAt_22 : decode cX8_sessionAt 22 = .ok (.iload_n 1, 1) := by decide +kernel
theorem dX8_sessionAt_23 : decode cX8_sessionAt 23 = .ok (.aaload, 1) := by decide +kernel
theorem dX8_sessionAt_24 : decode cX8_sessionAt 24 = .ok (.areturn, 1) := by decide +kernel
theorem dX8_windowAt_0 : decode cX8_windowAt 0 = .ok (.iload_n 1, 1) := by decide +kernel
theorem dX8_windowAt_1 : decode cX8_windowAt 1 = .ok (.iconst 0, 1) := by decide +kernel
theorem dX8_windowAt_2 : decode cX8_windowAt 2 = .ok (.aload_n 0, 1) := by decide +kernel
theorem dX8_windowAt_3 : decode cX8_windowAt 3 = .ok (.getfield 53, 3) := by decide +kernel
theorem dX8_windowAt_6 : decode cX8_windowAt 6 = .ok (.iconst 1, 1) := by decide +kernel
theorem dX8_windowAt_7 : decode cX8_windowAt 7 = .ok (.isub, 1) := by decide +kernel
theorem dX8_windowAt_8 : decode cX8_windowAt 8 = .ok (.invokestatic 116, 3) := by decide +kernel
theorem dX8_windowAt_11 : decode cX8_windowAt 11 = .ok (.ifCond .ne 14, 3) := by decide +kernel
theorem dX8_windowAt_14 : decode cX8_windowAt 14 = .ok (.new 245, 3) := by decide +kernel
theorem dX8_windowAt_17 : decode cX8_windowAt 17 = .ok (.dup, 1) := by decide +kernel
theorem dX8_windowAt_18 : decode cX8_windowAt 18 = .ok (.ldc_w 331, 3) := by decide +kernel
theorem dX8_windowAt_21 : decode cX8_windowAt 21 = .ok (.invokespecial 249, 3) := by decide +kernel
theorem dX8_windowAt_24 : decode cX8_windowAt 24 = .ok (.athrow, 1) := by decide +kernel
theorem dX8_windowAt_25 : decode cX8_windowAt 25 = .ok (.aload_n 0, 1) := by decide +kernel
theorem dX8_windowAt_26 : decode cX8_windowAt 26 = .ok (.getfield 333, 3) := by decide +kernel
theorem dX8_windowAt_29 : decode cX8_windowAt 29 = .ok (.iload_n 1, 1) := by decide +kernel
theorem dX8_windowAt_30 : decode cX8_windowAt 30 = .ok (.aaload, 1) := by decide +kernel
theorem dX8_windowAt_31 : decode cX8_windowAt 31 = .ok (.astore_n 2, 1) := by decide +kernel
theorem dX8_windowAt_32 : decode cX8_windowAt 32 = .ok (.aload_n 2, 1) := by decide +kernel
theorem dX8_windowAt_33 : decode cX8_windowAt 33 = .ok (.ifnull 10, 3) := by decide +kernel
theorem dX8_windowAt_36 : decode cX8_windowAt 36 = .ok (.aload_n 2, 1) := by decide +kernel
theorem dX8_windowAt_37 : decode cX8_windowAt 37 = .ok (.getfield 72, 3) := by decide +kernel
theorem dX8_windowAt_40 : decode cX8_windowAt 40 = .ok (.ifCond .ne 14, 3) := by decide +kernel
theorem dX8_windowAt_43 : decode cX8_windowAt 43 = .ok (.new 245, 3) := by decide +kernel
theorem dX8_windowAt_46 : decode cX8_windowAt 46 = .ok (.dup, 1) := by decide +kernel
theorem dX8_windowAt_47 : decode cX8_windowAt 47 = .ok (.ldc_w 337, 3) := by decide +kernel
theorem dX8_windowAt_50 : decode cX8_windowAt 50 = .ok (.invokespecial 249, 3) := by decide +kernel
theorem dX8_windowAt_53 : decode cX8_windowAt 53 = .ok (.athrow, 1) := by decide +kernel
theorem dX8_windowAt_54 : decode cX8_windowAt 54 = .ok (.aload_n 2, 1) := by decide +kernel
theorem dX8_windowAt_55 : decode cX8_windowAt 55 = .ok (.areturn, 1) := by decide +kernel
theorem dX8_clientAt_0 : decode cX8_clientAt 0 = .ok (.iload_n 1, 1) := by decide +kernel
theorem dX8_clientAt_1 : decode cX8_clientAt 1 = .ok (.iconst 0, 1) := by decide +kernel
theorem dX8_clientAt_2 : decode cX8_clientAt 2 = .ok (.iconst 5, 1) := by decide +kernel
theorem dX8_clientAt_3 : decode cX8_clientAt 3 = .ok (.invokestatic 116, 3) := by decide +kernel
theorem dX8_clientAt_6 : decode cX8_clientAt 6 = .ok (.ifCond .eq 12, 3) := by decide +kernel
theorem dX8_clientAt_9 : decode cX8_clientAt 9 = .ok (.aload_n 0, 1) := by decide +kernel
theorem dX8_clientAt_10 : decode cX8_clientAt 10 = .ok (.getfield 17, 3) := by decide +kernel
theorem dX8_clientAt_13 : decode cX8_clientAt 13 = .ok (.iload_n 1, 1) := by decide +kernel
theorem dX8_clientAt_14 : decode cX8_clientAt 14 = .ok (.aaload, 1) := by decide +kernel
theorem dX8_clientAt_15 : decode cX8_clientAt 15 = .ok (.ifnonnull 14, 3) := by decide +kernel
theorem dX8_clientAt_18 : decode cX8_clientAt 18 = .ok (.new 245, 3) := by decide +kernel
theorem dX8_clientAt_21 : decode cX8_clientAt 21 = .ok (.dup, 1) := by decide +kernel
theorem dX8_clientAt_22 : decode cX8_clientAt 22 = .ok (.ldc_w 339, 3) := by decide +kernel
theorem dX8_clientAt_25 : decode cX8_clientAt 25 = .ok (.invokespecial 249, 3) := by decide +kernel
theorem dX8_clientAt_28 : decode cX8_clientAt 28 = .ok (.athrow, 1) := by decide +kernel
theorem dX8_clientAt_29 : decode cX8_clientAt 29 = .ok (.aload_n 0, 1) := by decide +kernel
theorem dX8_clientAt_30 : decode cX8_clientAt 30 = .ok (.getfield 17, 3) := by decide +kernel
theorem dX8_clientAt_33 : decode cX8_clientAt 33 = .ok (.iload_n 1, 1) := by decide +kernel
theorem dX8_clientAt_34 : decode cX8_clientAt 34 = .ok (.aaload, 1) := by decide +kernel
theorem dX8_clientAt_35 : decode cX8_clientAt 35 = .ok (.areturn, 1) := by decide +kernel
theorem dX8_nextChange_0 : decode cX8_nextChange 0 = .ok (.aload_n 0, 1) := by decide +kernel
theorem dX8_nextChange_1 : decode cX8_nextChange 1 = .ok (.iload_n 1, 1) := by decide +kernel
theorem dX8_nextChange_2 : decode cX8_nextChange 2 = .ok (.invokevirtual 139, 3) := by decide +kernel
theorem dX8_nextChange_5 : decode cX8_nextChange 5 = .ok (.getfield 341, 3) := by decide +kernel
theorem dX8_nextChange_8 : decode cX8_nextChange 8 = .ok (.astore_n 2, 1) := by decide +kernel
theorem dX8_nextChange_9 : decode cX8_nextChange 9 = .ok (.aload_n 2, 1) := by decide +kernel
theorem dX8_nextChange_10 : decode cX8_nextChange 10 = .ok (.invokevirtual 345, 3) := by decide +kernel
theorem dX8_nextChange_13 : decode cX8_nextChange 13 = .ok (.aload_n 2, 1) := by decide +kernel
theorem dX8_nextChange_14 : decode cX8_nextChange 14 = .ok (.getfield 170, 3) := by decide +kernel
theorem dX8_nextChange_17 : decode cX8_nextChange 17 = .ok (.bipush 32, 2) := by decide +kernel
theorem dX8_nextChange_19 : decode cX8_nextChange 19 = .ok (.if_icmp .ne 14, 3) := by decide +kernel
theorem dX8_nextChange_22 : decode cX8_nextChange 22 = .ok (.new 258, 3) := by decide +kernel
theorem dX8_nextChange_25 : decode cX8_nextChange 25 = .ok (.dup, 1) := by decide +kernel
theorem dX8_nextChange_26 : decode cX8_nextChange 26 = .ok (.ldc_w 348, 3) := by decide +kernel
theorem dX8_nextChange_29 : decode cX8_nextChange 29 = .ok (.invokespecial 262, 3) := by decide +kernel
theorem dX8_nextChange_32 : decode cX8_nextChange 32 = .ok (.athrow, 1) := by decide +kernel
theorem dX8_nextChange_33 : decode cX8_nextChange 33 = .ok (.aload_n 2, 1) := by decide +kernel
theorem dX8_nextChange_34 : decode cX8_nextChange 34 = .ok (.areturn, 1) := by decide +kernel
theorem dX8_canPass_0 : decode cX8_canPass 0 = .ok (.iconst 0, 1) := by decide +kernel
theorem dX8_canPass_1 : decode cX8_canPass 1 = .ok (.istore_n 3, 1) := by decide +kernel
theorem dX8_canPass_2 : decode cX8_canPass 2 = .ok (.iload_n 3, 1) := by decide +kernel
theorem dX8_canPass_3 : decode cX8_canPass 3 = .ok (.iconst 4, 1) := by decide +kernel
theorem dX8_canPass_4 : decode cX8_canPass 4 = .ok (.if_icmp .ge 56, 3) := by decide +kernel
theorem dX8_canPass_7 : decode cX8_canPass 7 = .ok (.aload_n 1, 1) := by decide +kernel
theorem dX8_canPass_8 : decode cX8_canPass 8 = .ok (.getfield 272, 3) := by decide +kernel
theorem dX8_canPass_11 : decode cX8_canPass 11 = .ok (.iconst 1, 1) := by decide +kernel
theorem dX8_canPass_12 : decode cX8_canPass 12 = .ok (.iload_n 3, 1) := by decide +kernel
theorem dX8_canPass_13 : decode cX8_canPass 13 = .ok (.ishl, 1) := by decide +kernel
theorem dX8_canPass_14 : decode cX8_canPass 14 = .ok (.iand, 1) := by decide +kernel
theorem dX8_canPass_15 : decode cX8_canPass 15 = .ok (.ifCond .eq 7, 3) := by decide +kernel
theorem dX8_canPass_18 : decode cX8_canPass 18 = .ok (.iconst 1, 1) := by decide +kernel
theorem dX8_canPass_19 : decode cX8_canPass 19 = .ok (.goto 4, 3) := by decide +kernel
theorem dX8_canPass_22 : decode cX8_canPass 22 = .ok (.iconst 0, 1) := by decide +kernel
theorem dX8_canPass_23 : decode cX8_canPass 23 = .ok (.istore 4, 2) := by decide +kernel
theorem dX8_canPass_25 : decode cX8_canPass 25 = .ok (.iload 4, 2) := by decide +kernel
theorem dX8_canPass_27 : decode cX8_canPass 27 = .ok (.ifCond .eq 27, 3) := by decide +kernel
theorem dX8_canPass_30 : decode cX8_canPass 30 = .ok (.iload_n 3, 1) := by decide +kernel
theorem dX8_canPass_31 : decode cX8_canPass 31 = .ok (.iload_n 2, 1) := by decide +kernel
theorem dX8_canPass_32 : decode cX8_canPass 32 = .ok (.if_icmp .eq 22, 3) := by decide +kernel
theorem dX8_canPass_35 : decode cX8_canPass 35 = .ok (.aload_n 0, 1) := by decide +kernel
theorem dX8_canPass_36 : decode cX8_canPass 36 = .ok (.getfield 21, 3) := by decide +kernel
theorem dX8_canPass_39 : decode cX8_canPass 39 = .ok (.iload_n 3, 1) := by decide +kernel
theorem dX8_canPass_40 : decode cX8_canPass 40 = .ok (.iload_n 2, 1) := by decide +kernel
theorem dX8_canPass_41 : decode cX8_canPass 41 = .ok (.aload_n 1, 1) := by decide +kernel
theorem dX8_canPass_42 : decode cX8_canPass 42 = .ok (.getfield 269, 3) := by decide +kernel
theorem dX8_canPass_45 : decode cX8_canPass 45 = .ok (.invokestatic 252, 3) := by decide +kernel
theorem dX8_canPass_48 : decode cX8_canPass 48 = .ok (.baload, 1) := by decide +kernel
theorem dX8_canPass_49 : decode cX8_canPass 49 = .ok (.ifCond .ne 5, 3) := by decide +kernel
theorem dX8_canPass_52 : decode cX8_canPass 52 = .ok (.iconst 0, 1) := by decide +kernel
theorem dX8_canPass_53 : decode cX8_canPass 53 = .ok (.ireturn, 1) := by decide +kernel
theorem dX8_canPass_54 : decode cX8_canPass 54 = .ok (.iinc 3 1, 3) := by decide +kernel
theorem dX8_canPass_57 : decode cX8_canPass 57 = .ok (.goto (-55), 3) := by decide +kernel
theorem dX8_canPass_60 : decode cX8_canPass 60 = .ok (.iconst 1, 1) := by decide +kernel
theorem dX8_canPass_61 : decode cX8_canPass 61 = .ok (.ireturn, 1) := by decide +kernel
theorem dX8_passTick_0 : decode cX8_passTick 0 = .ok (.aload_n 0, 1) := by decide +kernel
theorem dX8_passTick_1 : decode cX8_passTick 1 = .ok (.getfield 11, 3) := by decide +kernel
theorem dX8_passTick_4 : decode cX8_passTick 4 = .ok (.astore_n 1, 1) := by decide +kernel
theorem dX8_passTick_5 : decode cX8_passTick 5 = .ok (.aload_n 1, 1) := by decide +kernel
theorem dX8_passTick_6 : decode cX8_passTick 6 = .ok (.arraylength, 1) := by decide +kernel
theorem dX8_passTick_7 : decode cX8_passTick 7 = .ok (.istore_n 2, 1) := by decide +kernel
theorem dX8_passTick_8 : decode cX8_passTick 8 = .ok (.iconst 0, 1) := by decide +kernel
theorem dX8_passTick_9 : decode cX8_passTick 9 = .ok (.istore_n 3, 1) := by decide +kernel
theorem dX8_passTick_10 : decode cX8_passTick 10 = .ok (.iload_n 3, 1) := by decide +kernel
theorem dX8_passTick_11 : decode cX8_passTick 11 = .ok (.iload_n 2, 1) := by decide +kernel
theorem dX8_passTick_12 : decode cX8_passTick 12 = .ok (.if_icmp .ge 24, 3) := by decide +kernel
theorem dX8_passTick_15 : decode cX8_passTick 15 = .ok (.aload_n 1, 1) := by decide +kernel
theorem dX8_passTick_16 : decode cX8_passTick 16 = .ok (.iload_n 3, 1) := by decide +kernel
theorem dX8_passTick_17 : decode cX8_passTick 17 = .ok (.aaload, 1) := by decide +kernel
theorem dX8_passTick_18 : decode cX8_passTick 18 = .ok (.astore 4, 2) := by decide +kernel
theorem dX8_passTick_20 : decode cX8_passTick 20 = .ok (.aload 4, 2) := by decide +kernel
theorem dX8_passTick_22 : decode cX8_passTick 22 = .ok (.ifnull 8, 3) := by decide +kernel
theorem dX8_passTick_25 : decode cX8_passTick 25 = .ok (.aload 4, 2) := by decide +kernel
theorem dX8_passTick_27 : decode cX8_passTick 27 = .ok (.invokevirtual 350, 3) := by decide +kernel
theorem dX8_passTick_30 : decode cX8_passTick 30 = .ok (.iinc 3 1, 3) := by decide +kernel
theorem dX8_passTick_33 : decode cX8_passTick 33 = .ok (.goto (-23), 3) := by decide +kernel
theorem dX8_passTick_36 : decode cX8_passTick 36 = .ok (.aload_n 0, 1) := by decide +kernel
theorem dX8_passTick_37 : decode cX8_passTick 37 = .ok (.invokevirtual 353, 3) := by decide +kernel
theorem dX8_passTick_40 : decode cX8_passTick 40 = .ok (.istore_n 1, 1) := by decide +kernel
theorem dX8_passTick_41 : decode cX8_passTick 41 = .ok (.aload_n 0, 1) := by decide +kernel
theorem dX8_passTick_42 : decode cX8_passTick 42 = .ok (.getfield 11, 3) := by decide +kernel
theorem dX8_passTick_45 : decode cX8_passTick 45 = .ok (.astore_n 2, 1) := by decide +kernel
theorem dX8_passTick_46 : decode cX8_passTick 46 = .ok (.aload_n 2, 1) := by decide +kernel
theorem dX8_passTick_47 : decode cX8_passTick 47 = .ok (.arraylength, 1) := by decide +kernel
theorem dX8_passTick_48 : decode cX8_passTick 48 = .ok (.istore_n 3, 1) := by decide +kernel
theorem dX8_passTick_49 : decode cX8_passTick 49 = .ok (.iconst 0, 1) := by decide +kernel
theorem dX8_passTick_50 : decode cX8_passTick 50 = .ok (.istore 4, 2) := by decide +kernel
theorem dX8_passTick_52 : decode cX8_passTick 52 = .ok (.iload 4, 2) := by decide +kernel
theorem dX8_passTick_54 : decode cX8_passTick 54 = .ok (.iload_n 3, 1) := by decide +kernel
theorem dX8_passTick_55 : decode cX8_passTick 55 = .ok (.if_icmp .ge 30, 3) := by decide +kernel
theorem dX8_passTick_58 : decode cX8_passTick 58 = .ok (.aload_n 2, 1) := by decide +kernel
theorem dX8_passTick_59 : decode cX8_passTick 59 = .ok (.iload 4, 2) := by decide +kernel
theorem dX8_passTick_61 : decode cX8_passTick 61 = .ok (.aaload, 1) := by decide +kernel
theorem dX8_passTick_62 : decode cX8_passTick 62 = .ok (.astore 5, 2) := by decide +kernel
theorem dX8_passTick_64 : decode cX8_passTick 64 = .ok (.aload 5, 2) := by decide +kernel
theorem dX8_passTick_66 : decode cX8_passTick 66 = .ok (.ifnull 13, 3) := by decide +kernel
theorem dX8_passTick_69 : decode cX8_passTick 69 = .ok (.aload 5, 2) := by decide +kernel
theorem dX8_passTick_71 : decode cX8_passTick 71 = .ok (.invokevirtual 356, 3) := by decide +kernel
theorem dX8_passTick_74 : decode cX8_passTick 74 = .ok (.aload 5, 2) := by decide +kernel
theorem dX8_passTick_76 : decode cX8_passTick 76 = .ok (.invokevirtual 359, 3) := by decide +kernel
theorem dX8_passTick_79 : decode cX8_passTick 79 = .ok (.iinc 4 1, 3) := by decide +kernel
theorem dX8_passTick_82 : decode cX8_passTick 82 = .ok (.goto (-30), 3) := by decide +kernel
theorem dX8_passTick_85 : decode cX8_passTick 85 = .ok (.iload_n 1, 1) := by decide +kernel
theorem dX8_passTick_86 : decode cX8_passTick 86 = .ok (.ireturn, 1) := by decide +kernel
theorem dX8_runLine_0 : decode cX8_runLine 0 = .ok (.aload_n 0, 1) := by decide +kernel
theorem dX8_runLine_1 : decode cX8_runLine 1 = .ok (.getfield 17, 3) := by decide +kernel
theorem dX8_runLine_4 : decode cX8_runLine 4 = .ok (.astore_n 1, 1) := by decide +kernel
theorem dX8_runLine_5 : decode cX8_runLine 5 = .ok (.aload_n 1, 1) := by decide +kernel
theorem dX8_runLine_6 : decode cX8_runLine 6 = .ok (.arraylength, 1) := by decide +kernel
theorem dX8_runLine_7 : decode cX8_runLine 7 = .ok (.istore_n 2, 1) := by decide +kernel
theorem dX8_runLine_8 : decode cX8_runLine 8 = .ok (.iconst 0, 1) := by decide +kernel
theorem dX8_runLine_9 : decode cX8_runLine 9 = .ok (.istore_n 3, 1) := by decide +kernel
theorem dX8_runLine_10 : decode cX8_runLine 10 = .ok (.iload_n 3, 1) := by decide +kernel
theorem dX8_runLine_11 : decode cX8_runLine 11 = .ok (.iload_n 2, 1) := by decide +kernel
theorem dX8_runLine_12 : decode cX8_runLine 12 = .ok (.if_icmp .ge 48, 3) := by decide +kernel
theorem dX8_runLine_15 : decode cX8_runLine 15 = .ok (.aload_n 1, 1) := by decide +kernel
theorem dX8_runLine_16 : decode cX8_runLine 16 = .ok (.iload_n 3, 1) := by decide +kernel
theorem dX8_runLine_17 : decode cX8_runLine 17 = .ok (.aaload, 1) := by decide +kernel
theorem dX8_runLine_18 : decode cX8_runLine 18 = .ok (.astore 4, 2) := by decide +kernel
theorem dX8_runLine_20 : decode cX8_runLine 20 = .ok (.aload 4, 2) := by decide +kernel
theorem dX8_runLine_22 : decode cX8_runLine 22 = .ok (.ifnull 32, 3) := by decide +kernel
theorem dX8_runLine_25 : decode cX8_runLine 25 = .ok (.aload 4, 2) := by decide +kernel
theorem dX8_runLine_27 : decode cX8_runLine 27 = .ok (.aload 4, 2) := by decide +kernel
theorem dX8_runLine_29 : decode cX8_runLine 29 = .ok (.getfield 146, 3) := by decide +kernel
theorem dX8_runLine_32 : decode cX8_runLine 32 = .ok (.aload 4, 2) := by decide +kernel
theorem dX8_runLine_34 : decode cX8_runLine 34 = .ok (.getfield 143, 3) := by decide +kernel
theorem dX8_runLine_37 : decode cX8_runLine 37 = .ok (.iadd, 1) := by decide +kernel
theorem dX8_runLine_38 : decode cX8_runLine 38 = .ok (.bipush 60, 2) := by decide +kernel
theorem dX8_runLine_40 : decode cX8_runLine 40 = .ok (.invokestatic 362, 3) := by decide +kernel
theorem dX8_runLine_43 : decode cX8_runLine 43 = .ok (.putfield 146, 3) := by decide +kernel
theorem dX8_runLine_46 : decode cX8_runLine 46 = .ok (.aload 4, 2) := by decide +kernel
theorem dX8_runLine_48 : decode cX8_runLine 48 = .ok (.getfield 341, 3) := by decide +kernel
theorem dX8_runLine_51 : decode cX8_runLine 51 = .ok (.invokevirtual 345, 3) := by decide +kernel
theorem dX8_runLine_54 : decode cX8_runLine 54 = .ok (.iinc 3 1, 3) := by decide +kernel
theorem dX8_runLine_57 : decode cX8_runLine 57 = .ok (.goto (-47), 3) := by decide +kernel
theorem dX8_runLine_60 : decode cX8_runLine 60 = .ok (.bipush 24, 2) := by decide +kernel
theorem dX8_runLine_62 : decode cX8_runLine 62 = .ok (.istore_n 1, 1) := by decide +kernel
theorem dX8_runLine_63 : decode cX8_runLine 63 = .ok (.iconst 0, 1) := by decide +kernel
theorem dX8_runLine_64 : decode cX8_runLine 64 = .ok (.istore_n 2, 1) := by decide +kernel
theorem dX8_runLine_65 : decode cX8_runLine 65 = .ok (.iload_n 2, 1) := by decide +kernel
theorem dX8_runLine_66 : decode cX8_runLine 66 = .ok (.bipush 24, 2) := by decide +kernel
theorem dX8_runLine_68 : decode cX8_runLine 68 = .ok (.if_icmp .ge 64, 3) := by decide +kernel
theorem dX8_runLine_71 : decode cX8_runLine 71 = .ok (.aload_n 0, 1) := by decide +kernel
theorem dX8_runLine_72 : decode cX8_runLine 72 = .ok (.iload_n 1, 1) := by decide +kernel
theorem dX8_runLine_73 : decode cX8_runLine 73 = .ok (.invokevirtual 367, 3) := by decide +kernel
theorem dX8_runLine_76 : decode cX8_runLine 76 = .ok (.astore_n 3, 1) := by decide +kernel
theorem dX8_runLine_77 : decode cX8_runLine 77 = .ok (.aload_n 3, 1) := by decide +kernel
theorem dX8_runLine_78 : decode cX8_runLine 78 = .ok (.ifnonnull 6, 3) := by decide +kernel
theorem dX8_runLine_81 : decode cX8_runLine 81 = .ok (.goto 51, 3) := by decide +kernel
theorem dX8_runLine_84 : decode cX8_runLine 84 = .ok (.aload_n 3, 1) := by decide +kernel
theorem dX8_runLine_85 : decode cX8_runLine 85 = .ok (.getfield 341, 3) := by decide +kernel
theorem dX8_runLine_88 : decode cX8_runLine 88 = .ok (.astore 4, 2) := by decide +kernel
theorem dX8_runLine_90 : decode cX8_runLine 90 = .ok (.iload_n 1, 1) := by decide +kernel
theorem dX8_runLine_91 : decode cX8_runLine 91 = .ok (.aload 4, 2) := by decide +kernel
theorem dX8_runLine_93 : decode cX8_runLine 93 = .ok (.getfield 176, 3) := by decide +kernel
theorem dX8_runLine_96 : decode cX8_runLine 96 = .ok (.isub, 1) := by decide +kernel
theorem dX8_runLine_97 : decode cX8_runLine 97 = .ok (.istore_n 1, 1) := by decide +kernel
theorem dX8_runLine_98 : decode cX8_runLine 98 = .ok (.aload_n 3, 1) := by decide +kernel
theorem dX8_runLine_99 : decode cX8_runLine 99 = .ok (.aload_n 3, 1) := by decide +kernel
theorem dX8_runLine_100 : decode cX8_runLine 100 = .ok (.getfield 146, 3) := by decide +kernel
theorem dX8_runLine_103 : decode cX8_runLine 103 = .ok (.aload 4, 2) := by decide +kernel
theorem dX8_runLine_105 : decode cX8_runLine 105 = .ok (.getfield 176, 3) := by decide +kernel
theorem dX8_runLine_108 : decode cX8_runLine 108 = .ok (.isub, 1) := by decide +kernel
theorem dX8_runLine_109 : decode cX8_runLine 109 = .ok (.iconst 0, 1) := by decide +kernel
theorem dX8_runLine_110 : decode cX8_runLine 110 = .ok (.invokestatic 370, 3) := by decide +kernel
theorem dX8_runLine_113 : decode cX8_runLine 113 = .ok (.putfield 146, 3) := by decide +kernel
theorem dX8_runLine_116 : decode cX8_runLine 116 = .ok (.aload 4, 2) := by decide +kernel
theorem dX8_runLine_118 : decode cX8_runLine 118 = .ok (.invokevirtual 373, 3) := by decide +kernel
theorem dX8_runLine_121 : decode cX8_runLine 121 = .ok (.aload 4, 2) := by decide +kernel
theorem dX8_runLine_123 : decode cX8_runLine 123 = .ok (.invokevirtual 345, 3) := by decide +kernel
theorem dX8_runLine_126 : decode cX8_runLine 126 = .ok (.iinc 2 1, 3) := by decide +kernel
theorem dX8_runLine_129 : decode cX8_runLine 129 = .ok (.goto (-64), 3) := by decide +kernel
theorem dX8_runLine_132 : decode cX8_runLine 132 = .ok (.bipush 24, 2) := by decide +kernel
theorem dX8_runLine_134 : decode cX8_runLine 134 = .ok (.iload_n 1, 1) := by decide +kernel
theorem dX8_runLine_135 : decode cX8_runLine 135 = .ok (.isub, 1) := by decide +kernel
theorem dX8_runLine_136 : decode cX8_runLine 136 = .ok (.ireturn, 1) := by decide +kernel
theorem dX8_richestServed_0 : decode cX8_richestServed 0 = .ok (.aconst_null, 1) := by decide +kernel
theorem dX8_richestServed_1 : decode cX8_richestServed 1 = .ok (.astore_n 2, 1) := by decide +kernel
theorem dX8_richestServed_2 : decode cX8_richestServed 2 = .ok (.aload_n 0, 1) := by decide +kernel
theorem dX8_richestServed_3 : decode cX8_richestServed 3 = .ok (.getfield 17, 3) := by decide +kernel
theorem dX8_richestServed_6 : decode cX8_richestServed 6 = .ok (.astore_n 3, 1) := by decide +kernel
theorem dX8_richestServed_7 : decode cX8_richestServed 7 = .ok (.aload_n 3, 1) := by decide +kernel
theorem dX8_richestServed_8 : decode cX8_richestServed 8 = .ok (.arraylength, 1) := by decide +kernel
theorem dX8_richestServed_9 : decode cX8_richestServed 9 = .ok (.istore 4, 2) := by decide +kernel
theorem dX8_richestServed_11 : decode cX8_richestServed 11 = .ok (.iconst 0, 1) := by decide +kernel
theorem dX8_richestServed_12 : decode cX8_richestServed 12 = .ok (.istore 5, 2) := by decide +kernel
theorem dX8_richestServed_14 : decode cX8_richestServed 14 = .ok (.iload 5, 2) := by decide +kernel
theorem dX8_richestServed_16 : decode cX8_richestServed 16 = .ok (.iload 4, 2) := by decide +kernel
theorem dX8_richestServed_18 : decode cX8_richestServed 18 = .ok (.if_icmp .ge 64, 3) := by decide +kernel
theorem dX8_richestServed_21 : decode cX8_richestServed 21 = .ok (.aload_n 3, 1) := by decide +kernel
theorem dX8_richestServed_22 : decode cX8_richestServed 22 = .ok (.iload 5, 2) := by decide +kernel
theorem dX8_richestServed_24 : decode cX8_richestServed 24 = .ok (.aaload, 1) := by decide +kernel
theorem dX8_richestServed_25 : decode cX8_richestServed 25 = .ok (.astore 6, 2) := by decide +kernel
theorem dX8_richestServed_27 : decode cX8_richestServed 27 = .ok (.aload 6, 2) := by decide +kernel
theorem dX8_richestServed_29 : decode cX8_richestServed 29 = .ok (.ifnull 47, 3) := by decide +kernel
theorem dX8_richestServed_32 : decode cX8_richestServed 32 = .ok (.aload 6, 2) := by decide +kernel
theorem dX8_richestServed_34 : decode cX8_richestServed 34 = .ok (.getfield 341, 3) := by decide +kernel
theorem dX8_richestServed_37 : decode cX8_richestServed 37 = .ok (.getfield 170, 3) := by decide +kernel
theorem dX8_richestServed_40 : decode cX8_richestServed 40 = .ok (.bipush 32, 2) := by decide +kernel
theorem dX8_richestServed_42 : decode cX8_richestServed 42 = .ok (.if_icmp .eq 34, 3) := by decide +kernel
theorem dX8_richestServed_45 : decode cX8_richestServed 45 = .ok (.aload 6, 2) := by decide +kernel
theorem dX8_richestServed_47 : decode cX8_richestServed 47 = .ok (.getfield 341, 3) := by decide +kernel
theorem dX8_richestServed_50 : decode cX8_richestServed 50 = .ok (.getfield 176, 3) := by decide +kernel
theorem dX8_richestServed_53 : decode cX8_richestServed 53 = .ok (.iload_n 1, 1) := by decide +kernel
theorem dX8_richestServed_54 : decode cX8_richestServed 54 = .ok (.if_icmp .gt 22, 3) := by decide +kernel
theorem dX8_richestServed_57 : decode cX8_richestServed 57 = .ok (.aload_n 2, 1) := by decide +kernel
theorem dX8_richestServed_58 : decode cX8_richestServed 58 = .ok (.ifnull 15, 3) := by decide +kernel
theorem dX8_richestServed_61 : decode cX8_richestServed 61 = .ok (.aload 6, 2) := by decide +kernel
theorem dX8_richestServed_63 : decode cX8_richestServed 63 = .ok (.getfield 146, 3) := by decide +kernel
theorem dX8_richestServed_66 : decode cX8_richestServed 66 = .ok (.aload_n 2, 1) := by decide +kernel
theorem dX8_richestServed_67 : decode cX8_richestServed 67 = .ok (.getfield 146, 3) := by decide +kernel
theorem dX8_richestServed_70 : decode cX8_richestServed 70 = .ok (.if_icmp .le 6, 3) := by decide +kernel
theorem dX8_richestServed_73 : decode cX8_richestServed 73 = .ok (.aload 6, 2) := by decide +kernel
theorem dX8_richestServed_75 : decode cX8_richestServed 75 = .ok (.astore_n 2, 1) := by decide +kernel
theorem dX8_richestServed_76 : decode cX8_richestServed 76 = .ok (.iinc 5 1, 3) := by decide +kernel
theorem dX8_richestServed_79 : decode cX8_richestServed 79 = .ok (.goto (-65), 3) := by decide +kernel
theorem dX8_richestServed_82 : decode cX8_richestServed 82 = .ok (.aload_n 2, 1) := by decide +kernel
theorem dX8_richestServed_83 : decode cX8_richestServed 83 = .ok (.areturn, 1) := by decide +kernel
theorem dX9_init_0 : decode cX9_init 0 = .ok (.aload_n 0, 1) := by decide +kernel
theorem dX9_init_1 : decode cX9_init 1 = .ok (.invokespecial 1, 3) := by decide +kernel
theorem dX9_init_4 : decode cX9_init 4 = .ok (.aload_n 0, 1) := by decide +kernel
theorem dX9_init_5 : decode cX9_init 5 = .ok (.iconst 4, 1) := by decide +kernel
theorem dX9_init_6 : decode cX9_init 6 = .ok (.newarray .int, 2) := by decide +kernel
theorem dX9_init_8 : decode cX9_init 8 = .ok (.putfield 7, 3) := by decide +kernel
theorem dX9_init_11 : decode cX9_init 11 = .ok (.aload_n 0, 1) := by decide +kernel
theorem dX9_init_12 : decode cX9_init 12 = .ok (.bipush 24, 2) := by decide +kernel
theorem dX9_init_14 : decode cX9_init 14 = .ok (.newarray .int, 2) := by decide +kernel
theorem dX9_init_16 : decode cX9_init 16 = .ok (.putfield 13, 3) := by decide +kernel
theorem dX9_init_19 : decode cX9_init 19 = .ok (.aload_n 0, 1) := by decide +kernel
theorem dX9_init_20 : decode cX9_init 20 = .ok (.bipush 24, 2) := by decide +kernel
theorem dX9_init_22 : decode cX9_init 22 = .ok (.newarray .int, 2) := by decide +kernel
theorem dX9_init_24 : decode cX9_init 24 = .ok (.putfield 16, 3) := by decide +kernel
theorem dX9_init_27 : decode cX9_init 27 = .ok (.aload_n 0, 1) := by decide +kernel
theorem dX9_init_28 : decode cX9_init 28 = .ok (.bipush 24, 2) := by decide +kernel
theorem dX9_init_30 : decode cX9_init 30 = .ok (.newarray .int, 2) := by decide +kernel
theorem dX9_init_32 : decode cX9_init 32 = .ok (.putfield 19, 3) := by decide +kernel
theorem dX9_init_35 : decode cX9_init 35 = .ok (.aload_n 0, 1) := by decide +kernel
theorem dX9_init_36 : decode cX9_init 36 = .ok (.bipush 24, 2) := by decide +kernel
theorem dX9_init_38 : decode cX9_init 38 = .ok (.newarray .int, 2) := by decide +kernel
theorem dX9_init_40 : decode cX9_init 40 = .ok (.putfield 22, 3) := by decide +kernel
theorem dX9_init_43 : decode cX9_init 43 = .ok (.aload_n 0, 1) := by decide +kernel
theorem dX9_init_44 : decode cX9_init 44 = .ok (.bipush 24, 2) := by decide +kernel
theorem dX9_init_46 : decode cX9_init 46 = .ok (.newarray .int, 2) := by decide +kernel
theorem dX9_init_48 : decode cX9_init 48 = .ok (.putfield 25, 3) := by decide +kernel
theorem dX9_init_51 : decode cX9_init 51 = .ok (.aload_n 0, 1) := by decide +kernel
theorem dX9_init_52 : decode cX9_init 52 = .ok (.bipush 24, 2) := by decide +kernel
theorem dX9_init_54 : decode cX9_init 54 = .ok (.newarray .boolean, 2) := by decide +kernel
theorem dX9_init_56 : decode cX9_init 56 = .ok (.putfield 28, 3) := by decide +kernel
theorem dX9_init_59 : decode cX9_init 59 = .ok (.aload_n 0, 1) := by decide +kernel
theorem dX9_init_60 : decode cX9_init 60 = .ok (.bipush 24, 2) := by decide +kernel
theorem dX9_init_62 : decode cX9_init 62 = .ok (.newarray .boolean, 2) := by decide +kernel
theorem dX9_init_64 : decode cX9_init 64 = .ok (.putfield 32, 3) := by decide +kernel
theorem dX9_init_67 : decode cX9_init 67 = .ok (.aload_n 0, 1) := by decide +kernel
theorem dX9_init_68 : decode cX9_init 68 = .ok (.bipush 24, 2) := by decide +kernel
theorem dX9_init_70 : decode cX9_init 70 = .ok (.newarray .boolean, 2) := by decide +kernel
theorem dX9_init_72 : decode cX9_init 72 = .ok (.putfield 35, 3) := by decide +kernel
theorem dX9_init_75 : decode cX9_init 75 = .ok (.aload_n 0, 1) := by decide +kernel
theorem dX9_init_76 : decode cX9_init 76 = .ok (.bipush 24, 2) := by decide +kernel
theorem dX9_init_78 : decode cX9_init 78 = .ok (.newarray .boolean, 2) := by decide +kernel
theorem dX9_init_80 : decode cX9_init 80 = .ok (.putfield 38, 3) := by decide +kernel
theorem dX9_init_83 : decode cX9_init 83 = .ok (.aload_n 0, 1) := by decide +kernel
theorem dX9_init_84 : decode cX9_init 84 = .ok (.sipush 2304, 3) := by decide +kernel
theorem dX9_init_87 : decode cX9_init 87 = .ok (.newarray .int, 2) := by decide +kernel
theorem dX9_init_89 : decode cX9_init 89 = .ok (.putfield 41, 3) := by decide +kernel
theorem dX9_init_92 : decode cX9_init 92 = .ok (.aload_n 0, 1) := by decide +kernel
theorem dX9_init_93 : decode cX9_init 93 = .ok (.bipush 24, 2) := by decide +kernel
theorem dX9_init_95 : decode cX9_init 95 = .ok (.newarray .int, 2) := by decide +kernel
theorem dX9_init_97 : decode cX9_init 97 = .ok (.putfield 44, 3) := by decide +kernel
theorem dX9_init_100 : decode cX9_init 100 = .ok (.aload_n 0, 1) := by decide +kernel
theorem dX9_init_101 : decode cX9_init 101 = .ok (.iconst 4, 1) := by decide +kernel
theorem dX9_init_102 : decode cX9_init 102 = .ok (.newarray .int, 2) := by decide +kernel
theorem dX9_init_104 : decode cX9_init 104 = .ok (.putfield 47, 3) := by decide +kernel
theorem dX9_init_107 : decode cX9_init 107 = .ok (.aload_n 0, 1) := by decide +kernel
theorem dX9_init_108 : decode cX9_init 108 = .ok (.iconst 4, 1) := by decide +kernel
theorem dX9_init_109 : decode cX9_init 109 = .ok (.newarray .int, 2) := by decide +kernel
theorem dX9_init_111 : decode cX9_init 111 = .ok (.putfield 50, 3) := by decide +kernel
theorem dX9_init_114 : decode cX9_init 114 = .ok (.aload_n 0, 1) := by decide +kernel
theorem dX9_init_115 : decode cX9_init 115 = .ok (.bipush 80, 2) := by decide +kernel
theorem dX9_init_117 : decode cX9_init 117 = .ok (.newarray .int, 2) := by decide +kernel
theorem dX9_init_119 : decode cX9_init 119 = .ok (.putfield 53, 3) := by decide +kernel
theorem dX9_init_122 : decode cX9_init 122 = .ok (.aload_n 0, 1) := by decide +kernel
theorem dX9_init_123 : decode cX9_init 123 = .ok (.bipush 80, 2) := by decide +kernel
theorem dX9_init_125 : decode cX9_init 125 = .ok (.newarray .int, 2) := by decide +kernel
theorem dX9_init_127 : decode cX9_init 127 = .ok (.putfield 56, 3) := by decide +kernel
theorem dX9_init_130 : decode cX9_init 130 = .ok (.aload_n 0, 1) := by decide +kernel
theorem dX9_init_131 : decode cX9_init 131 = .ok (.bipush 80, 2) := by decide +kernel
theorem dX9_init_133 : decode cX9_init 133 = .ok (.newarray .int, 2) := by decide +kernel
theorem dX9_init_135 : decode cX9_init 135 = .ok (.putfield 59, 3) := by decide +kernel
theorem dX9_init_138 : decode cX9_init 138 = .ok (.aload_n 0, 1) := by decide +kernel
theorem dX9_init_139 : decode cX9_init 139 = .ok (.bipush 80, 2) := by decide +kernel
theorem dX9_init_141 : decode cX9_init 141 = .ok (.newarray .int, 2) := by decide +kernel
theorem dX9_init_143 : decode cX9_init 143 = .ok (.putfield 62, 3) := by decide +kernel
theorem dX9_init_146 : decode cX9_init 146 = .ok (.aload_n 0, 1) := by decide +kernel
theorem dX9_init_147 : decode cX9_init 147 = .ok (.iconst 4, 1) := by decide +kernel
theorem dX9_init_148 : decode cX9_init 148 = .ok (.newarray .int, 2) := by decide +kernel
theorem dX9_init_150 : decode cX9_init 150 = .ok (.putfield 65, 3) := by decide +kernel
theorem dX9_init_153 : decode cX9_init 153 = .ok (.aload_n 0, 1) := by decide +kernel
theorem dX9_init_154 : decode cX9_init 154 = .ok (.iconst 4, 1) := by decide +kernel
theorem dX9_init_155 : decode cX9_init 155 = .ok (.newarray .int, 2) := by decide +kernel
theorem dX9_init_157 : decode cX9_init 157 = .ok (.putfield 68, 3) := by decide +kernel
theorem dX9_init_160 : decode cX9_init 160 = .ok (.aload_n 0, 1) := by decide +kernel
theorem dX9_init_161 : decode cX9_init 161 = .ok (.bipush 16, 2) := by decide +kernel
theorem dX9_init_163 : decode cX9_init 163 = .ok (.newarray .boolean, 2) := by decide +kernel
theorem dX9_init_165 : decode cX9_init 165 = .ok (.putfield 71, 3) := by decide +kernel
theorem dX9_init_168 : decode cX9_init 168 = .ok (.aload_n 0, 1) := by decide +kernel
theorem dX9_init_169 : decode cX9_init 169 = .ok (.bipush 48, 2) := by decide +kernel
theorem dX9_init_171 : decode cX9_init 171 = .ok (.newarray .boolean, 2) := by decide +kernel
theorem dX9_init_173 : decode cX9_init 173 = .ok (.putfield 74, 3) := by decide +kernel
theorem dX9_init_176 : decode cX9_init 176 = .ok (.aload_n 0, 1) := by decide +kernel
theorem dX9_init_177 : decode cX9_init 177 = .ok (.iconst 4, 1) := by decide +kernel
theorem dX9_init_178 : decode cX9_init 178 = .ok (.newarray .boolean, 2) := by decide +kernel
theorem dX9_init_180 : decode cX9_init 180 = .ok (.putfield 77, 3) := by decide +kernel
theorem dX9_init_183 : decode cX9_init 183 = .ok (.aload_n 0, 1) := by decide +kernel
theorem dX9_init_184 : decode cX9_init 184 = .ok (.iconst 4, 1) := by decide +kernel
theorem dX9_init_185 : decode cX9_init 185 = .ok (.newarray .boolean, 2) := by decide +kernel
theorem dX9_init_187 : decode cX9_init 187 = .ok (.putfield 80, 3) := by decide +kernel
theorem dX9_init_190 : decode cX9_init 190 = .ok (.aload_n 0, 1) := by decide +kernel
theorem dX9_init_191 : decode cX9_init 191 = .ok (.iconst 4, 1) := by decide +kernel
theorem dX9_init_192 : decode cX9_init 192 = .ok (.newarray .int, 2) := by decide +kernel
theorem dX9_init_194 : decode cX9_init 194 = .ok (.putfield 83, 3) := by decide +kernel
theorem dX9_init_197 : decode cX9_init 197 = .ok (.aload_n 0, 1) := by decide +kernel
theorem dX9_init_198 : decode cX9_init 198 = .ok (.bipush 32, 2) := by decide +kernel
theorem dX9_init_200 : decode cX9_init 200 = .ok (.newarray .boolean, 2) := by decide +kernel
theorem dX9_init_202 : decode cX9_init 202 = .ok (.putfield 86, 3) := by decide +kernel
theorem dX9_init_205 : decode cX9_init 205 = .ok (.aload_n 0, 1) := by decide +kernel
theorem dX9_init_206 : decode cX9_init 206 = .ok (.sipush 384, 3) := by decide +kernel
theorem dX9_init_209 : decode cX9_init 209 = .ok (.newarray .int, 2) := by decide +kernel
theorem dX9_init_211 : decode cX9_init 211 = .ok (.putfield 89, 3) := by decide +kernel
theorem dX9_init_214 : decode cX9_init 214 = .ok (.aload_n 0, 1) := by decide +kernel
theorem dX9_init_215 : decode cX9_init 215 = .ok (.iconst 4, 1) := by decide +kernel
theorem dX9_init_216 : decode cX9_init 216 = .ok (.newarray .boolean, 2) := by decide +kernel
theorem dX9_init_218 : decode cX9_init 218 = .ok (.putfield 92, 3) := by decide +kernel
theorem dX9_init_221 : decode cX9_init 221 = .ok (.aload_n 0, 1) := by decide +kernel
theorem dX9_init_222 : decode cX9_init 222 = .ok (.iconst 4, 1) := by decide +kernel
theorem dX9_init_223 : decode cX9_init 223 = .ok (.newarray .int, 2) := by decide +kernel
theorem dX9_init_225 : decode cX9_init 225 = .ok (.putfield 95, 3) := by decide +kernel
theorem dX9_init_228 : decode cX9_init 228 = .ok (.aload_n 0, 1) := by decide +kernel
theorem dX9_init_229 : decode cX9_init 229 = .ok (.iconst 4, 1) := by decide +kernel
theorem dX9_init_230 : decode cX9_init 230 = .ok (.newarray .int, 2) := by decide +kernel
theorem dX9_init_232 : decode cX9_init 232 = .ok (.putfield 98, 3) := by decide +kernel
theorem dX9_init_235 : decode cX9_init 235 = .ok (.aload_n 0, 1) := by decide +kernel
theorem dX9_init_236 : decode cX9_init 236 = .ok (.sipush 23040, 3) := by decide +kernel
theorem dX9_init_239 : decode cX9_init 239 = .ok (.newarray .int, 2) := by decide +kernel
theorem dX9_init_241 : decode cX9_init 241 = .ok (.putfield 101, 3) := by decide +kernel
theorem dX9_init_244 : decode cX9_init 244 = .ok (.aload_n 0, 1) := by decide +kernel
theorem dX9_init_245 : decode cX9_init 245 = .ok (.bipush 6, 2) := by decide +kernel
theorem dX9_init_247 : decode cX9_init 247 = .ok (.newarray .int, 2) := by decide +kernel
theorem dX9_init_249 : decode cX9_init 249 = .ok (.putfield 104, 3) := by decide +kernel
theorem dX9_init_252 : decode cX9_init 252 = .ok (.aload_n 0, 1) := by decide +kernel
theorem dX9_init_253 : decode cX9_init 253 = .ok (.bipush 6, 2) := by decide +kernel
theorem dX9_init_255 : decode cX9_init 255 = .ok (.newarray .int, 2) := by decide +kernel
theorem dX9_init_257 : decode cX9_init 257 = .ok (.putfield 107, 3) := by decide +kernel
theorem dX9_init_260 : decode cX9_init 260 = .ok (.aload_n 0, 1) := by decide +kernel
theorem dX9_init_261 : decode cX9_init 261 = .ok (.bipush 6, 2) := by decide +kernel
theorem dX9_init_263 : decode cX9_init 263 = .ok (.newarray .int, 2) := by decide +kernel
theorem dX9_init_265 : decode cX9_init 265 = .ok (.putfield 110, 3) := by decide +kernel
theorem dX9_init_268 : decode cX9_init 268 = .ok (.aload_n 0, 1) := by decide +kernel
theorem dX9_init_269 : decode cX9_init 269 = .ok (.bipush 6, 2) := by decide +kernel
theorem dX9_init_271 : decode cX9_init 271 = .ok (.newarray .int, 2) := by decide +kernel
theorem dX9_init_273 : decode cX9_init 273 = .ok (.putfield 113, 3) := by decide +kernel
theorem dX9_init_276 : decode cX9_init 276 = .ok (.aload_n 0, 1) := by decide +kernel
theorem dX9_init_277 : decode cX9_init 277 = .ok (.bipush 6, 2) := by decide +kernel
theorem dX9_init_279 : decode cX9_init 279 = .ok (.newarray .int, 2) := by decide +kernel
theorem dX9_init_281 : decode cX9_init 281 = .ok (.putfield 116, 3) := by decide +kernel
theorem dX9_init_284 : decode cX9_init 284 = .ok (.aload_n 0, 1) := by decide +kernel
theorem dX9_init_285 : decode cX9_init 285 = .ok (.sipush 576, 3) := by decide +kernel
theorem dX9_init_288 : decode cX9_init 288 = .ok (.newarray .int, 2) := by decide +kernel
theorem dX9_init_290 : decode cX9_init 290 = .ok (.putfield 119, 3) := by decide +kernel
theorem dX9_init_293 : decode cX9_init 293 = .ok (.aload_n 0, 1) := by decide +kernel
theorem dX9_init_294 : decode cX9_init 294 = .ok (.bipush 96, 2) := by decide +kernel
theorem dX9_init_296 : decode cX9_init 296 = .ok (.newarray .int, 2) := by decide +kernel
theorem dX9_init_298 : decode cX9_init 298 = .ok (.putfield 122, 3) := by decide +kernel
theorem dX9_init_301 : decode cX9_init 301 = .ok (.aload_n 0, 1) := by decide +kernel
theorem dX9_init_302 : decode cX9_init 302 = .ok (.bipush 96, 2) := by decide +kernel
theorem dX9_init_304 : decode cX9_init 304 = .ok (.newarray .int, 2) := by decide +kernel
theorem dX9_init_306 : decode cX9_init 306 = .ok (.putfield 125, 3) := by decide +kernel
theorem dX9_init_309 : decode cX9_init 309 = .ok (.return_, 1) := by decide +kernel
theorem dX9_thrown_0 : decode cX9_thrown 0 = .ok (.aload_n 0, 1) := by decide +kernel
theorem dX9_thrown_1 : decode cX9_thrown 1 = .ok (.getfield 128, 3) := by decide +kernel
theorem dX9_thrown_4 : decode cX9_thrown 4 = .ok (.ireturn, 1) := by decide +kernel
theorem dX9_fails_0 : decode cX9_fails 0 = .ok (.aload_n 0, 1) := by decide +kernel
theorem dX9_fails_1 : decode cX9_fails 1 = .ok (.iload_n 1, 1) := by decide +kernel
theorem dX9_fails_2 : decode cX9_fails 2 = .ok (.putfield 128, 3) := by decide +kernel
theorem dX9_fails_5 : decode cX9_fails 5 = .ok (.iload_n 1, 1) := by decide +kernel
theorem dX9_fails_6 : decode cX9_fails 6 = .ok (.ifCond .le 7, 3) := by decide +kernel
theorem dX9_fails_9 : decode cX9_fails 9 = .ok (.iconst 1, 1) := by decide +kernel
theorem dX9_fails_10 : decode cX9_fails 10 = .ok (.goto 4, 3) := by decide +kernel
theorem dX9_fails_13 : decode cX9_fails 13 = .ok (.iconst 0, 1) := by decide +kernel
theorem dX9_fails_14 : decode cX9_fails 14 = .ok (.ireturn, 1) := by decide +kernel
theorem dX9_in_0 : decode cX9_in 0 = .ok (.iload_n 0, 1) := by decide +kernel
theorem dX9_in_1 : decode cX9_in 1 = .ok (.iload_n 1, 1) := by decide +kernel
theorem dX9_in_2 : decode cX9_in 2 = .ok (.if_icmp .lt 12, 3) := by decide +kernel
theorem dX9_in_5 : decode cX9_in 5 = .ok (.iload_n 0, 1) := by decide +kernel
theorem dX9_in_6 : decode cX9_in 6 = .ok (.iload_n 2, 1) := by decide +kernel
theorem dX9_in_7 : decode cX9_in 7 = .ok (.if_icmp .gt 7, 3) := by decide +kernel
theorem dX9_in_10 : decode cX9_in 10 = .ok (.iconst 1, 1) := by decide +kernel
theorem dX9_in_11 : decode cX9_in 11 = .ok (.goto 4, 3) := by decide +kernel
theorem dX9_in_14 : decode cX9_in 14 = .ok (.iconst 0, 1) := by decide +kernel
theorem dX9_in_15 : decode cX9_in 15 = .ok (.ireturn, 1) := by decide +kernel
theorem dX9_openSession_0 : decode cX9_openSession 0 = .ok (.aload_n 0, 1) := by decide +kernel
theorem dX9_openSession_1 : decode cX9_openSession 1 = .ok (.aload_n 0, 1) := by decide +kernel
theorem dX9_openSession_2 : decode cX9_openSession 2 = .ok (.getfield 132, 3) := by decide +kernel
theorem dX9_openSession_5 : decode cX9_openSession 5 = .ok (.iconst 4, 1) := by decide +kernel
theorem dX9_openSession_6 : decode cX9_openSession 6 = .ok (.if_icmp .ne 7, 3) := by decide +kernel
theorem dX9_openSession_9 : decode cX9_openSession 9 = .ok (.iconst 1, 1) := by decide +kernel
theorem dX9_openSession_10 : decode cX9_openSession 10 = .ok (.goto 4, 3) := by decide +kernel
theorem dX9_openSession_13 : decode cX9_openSession 13 = .ok (.iconst 0, 1) := by decide +kernel
theorem dX9_openSession_14 : decode cX9_openSession 14 = .ok (.invokevirtual 135, 3) := by decide +kernel
theorem dX9_openSession_17 : decode cX9_openSession 17 = .ok (.ifCond .eq 5, 3) := by decide +kernel
theorem dX9_openSession_20 : decode cX9_openSession 20 = .ok (.iconst 0, 1) := by decide +kernel
theorem dX9_openSession_21 : decode cX9_openSession 21 = .ok (.ireturn, 1) := by decide +kernel
theorem dX9_openSession_22 : decode cX9_openSession 22 = .ok (.aload_n 0, 1) := by decide +kernel
theorem dX9_openSession_23 : decode cX9_openSession 23 = .ok (.dup, 1) := by decide +kernel
theorem dX9_openSession_24 : decode cX9_openSession 24 = .ok (.getfield 132, 3) := by decide +kernel
theorem dX9_openSession_27 : decode cX9_openSession 27 = .ok (.iconst 1, 1) := by decide +kernel
theorem dX9_openSession_28 : decode cX9_openSession 28 = .ok (.iadd, 1) := by decide +kernel
theorem dX9_openSession_29 : decode cX9_openSession 29 = .ok (.putfield 132, 3) := by decide +kernel
theorem dX9_openSession_32 : decode cX9_openSession 32 = .ok (.aload_n 0, 1) := by decide +kernel
theorem dX9_openSession_33 : decode cX9_openSession 33 = .ok (.getfield 132, 3) := by decide +kernel
theorem dX9_openSession_36 : decode cX9_openSession 36 = .ok (.iconst 1, 1) := by decide +kernel
theorem dX9_openSession_37 : decode cX9_openSession 37 = .ok (.isub, 1) := by decide +kernel
theorem dX9_openSession_38 : decode cX9_openSession 38 = .ok (.ireturn, 1) := by decide +kernel
theorem dX9_isSession_0 : decode cX9_isSession 0 = .ok (.iload_n 1, 1) := by decide +kernel
theorem dX9_isSession_1 : decode cX9_isSession 1 = .ok (.iconst 0, 1) := by decide +kernel
theorem dX9_isSession_2 : decode cX9_isSession 2 = .ok (.aload_n 0, 1) := by decide +kernel
theorem dX9_isSession_3 : decode cX9_isSession 3 = .ok (.getfield 132, 3) := by decide +kernel
theorem dX9_isSession_6 : decode cX9_isSession 6 = .ok (.iconst 1, 1) := by decide +kernel
theorem dX9_isSession_7 : decode cX9_isSession 7 = .ok (.isub, 1) := by decide +kernel
theorem dX9_isSession_8 : decode cX9_isSession 8 = .ok (.invokestatic 139, 3) := by decide +kernel
theorem dX9_isSession_11 : decode cX9_isSession 11 = .ok (.ireturn, 1) := by decide +kernel
theorem dX9_failsSession_0 : decode cX9_failsSession 0 = .ok (.aload_n 0, 1) := by decide +kernel
theorem dX9_failsSession_1 : decode cX9_failsSession 1 = .ok (.aload_n 0, 1) := by decide +kernel
theorem dX9_failsSession_2 : decode cX9_failsSession 2 = .ok (.iload_n 1, 1) := by decide +kernel
theorem dX9_failsSession_3 : decode cX9_failsSession 3 = .ok (.invokevirtual 143, 3) := by decide +kernel
theorem dX9_failsSession_6 : decode cX9_failsSession 6 = .ok (.ifCond .eq 7, 3) := by decide +kernel
theorem dX9_failsSession_9 : decode cX9_failsSession 9 = .ok (.iconst 0, 1) := by decide +kernel
theorem dX9_failsSession_10 : decode cX9_failsSession 10 = .ok (.goto 4, 3) := by decide +kernel
theorem dX9_failsSession_13 : decode cX9_failsSession 13 = .ok (.iconst 1, 1) := by decide +kernel
theorem dX9_failsSession_14 : decode cX9_failsSession 14 = .ok (.invokevirtual 135, 3) := by decide +kernel
theorem dX9_failsSession_17 : decode cX9_failsSession 17 = .ok (.ireturn, 1) := by decide +kernel
theorem dX9_openWindow_0 : decode cX9_openWindow 0 = .ok (.aload_n 0, 1) := by decide +kernel
theorem dX9_openWindow_1 : decode cX9_openWindow 1 = .ok (.iload_n 1, 1) := by decide +kernel
theorem dX9_openWindow_2 : decode cX9_openWindow 2 = .ok (.invokevirtual 146, 3) := by decide +kernel
theorem dX9_openWindow_5 : decode cX9_openWindow 5 = .ok (.ifCond .eq 5, 3) := by decide +kernel
theorem dX9_openWindow_8 : decode cX9_openWindow 8 = .ok (.iconst 0, 1) := by decide +kernel
theorem dX9_openWindow_9 : decode cX9_openWindow 9 = .ok (.ireturn, 1) := by decide +kernel
theorem dX9_openWindow_10 : decode cX9_openWindow 10 = .ok (.iload_n 2, 1) := by decide +kernel
theorem dX9_openWindow_11 : decode cX9_openWindow 11 = .ok (.bipush (-5), 2) := by decide +kernel
theorem dX9_openWindow_13 : decode cX9_openWindow 13 = .ok (.bipush 11, 2) := by decide +kernel
theorem dX9_openWindow_15 : decode cX9_openWindow 15 = .ok (.invokestatic 139, 3) := by decide +kernel
theorem dX9_openWindow_18 : decode cX9_openWindow 18 = .ok (.ifCond .eq 40, 3) := by decide +kernel
theorem dX9_openWindow_21 : decode cX9_openWindow 21 = .ok (.iload_n 3, 1) := by decide +kernel
theorem dX9_openWindow_22 : decode cX9_openWindow 22 = .ok (.bipush (-5), 2) := by decide +kernel
theorem dX9_openWindow_24 : decode cX9_openWindow 24 = .ok (.bipush 7, 2) := by decide +kernel
theorem dX9_openWindow_26 : decode cX9_openWindow 26 = .ok (.invokestatic 139, 3) := by decide +kernel
theorem dX9_openWindow_29 : decode cX9_openWindow 29 = .ok (.ifCond .eq 29, 3) := by decide +kernel
theorem dX9_openWindow_32 : decode cX9_openWindow 32 = .ok (.iload 4, 2) := by decide +kernel
theorem dX9_openWindow_34 : decode cX9_openWindow 34 = .ok (.iconst 1, 1) := by decide +kernel
theorem dX9_openWindow_35 : decode cX9_openWindow 35 = .ok (.bipush 12, 2) := by decide +kernel
theorem dX9_openWindow_37 : decode cX9_openWindow 37 = .ok (.invokestatic 139, 3) := by decide +kernel
theorem dX9_openWindow_40 : decode cX9_openWindow 40 = .ok (.ifCond .eq 18, 3) := by decide +kernel
theorem dX9_openWindow_43 : decode cX9_openWindow 43 = .ok (.iload 5, 2) := by decide +kernel
theorem dX9_openWindow_45 : decode cX9_openWindow 45 = .ok (.iconst 1, 1) := by decide +kernel
theorem dX9_openWindow_46 : decode cX9_openWindow 46 = .ok (.bipush 8, 2) := by decide +kernel
theorem dX9_openWindow_48 : decode cX9_openWindow 48 = .ok (.invokestatic 139, 3) := by decide +kernel
theorem dX9_openWindow_51 : decode cX9_openWindow 51 = .ok (.ifCond .eq 7, 3) := by decide +kernel
theorem dX9_openWindow_54 : decode cX9_openWindow 54 = .ok (.iconst 1, 1) := by decide +kernel
theorem dX9_openWindow_55 : decode cX9_openWindow 55 = .ok (.goto 4, 3) := by decide +kernel
theorem dX9_openWindow_58 : decode cX9_openWindow 58 = .ok (.iconst 0, 1) := by decide +kernel
theorem dX9_openWindow_59 : decode cX9_openWindow 59 = .ok (.istore 6, 2) := by decide +kernel
theorem dX9_openWindow_61 : decode cX9_openWindow 61 = .ok (.aload_n 0, 1) := by decide +kernel
theorem dX9_openWindow_62 : decode cX9_openWindow 62 = .ok (.iload 6, 2) := by decide +kernel
theorem dX9_openWindow_64 : decode cX9_openWindow 64 = .ok (.ifCond .ne 7, 3) := by decide +kernel
theorem dX9_openWindow_67 : decode cX9_openWindow 67 = .ok (.iconst 2, 1) := by decide +kernel
theorem dX9_openWindow_68 : decode cX9_openWindow 68 = .ok (.goto 19, 3) := by decide +kernel
theorem dX9_openWindow_71 : decode cX9_openWindow 71 = .ok (.aload_n 0, 1) := by decide +kernel
theorem dX9_openWindow_72 : decode cX9_openWindow 72 = .ok (.getfield 7, 3) := by decide +kernel
theorem dX9_openWindow_75 : decode cX9_openWindow 75 = .ok (.iload_n 1, 1) := by decide +kernel
theorem dX9_openWindow_76 : decode cX9_openWindow 76 = .ok (.iaload, 1) := by decide +kernel
theorem dX9_openWindow_77 : decode cX9_openWindow 77 = .ok (.bipush 6, 2) := by decide +kernel
theorem dX9_openWindow_79 : decode cX9_openWindow 79 = .ok (.if_icmp .ne 7, 3) := by decide +kernel
theorem dX9_openWindow_82 : decode cX9_openWindow 82 = .ok (.iconst 3, 1) := by decide +kernel
theorem dX9_openWindow_83 : decode cX9_openWindow 83 = .ok (.goto 4, 3) := by decide +kernel
theorem dX9_openWindow_86 : decode cX9_openWindow 86 = .ok (.iconst 0, 1) := by decide +kernel
theorem dX9_openWindow_87 : decode cX9_openWindow 87 = .ok (.invokevirtual 135, 3) := by decide +kernel
theorem dX9_openWindow_90 : decode cX9_openWindow 90 = .ok (.ifCond .eq 5, 3) := by decide +kernel
theorem dX9_openWindow_93 : decode cX9_openWindow 93 = .ok (.iconst 0, 1) := by decide +kernel
theorem dX9_openWindow_94 : decode cX9_openWindow 94 = .ok (.ireturn, 1) := by decide +kernel
theorem dX9_openWindow_95 : decode cX9_openWindow 95 = .ok (.bipush 6, 2) := by decide +kernel
theorem dX9_openWindow_97 : decode cX9_openWindow 97 = .ok (.iload_n 1, 1) := by decide +kernel
theorem dX9_openWindow_98 : decode cX9_openWindow 98 = .ok (.imul, 1) := by decide +kernel
theorem dX9_openWindow_99 : decode cX9_openWindow 99 = .ok (.aload_n 0, 1) := by decide +kernel
theorem dX9_openWindow_100 : decode cX9_openWindow 100 = .ok (.getfield 7, 3) := by decide +kernel
theorem dX9_openWindow_103 : decode cX9_openWindow 103 = .ok (.iload_n 1, 1) := by decide +kernel
theorem dX9_openWindow_104 : decode cX9_openWindow 104 = .ok (.iaload, 1) := by decide +kernel
theorem dX9_openWindow_105 : decode cX9_openWindow 105 = .ok (.iadd, 1) := by decide +kernel
theorem dX9_openWindow_106 : decode cX9_openWindow 106 = .ok (.istore 7, 2) := by decide +kernel
theorem dX9_openWindow_108 : decode cX9_openWindow 108 = .ok (.aload_n 0, 1) := by decide +kernel
theorem dX9_openWindow_109 : decode cX9_openWindow 109 = .ok (.getfield 7, 3) := by decide +kernel
theorem dX9_openWindow_112 : decode cX9_openWindow 112 = .ok (.iload_n 1, 1) := by decide +kernel
theorem dX9_openWindow_113 : decode cX9_openWindow 113 = .ok (.dup2, 1) := by decide +kernel
theorem dX9_openWindow_114 : decode cX9_openWindow 114 = .ok (.iaload, 1) := by decide +kernel
theorem dX9_openWindow_115 : decode cX9_openWindow 115 = .ok (.iconst 1, 1) := by decide +kernel
theorem dX9_openWindow_116 : decode cX9_openWindow 116 = .ok (.iadd, 1) := by decide +kernel
theorem dX9_openWindow_117 : decode cX9_openWindow 117 = .ok (.iastore, 1) := by decide +kernel
theorem dX9_openWindow_118 : decode cX9_openWindow 118 = .ok (.aload_n 0, 1) := by decide +kernel
theorem dX9_openWindow_119 : decode cX9_openWindow 119 = .ok (.getfield 13, 3) := by decide +kernel
theorem dX9_openWindow_122 : decode cX9_openWindow 122 = .ok (.iload 7, 2) := by decide +kernel
theorem dX9_openWindow_124 : decode cX9_openWindow 124 = .ok (.iload_n 2, 1) := by decide +kernel
theorem dX9_openWindow_125 : decode cX9_openWindow 125 = .ok (.iastore, 1) := by decide +kernel
theorem dX9_openWindow_126 : decode cX9_openWindow 126 = .ok (.aload_n 0, 1) := by decide +kernel
theorem dX9_openWindow_127 : decode cX9_openWindow 127 = .ok (.getfield 16, 3) := by decide +kernel
theorem dX9_openWindow_130 : decode cX9_openWindow 130 = .ok (.iload 7, 2) := by decide +kernel
theorem dX9_openWindow_132 : decode cX9_openWindow 132 = .ok (.iload_n 3, 1) := by decide +kernel
theorem dX9_openWindow_133 : decode cX9_openWindow 133 = .ok (.iastore, 1) := by decide +kernel
theorem dX9_openWindow_134 : decode cX9_openWindow 134 = .ok (.aload_n 0, 1) := by decide +kernel
theorem dX9_openWindow_135 : decode cX9_openWindow 135 = .ok (.getfield 19, 3) := by decide +kernel
theorem dX9_openWindow_138 : decode cX9_openWindow 138 = .ok (.iload 7, 2) := by decide +kernel
theorem dX9_openWindow_140 : decode cX9_openWindow 140 = .ok (.iload 4, 2) := by decide +kernel
theorem dX9_openWindow_142 : decode cX9_openWindow 142 = .ok (.iastore, 1) := by decide +kernel
theorem dX9_openWindow_143 : decode cX9_openWindow 143 = .ok (.aload_n 0, 1) := by decide +kernel
theorem dX9_openWindow_144 : decode cX9_openWindow 144 = .ok (.getfield 22, 3) := by decide +kernel
theorem dX9_openWindow_147 : decode cX9_openWindow 147 = .ok (.iload 7, 2) := by decide +kernel
theorem dX9_openWindow_149 : decode cX9_openWindow 149 = .ok (.iload 5, 2) := by decide +kernel
theorem dX9_openWindow_151 : decode cX9_openWindow 151 = .ok (.iastore, 1) := by decide +kernel
theorem dX9_openWindow_152 : decode cX9_openWindow 152 = .ok (.aload_n 0, 1) := by decide +kernel
theorem dX9_openWindow_153 : decode cX9_openWindow 153 = .ok (.getfield 28, 3) := by decide +kernel
theorem dX9_openWindow_156 : decode cX9_openWindow 156 = .ok (.iload 7, 2) := by decide +kernel
theorem dX9_openWindow_158 : decode cX9_openWindow 158 = .ok (.iconst 1, 1) := by decide +kernel
theorem dX9_openWindow_159 : decode cX9_openWindow 159 = .ok (.bastore, 1) := by decide +kernel
theorem dX9_openWindow_160 : decode cX9_openWindow 160 = .ok (.aload_n 0, 1) := by decide +kernel
theorem dX9_openWindow_161 : decode cX9_openWindow 161 = .ok (.getfield 32, 3) := by decide +kernel
theorem dX9_openWindow_164 : decode cX9_openWindow 164 = .ok (.iload 7, 2) := by decide +kernel
theorem dX9_openWindow_166 : decode cX9_openWindow 166 = .ok (.iconst 1, 1) := by decide +kernel
theorem dX9_openWindow_167 : decode cX9_openWindow 167 = .ok (.bastore, 1) := by decide +kernel
theorem dX9_openWindow_168 : decode cX9_openWindow 168 = .ok (.aload_n 0, 1) := by decide +kernel
theorem dX9_openWindow_169 : decode cX9_openWindow 169 = .ok (.getfield 44, 3) := by decide +kernel
theorem dX9_openWindow_172 : decode cX9_openWindow 172 = .ok (.bipush 6, 2) := by decide +kernel
theorem dX9_openWindow_174 : decode cX9_openWindow 174 = .ok (.iload_n 1, 1) := by decide +kernel
theorem dX9_openWindow_175 : decode cX9_openWindow 175 = .ok (.imul, 1) := by decide +kernel
theorem dX9_openWindow_176 : decode cX9_openWindow 176 = .ok (.aload_n 0, 1) := by decide +kernel
theorem dX9_openWindow_177 : decode cX9_openWindow 177 = .ok (.getfield 47, 3) := by decide +kernel
theorem dX9_openWindow_180 : decode cX9_openWindow 180 = .ok (.iload_n 1, 1) := by decide +kernel
theorem dX9_openWindow_181 : decode cX9_openWindow 181 = .ok (.iaload, 1) := by decide +kernel
theorem dX9_openWindow_182 : decode cX9_openWindow 182 = .ok (.iadd, 1) := by decide +kernel
theorem dX9_openWindow_183 : decode cX9_openWindow 183 = .ok (.iload 7, 2) := by decide +kernel
theorem dX9_openWindow_185 : decode cX9_openWindow 185 = .ok (.iastore, 1) := by decide +kernel
theorem dX9_openWindow_186 : decode cX9_openWindow 186 = .ok (.aload_n 0, 1) := by decide +kernel
theorem dX9_openWindow_187 : decode cX9_openWindow 187 = .ok (.getfield 47, 3) := by decide +kernel
theorem dX9_openWindow_190 : decode cX9_openWindow 190 = .ok (.iload_n 1, 1) := by decide +kernel
theorem dX9_openWindow_191 : decode cX9_openWindow 191 = .ok (.dup2, 1) := by decide +kernel
theorem dX9_openWindow_192 : decode cX9_openWindow 192 = .ok (.iaload, 1) := by decide +kernel
theorem dX9_openWindow_193 : decode cX9_openWindow 193 = .ok (.iconst 1, 1) := by decide +kernel
theorem dX9_openWindow_194 : decode cX9_openWindow 194 = .ok (.iadd, 1) := by decide +kernel
theorem dX9_openWindow_195 : decode cX9_openWindow 195 = .ok (.iastore, 1) := by decide +kernel
theorem dX9_openWindow_196 : decode cX9_openWindow 196 = .ok (.aload_n 0, 1) := by decide +kernel
theorem dX9_openWindow_197 : decode cX9_openWindow 197 = .ok (.getfield 7, 3) := by decide +kernel
theorem dX9_openWindow_200 : decode cX9_openWindow 200 = .ok (.iload_n 1, 1) := by decide +kernel
theorem dX9_openWindow_201 : decode cX9_openWindow 201 = .ok (.iaload, 1) := by decide +kernel
theorem dX9_openWindow_202 : decode cX9_openWindow 202 = .ok (.iconst 1, 1) := by decide +kernel
theorem dX9_openWindow_203 : decode cX9_openWindow 203 = .ok (.isub, 1) := by decide +kernel
theorem dX9_openWindow_204 : decode cX9_openWindow 204 = .ok (.ireturn, 1) := by decide +kernel
theorem dX9_failsWindow_0 : decode cX9_failsWindow 0 = .ok (.aload_n 0, 1) := by decide +kernel
theorem dX9_failsWindow_1 : decode cX9_failsWindow 1 = .ok (.aload_n 0, 1) := by decide +kernel
theorem dX9_failsWindow_2 : decode cX9_failsWindow 2 = .ok (.iload_n 1, 1) := by decide +kernel
theorem dX9_failsWindow_3 : decode cX9_failsWindow 3 = .ok (.invokevirtual 143, 3) := by decide +kernel
theorem dX9_failsWindow_6 : decode cX9_failsWindow 6 = .ok (.ifCond .eq 37, 3) := by decide +kernel
theorem dX9_failsWindow_9 : decode cX9_failsWindow 9 = .ok (.iload_n 2, 1) := by decide +kernel
theorem dX9_failsWindow_10 : decode cX9_failsWindow 10 = .ok (.iconst 0, 1) := by decide +kernel
theorem dX9_failsWindow_11 : decode cX9_failsWindow 11 = .ok (.aload_n 0, 1) := by decide +kernel
theorem dX9_failsWindow_12 : decode cX9_failsWindow 12 = .ok (.getfield 7, 3) := by decide +kernel
theorem dX9_failsWindow_15 : decode cX9_failsWindow 15 = .ok (.iload_n 1, 1) := by decide +kernel
theorem dX9_failsWindow_16 : decode cX9_failsWindow 16 = .ok (.iaload, 1) := by decide +kernel
theorem dX9_failsWindow_17 : decode cX9_failsWindow 17 = .ok (.iconst 1, 1) := by decide +kernel
theorem dX9_failsWindow_18 : decode cX9_failsWindow 18 = .ok (.isub, 1) := by decide +kernel
theorem dX9_failsWindow_19 : decode cX9_failsWindow 19 = .ok (.invokestatic 139, 3) := by decide +kernel
theorem dX9_failsWindow_22 : decode cX9_failsWindow 22 = .ok (.ifCond .eq 21, 3) := by decide +kernel
theorem dX9_failsWindow_25 : decode cX9_failsWindow 25 = .ok (.aload_n 0, 1) := by decide +kernel
theorem dX9_failsWindow_26 : decode cX9_failsWindow 26 = .ok (.getfield 28, 3) := by decide +kernel
theorem dX9_failsWindow_29 : decode cX9_failsWindow 29 = .ok (.bipush 6, 2) := by decide +kernel
theorem dX9_failsWindow_31 : decode cX9_failsWindow 31 = .ok (.iload_n 1, 1) := by decide +kernel
theorem dX9_failsWindow_32 : decode cX9_failsWindow 32 = .ok (.imul, 1) := by decide +kernel
theorem dX9_failsWindow_33 : decode cX9_failsWindow 33 = .ok (.iload_n 2, 1) := by decide +kernel
theorem dX9_failsWindow_34 : decode cX9_failsWindow 34 = .ok (.iadd, 1) := by decide +kernel
theorem dX9_failsWindow_35 : decode cX9_failsWindow 35 = .ok (.baload, 1) := by decide +kernel
theorem dX9_failsWindow_36 : decode cX9_failsWindow 36 = .ok (.ifCond .eq 7, 3) := by decide +kernel
theorem dX9_failsWindow_39 : decode cX9_failsWindow 39 = .ok (.iconst 0, 1) := by decide +kernel
theorem dX9_failsWindow_40 : decode cX9_failsWindow 40 = .ok (.goto 4, 3) := by decide +kernel
theorem dX9_failsWindow_43 : decode cX9_failsWindow 43 = .ok (.iconst 1, 1) := by decide +kernel
theorem dX9_failsWindow_44 : decode cX9_failsWindow 44 = .ok (.invokevirtual 135, 3) := by decide +kernel
theorem dX9_failsWindow_47 : decode cX9_failsWindow 47 = .ok (.ireturn, 1) := by decide +kernel
theorem dX9_takeOut_0 : decode cX9_takeOut 0 = .ok (.bipush 6, 2) := by decide +kernel
theorem dX9_takeOut_2 : decode cX9_takeOut 2 = .ok (.iload_n 1, 1) := by decide +kernel
theorem dX9_takeOut_3 : decode cX9_takeOut 3 = .ok (.imul, 1) := by decide +kernel
theorem dX9_takeOut_4 : decode cX9_takeOut 4 = .ok (.istore_n 3, 1) := by decide +kernel
theorem dX9_takeOut_5 : decode cX9_takeOut 5 = .ok (.bipush 6, 2) := by decide +kernel
theorem dX9_takeOut_7 : decode cX9_takeOut 7 = .ok (.iload_n 1, 1) := by decide +kernel
theorem dX9_takeOut_8 : decode cX9_takeOut 8 = .ok (.imul, 1) := by decide +kernel
theorem dX9_takeOut_9 : decode cX9_takeOut 9 = .ok (.istore 4, 2) := by decide +kernel
theorem dX9_takeOut_11 : decode cX9_takeOut 11 = .ok (.iload 4, 2) := by decide +kernel
theorem dX9_takeOut_13 : decode cX9_takeOut 13 = .ok (.bipush 6, 2) := by decide +kernel
theorem dX9_takeOut_15 : decode cX9_takeOut 15 = .ok (.iload_n 1, 1) := by decide +kernel
theorem dX9_takeOut_16 : decode cX9_takeOut 16 = .ok (.imul, 1) := by decide +kernel
theorem dX9_takeOut_17 : decode cX9_takeOut 17 = .ok (.aload_n 0, 1) := by decide +kernel
theorem dX9_takeOut_18 : decode cX9_takeOut 18 = .ok (.getfield 47, 3) := by decide +kernel
theorem dX9_takeOut_21 : decode cX9_takeOut 21 = .ok (.iload_n 1, 1) := by decide +kernel
theorem dX9_takeOut_22 : decode cX9_takeOut 22 = .ok (.iaload, 1) := by decide +kernel
theorem dX9_takeOut_23 : decode cX9_takeOut 23 = .ok (.iadd, 1) := by decide +kernel
theorem dX9_takeOut_24 : decode cX9_takeOut 24 = .ok (.if_icmp .ge 41, 3) := by decide +kernel
theorem dX9_takeOut_27 : decode cX9_takeOut 27 = .ok (.aload_n 0, 1) := by decide +kernel
theorem dX9_takeOut_28 : decode cX9_takeOut 28 = .ok (.getfield 44, 3) := by decide +kernel
theorem dX9_takeOut_31 : decode cX9_takeOut 31 = .ok (.iload_n 3, 1) := by decide +kernel
theorem dX9_takeOut_32 : decode cX9_takeOut 32 = .ok (.aload_n 0, 1) := by decide +kernel
theorem dX9_takeOut_33 : decode cX9_takeOut 33 = .ok (.getfield 44, 3) := by decide +kernel
theorem dX9_takeOut_36 : decode cX9_takeOut 36 = .ok (.iload 4, 2) := by decide +kernel
theorem dX9_takeOut_38 : decode cX9_takeOut 38 = .ok (.iaload, 1) := by decide +kernel
theorem dX9_takeOut_39 : decode cX9_takeOut 39 = .ok (.iastore, 1) := by decide +kernel
theorem dX9_takeOut_40 : decode cX9_takeOut 40 = .ok (.iload_n 3, 1) := by decide +kernel
theorem dX9_takeOut_41 : decode cX9_takeOut 41 = .ok (.aload_n 0, 1) := by decide +kernel
theorem dX9_takeOut_42 : decode cX9_takeOut 42 = .ok (.getfield 44, 3) := by decide +kernel
theorem dX9_takeOut_45 : decode cX9_takeOut 45 = .ok (.iload 4, 2) := by decide +kernel
theorem dX9_takeOut_47 : decode cX9_takeOut 47 = .ok (.iaload, 1) := by decide +kernel
theorem dX9_takeOut_48 : decode cX9_takeOut 48 = .ok (.iload_n 2, 1) := by decide +kernel
theorem dX9_takeOut_49 : decode cX9_takeOut 49 = .ok (.if_icmp .ne 7, 3) := by decide +kernel
theorem dX9_takeOut_52 : decode cX9_takeOut 52 = .ok (.iconst 0, 1) := by decide +kernel
theorem dX9_takeOut_53 : decode cX9_takeOut 53 = .ok (.goto 4, 3) := by decide +kernel
theorem dX9_takeOut_56 : decode cX9_takeOut 56 = .ok (.iconst 1, 1) := by decide +kernel
theorem dX9_takeOut_57 : decode cX9_takeOut 57 = .ok (.iadd, 1) := by decide +kernel
theorem dX9_takeOut_58 : decode cX9_takeOut 58 = .ok (.istore_n 3, 1) := by decide +kernel
theorem dX9_takeOut_59 : decode cX9_takeOut 59 = .ok (.iinc 4 1, 3) := by decide +kernel
theorem dX9_takeOut_62 : decode cX9_takeOut 62 = .ok (.goto (-51), 3) := by decide +kernel
theorem dX9_takeOut_65 : decode cX9_takeOut 65 = .ok (.aload_n 0, 1) := by decide +kernel
theorem dX9_takeOut_66 : decode cX9_takeOut 66 = .ok (.getfield 47, 3) := by decide +kernel
theorem dX9_takeOut_69 : decode cX9_takeOut 69 = .ok (.iload_n 1, 1) := by decide +kernel
theorem dX9_takeOut_70 : decode cX9_takeOut 70 = .ok (.dup2, 1) := by decide +kernel
theorem dX9_takeOut_71 : decode cX9_takeOut 71 = .ok (.iaload, 1) := by decide +kernel
theorem dX9_takeOut_72 : decode cX9_takeOut 72 = .ok (.iconst 1, 1) := by decide +kernel
theorem dX9_takeOut_73 : decode cX9_takeOut 73 = .ok (.isub, 1) := by decide +kernel
theorem dX9_takeOut_74 : decode cX9_takeOut 74 = .ok (.iastore, 1) := by decide +kernel
theorem dX9_takeOut_75 : decode cX9_takeOut 75 = .ok (.return_, 1) := by decide +kernel
theorem dX9_closeWindow_0 : decode cX9_closeWindow 0 = .ok (.aload_n 0, 1) := by decide +kernel
theorem dX9_closeWindow_1 : decode cX9_closeWindow 1 = .ok (.iload_n 1, 1) := by decide +kernel
theorem dX9_closeWindow_2 : decode cX9_closeWindow 2 = .ok (.iload_n 2, 1) := by decide +kernel
theorem dX9_closeWindow_3 : decode cX9_closeWindow 3 = .ok (.invokevirtual 149, 3) := by decide +kernel
theorem dX9_closeWindow_6 : decode cX9_closeWindow 6 = .ok (.ifCond .eq 5, 3) := by decide +kernel
theorem dX9_closeWindow_9 : decode cX9_closeWindow 9 = .ok (.iconst 0, 1) := by decide +kernel
theorem dX9_closeWindow_10 : decode cX9_closeWindow 10 = .ok (.ireturn, 1) := by decide +kernel
theorem dX9_closeWindow_11 : decode cX9_closeWindow 11 = .ok (.bipush 6, 2) := by decide +kernel
theorem dX9_closeWindow_13 : decode cX9_closeWindow 13 = .ok (.iload_n 1, 1) := by decide +kernel
theorem dX9_closeWindow_14 : decode cX9_closeWindow 14 = .ok (.imul, 1) := by decide +kernel
theorem dX9_closeWindow_15 : decode cX9_closeWindow 15 = .ok (.iload_n 2, 1) := by decide +kernel
theorem dX9_closeWindow_16 : decode cX9_closeWindow 16 = .ok (.iadd, 1) := by decide +kernel
theorem dX9_closeWindow_17 : decode cX9_closeWindow 17 = .ok (.istore_n 3, 1) := by decide +kernel
theorem dX9_closeWindow_18 : decode cX9_closeWindow 18 = .ok (.aload_n 0, 1) := by decide +kernel
theorem dX9_closeWindow_19 : decode cX9_closeWindow 19 = .ok (.getfield 28, 3) := by decide +kernel
theorem dX9_closeWindow_22 : decode cX9_closeWindow 22 = .ok (.iload_n 3, 1) := by decide +kernel
theorem dX9_closeWindow_23 : decode cX9_closeWindow 23 = .ok (.iconst 0, 1) := by decide +kernel
theorem dX9_closeWindow_24 : decode cX9_closeWindow 24 = .ok (.bastore, 1) := by decide +kernel
theorem dX9_closeWindow_25 : decode cX9_closeWindow 25 = .ok (.aload_n 0, 1) := by decide +kernel
theorem dX9_closeWindow_26 : decode cX9_closeWindow 26 = .ok (.iload_n 1, 1) := by decide +kernel
theorem dX9_closeWindow_27 : decode cX9_closeWindow 27 = .ok (.iload_n 3, 1) := by decide +kernel
theorem dX9_closeWindow_28 : decode cX9_closeWindow 28 = .ok (.invokevirtual 153, 3) := by decide +kernel
theorem dX9_closeWindow_31 : decode cX9_closeWindow 31 = .ok (.aload_n 0, 1) := by decide +kernel
theorem dX9_closeWindow_32 : decode cX9_closeWindow 32 = .ok (.getfield 32, 3) := by decide +kernel
theorem dX9_closeWindow_35 : decode cX9_closeWindow 35 = .ok (.iload_n 3, 1) := by decide +kernel
theorem dX9_closeWindow_36 : decode cX9_closeWindow 36 = .ok (.baload, 1) := by decide +kernel
theorem dX9_closeWindow_37 : decode cX9_closeWindow 37 = .ok (.ireturn, 1) := by decide +kernel
theorem dX9_cellAt_0 : decode cX9_cellAt 0 = .ok (.iload_n 2, 1) := by decide +kernel
theorem dX9_cellAt_1 : decode cX9_cellAt 1 = .ok (.bipush 12, 2) := by decide +kernel
theorem dX9_cellAt_3 : decode cX9_cellAt 3 = .ok (.irem, 1) := by decide +kernel
theorem dX9_cellAt_4 : decode cX9_cellAt 4 = .ok (.aload_n 0, 1) := by decide +kernel
theorem dX9_cellAt_5 : decode cX9_cellAt 5 = .ok (.getfield 13, 3) := by decide +kernel
theorem dX9_cellAt_8 : decode cX9_cellAt 8 = .ok (.iload_n 1, 1) := by decide +kernel
theorem dX9_cellAt_9 : decode cX9_cellAt 9 = .ok (.iaload, 1) := by decide +kernel
theorem dX9_cellAt_10 : decode cX9_cellAt 10 = .ok (.isub, 1) := by decide +kernel
theorem dX9_cellAt_11 : decode cX9_cellAt 11 = .ok (.istore_n 3, 1) := by decide +kernel
theorem dX9_cellAt_12 : decode cX9_cellAt 12 = .ok (.iload_n 2, 1) := by decide +kernel
theorem dX9_cellAt_13 : decode cX9_cellAt 13 = .ok (.bipush 12, 2) := by decide +kernel
theorem dX9_cellAt_15 : decode cX9_cellAt 15 = .ok (.idiv, 1) := by decide +kernel
theorem dX9_cellAt_16 : decode cX9_cellAt 16 = .ok (.aload_n 0, 1) := by decide +kernel
theorem dX9_cellAt_17 : decode cX9_cellAt 17 = .ok (.getfield 16, 3) := by decide +kernel
theorem dX9_cellAt_20 : decode cX9_cellAt 20 = .ok (.iload_n 1, 1) := by decide +kernel
theorem dX9_cellAt_21 : decode cX9_cellAt 21 = .ok (.iaload, 1) := by decide +kernel
theorem dX9_cellAt_22 : decode cX9_cellAt 22 = .ok (.isub, 1) := by decide +kernel
theorem dX9_cellAt_23 : decode cX9_cellAt 23 = .ok (.istore 4, 2) := by decide +kernel
theorem dX9_cellAt_25 : decode cX9_cellAt 25 = .ok (.iload_n 3, 1) := by decide +kernel
theorem dX9_cellAt_26 : decode cX9_cellAt 26 = .ok (.iconst 0, 1) := by decide +kernel
theorem dX9_cellAt_27 : decode cX9_cellAt 27 = .ok (.aload_n 0, 1) := by decide +kernel
theorem dX9_cellAt_28 : decode cX9_cellAt 28 = .ok (.getfield 19, 3) := by decide +kernel
theorem dX9_cellAt_31 : decode cX9_cellAt 31 = .ok (.iload_n 1, 1) := by decide +kernel
theorem dX9_cellAt_32 : decode cX9_cellAt 32 = .ok (.iaload, 1) := by decide +kernel
theorem dX9_cellAt_33 : decode cX9_cellAt 33 = .ok (.iconst 1, 1) := by decide +kernel
theorem dX9_cellAt_34 : decode cX9_cellAt 34 = .ok (.isub, 1) := by decide +kernel
theorem dX9_cellAt_35 : decode cX9_cellAt 35 = .ok (.invokestatic 139, 3) := by decide +kernel
theorem dX9_cellAt_38 : decode cX9_cellAt 38 = .ok (.ifCond .eq 34, 3) := by decide +kernel
theorem dX9_cellAt_41 : decode cX9_cellAt 41 = .ok (.iload 4, 2) := by decide +kernel
theorem dX9_cellAt_43 : decode cX9_cellAt 43 = .ok (.iconst 0, 1) := by decide +kernel
theorem dX9_cellAt_44 : decode cX9_cellAt 44 = .ok (.aload_n 0, 1) := by decide +kernel
theorem dX9_cellAt_45 : decode cX9_cellAt 45 = .ok (.getfield 22, 3) := by decide +kernel
theorem dX9_cellAt_48 : decode cX9_cellAt 48 = .ok (.iload_n 1, 1) := by decide +kernel
theorem dX9_cellAt_49 : decode cX9_cellAt 49 = .ok (.iaload, 1) := by decide +kernel
theorem dX9_cellAt_50 : decode cX9_cellAt 50 = .ok (.iconst 1, 1) := by decide +kernel
theorem dX9_cellAt_51 : decode cX9_cellAt 51 = .ok (.isub, 1) := by decide +kernel
theorem dX9_cellAt_52 : decode cX9_cellAt 52 = .ok (.invokestatic 139, 3) := by decide +kernel
theorem dX9_cellAt_55 : decode cX9_cellAt 55 = .ok (.ifCond .eq 17, 3) := by decide +kernel
theorem dX9_cellAt_58 : decode cX9_cellAt 58 = .ok (.iload 4, 2) := by decide +kernel
theorem dX9_cellAt_60 : decode cX9_cellAt 60 = .ok (.aload_n 0, 1) := by decide +kernel
theorem dX9_cellAt_61 : decode cX9_cellAt 61 = .ok (.getfield 19, 3) := by decide +kernel
theorem dX9_cellAt_64 : decode cX9_cellAt 64 = .ok (.iload_n 1, 1) := by decide +kernel
theorem dX9_cellAt_65 : decode cX9_cellAt 65 = .ok (.iaload, 1) := by decide +kernel
theorem dX9_cellAt_66 : decode cX9_cellAt 66 = .ok (.imul, 1) := by decide +kernel
theorem dX9_cellAt_67 : decode cX9_cellAt 67 = .ok (.iload_n 3, 1) := by decide +kernel
theorem dX9_cellAt_68 : decode cX9_cellAt 68 = .ok (.iadd, 1) := by decide +kernel
theorem dX9_cellAt_69 : decode cX9_cellAt 69 = .ok (.goto 4, 3) := by decide +kernel
theorem dX9_cellAt_72 : decode cX9_cellAt 72 = .ok (.iconst (-1), 1) := by decide +kernel
theorem dX9_cellAt_73 : decode cX9_cellAt 73 = .ok (.ireturn, 1) := by decide +kernel
theorem dX9_placeOf_0 : decode cX9_placeOf 0 = .ok (.aload_n 0, 1) := by decide +kernel
theorem dX9_placeOf_1 : decode cX9_placeOf 1 = .ok (.getfield 13, 3) := by decide +kernel
theorem dX9_placeOf_4 : decode cX9_placeOf 4 = .ok (.iload_n 1, 1) := by decide +kernel
theorem dX9_placeOf_5 : decode cX9_placeOf 5 = .ok (.iaload, 1) := by decide +kernel
theorem dX9_placeOf_6 : decode cX9_placeOf 6 = .ok (.iload_n 2, 1) := by decide +kernel
theorem dX9_placeOf_7 : decode cX9_placeOf 7 = .ok (.aload_n 0, 1) := by decide +kernel
theorem dX9_placeOf_8 : decode cX9_placeOf 8 = .ok (.getfield 19, 3) := by decide +kernel
theorem dX9_placeOf_11 : decode cX9_placeOf 11 = .ok (.iload_n 1, 1) := by decide +kernel
theorem dX9_placeOf_12 : decode cX9_placeOf 12 = .ok (.iaload, 1) := by decide +kernel
theorem dX9_placeOf_13 : decode cX9_placeOf 13 = .ok (.irem, 1) := by decide +kernel
theorem dX9_placeOf_14 : decode cX9_placeOf 14 = .ok (.iadd, 1) := by decide +kernel
theorem dX9_placeOf_15 : decode cX9_placeOf 15 = .ok (.istore_n 3, 1) := by decide +kernel
theorem dX9_placeOf_16 : decode cX9_placeOf 16 = .ok (.aload_n 0, 1) := by decide +kernel
theorem dX9_placeOf_17 : decode cX9_placeOf 17 = .ok (.getfield 16, 3) := by decide +kernel
theorem dX9_placeOf_20 : decode cX9_placeOf 20 = .ok (.iload_n 1, 1) := by decide +kernel
theorem dX9_placeOf_21 : decode cX9_placeOf 21 = .ok (.iaload, 1) := by decide +kernel
theorem dX9_placeOf_22 : decode cX9_placeOf 22 = .ok (.iload_n 2, 1) := by decide +kernel
theorem dX9_placeOf_23 : decode cX9_placeOf 23 = .ok (.aload_n 0, 1) := by decide +kernel
theorem dX9_placeOf_24 : decode cX9_placeOf 24 = .ok (.getfield 19, 3) := by decide +kernel
theorem dX9_placeOf_27 : decode cX9_placeOf 27 = .ok (.iload_n 1, 1) := by decide +kernel
theorem dX9_placeOf_28 : decode cX9_placeOf 28 = .ok (.iaload, 1) := by decide +kernel
theorem dX9_placeOf_29 : decode cX9_placeOf 29 = .ok (.idiv, 1) := by decide +kernel
theorem dX9_placeOf_30 : decode cX9_placeOf 30 = .ok (.iadd, 1) := by decide +kernel
theorem dX9_placeOf_31 : decode cX9_placeOf 31 = .ok (.istore 4, 2) := by decide +kernel
theorem dX9_placeOf_33 : decode cX9_placeOf 33 = .ok (.iload_n 3, 1) := by decide +kernel
theorem dX9_placeOf_34 : decode cX9_placeOf 34 = .ok (.iconst 0, 1) := by decide +kernel
theorem dX9_placeOf_35 : decode cX9_placeOf 35 = .ok (.bipush 11, 2) := by decide +kernel
theorem dX9_placeOf_37 : decode cX9_placeOf 37 = .ok (.invokestatic 139, 3) := by decide +kernel
theorem dX9_placeOf_40 : decode cX9_placeOf 40 = .ok (.ifCond .eq 24, 3) := by decide +kernel
theorem dX9_placeOf_43 : decode cX9_placeOf 43 = .ok (.iload 4, 2) := by decide +kernel
theorem dX9_placeOf_45 : decode cX9_placeOf 45 = .ok (.iconst 0, 1) := by decide +kernel
theorem dX9_placeOf_46 : decode cX9_placeOf 46 = .ok (.bipush 7, 2) := by decide +kernel
theorem dX9_placeOf_48 : decode cX9_placeOf 48 = .ok (.invokestatic 139, 3) := by decide +kernel
theorem dX9_placeOf_51 : decode cX9_placeOf 51 = .ok (.ifCond .eq 13, 3) := by decide +kernel
theorem dX9_placeOf_54 : decode cX9_placeOf 54 = .ok (.iload 4, 2) := by decide +kernel
theorem dX9_placeOf_56 : decode cX9_placeOf 56 = .ok (.bipush 12, 2) := by decide +kernel
theorem dX9_placeOf_58 : decode cX9_placeOf 58 = .ok (.imul, 1) := by decide +kernel
theorem dX9_placeOf_59 : decode cX9_placeOf 59 = .ok (.iload_n 3, 1) := by decide +kernel
theorem dX9_placeOf_60 : decode cX9_placeOf 60 = .ok (.iadd, 1) := by decide +kernel
theorem dX9_placeOf_61 : decode cX9_placeOf 61 = .ok (.goto 4, 3) := by decide +kernel
theorem dX9_placeOf_64 : decode cX9_placeOf 64 = .ok (.iconst (-1), 1) := by decide +kernel
theorem dX9_placeOf_65 : decode cX9_placeOf 65 = .ok (.ireturn, 1) := by decide +kernel
theorem dX9_topAt_0 : decode cX9_topAt 0 = .ok (.bipush 6, 2) := by decide +kernel
theorem dX9_topAt_2 : decode cX9_topAt 2 = .ok (.iload_n 1, 1) := by decide +kernel
theorem dX9_topAt_3 : decode cX9_topAt 3 = .ok (.imul, 1) := by decide +kernel
theorem dX9_topAt_4 : decode cX9_topAt 4 = .ok (.aload_n 0, 1) := by decide +kernel
theorem dX9_topAt_5 : decode cX9_topAt 5 = .ok (.getfield 47, 3) := by decide +kernel
theorem dX9_topAt_8 : decode cX9_topAt 8 = .ok (.iload_n 1, 1) := by decide +kernel
theorem dX9_topAt_9 : decode cX9_topAt 9 = .ok (.iaload, 1) := by decide +kernel
theorem dX9_topAt_10 : decode cX9_topAt 10 = .ok (.iadd, 1) := by decide +kernel
theorem dX9_topAt_11 : decode cX9_topAt 11 = .ok (.iconst 1, 1) := by decide +kernel
theorem dX9_topAt_12 : decode cX9_topAt 12 = .ok (.isub, 1) := by decide +kernel
theorem dX9_topAt_13 : decode cX9_topAt 13 = .ok (.istore_n 3, 1) := by decide +kernel
theorem dX9_topAt_14 : decode cX9_topAt 14 = .ok (.iload_n 3, 1) := by decide +kernel
theorem dX9_topAt_15 : decode cX9_topAt 15 = .ok (.bipush 6, 2) := by decide +kernel
theorem dX9_topAt_17 : decode cX9_topAt 17 = .ok (.iload_n 1, 1) := by decide +kernel
theorem dX9_topAt_18 : decode cX9_topAt 18 = .ok (.imul, 1) := by decide +kernel
theorem dX9_topAt_19 : decode cX9_topAt 19 = .ok (.if_icmp .lt 44, 3) := by decide +kernel
theorem dX9_topAt_22 : decode cX9_topAt 22 = .ok (.aload_n 0, 1) := by decide +kernel
theorem dX9_topAt_23 : decode cX9_topAt 23 = .ok (.getfield 32, 3) := by decide +kernel
theorem dX9_topAt_26 : decode cX9_topAt 26 = .ok (.aload_n 0, 1) := by decide +kernel
theorem dX9_topAt_27 : decode cX9_topAt 27 = .ok (.getfield 44, 3) := by decide +kernel
theorem dX9_topAt_30 : decode cX9_topAt 30 = .ok (.iload_n 3, 1) := by decide +kernel
theorem dX9_topAt_31 : decode cX9_topAt 31 = .ok (.iaload, 1) := by decide +kernel
theorem dX9_topAt_32 : decode cX9_topAt 32 = .ok (.baload, 1) := by decide +kernel
theorem dX9_topAt_33 : decode cX9_topAt 33 = .ok (.ifCond .eq 24, 3) := by decide +kernel
theorem dX9_topAt_36 : decode cX9_topAt 36 = .ok (.aload_n 0, 1) := by decide +kernel
theorem dX9_topAt_37 : decode cX9_topAt 37 = .ok (.aload_n 0, 1) := by decide +kernel
theorem dX9_topAt_38 : decode cX9_topAt 38 = .ok (.getfield 44, 3) := by decide +kernel
theorem dX9_topAt_41 : decode cX9_topAt 41 = .ok (.iload_n 3, 1) := by decide +kernel
theorem dX9_topAt_42 : decode cX9_topAt 42 = .ok (.iaload, 1) := by decide +kernel
theorem dX9_topAt_43 : decode cX9_topAt 43 = .ok (.iload_n 2, 1) := by decide +kernel
theorem dX9_topAt_44 : decode cX9_topAt 44 = .ok (.invokevirtual 157, 3) := by decide +kernel
theorem dX9_topAt_47 : decode cX9_topAt 47 = .ok (.ifCond .lt 10, 3) := by decide +kernel
theorem dX9_topAt_50 : decode cX9_topAt 50 = .ok (.aload_n 0, 1) := by decide +kernel
theorem dX9_topAt_51 : decode cX9_topAt 51 = .ok (.getfield 44, 3) := by decide +kernel
theorem dX9_topAt_54 : decode cX9_topAt 54 = .ok (.iload_n 3, 1) := by decide +kernel
theorem dX9_topAt_55 : decode cX9_topAt 55 = .ok (.iaload, 1) := by decide +kernel
theorem dX9_topAt_56 : decode cX9_topAt 56 = .ok (.ireturn, 1) := by decide +kernel
theorem dX9_topAt_57 : decode cX9_topAt 57 = .ok (.iinc 3 (-1), 3) := by decide +kernel
theorem dX9_topAt_60 : decode cX9_topAt 60 = .ok (.goto (-46), 3) := by decide +kernel
theorem dX9_topAt_63 : decode cX9_topAt 63 = .ok (.iconst (-1), 1) := by decide +kernel
theorem dX9_topAt_64 : decode cX9_topAt 64 = .ok (.ireturn, 1) := by decide +kernel
theorem dX9_screenAt_0 : decode cX9_screenAt 0 = .ok (.aload_n 0, 1) := by decide +kernel
theorem dX9_screenAt_1 : decode cX9_screenAt 1 = .ok (.iload_n 1, 1) := by decide +kernel
theorem dX9_screenAt_2 : decode cX9_screenAt 2 = .ok (.iload_n 2, 1) := by decide +kernel
theorem dX9_screenAt_3 : decode cX9_screenAt 3 = .ok (.invokevirtual 161, 3) := by decide +kernel
theorem dX9_screenAt_6 : decode cX9_screenAt 6 = .ok (.istore_n 3, 1) := by decide +kernel
theorem dX9_screenAt_7 : decode cX9_screenAt 7 = .ok (.iload_n 3, 1) := by decide +kernel
theorem dX9_screenAt_8 : decode cX9_screenAt 8 = .ok (.ifCond .ge 7, 3) := by decide +kernel
theorem dX9_screenAt_11 : decode cX9_screenAt 11 = .ok (.iconst 0, 1) := by decide +kernel
theorem dX9_screenAt_12 : decode cX9_screenAt 12 = .ok (.goto 19, 3) := by decide +kernel
theorem dX9_screenAt_15 : decode cX9_screenAt 15 = .ok (.aload_n 0, 1) := by decide +kernel
theorem dX9_screenAt_16 : decode cX9_screenAt 16 = .ok (.getfield 41, 3) := by decide +kernel
theorem dX9_screenAt_19 : decode cX9_screenAt 19 = .ok (.bipush 96, 2) := by decide +kernel
theorem dX9_screenAt_21 : decode cX9_screenAt 21 = .ok (.iload_n 3, 1) := by decide +kernel
theorem dX9_screenAt_22 : decode cX9_screenAt 22 = .ok (.imul, 1) := by decide +kernel
theorem dX9_screenAt_23 : decode cX9_screenAt 23 = .ok (.aload_n 0, 1) := by decide +kernel
theorem dX9_screenAt_24 : decode cX9_screenAt 24 = .ok (.iload_n 3, 1) := by decide +kernel
theorem dX9_screenAt_25 : decode cX9_screenAt 25 = .ok (.iload_n 2, 1) := by decide +kernel
theorem dX9_screenAt_26 : decode cX9_screenAt 26 = .ok (.invokevirtual 157, 3) := by decide +kernel
theorem dX9_screenAt_29 : decode cX9_screenAt 29 = .ok (.iadd, 1) := by decide +kernel
theorem dX9_screenAt_30 : decode cX9_screenAt 30 = .ok (.iaload, 1) := by decide +kernel
theorem dX9_screenAt_31 : decode cX9_screenAt 31 = .ok (.ireturn, 1) := by decide +kernel
theorem dX9_lookAt_0 : decode cX9_lookAt 0 = .ok (.iconst 0, 1) := by decide +kernel
theorem dX9_lookAt_1 : decode cX9_lookAt 1 = .ok (.istore_n 2, 1) := by decide +kernel
theorem dX9_lookAt_2 : decode cX9_lookAt 2 = .ok (.iload_n 2, 1) := by decide +kernel
theorem dX9_lookAt_3 : decode cX9_lookAt 3 = .ok (.bipush 96, 2) := by decide +kernel
theorem dX9_lookAt_5 : decode cX9_lookAt 5 = .ok (.if_icmp .ge 21, 3) := by decide +kernel
theorem dX9_lookAt_8 : decode cX9_lookAt 8 = .ok (.aload_n 0, 1) := by decide +kernel
theorem dX9_lookAt_9 : decode cX9_lookAt 9 = .ok (.getfield 122, 3) := by decide +kernel
theorem dX9_lookAt_12 : decode cX9_lookAt 12 = .ok (.iload_n 2, 1) := by decide +kernel
theorem dX9_lookAt_13 : decode cX9_lookAt 13 = .ok (.aload_n 0, 1) := by decide +kernel
theorem dX9_lookAt_14 : decode cX9_lookAt 14 = .ok (.iload_n 1, 1) := by decide +kernel
theorem dX9_lookAt_15 : decode cX9_lookAt 15 = .ok (.iload_n 2, 1) := by decide +kernel
theorem dX9_lookAt_16 : decode cX9_lookAt 16 = .ok (.invokevirtual 164, 3) := by decide +kernel
theorem dX9_lookAt_19 : decode cX9_lookAt 19 = .ok (.iastore, 1) := by decide +kernel
theorem dX9_lookAt_20 : decode cX9_lookAt 20 = .ok (.iinc 2 1, 3) := by decide +kernel
theorem dX9_lookAt_23 : decode cX9_lookAt 23 = .ok (.goto (-21), 3) := by decide +kernel
theorem dX9_lookAt_26 : decode cX9_lookAt 26 = .ok (.return_, 1) := by decide +kernel
theorem dX9_moveWindow_0 : decode cX9_moveWindow 0 = .ok (.aload_n 0, 1) := by decide +kernel
theorem dX9_moveWindow_1 : decode cX9_moveWindow 1 = .ok (.iload_n 1, 1) := by decide +kernel
theorem dX9_moveWindow_2 : decode cX9_moveWindow 2 = .ok (.iload_n 2, 1) := by decide +kernel
theorem dX9_moveWindow_3 : decode cX9_moveWindow 3 = .ok (.invokevirtual 149, 3) := by decide +kernel
theorem dX9_moveWindow_6 : decode cX9_moveWindow 6 = .ok (.ifCond .ne 38, 3) := by decide +kernel
theorem dX9_moveWindow_9 : decode cX9_moveWindow 9 = .ok (.aload_n 0, 1) := by decide +kernel
theorem dX9_moveWindow_10 : decode cX9_moveWindow 10 = .ok (.iload_n 3, 1) := by decide +kernel
theorem dX9_moveWindow_11 : decode cX9_moveWindow 11 = .ok (.bipush (-5), 2) := by decide +kernel
theorem dX9_moveWindow_13 : decode cX9_moveWindow 13 = .ok (.bipush 11, 2) := by decide +kernel
theorem dX9_moveWindow_15 : decode cX9_moveWindow 15 = .ok (.invokestatic 139, 3) := by decide +kernel
theorem dX9_moveWindow_18 : decode cX9_moveWindow 18 = .ok (.ifCond .eq 19, 3) := by decide +kernel
theorem dX9_moveWindow_21 : decode cX9_moveWindow 21 = .ok (.iload 4, 2) := by decide +kernel
theorem dX9_moveWindow_23 : decode cX9_moveWindow 23 = .ok (.bipush (-5), 2) := by decide +kernel
theorem dX9_moveWindow_25 : decode cX9_moveWindow 25 = .ok (.bipush 7, 2) := by decide +kernel
theorem dX9_moveWindow_27 : decode cX9_moveWindow 27 = .ok (.invokestatic 139, 3) := by decide +kernel
theorem dX9_moveWindow_30 : decode cX9_moveWindow 30 = .ok (.ifCond .eq 7, 3) := by decide +kernel
theorem dX9_moveWindow_33 : decode cX9_moveWindow 33 = .ok (.iconst 0, 1) := by decide +kernel
theorem dX9_moveWindow_34 : decode cX9_moveWindow 34 = .ok (.goto 4, 3) := by decide +kernel
theorem dX9_moveWindow_37 : decode cX9_moveWindow 37 = .ok (.iconst 2, 1) := by decide +kernel
theorem dX9_moveWindow_38 : decode cX9_moveWindow 38 = .ok (.invokevirtual 135, 3) := by decide +kernel
theorem dX9_moveWindow_41 : decode cX9_moveWindow 41 = .ok (.ifCond .eq 5, 3) := by decide +kernel
theorem dX9_moveWindow_44 : decode cX9_moveWindow 44 = .ok (.iconst 0, 1) := by decide +kernel
theorem dX9_moveWindow_45 : decode cX9_moveWindow 45 = .ok (.ireturn, 1) := by decide +kernel
theorem dX9_moveWindow_46 : decode cX9_moveWindow 46 = .ok (.aload_n 0, 1) := by decide +kernel
theorem dX9_moveWindow_47 : decode cX9_moveWindow 47 = .ok (.iload_n 1, 1) := by decide +kernel
theorem dX9_moveWindow_48 : decode cX9_moveWindow 48 = .ok (.invokevirtual 167, 3) := by decide +kernel
theorem dX9_moveWindow_51 : decode cX9_moveWindow 51 = .ok (.aload_n 0, 1) := by decide +kernel
theorem dX9_moveWindow_52 : decode cX9_moveWindow 52 = .ok (.getfield 13, 3) := by decide +kernel
theorem dX9_moveWindow_55 : decode cX9_moveWindow 55 = .ok (.bipush 6, 2) := by decide +kernel
theorem dX9_moveWindow_57 : decode cX9_moveWindow 57 = .ok (.iload_n 1, 1) := by decide +kernel
theorem dX9_moveWindow_58 : decode cX9_moveWindow 58 = .ok (.imul, 1) := by decide +kernel
theorem dX9_moveWindow_59 : decode cX9_moveWindow 59 = .ok (.iload_n 2, 1) := by decide +kernel
theorem dX9_moveWindow_60 : decode cX9_moveWindow 60 = .ok (.iadd, 1) := by decide +kernel
theorem dX9_moveWindow_61 : decode cX9_moveWindow 61 = .ok (.iload_n 3, 1) := by decide +kernel
theorem dX9_moveWindow_62 : decode cX9_moveWindow 62 = .ok (.iastore, 1) := by decide +kernel
theorem dX9_moveWindow_63 : decode cX9_moveWindow 63 = .ok (.aload_n 0, 1) := by decide +kernel
theorem dX9_moveWindow_64 : decode cX9_moveWindow 64 = .ok (.getfield 16, 3) := by decide +kernel
theorem dX9_moveWindow_67 : decode cX9_moveWindow 67 = .ok (.bipush 6, 2) := by decide +kernel
theorem dX9_moveWindow_69 : decode cX9_moveWindow 69 = .ok (.iload_n 1, 1) := by decide +kernel
theorem dX9_moveWindow_70 : decode cX9_moveWindow 70 = .ok (.imul, 1) := by decide +kernel
theorem dX9_moveWindow_71 : decode cX9_moveWindow 71 = .ok (.iload_n 2, 1) := by decide +kernel
theorem dX9_moveWindow_72 : decode cX9_moveWindow 72 = .ok (.iadd, 1) := by decide +kernel
theorem dX9_moveWindow_73 : decode cX9_moveWindow 73 = .ok (.iload 4, 2) := by decide +kernel
theorem dX9_moveWindow_75 : decode cX9_moveWindow 75 = .ok (.iastore, 1) := by decide +kernel
theorem dX9_moveWindow_76 : decode cX9_moveWindow 76 = .ok (.iconst 0, 1) := by decide +kernel
theorem dX9_moveWindow_77 : decode cX9_moveWindow 77 = .ok (.istore 5, 2) := by decide +kernel
theorem dX9_moveWindow_79 : decode cX9_moveWindow 79 = .ok (.iconst 0, 1) := by decide +kernel
theorem dX9_moveWindow_80 : decode cX9_moveWindow 80 = .ok (.istore 6, 2) := by decide +kernel
theorem dX9_moveWindow_82 : decode cX9_moveWindow 82 = .ok (.iload 6, 2) := by decide +kernel
theorem dX9_moveWindow_84 : decode cX9_moveWindow 84 = .ok (.bipush 96, 2) := by decide +kernel
theorem dX9_moveWindow_86 : decode cX9_moveWindow 86 = .ok (.if_icmp .ge 36, 3) := by decide +kernel
theorem dX9_moveWindow_89 : decode cX9_moveWindow 89 = .ok (.iload 5, 2) := by decide +kernel
theorem dX9_moveWindow_91 : decode cX9_moveWindow 91 = .ok (.aload_n 0, 1) := by decide +kernel
theorem dX9_moveWindow_92 : decode cX9_moveWindow 92 = .ok (.iload_n 1, 1) := by decide +kernel
theorem dX9_moveWindow_93 : decode cX9_moveWindow 93 = .ok (.iload 6, 2) := by decide +kernel
theorem dX9_moveWindow_95 : decode cX9_moveWindow 95 = .ok (.invokevirtual 164, 3) := by decide +kernel
theorem dX9_moveWindow_98 : decode cX9_moveWindow 98 = .ok (.aload_n 0, 1) := by decide +kernel
theorem dX9_moveWindow_99 : decode cX9_moveWindow 99 = .ok (.getfield 122, 3) := by decide +kernel
theorem dX9_moveWindow_102 : decode cX9_moveWindow 102 = .ok (.iload 6, 2) := by decide +kernel
theorem dX9_moveWindow_104 : decode cX9_moveWindow 104 = .ok (.iaload, 1) := by decide +kernel
theorem dX9_moveWindow_105 : decode cX9_moveWindow 105 = .ok (.if_icmp .ne 7, 3) := by decide +kernel
theorem dX9_moveWindow_108 : decode cX9_moveWindow 108 = .ok (.iconst 0, 1) := by decide +kernel
theorem dX9_moveWindow_109 : decode cX9_moveWindow 109 = .ok (.goto 4, 3) := by decide +kernel
theorem dX9_moveWindow_112 : decode cX9_moveWindow 112 = .ok (.iconst 1, 1) := by decide +kernel
theorem dX9_moveWindow_113 : decode cX9_moveWindow 113 = .ok (.iadd, 1) := by decide +kernel
theorem dX9_moveWindow_114 : decode cX9_moveWindow 114 = .ok (.istore 5, 2) := by decide +kernel
theorem dX9_moveWindow_116 : decode cX9_moveWindow 116 = .ok (.iinc 6 1, 3) := by decide +kernel
theorem dX9_moveWindow_119 : decode cX9_moveWindow 119 = .ok (.goto (-37), 3) := by decide +kernel
theorem dX9_moveWindow_122 : decode cX9_moveWindow 122 = .ok (.iload 5, 2) := by decide +kernel
theorem dX9_moveWindow_124 : decode cX9_moveWindow 124 = .ok (.ireturn, 1) := by decide +kernel
theorem dX9_raise_0 : decode cX9_raise 0 = .ok (.aload_n 0, 1) := by decide +kernel
theorem dX9_raise_1 : decode cX9_raise 1 = .ok (.iload_n 1, 1) := by decide +kernel
theorem dX9_raise_2 : decode cX9_raise 2 = .ok (.iload_n 2, 1) := by decide +kernel
theorem dX9_raise_3 : decode cX9_raise 3 = .ok (.invokevirtual 149, 3) := by decide +kernel
theorem dX9_raise_6 : decode cX9_raise 6 = .ok (.ifCond .eq 5, 3) := by decide +kernel
theorem dX9_raise_9 : decode cX9_raise 9 = .ok (.iconst 0, 1) := by decide +kernel
theorem dX9_raise_10 : decode cX9_raise 10 = .ok (.ireturn, 1) := by decide +kernel
theorem dX9_raise_11 : decode cX9_raise 11 = .ok (.bipush 6, 2) := by decide +kernel
theorem dX9_raise_13 : decode cX9_raise 13 = .ok (.iload_n 1, 1) := by decide +kernel
theorem dX9_raise_14 : decode cX9_raise 14 = .ok (.imul, 1) := by decide +kernel
theorem dX9_raise_15 : decode cX9_raise 15 = .ok (.iload_n 2, 1) := by decide +kernel
theorem dX9_raise_16 : decode cX9_raise 16 = .ok (.iadd, 1) := by decide +kernel
theorem dX9_raise_17 : decode cX9_raise 17 = .ok (.istore_n 3, 1) := by decide +kernel
theorem dX9_raise_18 : decode cX9_raise 18 = .ok (.aload_n 0, 1) := by decide +kernel
theorem dX9_raise_19 : decode cX9_raise 19 = .ok (.getfield 44, 3) := by decide +kernel
theorem dX9_raise_22 : decode cX9_raise 22 = .ok (.bipush 6, 2) := by decide +kernel
theorem dX9_raise_24 : decode cX9_raise 24 = .ok (.iload_n 1, 1) := by decide +kernel
theorem dX9_raise_25 : decode cX9_raise 25 = .ok (.imul, 1) := by decide +kernel
theorem dX9_raise_26 : decode cX9_raise 26 = .ok (.aload_n 0, 1) := by decide +kernel
theorem dX9_raise_27 : decode cX9_raise 27 = .ok (.getfield 47, 3) := by decide +kernel
theorem dX9_raise_30 : decode cX9_raise 30 = .ok (.iload_n 1, 1) := by decide +kernel
theorem dX9_raise_31 : decode cX9_raise 31 = .ok (.iaload, 1) := by decide +kernel
theorem dX9_raise_32 : decode cX9_raise 32 = .ok (.iadd, 1) := by decide +kernel
theorem dX9_raise_33 : decode cX9_raise 33 = .ok (.iconst 1, 1) := by decide +kernel
theorem dX9_raise_34 : decode cX9_raise 34 = .ok (.isub, 1) := by decide +kernel
theorem dX9_raise_35 : decode cX9_raise 35 = .ok (.iaload, 1) := by decide +kernel
theorem dX9_raise_36 : decode cX9_raise 36 = .ok (.iload_n 3, 1) := by decide +kernel
theorem dX9_raise_37 : decode cX9_raise 37 = .ok (.if_icmp .ne 7, 3) := by decide +kernel
theorem dX9_raise_40 : decode cX9_raise 40 = .ok (.iconst 1, 1) := by decide +kernel
theorem dX9_raise_41 : decode cX9_raise 41 = .ok (.goto 4, 3) := by decide +kernel
theorem dX9_raise_44 : decode cX9_raise 44 = .ok (.iconst 0, 1) := by decide +kernel
theorem dX9_raise_45 : decode cX9_raise 45 = .ok (.istore 4, 2) := by decide +kernel
theorem dX9_raise_47 : decode cX9_raise 47 = .ok (.aload_n 0, 1) := by decide +kernel
theorem dX9_raise_48 : decode cX9_raise 48 = .ok (.iload_n 1, 1) := by decide +kernel
theorem dX9_raise_49 : decode cX9_raise 49 = .ok (.iload_n 3, 1) := by decide +kernel
theorem dX9_raise_50 : decode cX9_raise 50 = .ok (.invokevirtual 153, 3) := by decide +kernel
theorem dX9_raise_53 : decode cX9_raise 53 = .ok (.aload_n 0, 1) := by decide +kernel
theorem dX9_raise_54 : decode cX9_raise 54 = .ok (.getfield 44, 3) := by decide +kernel
theorem dX9_raise_57 : decode cX9_raise 57 = .ok (.bipush 6, 2) := by decide +kernel
theorem dX9_raise_59 : decode cX9_raise 59 = .ok (.iload_n 1, 1) := by decide +kernel
theorem dX9_raise_60 : decode cX9_raise 60 = .ok (.imul, 1) := by decide +kernel
theorem dX9_raise_61 : decode cX9_raise 61 = .ok (.aload_n 0, 1) := by decide +kernel
theorem dX9_raise_62 : decode cX9_raise 62 = .ok (.getfield 47, 3) := by decide +kernel
theorem dX9_raise_65 : decode cX9_raise 65 = .ok (.iload_n 1, 1) := by decide +kernel
theorem dX9_raise_66 : decode cX9_raise 66 = .ok (.iaload, 1) := by decide +kernel
theorem dX9_raise_67 : decode cX9_raise 67 = .ok (.iadd, 1) := by decide +kernel
theorem dX9_raise_68 : decode cX9_raise 68 = .ok (.iload_n 3, 1) := by decide +kernel
theorem dX9_raise_69 : decode cX9_raise 69 = .ok (.iastore, 1) := by decide +kernel
theorem dX9_raise_70 : decode cX9_raise 70 = .ok (.aload_n 0, 1) := by decide +kernel
theorem dX9_raise_71 : decode cX9_raise 71 = .ok (.getfield 47, 3) := by decide +kernel
theorem dX9_raise_74 : decode cX9_raise 74 = .ok (.iload_n 1, 1) := by decide +kernel
theorem dX9_raise_75 : decode cX9_raise 75 = .ok (.dup2, 1) := by decide +kernel
theorem dX9_raise_76 : decode cX9_raise 76 = .ok (.iaload, 1) := by decide +kernel
theorem dX9_raise_77 : decode cX9_raise 77 = .ok (.iconst 1, 1) := by decide +kernel
theorem dX9_raise_78 : decode cX9_raise 78 = .ok (.iadd, 1) := by decide +kernel
theorem dX9_raise_79 : decode cX9_raise 79 = .ok (.iastore, 1) := by decide +kernel
theorem dX9_raise_80 : decode cX9_raise 80 = .ok (.iload 4, 2) := by decide +kernel
theorem dX9_raise_82 : decode cX9_raise 82 = .ok (.ifCond .ne 7, 3) := by decide +kernel
theorem dX9_raise_85 : decode cX9_raise 85 = .ok (.iconst 1, 1) := by decide +kernel
theorem dX9_raise_86 : decode cX9_raise 86 = .ok (.goto 4, 3) := by decide +kernel
theorem dX9_raise_89 : decode cX9_raise 89 = .ok (.iconst 0, 1) := by decide +kernel
theorem dX9_raise_90 : decode cX9_raise 90 = .ok (.ireturn, 1) := by decide +kernel
theorem dX9_show_0 : decode cX9_show 0 = .ok (.aload_n 0, 1) := by decide +kernel
theorem dX9_show_1 : decode cX9_show 1 = .ok (.iload_n 1, 1) := by decide +kernel
theorem dX9_show_2 : decode cX9_show 2 = .ok (.iload_n 2, 1) := by decide +kernel
theorem dX9_show_3 : decode cX9_show 3 = .ok (.invokevirtual 149, 3) := by decide +kernel
theorem dX9_show_6 : decode cX9_show 6 = .ok (.ifCond .eq 5, 3) := by decide +kernel
theorem dX9_show_9 : decode cX9_show 9 = .ok (.iconst 0, 1) := by decide +kernel
theorem dX9_show_10 : decode cX9_show 10 = .ok (.ireturn, 1) := by decide +kernel
theorem dX9_show_11 : decode cX9_show 11 = .ok (.aload_n 0, 1) := by decide +kernel
theorem dX9_show_12 : decode cX9_show 12 = .ok (.getfield 32, 3) := by decide +kernel
theorem dX9_show_15 : decode cX9_show 15 = .ok (.bipush 6, 2) := by decide +kernel
theorem dX9_show_17 : decode cX9_show 17 = .ok (.iload_n 1, 1) := by decide +kernel
theorem dX9_show_18 : decode cX9_show 18 = .ok (.imul, 1) := by decide +kernel
theorem dX9_show_19 : decode cX9_show 19 = .ok (.iload_n 2, 1) := by decide +kernel
theorem dX9_show_20 : decode cX9_show 20 = .ok (.iadd, 1) := by decide +kernel
theorem dX9_show_21 : decode cX9_show 21 = .ok (.baload, 1) := by decide +kernel
theorem dX9_show_22 : decode cX9_show 22 = .ok (.istore 4, 2) := by decide +kernel
theorem dX9_show_24 : decode cX9_show 24 = .ok (.aload_n 0, 1) := by decide +kernel
theorem dX9_show_25 : decode cX9_show 25 = .ok (.getfield 32, 3) := by decide +kernel
theorem dX9_show_28 : decode cX9_show 28 = .ok (.bipush 6, 2) := by decide +kernel
theorem dX9_show_30 : decode cX9_show 30 = .ok (.iload_n 1, 1) := by decide +kernel
theorem dX9_show_31 : decode cX9_show 31 = .ok (.imul, 1) := by decide +kernel
theorem dX9_show_32 : decode cX9_show 32 = .ok (.iload_n 2, 1) := by decide +kernel
theorem dX9_show_33 : decode cX9_show 33 = .ok (.iadd, 1) := by decide +kernel
theorem dX9_show_34 : decode cX9_show 34 = .ok (.iload_n 3, 1) := by decide +kernel
theorem dX9_show_35 : decode cX9_show 35 = .ok (.bastore, 1) := by decide +kernel
theorem dX9_show_36 : decode cX9_show 36 = .ok (.iload 4, 2) := by decide +kernel
theorem dX9_show_38 : decode cX9_show 38 = .ok (.ireturn, 1) := by decide +kernel
theorem dX9_mark_0 : decode cX9_mark 0 = .ok (.aload_n 0, 1) := by decide +kernel
theorem dX9_mark_1 : decode cX9_mark 1 = .ok (.iload_n 1, 1) := by decide +kernel
theorem dX9_mark_2 : decode cX9_mark 2 = .ok (.iload_n 2, 1) := by decide +kernel
theorem dX9_mark_3 : decode cX9_mark 3 = .ok (.invokevirtual 149, 3) := by decide +kernel
theorem dX9_mark_6 : decode cX9_mark 6 = .ok (.ifCond .eq 5, 3) := by decide +kernel
theorem dX9_mark_9 : decode cX9_mark 9 = .ok (.iconst 0, 1) := by decide +kernel
theorem dX9_mark_10 : decode cX9_mark 10 = .ok (.ireturn, 1) := by decide +kernel
theorem dX9_mark_11 : decode cX9_mark 11 = .ok (.bipush 6, 2) := by decide +kernel
theorem dX9_mark_13 : decode cX9_mark 13 = .ok (.iload_n 1, 1) := by decide +kernel
theorem dX9_mark_14 : decode cX9_mark 14 = .ok (.imul, 1) := by decide +kernel
theorem dX9_mark_15 : decode cX9_mark 15 = .ok (.iload_n 2, 1) := by decide +kernel
theorem dX9_mark_16 : decode cX9_mark 16 = .ok (.iadd, 1) := by decide +kernel
theorem dX9_mark_17 : decode cX9_mark 17 = .ok (.istore 5, 2) := by decide +kernel
theorem dX9_mark_19 : decode cX9_mark 19 = .ok (.aload_n 0, 1) := by decide +kernel
theorem dX9_mark_20 : decode cX9_mark 20 = .ok (.getfield 35, 3) := by decide +kernel
theorem dX9_mark_23 : decode cX9_mark 23 = .ok (.iload 5, 2) := by decide +kernel
theorem dX9_mark_25 : decode cX9_mark 25 = .ok (.baload, 1) := by decide +kernel
theorem dX9_mark_26 : decode cX9_mark 26 = .ok (.iload_n 3, 1) := by decide +kernel
theorem dX9_mark_27 : decode cX9_mark 27 = .ok (.if_icmp .ne 15, 3) := by decide +kernel
theorem dX9_mark_30 : decode cX9_mark 30 = .ok (.aload_n 0, 1) := by decide +kernel
theorem dX9_mark_31 : decode cX9_mark 31 = .ok (.getfield 38, 3) := by decide +kernel
theorem dX9_mark_34 : decode cX9_mark 34 = .ok (.iload 5, 2) := by decide +kernel
theorem dX9_mark_36 : decode cX9_mark 36 = .ok (.baload, 1) := by decide +kernel
theorem dX9_mark_37 : decode cX9_mark 37 = .ok (.iload 4, 2) := by decide +kernel
theorem dX9_mark_39 : decode cX9_mark 39 = .ok (.if_icmp .eq 7, 3) := by decide +kernel
theorem dX9_mark_42 : decode cX9_mark 42 = .ok (.iconst 1, 1) := by decide +kernel
theorem dX9_mark_43 : decode cX9_mark 43 = .ok (.goto 4, 3) := by decide +kernel
theorem dX9_mark_46 : decode cX9_mark 46 = .ok (.iconst 0, 1) := by decide +kernel
theorem dX9_mark_47 : decode cX9_mark 47 = .ok (.istore 6, 2) := by decide +kernel
theorem dX9_mark_49 : decode cX9_mark 49 = .ok (.aload_n 0, 1) := by decide +kernel
theorem dX9_mark_50 : decode cX9_mark 50 = .ok (.getfield 35, 3) := by decide +kernel
theorem dX9_mark_53 : decode cX9_mark 53 = .ok (.iload 5, 2) := by decide +kernel
theorem dX9_mark_55 : decode cX9_mark 55 = .ok (.iload_n 3, 1) := by decide +kernel
theorem dX9_mark_56 : decode cX9_mark 56 = .ok (.bastore, 1) := by decide +kernel
theorem dX9_mark_57 : decode cX9_mark 57 = .ok (.aload_n 0, 1) := by decide +kernel
theorem dX9_mark_58 : decode cX9_mark 58 = .ok (.getfield 38, 3) := by decide +kernel
theorem dX9_mark_61 : decode cX9_mark 61 = .ok (.iload 5, 2) := by decide +kernel
theorem dX9_mark_63 : decode cX9_mark 63 = .ok (.iload 4, 2) := by decide +kernel
theorem dX9_mark_65 : decode cX9_mark 65 = .ok (.bastore, 1) := by decide +kernel
theorem dX9_mark_66 : decode cX9_mark 66 = .ok (.iload 6, 2) := by decide +kernel
theorem dX9_mark_68 : decode cX9_mark 68 = .ok (.ireturn, 1) := by decide +kernel
theorem dX9_draw_0 : decode cX9_draw 0 = .ok (.iload_n 3, 1) := by decide +kernel
theorem dX9_draw_1 : decode cX9_draw 1 = .ok (.iconst 0, 1) := by decide +kernel
theorem dX9_draw_2 : decode cX9_draw 2 = .ok (.bipush 11, 2) := by decide +kernel
theorem dX9_draw_4 : decode cX9_draw 4 = .ok (.invokestatic 139, 3) := by decide +kernel
theorem dX9_draw_7 : decode cX9_draw 7 = .ok (.ifCond .eq 52, 3) := by decide +kernel
theorem dX9_draw_10 : decode cX9_draw 10 = .ok (.iload 4, 2) := by decide +kernel
theorem dX9_draw_12 : decode cX9_draw 12 = .ok (.iconst 0, 1) := by decide +kernel
theorem dX9_draw_13 : decode cX9_draw 13 = .ok (.bipush 7, 2) := by decide +kernel
theorem dX9_draw_15 : decode cX9_draw 15 = .ok (.invokestatic 139, 3) := by decide +kernel
theorem dX9_draw_18 : decode cX9_draw 18 = .ok (.ifCond .eq 41, 3) := by decide +kernel
theorem dX9_draw_21 : decode cX9_draw 21 = .ok (.iload 5, 2) := by decide +kernel
theorem dX9_draw_23 : decode cX9_draw 23 = .ok (.iconst 1, 1) := by decide +kernel
theorem dX9_draw_24 : decode cX9_draw 24 = .ok (.bipush 12, 2) := by decide +kernel
theorem dX9_draw_26 : decode cX9_draw 26 = .ok (.invokestatic 139, 3) := by decide +kernel
theorem dX9_draw_29 : decode cX9_draw 29 = .ok (.ifCond .eq 30, 3) := by decide +kernel
theorem dX9_draw_32 : decode cX9_draw 32 = .ok (.iload 6, 2) := by decide +kernel
theorem dX9_draw_34 : decode cX9_draw 34 = .ok (.iconst 1, 1) := by decide +kernel
theorem dX9_draw_35 : decode cX9_draw 35 = .ok (.bipush 8, 2) := by decide +kernel
theorem dX9_draw_37 : decode cX9_draw 37 = .ok (.invokestatic 139, 3) := by decide +kernel
theorem dX9_draw_40 : decode cX9_draw 40 = .ok (.ifCond .eq 19, 3) := by decide +kernel
theorem dX9_draw_43 : decode cX9_draw 43 = .ok (.iload 7, 2) := by decide +kernel
theorem dX9_draw_45 : decode cX9_draw 45 = .ok (.iconst 0, 1) := by decide +kernel
theorem dX9_draw_46 : decode cX9_draw 46 = .ok (.sipush 255, 3) := by decide +kernel
theorem dX9_draw_49 : decode cX9_draw 49 = .ok (.invokestatic 139, 3) := by decide +kernel
theorem dX9_draw_52 : decode cX9_draw 52 = .ok (.ifCond .eq 7, 3) := by decide +kernel
theorem dX9_draw_55 : decode cX9_draw 55 = .ok (.iconst 1, 1) := by decide +kernel
theorem dX9_draw_56 : decode cX9_draw 56 = .ok (.goto 4, 3) := by decide +kernel
theorem dX9_draw_59 : decode cX9_draw 59 = .ok (.iconst 0, 1) := by decide +kernel
theorem dX9_draw_60 : decode cX9_draw 60 = .ok (.istore 8, 2) := by decide +kernel
theorem dX9_draw_62 : decode cX9_draw 62 = .ok (.aload_n 0, 1) := by decide +kernel
theorem dX9_draw_63 : decode cX9_draw 63 = .ok (.iload_n 1, 1) := by decide +kernel
theorem dX9_draw_64 : decode cX9_draw 64 = .ok (.iload_n 2, 1) := by decide +kernel
theorem dX9_draw_65 : decode cX9_draw 65 = .ok (.invokevirtual 149, 3) := by decide +kernel
theorem dX9_draw_68 : decode cX9_draw 68 = .ok (.ifCond .ne 20, 3) := by decide +kernel
theorem dX9_draw_71 : decode cX9_draw 71 = .ok (.aload_n 0, 1) := by decide +kernel
theorem dX9_draw_72 : decode cX9_draw 72 = .ok (.iload 8, 2) := by decide +kernel
theorem dX9_draw_74 : decode cX9_draw 74 = .ok (.ifCond .eq 7, 3) := by decide +kernel
theorem dX9_draw_77 : decode cX9_draw 77 = .ok (.iconst 0, 1) := by decide +kernel
theorem dX9_draw_78 : decode cX9_draw 78 = .ok (.goto 4, 3) := by decide +kernel
theorem dX9_draw_81 : decode cX9_draw 81 = .ok (.iconst 2, 1) := by decide +kernel
theorem dX9_draw_82 : decode cX9_draw 82 = .ok (.invokevirtual 135, 3) := by decide +kernel
theorem dX9_draw_85 : decode cX9_draw 85 = .ok (.ifCond .eq 5, 3) := by decide +kernel
theorem dX9_draw_88 : decode cX9_draw 88 = .ok (.iconst 0, 1) := by decide +kernel
theorem dX9_draw_89 : decode cX9_draw 89 = .ok (.ireturn, 1) := by decide +kernel
theorem dX9_draw_90 : decode cX9_draw 90 = .ok (.bipush 6, 2) := by decide +kernel
theorem dX9_draw_92 : decode cX9_draw 92 = .ok (.iload_n 1, 1) := by decide +kernel
theorem dX9_draw_93 : decode cX9_draw 93 = .ok (.imul, 1) := by decide +kernel
theorem dX9_draw_94 : decode cX9_draw 94 = .ok (.iload_n 2, 1) := by decide +kernel
theorem dX9_draw_95 : decode cX9_draw 95 = .ok (.iadd, 1) := by decide +kernel
theorem dX9_draw_96 : decode cX9_draw 96 = .ok (.istore 9, 2) := by decide +kernel
theorem dX9_draw_98 : decode cX9_draw 98 = .ok (.iconst 0, 1) := by decide +kernel
theorem dX9_draw_99 : decode cX9_draw 99 = .ok (.istore 10, 2) := by decide +kernel
theorem dX9_draw_101 : decode cX9_draw 101 = .ok (.iconst 0, 1) := by decide +kernel
theorem dX9_draw_102 : decode cX9_draw 102 = .ok (.istore 11, 2) := by decide +kernel
theorem dX9_draw_104 : decode cX9_draw 104 = .ok (.iload 11, 2) := by decide +kernel
theorem dX9_draw_106 : decode cX9_draw 106 = .ok (.aload_n 0, 1) := by decide +kernel
theorem dX9_draw_107 : decode cX9_draw 107 = .ok (.getfield 19, 3) := by decide +kernel
theorem dX9_draw_110 : decode cX9_draw 110 = .ok (.iload 9, 2) := by decide +kernel
theorem dX9_draw_112 : decode cX9_draw 112 = .ok (.iaload, 1) := by decide +kernel
theorem dX9_draw_113 : decode cX9_draw 113 = .ok (.aload_n 0, 1) := by decide +kernel
theorem dX9_draw_114 : decode cX9_draw 114 = .ok (.getfield 22, 3) := by decide +kernel
theorem dX9_draw_117 : decode cX9_draw 117 = .ok (.iload 9, 2) := by decide +kernel
theorem dX9_draw_119 : decode cX9_draw 119 = .ok (.iaload, 1) := by decide +kernel
theorem dX9_draw_120 : decode cX9_draw 120 = .ok (.imul, 1) := by decide +kernel
theorem dX9_draw_121 : decode cX9_draw 121 = .ok (.if_icmp .ge 100, 3) := by decide +kernel
theorem dX9_draw_124 : decode cX9_draw 124 = .ok (.iload 11, 2) := by decide +kernel
theorem dX9_draw_126 : decode cX9_draw 126 = .ok (.aload_n 0, 1) := by decide +kernel
theorem dX9_draw_127 : decode cX9_draw 127 = .ok (.getfield 19, 3) := by decide +kernel
theorem dX9_draw_130 : decode cX9_draw 130 = .ok (.iload 9, 2) := by decide +kernel
theorem dX9_draw_132 : decode cX9_draw 132 = .ok (.iaload, 1) := by decide +kernel
theorem dX9_draw_133 : decode cX9_draw 133 = .ok (.irem, 1) := by decide +kernel
theorem dX9_draw_134 : decode cX9_draw 134 = .ok (.iload_n 3, 1) := by decide +kernel
theorem dX9_draw_135 : decode cX9_draw 135 = .ok (.iload_n 3, 1) := by decide +kernel
theorem dX9_draw_136 : decode cX9_draw 136 = .ok (.iload 5, 2) := by decide +kernel
theorem dX9_draw_138 : decode cX9_draw 138 = .ok (.iadd, 1) := by decide +kernel
theorem dX9_draw_139 : decode cX9_draw 139 = .ok (.iconst 1, 1) := by decide +kernel
theorem dX9_draw_140 : decode cX9_draw 140 = .ok (.isub, 1) := by decide +kernel
theorem dX9_draw_141 : decode cX9_draw 141 = .ok (.invokestatic 139, 3) := by decide +kernel
theorem dX9_draw_144 : decode cX9_draw 144 = .ok (.ifCond .eq 71, 3) := by decide +kernel
theorem dX9_draw_147 : decode cX9_draw 147 = .ok (.iload 11, 2) := by decide +kernel
theorem dX9_draw_149 : decode cX9_draw 149 = .ok (.aload_n 0, 1) := by decide +kernel
theorem dX9_draw_150 : decode cX9_draw 150 = .ok (.getfield 19, 3) := by decide +kernel
theorem dX9_draw_153 : decode cX9_draw 153 = .ok (.iload 9, 2) := by decide +kernel
theorem dX9_draw_155 : decode cX9_draw 155 = .ok (.iaload, 1) := by decide +kernel
theorem dX9_draw_156 : decode cX9_draw 156 = .ok (.idiv, 1) := by decide +kernel
theorem dX9_draw_157 : decode cX9_draw 157 = .ok (.iload 4, 2) := by decide +kernel
theorem dX9_draw_159 : decode cX9_draw 159 = .ok (.iload 4, 2) := by decide +kernel
theorem dX9_draw_161 : decode cX9_draw 161 = .ok (.iload 6, 2) := by decide +kernel
theorem dX9_draw_163 : decode cX9_draw 163 = .ok (.iadd, 1) := by decide +kernel
theorem dX9_draw_164 : decode cX9_draw 164 = .ok (.iconst 1, 1) := by decide +kernel
theorem dX9_draw_165 : decode cX9_draw 165 = .ok (.isub, 1) := by decide +kernel
theorem dX9_draw_166 : decode cX9_draw 166 = .ok (.invokestatic 139, 3) := by decide +kernel
theorem dX9_draw_169 : decode cX9_draw 169 = .ok (.ifCond .eq 46, 3) := by decide +kernel
theorem dX9_draw_172 : decode cX9_draw 172 = .ok (.iload 10, 2) := by decide +kernel
theorem dX9_draw_174 : decode cX9_draw 174 = .ok (.aload_n 0, 1) := by decide +kernel
theorem dX9_draw_175 : decode cX9_draw 175 = .ok (.getfield 41, 3) := by decide +kernel
theorem dX9_draw_178 : decode cX9_draw 178 = .ok (.bipush 96, 2) := by decide +kernel
theorem dX9_draw_180 : decode cX9_draw 180 = .ok (.iload 9, 2) := by decide +kernel
theorem dX9_draw_182 : decode cX9_draw 182 = .ok (.imul, 1) := by decide +kernel
theorem dX9_draw_183 : decode cX9_draw 183 = .ok (.iload 11, 2) := by decide +kernel
theorem dX9_draw_185 : decode cX9_draw 185 = .ok (.iadd, 1) := by decide +kernel
theorem dX9_draw_186 : decode cX9_draw 186 = .ok (.iaload, 1) := by decide +kernel
theorem dX9_draw_187 : decode cX9_draw 187 = .ok (.iload 7, 2) := by decide +kernel
theorem dX9_draw_189 : decode cX9_draw 189 = .ok (.if_icmp .ne 7, 3) := by decide +kernel
theorem dX9_draw_192 : decode cX9_draw 192 = .ok (.iconst 0, 1) := by decide +kernel
theorem dX9_draw_193 : decode cX9_draw 193 = .ok (.goto 4, 3) := by decide +kernel
theorem dX9_draw_196 : decode cX9_draw 196 = .ok (.iconst 1, 1) := by decide +kernel
theorem dX9_draw_197 : decode cX9_draw 197 = .ok (.iadd, 1) := by decide +kernel
theorem dX9_draw_198 : decode cX9_draw 198 = .ok (.istore 10, 2) := by decide +kernel
theorem dX9_draw_200 : decode cX9_draw 200 = .ok (.aload_n 0, 1) := by decide +kernel
theorem dX9_draw_201 : decode cX9_draw 201 = .ok (.getfield 41, 3) := by decide +kernel
theorem dX9_draw_204 : decode cX9_draw 204 = .ok (.bipush 96, 2) := by decide +kernel
theorem dX9_draw_206 : decode cX9_draw 206 = .ok (.iload 9, 2) := by decide +kernel
theorem dX9_draw_208 : decode cX9_draw 208 = .ok (.imul, 1) := by decide +kernel
theorem dX9_draw_209 : decode cX9_draw 209 = .ok (.iload 11, 2) := by decide +kernel
theorem dX9_draw_211 : decode cX9_draw 211 = .ok (.iadd, 1) := by decide +kernel
theorem dX9_draw_212 : decode cX9_draw 212 = .ok (.iload 7, 2) := by decide +kernel
theorem dX9_draw_214 : decode cX9_draw 214 = .ok (.iastore, 1) := by decide +kernel
theorem dX9_draw_215 : decode cX9_draw 215 = .ok (.iinc 11 1, 3) := by decide +kernel
theorem dX9_draw_218 : decode cX9_draw 218 = .ok (.goto (-114), 3) := by decide +kernel
theorem dX9_draw_221 : decode cX9_draw 221 = .ok (.iload 10, 2) := by decide +kernel
theorem dX9_draw_223 : decode cX9_draw 223 = .ok (.ireturn, 1) := by decide +kernel
theorem dX9_isCell_0 : decode cX9_isCell 0 = .ok (.iload_n 0, 1) := by decide +kernel
theorem dX9_isCell_1 : decode cX9_isCell 1 = .ok (.iconst 0, 1) := by decide +kernel
theorem dX9_isCell_2 : decode cX9_isCell 2 = .ok (.bipush 11, 2) := by decide +kernel
theorem dX9_isCell_4 : decode cX9_isCell 4 = .ok (.invokestatic 139, 3) := by decide +kernel
theorem dX9_isCell_7 : decode cX9_isCell 7 = .ok (.ifCond .eq 17, 3) := by decide +kernel
theorem dX9_isCell_10 : decode cX9_isCell 10 = .ok (.iload_n 1, 1) := by decide +kernel
theorem dX9_isCell_11 : decode cX9_isCell 11 = .ok (.iconst 0, 1) := by decide +kernel
theorem dX9_isCell_12 : decode cX9_isCell 12 = .ok (.bipush 7, 2) := by decide +kernel
theorem dX9_isCell_14 : decode cX9_isCell 14 = .ok (.invokestatic 139, 3) := by decide +kernel
theorem dX9_isCell_17 : decode cX9_isCell 17 = .ok (.ifCond .eq 7, 3) := by decide +kernel
theorem dX9_isCell_20 : decode cX9_isCell 20 = .ok (.iconst 1, 1) := by decide +kernel
theorem dX9_isCell_21 : decode cX9_isCell 21 = .ok (.goto 4, 3) := by decide +kernel
theorem dX9_isCell_24 : decode cX9_isCell 24 = .ok (.iconst 0, 1) := by decide +kernel
theorem dX9_isCell_25 : decode cX9_isCell 25 = .ok (.ireturn, 1) := by decide +kernel
theorem dX9_screen_0 : decode cX9_screen 0 = .ok (.aload_n 0, 1) := by decide +kernel
theorem dX9_screen_1 : decode cX9_screen 1 = .ok (.aload_n 0, 1) := by decide +kernel
theorem dX9_screen_2 : decode cX9_screen 2 = .ok (.iload_n 1, 1) := by decide +kernel
theorem dX9_screen_3 : decode cX9_screen 3 = .ok (.invokevirtual 143, 3) := by decide +kernel
theorem dX9_screen_6 : decode cX9_screen 6 = .ok (.ifCond .eq 15, 3) := by decide +kernel
theorem dX9_screen_9 : decode cX9_screen 9 = .ok (.iload_n 2, 1) := by decide +kernel
theorem dX9_screen_10 : decode cX9_screen 10 = .ok (.iload_n 3, 1) := by decide +kernel
theorem dX9_screen_11 : decode cX9_screen 11 = .ok (.invokestatic 171, 3) := by decide +kernel
theorem dX9_screen_14 : decode cX9_screen 14 = .ok (.ifCond .eq 7, 3) := by decide +kernel
theorem dX9_screen_17 : decode cX9_screen 17 = .ok (.iconst 0, 1) := by decide +kernel
theorem dX9_screen_18 : decode cX9_screen 18 = .ok (.goto 4, 3) := by decide +kernel
theorem dX9_screen_21 : decode cX9_screen 21 = .ok (.iconst 1, 1) := by decide +kernel
theorem dX9_screen_22 : decode cX9_screen 22 = .ok (.invokevirtual 135, 3) := by decide +kernel
theorem dX9_screen_25 : decode cX9_screen 25 = .ok (.ifCond .eq 7, 3) := by decide +kernel
theorem dX9_screen_28 : decode cX9_screen 28 = .ok (.iconst 0, 1) := by decide +kernel
theorem dX9_screen_29 : decode cX9_screen 29 = .ok (.goto 14, 3) := by decide +kernel
theorem dX9_screen_32 : decode cX9_screen 32 = .ok (.aload_n 0, 1) := by decide +kernel
theorem dX9_screen_33 : decode cX9_screen 33 = .ok (.iload_n 1, 1) := by decide +kernel
theorem dX9_screen_34 : decode cX9_screen 34 = .ok (.iload_n 3, 1) := by decide +kernel
theorem dX9_screen_35 : decode cX9_screen 35 = .ok (.bipush 12, 2) := by decide +kernel
theorem dX9_screen_37 : decode cX9_screen 37 = .ok (.imul, 1) := by decide +kernel
theorem dX9_screen_38 : decode cX9_screen 38 = .ok (.iload_n 2, 1) := by decide +kernel
theorem dX9_screen_39 : decode cX9_screen 39 = .ok (.iadd, 1) := by decide +kernel
theorem dX9_screen_40 : decode cX9_screen 40 = .ok (.invokevirtual 164, 3) := by decide +kernel
theorem dX9_screen_43 : decode cX9_screen 43 = .ok (.ireturn, 1) := by decide +kernel
theorem dX9_join_0 : decode cX9_join 0 = .ok (.aload_n 0, 1) := by decide +kernel
theorem dX9_join_1 : decode cX9_join 1 = .ok (.iload_n 1, 1) := by decide +kernel
theorem dX9_join_2 : decode cX9_join 2 = .ok (.invokevirtual 146, 3) := by decide +kernel
theorem dX9_join_5 : decode cX9_join 5 = .ok (.ifCond .ne 38, 3) := by decide +kernel
theorem dX9_join_8 : decode cX9_join 8 = .ok (.aload_n 0, 1) := by decide +kernel
theorem dX9_join_9 : decode cX9_join 9 = .ok (.iload_n 2, 1) := by decide +kernel
theorem dX9_join_10 : decode cX9_join 10 = .ok (.iconst 0, 1) := by decide +kernel
theorem dX9_join_11 : decode cX9_join 11 = .ok (.bipush 9, 2) := by decide +kernel
theorem dX9_join_13 : decode cX9_join 13 = .ok (.invokestatic 139, 3) := by decide +kernel
theorem dX9_join_16 : decode cX9_join 16 = .ok (.ifCond .ne 7, 3) := by decide +kernel
theorem dX9_join_19 : decode cX9_join 19 = .ok (.iconst 2, 1) := by decide +kernel
theorem dX9_join_20 : decode cX9_join 20 = .ok (.goto 17, 3) := by decide +kernel
theorem dX9_join_23 : decode cX9_join 23 = .ok (.aload_n 0, 1) := by decide +kernel
theorem dX9_join_24 : decode cX9_join 24 = .ok (.getfield 174, 3) := by decide +kernel
theorem dX9_join_27 : decode cX9_join 27 = .ok (.bipush 6, 2) := by decide +kernel
theorem dX9_join_29 : decode cX9_join 29 = .ok (.if_icmp .ne 7, 3) := by decide +kernel
theorem dX9_join_32 : decode cX9_join 32 = .ok (.iconst 3, 1) := by decide +kernel
theorem dX9_join_33 : decode cX9_join 33 = .ok (.goto 4, 3) := by decide +kernel
theorem dX9_join_36 : decode cX9_join 36 = .ok (.iconst 0, 1) := by decide +kernel
theorem dX9_join_37 : decode cX9_join 37 = .ok (.invokevirtual 135, 3) := by decide +kernel
theorem dX9_join_40 : decode cX9_join 40 = .ok (.ifCond .eq 5, 3) := by decide +kernel
theorem dX9_join_43 : decode cX9_join 43 = .ok (.iconst 0, 1) := by decide +kernel
theorem dX9_join_44 : decode cX9_join 44 = .ok (.ireturn, 1) := by decide +kernel
theorem dX9_join_45 : decode cX9_join 45 = .ok (.aload_n 0, 1) := by decide +kernel
theorem dX9_join_46 : decode cX9_join 46 = .ok (.getfield 104, 3) := by decide +kernel
theorem dX9_join_49 : decode cX9_join 49 = .ok (.aload_n 0, 1) := by decide +kernel
theorem dX9_join_50 : decode cX9_join 50 = .ok (.getfield 174, 3) := by decide +kernel
theorem dX9_join_53 : decode cX9_join 53 = .ok (.iload_n 1, 1) := by decide +kernel
theorem dX9_join_54 : decode cX9_join 54 = .ok (.iastore, 1) := by decide +kernel
theorem dX9_join_55 : decode cX9_join 55 = .ok (.aload_n 0, 1) := by decide +kernel
theorem dX9_join_56 : decode cX9_join 56 = .ok (.getfield 107, 3) := by decide +kernel
theorem dX9_join_59 : decode cX9_join 59 = .ok (.aload_n 0, 1) := by decide +kernel
theorem dX9_join_60 : decode cX9_join 60 = .ok (.getfield 174, 3) := by decide +kernel
theorem dX9_join_63 : decode cX9_join 63 = .ok (.iload_n 2, 1) := by decide +kernel
theorem dX9_join_64 : decode cX9_join 64 = .ok (.iastore, 1) := by decide +kernel
theorem dX9_join_65 : decode cX9_join 65 = .ok (.aload_n 0, 1) := by decide +kernel
theorem dX9_join_66 : decode cX9_join 66 = .ok (.dup, 1) := by decide +kernel
theorem dX9_join_67 : decode cX9_join 67 = .ok (.getfield 174, 3) := by decide +kernel
theorem dX9_join_70 : decode cX9_join 70 = .ok (.iconst 1, 1) := by decide +kernel
theorem dX9_join_71 : decode cX9_join 71 = .ok (.iadd, 1) := by decide +kernel
theorem dX9_join_72 : decode cX9_join 72 = .ok (.putfield 174, 3) := by decide +kernel
theorem dX9_join_75 : decode cX9_join 75 = .ok (.aload_n 0, 1) := by decide +kernel
theorem dX9_join_76 : decode cX9_join 76 = .ok (.getfield 174, 3) := by decide +kernel
theorem dX9_join_79 : decode cX9_join 79 = .ok (.iconst 1, 1) := by decide +kernel
theorem dX9_join_80 : decode cX9_join 80 = .ok (.isub, 1) := by decide +kernel
theorem dX9_join_81 : decode cX9_join 81 = .ok (.ireturn, 1) := by decide +kernel
theorem dX9_isClient_0 : decode cX9_isClient 0 = .ok (.iload_n 1, 1) := by decide +kernel
theorem dX9_isClient_1 : decode cX9_isClient 1 = .ok (.iconst 0, 1) := by decide +kernel
theorem dX9_isClient_2 : decode cX9_isClient 2 = .ok (.aload_n 0, 1) := by decide +kernel
theorem dX9_isClient_3 : decode cX9_isClient 3 = .ok (.getfield 174, 3) := by decide +kernel
theorem dX9_isClient_6 : decode cX9_isClient 6 = .ok (.iconst 1, 1) := by decide +kernel
theorem dX9_isClient_7 : decode cX9_isClient 7 = .ok (.isub, 1) := by decide +kernel
theorem dX9_isClient_8 : decode cX9_isClient 8 = .ok (.invokestatic 139, 3) := by decide +kernel
theorem dX9_isClient_11 : decode cX9_isClient 11 = .ok (.ireturn, 1) := by decide +kernel
theorem dX9_failsClient_0 : decode cX9_failsClient 0 = .ok (.aload_n 0, 1) := by decide +kernel
theorem dX9_failsClient_1 : decode cX9_failsClient 1 = .ok (.aload_n 0, 1) := by decide +kernel
theorem dX9_failsClient_2 : decode cX9_failsClient 2 = .ok (.iload_n 1, 1) := by decide +kernel
theorem dX9_failsClient_3 : decode cX9_failsClient 3 = .ok (.invokevirtual 177, 3) := by decide +kernel
theorem dX9_failsClient_6 : decode cX9_failsClient 6 = .ok (.ifCond .eq 7, 3) := by decide +kernel
theorem dX9_failsClient_9 : decode cX9_failsClient 9 = .ok (.iconst 0, 1) := by decide +kernel
theorem dX9_failsClient_10 : decode cX9_failsClient 10 = .ok (.goto 4, 3) := by decide +kernel
theorem dX9_failsClient_13 : decode cX9_failsClient 13 = .ok (.iconst 1, 1) := by decide +kernel
theorem dX9_failsClient_14 : decode cX9_failsClient 14 = .ok (.invokevirtual 135, 3) := by decide +kernel
theorem dX9_failsClient_17 : decode cX9_failsClient 17 = .ok (.ireturn, 1) := by decide +kernel
theorem dX9_bid_0 : decode cX9_bid 0 = .ok (.aload_n 0, 1) := by decide +kernel
theorem dX9_bid_1 : decode cX9_bid 1 = .ok (.iload_n 1, 1) := by decide +kernel
theorem dX9_bid_2 : decode cX9_bid 2 = .ok (.invokevirtual 180, 3) := by decide +kernel
theorem dX9_bid_5 : decode cX9_bid 5 = .ok (.ifCond .ne 25, 3) := by decide +kernel
theorem dX9_bid_8 : decode cX9_bid 8 = .ok (.aload_n 0, 1) := by decide +kernel
theorem dX9_bid_9 : decode cX9_bid 9 = .ok (.iload_n 2, 1) := by decide +kernel
theorem dX9_bid_10 : decode cX9_bid 10 = .ok (.iconst 0, 1) := by decide +kernel
theorem dX9_bid_11 : decode cX9_bid 11 = .ok (.bipush 9, 2) := by decide +kernel
theorem dX9_bid_13 : decode cX9_bid 13 = .ok (.invokestatic 139, 3) := by decide +kernel
theorem dX9_bid_16 : decode cX9_bid 16 = .ok (.ifCond .eq 7, 3) := by decide +kernel
theorem dX9_bid_19 : decode cX9_bid 19 = .ok (.iconst 0, 1) := by decide +kernel
theorem dX9_bid_20 : decode cX9_bid 20 = .ok (.goto 4, 3) := by decide +kernel
theorem dX9_bid_23 : decode cX9_bid 23 = .ok (.iconst 2, 1) := by decide +kernel
theorem dX9_bid_24 : decode cX9_bid 24 = .ok (.invokevirtual 135, 3) := by decide +kernel
theorem dX9_bid_27 : decode cX9_bid 27 = .ok (.ifCond .eq 5, 3) := by decide +kernel
theorem dX9_bid_30 : decode cX9_bid 30 = .ok (.iconst 0, 1) := by decide +kernel
theorem dX9_bid_31 : decode cX9_bid 31 = .ok (.ireturn, 1) := by decide +kernel
theorem dX9_bid_32 : decode cX9_bid 32 = .ok (.aload_n 0, 1) := by decide +kernel
theorem dX9_bid_33 : decode cX9_bid 33 = .ok (.getfield 107, 3) := by decide +kernel
theorem dX9_bid_36 : decode cX9_bid 36 = .ok (.iload_n 1, 1) := by decide +kernel
theorem dX9_bid_37 : decode cX9_bid 37 = .ok (.iaload, 1) := by decide +kernel
theorem dX9_bid_38 : decode cX9_bid 38 = .ok (.istore_n 3, 1) := by decide +kernel
theorem dX9_bid_39 : decode cX9_bid 39 = .ok (.aload_n 0, 1) := by decide +kernel
theorem dX9_bid_40 : decode cX9_bid 40 = .ok (.getfield 107, 3) := by decide +kernel
theorem dX9_bid_43 : decode cX9_bid 43 = .ok (.iload_n 1, 1) := by decide +kernel
theorem dX9_bid_44 : decode cX9_bid 44 = .ok (.iload_n 2, 1) := by decide +kernel
theorem dX9_bid_45 : decode cX9_bid 45 = .ok (.iastore, 1) := by decide +kernel
theorem dX9_bid_46 : decode cX9_bid 46 = .ok (.iload_n 3, 1) := by decide +kernel
theorem dX9_bid_47 : decode cX9_bid 47 = .ok (.ireturn, 1) := by decide +kernel
theorem dX9_money_0 : decode cX9_money 0 = .ok (.aload_n 0, 1) := by decide +kernel
theorem dX9_money_1 : decode cX9_money 1 = .ok (.iload_n 1, 1) := by decide +kernel
theorem dX9_money_2 : decode cX9_money 2 = .ok (.invokevirtual 180, 3) := by decide +kernel
theorem dX9_money_5 : decode cX9_money 5 = .ok (.ifCond .eq 7, 3) := by decide +kernel
theorem dX9_money_8 : decode cX9_money 8 = .ok (.iconst 0, 1) := by decide +kernel
theorem dX9_money_9 : decode cX9_money 9 = .ok (.goto 9, 3) := by decide +kernel
theorem dX9_money_12 : decode cX9_money 12 = .ok (.aload_n 0, 1) := by decide +kernel
theorem dX9_money_13 : decode cX9_money 13 = .ok (.getfield 110, 3) := by decide +kernel
theorem dX9_money_16 : decode cX9_money 16 = .ok (.iload_n 1, 1) := by decide +kernel
theorem dX9_money_17 : decode cX9_money 17 = .ok (.iaload, 1) := by decide +kernel
theorem dX9_money_18 : decode cX9_money 18 = .ok (.ireturn, 1) := by decide +kernel
theorem dX9_picture_0 : decode cX9_picture 0 = .ok (.aload_n 0, 1) := by decide +kernel
theorem dX9_picture_1 : decode cX9_picture 1 = .ok (.aload_n 0, 1) := by decide +kernel
theorem dX9_picture_2 : decode cX9_picture 2 = .ok (.iload_n 1, 1) := by decide +kernel
theorem dX9_picture_3 : decode cX9_picture 3 = .ok (.invokevirtual 177, 3) := by decide +kernel
theorem dX9_picture_6 : decode cX9_picture 6 = .ok (.ifCond .eq 15, 3) := by decide +kernel
theorem dX9_picture_9 : decode cX9_picture 9 = .ok (.iload_n 2, 1) := by decide +kernel
theorem dX9_picture_10 : decode cX9_picture 10 = .ok (.iload_n 3, 1) := by decide +kernel
theorem dX9_picture_11 : decode cX9_picture 11 = .ok (.invokestatic 171, 3) := by decide +kernel
theorem dX9_picture_14 : decode cX9_picture 14 = .ok (.ifCond .eq 7, 3) := by decide +kernel
theorem dX9_picture_17 : decode cX9_picture 17 = .ok (.iconst 0, 1) := by decide +kernel
theorem dX9_picture_18 : decode cX9_picture 18 = .ok (.goto 4, 3) := by decide +kernel
theorem dX9_picture_21 : decode cX9_picture 21 = .ok (.iconst 1, 1) := by decide +kernel
theorem dX9_picture_22 : decode cX9_picture 22 = .ok (.invokevirtual 135, 3) := by decide +kernel
theorem dX9_picture_25 : decode cX9_picture 25 = .ok (.ifCond .eq 7, 3) := by decide +kernel
theorem dX9_picture_28 : decode cX9_picture 28 = .ok (.iconst 0, 1) := by decide +kernel
theorem dX9_picture_29 : decode cX9_picture 29 = .ok (.goto 19, 3) := by decide +kernel
theorem dX9_picture_32 : decode cX9_picture 32 = .ok (.aload_n 0, 1) := by decide +kernel
theorem dX9_picture_33 : decode cX9_picture 33 = .ok (.getfield 119, 3) := by decide +kernel
theorem dX9_picture_36 : decode cX9_picture 36 = .ok (.bipush 96, 2) := by decide +kernel
theorem dX9_picture_38 : decode cX9_picture 38 = .ok (.iload_n 1, 1) := by decide +kernel
theorem dX9_picture_39 : decode cX9_picture 39 = .ok (.imul, 1) := by decide +kernel
theorem dX9_picture_40 : decode cX9_picture 40 = .ok (.iload_n 3, 1) := by decide +kernel
theorem dX9_picture_41 : decode cX9_picture 41 = .ok (.bipush 12, 2) := by decide +kernel
theorem dX9_picture_43 : decode cX9_picture 43 = .ok (.imul, 1) := by decide +kernel
theorem dX9_picture_44 : decode cX9_picture 44 = .ok (.iadd, 1) := by decide +kernel
theorem dX9_picture_45 : decode cX9_picture 45 = .ok (.iload_n 2, 1) := by decide +kernel
theorem dX9_picture_46 : decode cX9_picture 46 = .ok (.iadd, 1) := by decide +kernel
theorem dX9_picture_47 : decode cX9_picture 47 = .ok (.iaload, 1) := by decide +kernel
theorem dX9_picture_48 : decode cX9_picture 48 = .ok (.ireturn, 1) := by decide +kernel
theorem dX9_seen_0 : decode cX9_seen 0 = .ok (.aload_n 0, 1) := by decide +kernel
theorem dX9_seen_1 : decode cX9_seen 1 = .ok (.aload_n 0, 1) := by decide +kernel
theorem dX9_seen_2 : decode cX9_seen 2 = .ok (.iload_n 1, 1) := by decide +kernel
theorem dX9_seen_3 : decode cX9_seen 3 = .ok (.invokevirtual 177, 3) := by decide +kernel
theorem dX9_seen_6 : decode cX9_seen 6 = .ok (.ifCond .eq 15, 3) := by decide +kernel
theorem dX9_seen_9 : decode cX9_seen 9 = .ok (.iload_n 2, 1) := by decide +kernel
theorem dX9_seen_10 : decode cX9_seen 10 = .ok (.iload_n 3, 1) := by decide +kernel
theorem dX9_seen_11 : decode cX9_seen 11 = .ok (.invokestatic 171, 3) := by decide +kernel
theorem dX9_seen_14 : decode cX9_seen 14 = .ok (.ifCond .eq 7, 3) := by decide +kernel
theorem dX9_seen_17 : decode cX9_seen 17 = .ok (.iconst 0, 1) := by decide +kernel
theorem dX9_seen_18 : decode cX9_seen 18 = .ok (.goto 4, 3) := by decide +kernel
theorem dX9_seen_21 : decode cX9_seen 21 = .ok (.iconst 1, 1) := by decide +kernel
theorem dX9_seen_22 : decode cX9_seen 22 = .ok (.invokevirtual 135, 3) := by decide +kernel
theorem dX9_seen_25 : decode cX9_seen 25 = .ok (.ifCond .eq 5, 3) := by decide +kernel
theorem dX9_seen_28 : decode cX9_seen 28 = .ok (.iconst 0, 1) := by decide +kernel
theorem dX9_seen_29 : decode cX9_seen 29 = .ok (.ireturn, 1) := by decide +kernel
theorem dX9_seen_30 : decode cX9_seen 30 = .ok (.iload_n 3, 1) := by decide +kernel
theorem dX9_seen_31 : decode cX9_seen 31 = .ok (.bipush 12, 2) := by decide +kernel
theorem dX9_seen_33 : decode cX9_seen 33 = .ok (.imul, 1) := by decide +kernel
theorem dX9_seen_34 : decode cX9_seen 34 = .ok (.iload_n 2, 1) := by decide +kernel
theorem dX9_seen_35 : decode cX9_seen 35 = .ok (.iadd, 1) := by decide +kernel
theorem dX9_seen_36 : decode cX9_seen 36 = .ok (.istore 4, 2) := by decide +kernel
theorem dX9_seen_38 : decode cX9_seen 38 = .ok (.aload_n 0, 1) := by decide +kernel
theorem dX9_seen_39 : decode cX9_seen 39 = .ok (.getfield 119, 3) := by decide +kernel
theorem dX9_seen_42 : decode cX9_seen 42 = .ok (.bipush 96, 2) := by decide +kernel
theorem dX9_seen_44 : decode cX9_seen 44 = .ok (.iload_n 1, 1) := by decide +kernel
theorem dX9_seen_45 : decode cX9_seen 45 = .ok (.imul, 1) := by decide +kernel
theorem dX9_seen_46 : decode cX9_seen 46 = .ok (.iload 4, 2) := by decide +kernel
theorem dX9_seen_48 : decode cX9_seen 48 = .ok (.iadd, 1) := by decide +kernel
theorem dX9_seen_49 : decode cX9_seen 49 = .ok (.iaload, 1) := by decide +kernel
theorem dX9_seen_50 : decode cX9_seen 50 = .ok (.istore 5, 2) := by decide +kernel
theorem dX9_seen_52 : decode cX9_seen 52 = .ok (.bipush 20, 2) := by decide +kernel
theorem dX9_seen_54 : decode cX9_seen 54 = .ok (.aload_n 0, 1) := by decide +kernel
theorem dX9_seen_55 : decode cX9_seen 55 = .ok (.getfield 104, 3) := by decide +kernel
theorem dX9_seen_58 : decode cX9_seen 58 = .ok (.iload_n 1, 1) := by decide +kernel
theorem dX9_seen_59 : decode cX9_seen 59 = .ok (.iaload, 1) := by decide +kernel
theorem dX9_seen_60 : decode cX9_seen 60 = .ok (.imul, 1) := by decide +kernel
theorem dX9_seen_61 : decode cX9_seen 61 = .ok (.istore 6, 2) := by decide +kernel
theorem dX9_seen_63 : decode cX9_seen 63 = .ok (.iload 6, 2) := by decide +kernel
theorem dX9_seen_65 : decode cX9_seen 65 = .ok (.istore 7, 2) := by decide +kernel
theorem dX9_seen_67 : decode cX9_seen 67 = .ok (.iload 7, 2) := by decide +kernel
theorem dX9_seen_69 : decode cX9_seen 69 = .ok (.iload 6, 2) := by decide +kernel
theorem dX9_seen_71 : decode cX9_seen 71 = .ok (.aload_n 0, 1) := by decide +kernel
theorem dX9_seen_72 : decode cX9_seen 72 = .ok (.getfield 50, 3) := by decide +kernel
theorem dX9_seen_75 : decode cX9_seen 75 = .ok (.aload_n 0, 1) := by decide +kernel
theorem dX9_seen_76 : decode cX9_seen 76 = .ok (.getfield 104, 3) := by decide +kernel
theorem dX9_seen_79 : decode cX9_seen 79 = .ok (.iload_n 1, 1) := by decide +kernel
theorem dX9_seen_80 : decode cX9_seen 80 = .ok (.iaload, 1) := by decide +kernel
theorem dX9_seen_81 : decode cX9_seen 81 = .ok (.iaload, 1) := by decide +kernel
theorem dX9_seen_82 : decode cX9_seen 82 = .ok (.iadd, 1) := by decide +kernel
theorem dX9_seen_83 : decode cX9_seen 83 = .ok (.if_icmp .ge 57, 3) := by decide +kernel
theorem dX9_seen_86 : decode cX9_seen 86 = .ok (.aload_n 0, 1) := by decide +kernel
theorem dX9_seen_87 : decode cX9_seen 87 = .ok (.getfield 62, 3) := by decide +kernel
theorem dX9_seen_90 : decode cX9_seen 90 = .ok (.iload 7, 2) := by decide +kernel
theorem dX9_seen_92 : decode cX9_seen 92 = .ok (.iaload, 1) := by decide +kernel
theorem dX9_seen_93 : decode cX9_seen 93 = .ok (.iload_n 1, 1) := by decide +kernel
theorem dX9_seen_94 : decode cX9_seen 94 = .ok (.if_icmp .ne 36, 3) := by decide +kernel
theorem dX9_seen_97 : decode cX9_seen 97 = .ok (.aload_n 0, 1) := by decide +kernel
theorem dX9_seen_98 : decode cX9_seen 98 = .ok (.aload_n 0, 1) := by decide +kernel
theorem dX9_seen_99 : decode cX9_seen 99 = .ok (.getfield 53, 3) := by decide +kernel
theorem dX9_seen_102 : decode cX9_seen 102 = .ok (.iload 7, 2) := by decide +kernel
theorem dX9_seen_104 : decode cX9_seen 104 = .ok (.iaload, 1) := by decide +kernel
theorem dX9_seen_105 : decode cX9_seen 105 = .ok (.aload_n 0, 1) := by decide +kernel
theorem dX9_seen_106 : decode cX9_seen 106 = .ok (.getfield 59, 3) := by decide +kernel
theorem dX9_seen_109 : decode cX9_seen 109 = .ok (.iload 7, 2) := by decide +kernel
theorem dX9_seen_111 : decode cX9_seen 111 = .ok (.iaload, 1) := by decide +kernel
theorem dX9_seen_112 : decode cX9_seen 112 = .ok (.invokevirtual 183, 3) := by decide +kernel
theorem dX9_seen_115 : decode cX9_seen 115 = .ok (.iload 4, 2) := by decide +kernel
theorem dX9_seen_117 : decode cX9_seen 117 = .ok (.if_icmp .ne 13, 3) := by decide +kernel
theorem dX9_seen_120 : decode cX9_seen 120 = .ok (.aload_n 0, 1) := by decide +kernel
theorem dX9_seen_121 : decode cX9_seen 121 = .ok (.getfield 56, 3) := by decide +kernel
theorem dX9_seen_124 : decode cX9_seen 124 = .ok (.iload 7, 2) := by decide +kernel
theorem dX9_seen_126 : decode cX9_seen 126 = .ok (.iaload, 1) := by decide +kernel
theorem dX9_seen_127 : decode cX9_seen 127 = .ok (.goto 5, 3) := by decide +kernel
theorem dX9_seen_130 : decode cX9_seen 130 = .ok (.iload 5, 2) := by decide +kernel
theorem dX9_seen_132 : decode cX9_seen 132 = .ok (.istore 5, 2) := by decide +kernel
theorem dX9_seen_134 : decode cX9_seen 134 = .ok (.iinc 7 1, 3) := by decide +kernel
theorem dX9_seen_137 : decode cX9_seen 137 = .ok (.goto (-70), 3) := by decide +kernel
theorem dX9_seen_140 : decode cX9_seen 140 = .ok (.iload 5, 2) := by decide +kernel
theorem dX9_seen_142 : decode cX9_seen 142 = .ok (.ireturn, 1) := by decide +kernel
theorem dX9_countBehind_0 : decode cX9_countBehind 0 = .ok (.iconst 0, 1) := by decide +kernel
theorem dX9_countBehind_1 : decode cX9_countBehind 1 = .ok (.istore_n 2, 1) := by decide +kernel
theorem dX9_countBehind_2 : decode cX9_countBehind 2 = .ok (.iconst 0, 1) := by decide +kernel
theorem dX9_countBehind_3 : decode cX9_countBehind 3 = .ok (.istore_n 3, 1) := by decide +kernel
theorem dX9_countBehind_4 : decode cX9_countBehind 4 = .ok (.iload_n 3, 1) := by decide +kernel
theorem dX9_countBehind_5 : decode cX9_countBehind 5 = .ok (.bipush 96, 2) := by decide +kernel
theorem dX9_countBehind_7 : decode cX9_countBehind 7 = .ok (.if_icmp .ge 42, 3) := by decide +kernel
theorem dX9_countBehind_10 : decode cX9_countBehind 10 = .ok (.iload_n 2, 1) := by decide +kernel
theorem dX9_countBehind_11 : decode cX9_countBehind 11 = .ok (.aload_n 0, 1) := by decide +kernel
theorem dX9_countBehind_12 : decode cX9_countBehind 12 = .ok (.getfield 119, 3) := by decide +kernel
theorem dX9_countBehind_15 : decode cX9_countBehind 15 = .ok (.bipush 96, 2) := by decide +kernel
theorem dX9_countBehind_17 : decode cX9_countBehind 17 = .ok (.iload_n 1, 1) := by decide +kernel
theorem dX9_countBehind_18 : decode cX9_countBehind 18 = .ok (.imul, 1) := by decide +kernel
theorem dX9_countBehind_19 : decode cX9_countBehind 19 = .ok (.iload_n 3, 1) := by decide +kernel
theorem dX9_countBehind_20 : decode cX9_countBehind 20 = .ok (.iadd, 1) := by decide +kernel
theorem dX9_countBehind_21 : decode cX9_countBehind 21 = .ok (.iaload, 1) := by decide +kernel
theorem dX9_countBehind_22 : decode cX9_countBehind 22 = .ok (.aload_n 0, 1) := by decide +kernel
theorem dX9_countBehind_23 : decode cX9_countBehind 23 = .ok (.aload_n 0, 1) := by decide +kernel
theorem dX9_countBehind_24 : decode cX9_countBehind 24 = .ok (.getfield 104, 3) := by decide +kernel
theorem dX9_countBehind_27 : decode cX9_countBehind 27 = .ok (.iload_n 1, 1) := by decide +kernel
theorem dX9_countBehind_28 : decode cX9_countBehind 28 = .ok (.iaload, 1) := by decide +kernel
theorem dX9_countBehind_29 : decode cX9_countBehind 29 = .ok (.iload_n 3, 1) := by decide +kernel
theorem dX9_countBehind_30 : decode cX9_countBehind 30 = .ok (.invokevirtual 164, 3) := by decide +kernel
theorem dX9_countBehind_33 : decode cX9_countBehind 33 = .ok (.if_icmp .ne 7, 3) := by decide +kernel
theorem dX9_countBehind_36 : decode cX9_countBehind 36 = .ok (.iconst 0, 1) := by decide +kernel
theorem dX9_countBehind_37 : decode cX9_countBehind 37 = .ok (.goto 4, 3) := by decide +kernel
theorem dX9_countBehind_40 : decode cX9_countBehind 40 = .ok (.iconst 1, 1) := by decide +kernel
theorem dX9_countBehind_41 : decode cX9_countBehind 41 = .ok (.iadd, 1) := by decide +kernel
theorem dX9_countBehind_42 : decode cX9_countBehind 42 = .ok (.istore_n 2, 1) := by decide +kernel
theorem dX9_countBehind_43 : decode cX9_countBehind 43 = .ok (.iinc 3 1, 3) := by decide +kernel
theorem dX9_countBehind_46 : decode cX9_countBehind 46 = .ok (.goto (-42), 3) := by decide +kernel
theorem dX9_countBehind_49 : decode cX9_countBehind 49 = .ok (.iload_n 2, 1) := by decide +kernel
theorem dX9_countBehind_50 : decode cX9_countBehind 50 = .ok (.ireturn, 1) := by decide +kernel
theorem dX9_behind_0 : decode cX9_behind 0 = .ok (.aload_n 0, 1) := by decide +kernel
theorem dX9_behind_1 : decode cX9_behind 1 = .ok (.iload_n 1, 1) := by decide +kernel
theorem dX9_behind_2 : decode cX9_behind 2 = .ok (.invokevirtual 180, 3) := by decide +kernel
theorem dX9_behind_5 : decode cX9_behind 5 = .ok (.ifCond .eq 7, 3) := by decide +kernel
theorem dX9_behind_8 : decode cX9_behind 8 = .ok (.iconst 0, 1) := by decide +kernel
theorem dX9_behind_9 : decode cX9_behind 9 = .ok (.goto 8, 3) := by decide +kernel
theorem dX9_behind_12 : decode cX9_behind 12 = .ok (.aload_n 0, 1) := by decide +kernel
theorem dX9_behind_13 : decode cX9_behind 13 = .ok (.iload_n 1, 1) := by decide +kernel
theorem dX9_behind_14 : decode cX9_behind 14 = .ok (.invokevirtual 186, 3) := by decide +kernel
theorem dX9_behind_17 : decode cX9_behind 17 = .ok (.ireturn, 1) := by decide +kernel
theorem dX9_gain_0 : decode cX9_gain 0 = .ok (.aload_n 0, 1) := by decide +kernel
theorem dX9_gain_1 : decode cX9_gain 1 = .ok (.getfield 119, 3) := by decide +kernel
theorem dX9_gain_4 : decode cX9_gain 4 = .ok (.bipush 96, 2) := by decide +kernel
theorem dX9_gain_6 : decode cX9_gain 6 = .ok (.iload_n 1, 1) := by decide +kernel
theorem dX9_gain_7 : decode cX9_gain 7 = .ok (.imul, 1) := by decide +kernel
theorem dX9_gain_8 : decode cX9_gain 8 = .ok (.iload_n 2, 1) := by decide +kernel
theorem dX9_gain_9 : decode cX9_gain 9 = .ok (.iadd, 1) := by decide +kernel
theorem dX9_gain_10 : decode cX9_gain 10 = .ok (.iaload, 1) := by decide +kernel
theorem dX9_gain_11 : decode cX9_gain 11 = .ok (.aload_n 0, 1) := by decide +kernel
theorem dX9_gain_12 : decode cX9_gain 12 = .ok (.getfield 122, 3) := by decide +kernel
theorem dX9_gain_15 : decode cX9_gain 15 = .ok (.iload_n 2, 1) := by decide +kernel
theorem dX9_gain_16 : decode cX9_gain 16 = .ok (.iaload, 1) := by decide +kernel
theorem dX9_gain_17 : decode cX9_gain 17 = .ok (.if_icmp .ne 7, 3) := by decide +kernel
theorem dX9_gain_20 : decode cX9_gain 20 = .ok (.iconst 1, 1) := by decide +kernel
theorem dX9_gain_21 : decode cX9_gain 21 = .ok (.goto 4, 3) := by decide +kernel
theorem dX9_gain_24 : decode cX9_gain 24 = .ok (.iconst 0, 1) := by decide +kernel
theorem dX9_gain_25 : decode cX9_gain 25 = .ok (.istore 4, 2) := by decide +kernel
theorem dX9_gain_27 : decode cX9_gain 27 = .ok (.iload_n 3, 1) := by decide +kernel
theorem dX9_gain_28 : decode cX9_gain 28 = .ok (.aload_n 0, 1) := by decide +kernel
theorem dX9_gain_29 : decode cX9_gain 29 = .ok (.getfield 122, 3) := by decide +kernel
theorem dX9_gain_32 : decode cX9_gain 32 = .ok (.iload_n 2, 1) := by decide +kernel
theorem dX9_gain_33 : decode cX9_gain 33 = .ok (.iaload, 1) := by decide +kernel
theorem dX9_gain_34 : decode cX9_gain 34 = .ok (.if_icmp .ne 7, 3) := by decide +kernel
theorem dX9_gain_37 : decode cX9_gain 37 = .ok (.iconst 1, 1) := by decide +kernel
theorem dX9_gain_38 : decode cX9_gain 38 = .ok (.goto 4, 3) := by decide +kernel
theorem dX9_gain_41 : decode cX9_gain 41 = .ok (.iconst 0, 1) := by decide +kernel
theorem dX9_gain_42 : decode cX9_gain 42 = .ok (.istore 5, 2) := by decide +kernel
theorem dX9_gain_44 : decode cX9_gain 44 = .ok (.iload 4, 2) := by decide +kernel
theorem dX9_gain_46 : decode cX9_gain 46 = .ok (.iload 5, 2) := by decide +kernel
theorem dX9_gain_48 : decode cX9_gain 48 = .ok (.if_icmp .ne 7, 3) := by decide +kernel
theorem dX9_gain_51 : decode cX9_gain 51 = .ok (.iconst 0, 1) := by decide +kernel
theorem dX9_gain_52 : decode cX9_gain 52 = .ok (.goto 13, 3) := by decide +kernel
theorem dX9_gain_55 : decode cX9_gain 55 = .ok (.iload 5, 2) := by decide +kernel
theorem dX9_gain_57 : decode cX9_gain 57 = .ok (.ifCond .eq 7, 3) := by decide +kernel
theorem dX9_gain_60 : decode cX9_gain 60 = .ok (.iconst 1, 1) := by decide +kernel
theorem dX9_gain_61 : decode cX9_gain 61 = .ok (.goto 4, 3) := by decide +kernel
theorem dX9_gain_64 : decode cX9_gain 64 = .ok (.iconst (-1), 1) := by decide +kernel
theorem dX9_gain_65 : decode cX9_gain 65 = .ok (.ireturn, 1) := by decide +kernel
theorem dX9_tries_0 : decode cX9_tries 0 = .ok (.aload_n 0, 1) := by decide +kernel
theorem dX9_tries_1 : decode cX9_tries 1 = .ok (.getfield 190, 3) := by decide +kernel
theorem dX9_tries_4 : decode cX9_tries 4 = .ok (.ifCond .eq 18, 3) := by decide +kernel
theorem dX9_tries_7 : decode cX9_tries 7 = .ok (.iload_n 3, 1) := by decide +kernel
theorem dX9_tries_8 : decode cX9_tries 8 = .ok (.aload_n 0, 1) := by decide +kernel
theorem dX9_tries_9 : decode cX9_tries 9 = .ok (.getfield 190, 3) := by decide +kernel
theorem dX9_tries_12 : decode cX9_tries 12 = .ok (.imul, 1) := by decide +kernel
theorem dX9_tries_13 : decode cX9_tries 13 = .ok (.aload_n 0, 1) := by decide +kernel
theorem dX9_tries_14 : decode cX9_tries 14 = .ok (.getfield 193, 3) := by decide +kernel
theorem dX9_tries_17 : decode cX9_tries 17 = .ok (.iload_n 2, 1) := by decide +kernel
theorem dX9_tries_18 : decode cX9_tries 18 = .ok (.imul, 1) := by decide +kernel
theorem dX9_tries_19 : decode cX9_tries 19 = .ok (.if_icmp .le 36, 3) := by decide +kernel
theorem dX9_tries_22 : decode cX9_tries 22 = .ok (.aload_n 0, 1) := by decide +kernel
theorem dX9_tries_23 : decode cX9_tries 23 = .ok (.iload_n 1, 1) := by decide +kernel
theorem dX9_tries_24 : decode cX9_tries 24 = .ok (.putfield 196, 3) := by decide +kernel
theorem dX9_tries_27 : decode cX9_tries 27 = .ok (.aload_n 0, 1) := by decide +kernel
theorem dX9_tries_28 : decode cX9_tries 28 = .ok (.iload_n 2, 1) := by decide +kernel
theorem dX9_tries_29 : decode cX9_tries 29 = .ok (.putfield 190, 3) := by decide +kernel
theorem dX9_tries_32 : decode cX9_tries 32 = .ok (.aload_n 0, 1) := by decide +kernel
theorem dX9_tries_33 : decode cX9_tries 33 = .ok (.iload_n 3, 1) := by decide +kernel
theorem dX9_tries_34 : decode cX9_tries 34 = .ok (.putfield 193, 3) := by decide +kernel
theorem dX9_tries_37 : decode cX9_tries 37 = .ok (.aload_n 0, 1) := by decide +kernel
theorem dX9_tries_38 : decode cX9_tries 38 = .ok (.iload 4, 2) := by decide +kernel
theorem dX9_tries_40 : decode cX9_tries 40 = .ok (.putfield 200, 3) := by decide +kernel
theorem dX9_tries_43 : decode cX9_tries 43 = .ok (.aload_n 0, 1) := by decide +kernel
theorem dX9_tries_44 : decode cX9_tries 44 = .ok (.iload 5, 2) := by decide +kernel
theorem dX9_tries_46 : decode cX9_tries 46 = .ok (.putfield 203, 3) := by decide +kernel
theorem dX9_tries_49 : decode cX9_tries 49 = .ok (.aload_n 0, 1) := by decide +kernel
theorem dX9_tries_50 : decode cX9_tries 50 = .ok (.iload 6, 2) := by decide +kernel
theorem dX9_tries_52 : decode cX9_tries 52 = .ok (.putfield 206, 3) := by decide +kernel
theorem dX9_tries_55 : decode cX9_tries 55 = .ok (.return_, 1) := by decide +kernel
theorem dX9_isWithin_0 : decode cX9_isWithin 0 = .ok (.iload_n 0, 1) := by decide +kernel
theorem dX9_isWithin_1 : decode cX9_isWithin 1 = .ok (.ifCond .lt 27, 3) := by decide +kernel
theorem dX9_isWithin_4 : decode cX9_isWithin 4 = .ok (.iload_n 1, 1) := by decide +kernel
theorem dX9_isWithin_5 : decode cX9_isWithin 5 = .ok (.ifCond .lt 23, 3) := by decide +kernel
theorem dX9_isWithin_8 : decode cX9_isWithin 8 = .ok (.iload_n 0, 1) := by decide +kernel
theorem dX9_isWithin_9 : decode cX9_isWithin 9 = .ok (.iload_n 2, 1) := by decide +kernel
theorem dX9_isWithin_10 : decode cX9_isWithin 10 = .ok (.iadd, 1) := by decide +kernel
theorem dX9_isWithin_11 : decode cX9_isWithin 11 = .ok (.bipush 12, 2) := by decide +kernel
theorem dX9_isWithin_13 : decode cX9_isWithin 13 = .ok (.if_icmp .gt 15, 3) := by decide +kernel
theorem dX9_isWithin_16 : decode cX9_isWithin 16 = .ok (.iload_n 1, 1) := by decide +kernel
theorem dX9_isWithin_17 : decode cX9_isWithin 17 = .ok (.iload_n 3, 1) := by decide +kernel
theorem dX9_isWithin_18 : decode cX9_isWithin 18 = .ok (.iadd, 1) := by decide +kernel
theorem dX9_isWithin_19 : decode cX9_isWithin 19 = .ok (.bipush 8, 2) := by decide +kernel
theorem dX9_isWithin_21 : decode cX9_isWithin 21 = .ok (.if_icmp .gt 7, 3) := by decide +kernel
theorem dX9_isWithin_24 : decode cX9_isWithin 24 = .ok (.iconst 1, 1) := by decide +kernel
theorem dX9_isWithin_25 : decode cX9_isWithin 25 = .ok (.goto 4, 3) := by decide +kernel
theorem dX9_isWithin_28 : decode cX9_isWithin 28 = .ok (.iconst 0, 1) := by decide +kernel
theorem dX9_isWithin_29 : decode cX9_isWithin 29 = .ok (.ireturn, 1) := by decide +kernel
theorem dX9_triesCopies_0 : decode cX9_triesCopies 0 = .ok (.iconst 0, 1) := by decide +kernel
theorem dX9_triesCopies_1 : decode cX9_triesCopies 1 = .ok (.istore_n 3, 1) := by decide +kernel
theorem dX9_triesCopies_2 : decode cX9_triesCopies 2 = .ok (.iload_n 3, 1) := by decide +kernel
theorem dX9_triesCopies_3 : decode cX9_triesCopies 3 = .ok (.bipush 25, 2) := by decide +kernel
theorem dX9_triesCopies_5 : decode cX9_triesCopies 5 = .ok (.if_icmp .ge 197, 3) := by decide +kernel
theorem dX9_triesCopies_8 : decode cX9_triesCopies 8 = .ok (.iload_n 3, 1) := by decide +kernel
theorem dX9_triesCopies_9 : decode cX9_triesCopies 9 = .ok (.iconst 5, 1) := by decide +kernel
theorem dX9_triesCopies_10 : decode cX9_triesCopies 10 = .ok (.idiv, 1) := by decide +kernel
theorem dX9_triesCopies_11 : decode cX9_triesCopies 11 = .ok (.iconst 2, 1) := by decide +kernel
theorem dX9_triesCopies_12 : decode cX9_triesCopies 12 = .ok (.isub, 1) := by decide +kernel
theorem dX9_triesCopies_13 : decode cX9_triesCopies 13 = .ok (.bipush 12, 2) := by decide +kernel
theorem dX9_triesCopies_15 : decode cX9_triesCopies 15 = .ok (.imul, 1) := by decide +kernel
theorem dX9_triesCopies_16 : decode cX9_triesCopies 16 = .ok (.iload_n 3, 1) := by decide +kernel
theorem dX9_triesCopies_17 : decode cX9_triesCopies 17 = .ok (.iconst 5, 1) := by decide +kernel
theorem dX9_triesCopies_18 : decode cX9_triesCopies 18 = .ok (.irem, 1) := by decide +kernel
theorem dX9_triesCopies_19 : decode cX9_triesCopies 19 = .ok (.iadd, 1) := by decide +kernel
theorem dX9_triesCopies_20 : decode cX9_triesCopies 20 = .ok (.iconst 2, 1) := by decide +kernel
theorem dX9_triesCopies_21 : decode cX9_triesCopies 21 = .ok (.isub, 1) := by decide +kernel
theorem dX9_triesCopies_22 : decode cX9_triesCopies 22 = .ok (.istore 4, 2) := by decide +kernel
theorem dX9_triesCopies_24 : decode cX9_triesCopies 24 = .ok (.iconst 2, 1) := by decide +kernel
theorem dX9_triesCopies_25 : decode cX9_triesCopies 25 = .ok (.istore 5, 2) := by decide +kernel
theorem dX9_triesCopies_27 : decode cX9_triesCopies 27 = .ok (.iload_n 3, 1) := by decide +kernel
theorem dX9_triesCopies_28 : decode cX9_triesCopies 28 = .ok (.bipush 12, 2) := by decide +kernel
theorem dX9_triesCopies_30 : decode cX9_triesCopies 30 = .ok (.if_icmp .eq 166, 3) := by decide +kernel
theorem dX9_triesCopies_33 : decode cX9_triesCopies 33 = .ok (.iload 5, 2) := by decide +kernel
theorem dX9_triesCopies_35 : decode cX9_triesCopies 35 = .ok (.bipush 6, 2) := by decide +kernel
theorem dX9_triesCopies_37 : decode cX9_triesCopies 37 = .ok (.if_icmp .gt 159, 3) := by decide +kernel
theorem dX9_triesCopies_40 : decode cX9_triesCopies 40 = .ok (.iconst 1, 1) := by decide +kernel
theorem dX9_triesCopies_41 : decode cX9_triesCopies 41 = .ok (.istore 6, 2) := by decide +kernel
theorem dX9_triesCopies_43 : decode cX9_triesCopies 43 = .ok (.iload 6, 2) := by decide +kernel
theorem dX9_triesCopies_45 : decode cX9_triesCopies 45 = .ok (.iconst 4, 1) := by decide +kernel
theorem dX9_triesCopies_46 : decode cX9_triesCopies 46 = .ok (.if_icmp .gt 144, 3) := by decide +kernel
theorem dX9_triesCopies_49 : decode cX9_triesCopies 49 = .ok (.iload_n 2, 1) := by decide +kernel
theorem dX9_triesCopies_50 : decode cX9_triesCopies 50 = .ok (.bipush 12, 2) := by decide +kernel
theorem dX9_triesCopies_52 : decode cX9_triesCopies 52 = .ok (.irem, 1) := by decide +kernel
theorem dX9_triesCopies_53 : decode cX9_triesCopies 53 = .ok (.istore 7, 2) := by decide +kernel
theorem dX9_triesCopies_55 : decode cX9_triesCopies 55 = .ok (.iload_n 2, 1) := by decide +kernel
theorem dX9_triesCopies_56 : decode cX9_triesCopies 56 = .ok (.bipush 12, 2) := by decide +kernel
theorem dX9_triesCopies_58 : decode cX9_triesCopies 58 = .ok (.idiv, 1) := by decide +kernel
theorem dX9_triesCopies_59 : decode cX9_triesCopies 59 = .ok (.istore 8, 2) := by decide +kernel
theorem dX9_triesCopies_61 : decode cX9_triesCopies 61 = .ok (.iload 7, 2) := by decide +kernel
theorem dX9_triesCopies_63 : decode cX9_triesCopies 63 = .ok (.iload 8, 2) := by decide +kernel
theorem dX9_triesCopies_65 : decode cX9_triesCopies 65 = .ok (.iload 5, 2) := by decide +kernel
theorem dX9_triesCopies_67 : decode cX9_triesCopies 67 = .ok (.iload 6, 2) := by decide +kernel
theorem dX9_triesCopies_69 : decode cX9_triesCopies 69 = .ok (.invokestatic 209, 3) := by decide +kernel
theorem dX9_triesCopies_72 : decode cX9_triesCopies 72 = .ok (.ifCond .eq 112, 3) := by decide +kernel
theorem dX9_triesCopies_75 : decode cX9_triesCopies 75 = .ok (.iload 7, 2) := by decide +kernel
theorem dX9_triesCopies_77 : decode cX9_triesCopies 77 = .ok (.iload_n 3, 1) := by decide +kernel
theorem dX9_triesCopies_78 : decode cX9_triesCopies 78 = .ok (.iconst 5, 1) := by decide +kernel
theorem dX9_triesCopies_79 : decode cX9_triesCopies 79 = .ok (.irem, 1) := by decide +kernel
theorem dX9_triesCopies_80 : decode cX9_triesCopies 80 = .ok (.iadd, 1) := by decide +kernel
theorem dX9_triesCopies_81 : decode cX9_triesCopies 81 = .ok (.iconst 2, 1) := by decide +kernel
theorem dX9_triesCopies_82 : decode cX9_triesCopies 82 = .ok (.isub, 1) := by decide +kernel
theorem dX9_triesCopies_83 : decode cX9_triesCopies 83 = .ok (.iload 8, 2) := by decide +kernel
theorem dX9_triesCopies_85 : decode cX9_triesCopies 85 = .ok (.iload_n 3, 1) := by decide +kernel
theorem dX9_triesCopies_86 : decode cX9_triesCopies 86 = .ok (.iconst 5, 1) := by decide +kernel
theorem dX9_triesCopies_87 : decode cX9_triesCopies 87 = .ok (.idiv, 1) := by decide +kernel
theorem dX9_triesCopies_88 : decode cX9_triesCopies 88 = .ok (.iadd, 1) := by decide +kernel
theorem dX9_triesCopies_89 : decode cX9_triesCopies 89 = .ok (.iconst 2, 1) := by decide +kernel
theorem dX9_triesCopies_90 : decode cX9_triesCopies 90 = .ok (.isub, 1) := by decide +kernel
theorem dX9_triesCopies_91 : decode cX9_triesCopies 91 = .ok (.iload 5, 2) := by decide +kernel
theorem dX9_triesCopies_93 : decode cX9_triesCopies 93 = .ok (.iload 6, 2) := by decide +kernel
theorem dX9_triesCopies_95 : decode cX9_triesCopies 95 = .ok (.invokestatic 209, 3) := by decide +kernel
theorem dX9_triesCopies_98 : decode cX9_triesCopies 98 = .ok (.ifCond .eq 86, 3) := by decide +kernel
theorem dX9_triesCopies_101 : decode cX9_triesCopies 101 = .ok (.iconst 0, 1) := by decide +kernel
theorem dX9_triesCopies_102 : decode cX9_triesCopies 102 = .ok (.istore 9, 2) := by decide +kernel
theorem dX9_triesCopies_104 : decode cX9_triesCopies 104 = .ok (.iconst 0, 1) := by decide +kernel
theorem dX9_triesCopies_105 : decode cX9_triesCopies 105 = .ok (.istore 10, 2) := by decide +kernel
theorem dX9_triesCopies_107 : decode cX9_triesCopies 107 = .ok (.iload 10, 2) := by decide +kernel
theorem dX9_triesCopies_109 : decode cX9_triesCopies 109 = .ok (.iload 5, 2) := by decide +kernel
theorem dX9_triesCopies_111 : decode cX9_triesCopies 111 = .ok (.iload 6, 2) := by decide +kernel
theorem dX9_triesCopies_113 : decode cX9_triesCopies 113 = .ok (.imul, 1) := by decide +kernel
theorem dX9_triesCopies_114 : decode cX9_triesCopies 114 = .ok (.if_icmp .ge 54, 3) := by decide +kernel
theorem dX9_triesCopies_117 : decode cX9_triesCopies 117 = .ok (.iload_n 2, 1) := by decide +kernel
theorem dX9_triesCopies_118 : decode cX9_triesCopies 118 = .ok (.iload 10, 2) := by decide +kernel
theorem dX9_triesCopies_120 : decode cX9_triesCopies 120 = .ok (.iload 5, 2) := by decide +kernel
theorem dX9_triesCopies_122 : decode cX9_triesCopies 122 = .ok (.idiv, 1) := by decide +kernel
theorem dX9_triesCopies_123 : decode cX9_triesCopies 123 = .ok (.bipush 12, 2) := by decide +kernel
theorem dX9_triesCopies_125 : decode cX9_triesCopies 125 = .ok (.imul, 1) := by decide +kernel
theorem dX9_triesCopies_126 : decode cX9_triesCopies 126 = .ok (.iadd, 1) := by decide +kernel
theorem dX9_triesCopies_127 : decode cX9_triesCopies 127 = .ok (.iload 10, 2) := by decide +kernel
theorem dX9_triesCopies_129 : decode cX9_triesCopies 129 = .ok (.iload 5, 2) := by decide +kernel
theorem dX9_triesCopies_131 : decode cX9_triesCopies 131 = .ok (.irem, 1) := by decide +kernel
