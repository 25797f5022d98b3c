theorem dX9_triesCopies_132 : decode cX9_triesCopies 132 = .ok (.iadd, 1) := by decide +kernel
theorem dX9_triesCopies_133 : decode cX9_triesCopies 133 = .ok (.istore 11, 2) := by decide +kernel
theorem dX9_triesCopies_135 : decode cX9_triesCopies 135 = .ok (.iload 9, 2) := by decide +kernel
theorem dX9_triesCopies_137 : decode cX9_triesCopies 137 = .ok (.aload_n 0, 1) := by decide +kernel
theorem dX9_triesCopies_138 : decode cX9_triesCopies 138 = .ok (.iload_n 1, 1) := by decide +kernel
theorem dX9_triesCopies_139 : decode cX9_triesCopies 139 = .ok (.iload 11, 2) := by decide +kernel
theorem dX9_triesCopies_141 : decode cX9_triesCopies 141 = .ok (.aload_n 0, 1) := by decide +kernel
theorem dX9_triesCopies_142 : decode cX9_triesCopies 142 = .ok (.getfield 119, 3) := by decide +kernel
theorem dX9_triesCopies_145 : decode cX9_triesCopies 145 = .ok (.bipush 96, 2) := by decide +kernel
theorem dX9_triesCopies_147 : decode cX9_triesCopies 147 = .ok (.iload_n 1, 1) := by decide +kernel
theorem dX9_triesCopies_148 : decode cX9_triesCopies 148 = .ok (.imul, 1) := by decide +kernel
theorem dX9_triesCopies_149 : decode cX9_triesCopies 149 = .ok (.iload 11, 2) := by decide +kernel
theorem dX9_triesCopies_151 : decode cX9_triesCopies 151 = .ok (.iadd, 1) := by decide +kernel
theorem dX9_triesCopies_152 : decode cX9_triesCopies 152 = .ok (.iload 4, 2) := by decide +kernel
theorem dX9_triesCopies_154 : decode cX9_triesCopies 154 = .ok (.iadd, 1) := by decide +kernel
theorem dX9_triesCopies_155 : decode cX9_triesCopies 155 = .ok (.iaload, 1) := by decide +kernel
theorem dX9_triesCopies_156 : decode cX9_triesCopies 156 = .ok (.invokevirtual 213, 3) := by decide +kernel
theorem dX9_triesCopies_159 : decode cX9_triesCopies 159 = .ok (.iadd, 1) := by decide +kernel
theorem dX9_triesCopies_160 : decode cX9_triesCopies 160 = .ok (.istore 9, 2) := by decide +kernel
theorem dX9_triesCopies_162 : decode cX9_triesCopies 162 = .ok (.iinc 10 1, 3) := by decide +kernel
theorem dX9_triesCopies_165 : decode cX9_triesCopies 165 = .ok (.goto (-58), 3) := by decide +kernel
theorem dX9_triesCopies_168 : decode cX9_triesCopies 168 = .ok (.aload_n 0, 1) := by decide +kernel
theorem dX9_triesCopies_169 : decode cX9_triesCopies 169 = .ok (.bipush 99, 2) := by decide +kernel
theorem dX9_triesCopies_171 : decode cX9_triesCopies 171 = .ok (.bipush 6, 2) := by decide +kernel
theorem dX9_triesCopies_173 : decode cX9_triesCopies 173 = .ok (.iload 9, 2) := by decide +kernel
theorem dX9_triesCopies_175 : decode cX9_triesCopies 175 = .ok (.iload 5, 2) := by decide +kernel
theorem dX9_triesCopies_177 : decode cX9_triesCopies 177 = .ok (.iload 6, 2) := by decide +kernel
theorem dX9_triesCopies_179 : decode cX9_triesCopies 179 = .ok (.iload 4, 2) := by decide +kernel
theorem dX9_triesCopies_181 : decode cX9_triesCopies 181 = .ok (.invokevirtual 217, 3) := by decide +kernel
theorem dX9_triesCopies_184 : decode cX9_triesCopies 184 = .ok (.iinc 6 1, 3) := by decide +kernel
theorem dX9_triesCopies_187 : decode cX9_triesCopies 187 = .ok (.goto (-144), 3) := by decide +kernel
theorem dX9_triesCopies_190 : decode cX9_triesCopies 190 = .ok (.iinc 5 1, 3) := by decide +kernel
theorem dX9_triesCopies_193 : decode cX9_triesCopies 193 = .ok (.goto (-166), 3) := by decide +kernel
theorem dX9_triesCopies_196 : decode cX9_triesCopies 196 = .ok (.iinc 3 1, 3) := by decide +kernel
theorem dX9_triesCopies_199 : decode cX9_triesCopies 199 = .ok (.goto (-197), 3) := by decide +kernel
theorem dX9_triesCopies_202 : decode cX9_triesCopies 202 = .ok (.return_, 1) := by decide +kernel
theorem dX9_triesFills_0 : decode cX9_triesFills 0 = .ok (.iconst 1, 1) := by decide +kernel
theorem dX9_triesFills_1 : decode cX9_triesFills 1 = .ok (.istore_n 3, 1) := by decide +kernel
theorem dX9_triesFills_2 : decode cX9_triesFills 2 = .ok (.iload_n 3, 1) := by decide +kernel
theorem dX9_triesFills_3 : decode cX9_triesFills 3 = .ok (.bipush 12, 2) := by decide +kernel
theorem dX9_triesFills_5 : decode cX9_triesFills 5 = .ok (.if_icmp .gt 106, 3) := by decide +kernel
theorem dX9_triesFills_8 : decode cX9_triesFills 8 = .ok (.iconst 1, 1) := by decide +kernel
theorem dX9_triesFills_9 : decode cX9_triesFills 9 = .ok (.istore 4, 2) := by decide +kernel
theorem dX9_triesFills_11 : decode cX9_triesFills 11 = .ok (.iload 4, 2) := by decide +kernel
theorem dX9_triesFills_13 : decode cX9_triesFills 13 = .ok (.bipush 8, 2) := by decide +kernel
theorem dX9_triesFills_15 : decode cX9_triesFills 15 = .ok (.if_icmp .gt 90, 3) := by decide +kernel
theorem dX9_triesFills_18 : decode cX9_triesFills 18 = .ok (.iload_n 2, 1) := by decide +kernel
theorem dX9_triesFills_19 : decode cX9_triesFills 19 = .ok (.bipush 12, 2) := by decide +kernel
theorem dX9_triesFills_21 : decode cX9_triesFills 21 = .ok (.irem, 1) := by decide +kernel
theorem dX9_triesFills_22 : decode cX9_triesFills 22 = .ok (.iload_n 2, 1) := by decide +kernel
theorem dX9_triesFills_23 : decode cX9_triesFills 23 = .ok (.bipush 12, 2) := by decide +kernel
theorem dX9_triesFills_25 : decode cX9_triesFills 25 = .ok (.idiv, 1) := by decide +kernel
theorem dX9_triesFills_26 : decode cX9_triesFills 26 = .ok (.iload_n 3, 1) := by decide +kernel
theorem dX9_triesFills_27 : decode cX9_triesFills 27 = .ok (.iload 4, 2) := by decide +kernel
theorem dX9_triesFills_29 : decode cX9_triesFills 29 = .ok (.invokestatic 209, 3) := by decide +kernel
theorem dX9_triesFills_32 : decode cX9_triesFills 32 = .ok (.ifCond .eq 67, 3) := by decide +kernel
theorem dX9_triesFills_35 : decode cX9_triesFills 35 = .ok (.iconst 0, 1) := by decide +kernel
theorem dX9_triesFills_36 : decode cX9_triesFills 36 = .ok (.istore 5, 2) := by decide +kernel
theorem dX9_triesFills_38 : decode cX9_triesFills 38 = .ok (.iconst 0, 1) := by decide +kernel
theorem dX9_triesFills_39 : decode cX9_triesFills 39 = .ok (.istore 6, 2) := by decide +kernel
theorem dX9_triesFills_41 : decode cX9_triesFills 41 = .ok (.iload 6, 2) := by decide +kernel
theorem dX9_triesFills_43 : decode cX9_triesFills 43 = .ok (.iload_n 3, 1) := by decide +kernel
theorem dX9_triesFills_44 : decode cX9_triesFills 44 = .ok (.iload 4, 2) := by decide +kernel
theorem dX9_triesFills_46 : decode cX9_triesFills 46 = .ok (.imul, 1) := by decide +kernel
theorem dX9_triesFills_47 : decode cX9_triesFills 47 = .ok (.if_icmp .ge 39, 3) := by decide +kernel
theorem dX9_triesFills_50 : decode cX9_triesFills 50 = .ok (.iload 5, 2) := by decide +kernel
theorem dX9_triesFills_52 : decode cX9_triesFills 52 = .ok (.aload_n 0, 1) := by decide +kernel
theorem dX9_triesFills_53 : decode cX9_triesFills 53 = .ok (.iload_n 1, 1) := by decide +kernel
theorem dX9_triesFills_54 : decode cX9_triesFills 54 = .ok (.iload_n 2, 1) := by decide +kernel
theorem dX9_triesFills_55 : decode cX9_triesFills 55 = .ok (.iload 6, 2) := by decide +kernel
theorem dX9_triesFills_57 : decode cX9_triesFills 57 = .ok (.iload_n 3, 1) := by decide +kernel
theorem dX9_triesFills_58 : decode cX9_triesFills 58 = .ok (.idiv, 1) := by decide +kernel
theorem dX9_triesFills_59 : decode cX9_triesFills 59 = .ok (.bipush 12, 2) := by decide +kernel
theorem dX9_triesFills_61 : decode cX9_triesFills 61 = .ok (.imul, 1) := by decide +kernel
theorem dX9_triesFills_62 : decode cX9_triesFills 62 = .ok (.iadd, 1) := by decide +kernel
theorem dX9_triesFills_63 : decode cX9_triesFills 63 = .ok (.iload 6, 2) := by decide +kernel
theorem dX9_triesFills_65 : decode cX9_triesFills 65 = .ok (.iload_n 3, 1) := by decide +kernel
theorem dX9_triesFills_66 : decode cX9_triesFills 66 = .ok (.irem, 1) := by decide +kernel
theorem dX9_triesFills_67 : decode cX9_triesFills 67 = .ok (.iadd, 1) := by decide +kernel
theorem dX9_triesFills_68 : decode cX9_triesFills 68 = .ok (.aload_n 0, 1) := by decide +kernel
theorem dX9_triesFills_69 : decode cX9_triesFills 69 = .ok (.getfield 122, 3) := by decide +kernel
theorem dX9_triesFills_72 : decode cX9_triesFills 72 = .ok (.iload_n 2, 1) := by decide +kernel
theorem dX9_triesFills_73 : decode cX9_triesFills 73 = .ok (.iaload, 1) := by decide +kernel
theorem dX9_triesFills_74 : decode cX9_triesFills 74 = .ok (.invokevirtual 213, 3) := by decide +kernel
theorem dX9_triesFills_77 : decode cX9_triesFills 77 = .ok (.iadd, 1) := by decide +kernel
theorem dX9_triesFills_78 : decode cX9_triesFills 78 = .ok (.istore 5, 2) := by decide +kernel
theorem dX9_triesFills_80 : decode cX9_triesFills 80 = .ok (.iinc 6 1, 3) := by decide +kernel
theorem dX9_triesFills_83 : decode cX9_triesFills 83 = .ok (.goto (-42), 3) := by decide +kernel
theorem dX9_triesFills_86 : decode cX9_triesFills 86 = .ok (.aload_n 0, 1) := by decide +kernel
theorem dX9_triesFills_87 : decode cX9_triesFills 87 = .ok (.bipush 102, 2) := by decide +kernel
theorem dX9_triesFills_89 : decode cX9_triesFills 89 = .ok (.iconst 5, 1) := by decide +kernel
theorem dX9_triesFills_90 : decode cX9_triesFills 90 = .ok (.iload 5, 2) := by decide +kernel
theorem dX9_triesFills_92 : decode cX9_triesFills 92 = .ok (.iload_n 3, 1) := by decide +kernel
theorem dX9_triesFills_93 : decode cX9_triesFills 93 = .ok (.iload 4, 2) := by decide +kernel
theorem dX9_triesFills_95 : decode cX9_triesFills 95 = .ok (.iconst 0, 1) := by decide +kernel
theorem dX9_triesFills_96 : decode cX9_triesFills 96 = .ok (.invokevirtual 217, 3) := by decide +kernel
theorem dX9_triesFills_99 : decode cX9_triesFills 99 = .ok (.iinc 4 1, 3) := by decide +kernel
theorem dX9_triesFills_102 : decode cX9_triesFills 102 = .ok (.goto (-91), 3) := by decide +kernel
theorem dX9_triesFills_105 : decode cX9_triesFills 105 = .ok (.iinc 3 1, 3) := by decide +kernel
theorem dX9_triesFills_108 : decode cX9_triesFills 108 = .ok (.goto (-106), 3) := by decide +kernel
theorem dX9_triesFills_111 : decode cX9_triesFills 111 = .ok (.return_, 1) := by decide +kernel
theorem dX9_finds_0 : decode cX9_finds 0 = .ok (.aload_n 0, 1) := by decide +kernel
theorem dX9_finds_1 : decode cX9_finds 1 = .ok (.aload_n 0, 1) := by decide +kernel
theorem dX9_finds_2 : decode cX9_finds 2 = .ok (.getfield 104, 3) := by decide +kernel
theorem dX9_finds_5 : decode cX9_finds 5 = .ok (.iload_n 1, 1) := by decide +kernel
theorem dX9_finds_6 : decode cX9_finds 6 = .ok (.iaload, 1) := by decide +kernel
theorem dX9_finds_7 : decode cX9_finds 7 = .ok (.invokevirtual 167, 3) := by decide +kernel
theorem dX9_finds_10 : decode cX9_finds 10 = .ok (.aload_n 0, 1) := by decide +kernel
theorem dX9_finds_11 : decode cX9_finds 11 = .ok (.iconst 0, 1) := by decide +kernel
theorem dX9_finds_12 : decode cX9_finds 12 = .ok (.putfield 190, 3) := by decide +kernel
theorem dX9_finds_15 : decode cX9_finds 15 = .ok (.iconst 0, 1) := by decide +kernel
theorem dX9_finds_16 : decode cX9_finds 16 = .ok (.istore_n 2, 1) := by decide +kernel
theorem dX9_finds_17 : decode cX9_finds 17 = .ok (.iload_n 2, 1) := by decide +kernel
theorem dX9_finds_18 : decode cX9_finds 18 = .ok (.bipush 96, 2) := by decide +kernel
theorem dX9_finds_20 : decode cX9_finds 20 = .ok (.if_icmp .ge 29, 3) := by decide +kernel
theorem dX9_finds_23 : decode cX9_finds 23 = .ok (.aload_n 0, 1) := by decide +kernel
theorem dX9_finds_24 : decode cX9_finds 24 = .ok (.getfield 119, 3) := by decide +kernel
theorem dX9_finds_27 : decode cX9_finds 27 = .ok (.bipush 96, 2) := by decide +kernel
theorem dX9_finds_29 : decode cX9_finds 29 = .ok (.iload_n 1, 1) := by decide +kernel
theorem dX9_finds_30 : decode cX9_finds 30 = .ok (.imul, 1) := by decide +kernel
theorem dX9_finds_31 : decode cX9_finds 31 = .ok (.iload_n 2, 1) := by decide +kernel
theorem dX9_finds_32 : decode cX9_finds 32 = .ok (.iadd, 1) := by decide +kernel
theorem dX9_finds_33 : decode cX9_finds 33 = .ok (.iaload, 1) := by decide +kernel
theorem dX9_finds_34 : decode cX9_finds 34 = .ok (.aload_n 0, 1) := by decide +kernel
theorem dX9_finds_35 : decode cX9_finds 35 = .ok (.getfield 122, 3) := by decide +kernel
theorem dX9_finds_38 : decode cX9_finds 38 = .ok (.iload_n 2, 1) := by decide +kernel
theorem dX9_finds_39 : decode cX9_finds 39 = .ok (.iaload, 1) := by decide +kernel
theorem dX9_finds_40 : decode cX9_finds 40 = .ok (.if_icmp .ne 9, 3) := by decide +kernel
theorem dX9_finds_43 : decode cX9_finds 43 = .ok (.iinc 2 1, 3) := by decide +kernel
theorem dX9_finds_46 : decode cX9_finds 46 = .ok (.goto (-29), 3) := by decide +kernel
theorem dX9_finds_49 : decode cX9_finds 49 = .ok (.iload_n 2, 1) := by decide +kernel
theorem dX9_finds_50 : decode cX9_finds 50 = .ok (.bipush 96, 2) := by decide +kernel
theorem dX9_finds_52 : decode cX9_finds 52 = .ok (.if_icmp .ne 5, 3) := by decide +kernel
theorem dX9_finds_55 : decode cX9_finds 55 = .ok (.iconst 0, 1) := by decide +kernel
theorem dX9_finds_56 : decode cX9_finds 56 = .ok (.ireturn, 1) := by decide +kernel
theorem dX9_finds_57 : decode cX9_finds 57 = .ok (.aload_n 0, 1) := by decide +kernel
theorem dX9_finds_58 : decode cX9_finds 58 = .ok (.iload_n 2, 1) := by decide +kernel
theorem dX9_finds_59 : decode cX9_finds 59 = .ok (.putfield 221, 3) := by decide +kernel
theorem dX9_finds_62 : decode cX9_finds 62 = .ok (.aload_n 0, 1) := by decide +kernel
theorem dX9_finds_63 : decode cX9_finds 63 = .ok (.iload_n 1, 1) := by decide +kernel
theorem dX9_finds_64 : decode cX9_finds 64 = .ok (.iload_n 2, 1) := by decide +kernel
theorem dX9_finds_65 : decode cX9_finds 65 = .ok (.invokevirtual 224, 3) := by decide +kernel
theorem dX9_finds_68 : decode cX9_finds 68 = .ok (.aload_n 0, 1) := by decide +kernel
theorem dX9_finds_69 : decode cX9_finds 69 = .ok (.iload_n 1, 1) := by decide +kernel
theorem dX9_finds_70 : decode cX9_finds 70 = .ok (.iload_n 2, 1) := by decide +kernel
theorem dX9_finds_71 : decode cX9_finds 71 = .ok (.invokevirtual 227, 3) := by decide +kernel
theorem dX9_finds_74 : decode cX9_finds 74 = .ok (.iconst 0, 1) := by decide +kernel
theorem dX9_finds_75 : decode cX9_finds 75 = .ok (.istore_n 3, 1) := by decide +kernel
theorem dX9_finds_76 : decode cX9_finds 76 = .ok (.iload_n 2, 1) := by decide +kernel
theorem dX9_finds_77 : decode cX9_finds 77 = .ok (.bipush 12, 2) := by decide +kernel
theorem dX9_finds_79 : decode cX9_finds 79 = .ok (.irem, 1) := by decide +kernel
theorem dX9_finds_80 : decode cX9_finds 80 = .ok (.iload_n 3, 1) := by decide +kernel
theorem dX9_finds_81 : decode cX9_finds 81 = .ok (.iadd, 1) := by decide +kernel
theorem dX9_finds_82 : decode cX9_finds 82 = .ok (.bipush 12, 2) := by decide +kernel
theorem dX9_finds_84 : decode cX9_finds 84 = .ok (.if_icmp .ge 33, 3) := by decide +kernel
theorem dX9_finds_87 : decode cX9_finds 87 = .ok (.aload_n 0, 1) := by decide +kernel
theorem dX9_finds_88 : decode cX9_finds 88 = .ok (.getfield 119, 3) := by decide +kernel
theorem dX9_finds_91 : decode cX9_finds 91 = .ok (.bipush 96, 2) := by decide +kernel
theorem dX9_finds_93 : decode cX9_finds 93 = .ok (.iload_n 1, 1) := by decide +kernel
theorem dX9_finds_94 : decode cX9_finds 94 = .ok (.imul, 1) := by decide +kernel
theorem dX9_finds_95 : decode cX9_finds 95 = .ok (.iload_n 2, 1) := by decide +kernel
theorem dX9_finds_96 : decode cX9_finds 96 = .ok (.iadd, 1) := by decide +kernel
theorem dX9_finds_97 : decode cX9_finds 97 = .ok (.iload_n 3, 1) := by decide +kernel
theorem dX9_finds_98 : decode cX9_finds 98 = .ok (.iadd, 1) := by decide +kernel
theorem dX9_finds_99 : decode cX9_finds 99 = .ok (.iaload, 1) := by decide +kernel
theorem dX9_finds_100 : decode cX9_finds 100 = .ok (.aload_n 0, 1) := by decide +kernel
theorem dX9_finds_101 : decode cX9_finds 101 = .ok (.getfield 122, 3) := by decide +kernel
theorem dX9_finds_104 : decode cX9_finds 104 = .ok (.iload_n 2, 1) := by decide +kernel
theorem dX9_finds_105 : decode cX9_finds 105 = .ok (.iload_n 3, 1) := by decide +kernel
theorem dX9_finds_106 : decode cX9_finds 106 = .ok (.iadd, 1) := by decide +kernel
theorem dX9_finds_107 : decode cX9_finds 107 = .ok (.iaload, 1) := by decide +kernel
theorem dX9_finds_108 : decode cX9_finds 108 = .ok (.if_icmp .eq 9, 3) := by decide +kernel
theorem dX9_finds_111 : decode cX9_finds 111 = .ok (.iinc 3 1, 3) := by decide +kernel
theorem dX9_finds_114 : decode cX9_finds 114 = .ok (.goto (-38), 3) := by decide +kernel
theorem dX9_finds_117 : decode cX9_finds 117 = .ok (.aload_n 0, 1) := by decide +kernel
theorem dX9_finds_118 : decode cX9_finds 118 = .ok (.bipush 114, 2) := by decide +kernel
theorem dX9_finds_120 : decode cX9_finds 120 = .ok (.iconst 2, 1) := by decide +kernel
theorem dX9_finds_121 : decode cX9_finds 121 = .ok (.iload_n 3, 1) := by decide +kernel
theorem dX9_finds_122 : decode cX9_finds 122 = .ok (.iadd, 1) := by decide +kernel
theorem dX9_finds_123 : decode cX9_finds 123 = .ok (.iload_n 3, 1) := by decide +kernel
theorem dX9_finds_124 : decode cX9_finds 124 = .ok (.iload_n 3, 1) := by decide +kernel
theorem dX9_finds_125 : decode cX9_finds 125 = .ok (.iconst 1, 1) := by decide +kernel
theorem dX9_finds_126 : decode cX9_finds 126 = .ok (.iconst 0, 1) := by decide +kernel
theorem dX9_finds_127 : decode cX9_finds 127 = .ok (.invokevirtual 217, 3) := by decide +kernel
theorem dX9_finds_130 : decode cX9_finds 130 = .ok (.iconst 1, 1) := by decide +kernel
theorem dX9_finds_131 : decode cX9_finds 131 = .ok (.ireturn, 1) := by decide +kernel
theorem dX9_failsNext_0 : decode cX9_failsNext 0 = .ok (.aload_n 0, 1) := by decide +kernel
theorem dX9_failsNext_1 : decode cX9_failsNext 1 = .ok (.iload_n 1, 1) := by decide +kernel
theorem dX9_failsNext_2 : decode cX9_failsNext 2 = .ok (.invokevirtual 180, 3) := by decide +kernel
theorem dX9_failsNext_5 : decode cX9_failsNext 5 = .ok (.ifCond .ne 23, 3) := by decide +kernel
theorem dX9_failsNext_8 : decode cX9_failsNext 8 = .ok (.aload_n 0, 1) := by decide +kernel
theorem dX9_failsNext_9 : decode cX9_failsNext 9 = .ok (.aload_n 0, 1) := by decide +kernel
theorem dX9_failsNext_10 : decode cX9_failsNext 10 = .ok (.iload_n 1, 1) := by decide +kernel
theorem dX9_failsNext_11 : decode cX9_failsNext 11 = .ok (.invokevirtual 230, 3) := by decide +kernel
theorem dX9_failsNext_14 : decode cX9_failsNext 14 = .ok (.ifCond .eq 7, 3) := by decide +kernel
theorem dX9_failsNext_17 : decode cX9_failsNext 17 = .ok (.iconst 0, 1) := by decide +kernel
theorem dX9_failsNext_18 : decode cX9_failsNext 18 = .ok (.goto 4, 3) := by decide +kernel
theorem dX9_failsNext_21 : decode cX9_failsNext 21 = .ok (.iconst 2, 1) := by decide +kernel
theorem dX9_failsNext_22 : decode cX9_failsNext 22 = .ok (.invokevirtual 135, 3) := by decide +kernel
theorem dX9_failsNext_25 : decode cX9_failsNext 25 = .ok (.ifCond .eq 7, 3) := by decide +kernel
theorem dX9_failsNext_28 : decode cX9_failsNext 28 = .ok (.iconst 1, 1) := by decide +kernel
theorem dX9_failsNext_29 : decode cX9_failsNext 29 = .ok (.goto 4, 3) := by decide +kernel
theorem dX9_failsNext_32 : decode cX9_failsNext 32 = .ok (.iconst 0, 1) := by decide +kernel
theorem dX9_failsNext_33 : decode cX9_failsNext 33 = .ok (.ireturn, 1) := by decide +kernel
theorem dX9_next_0 : decode cX9_next 0 = .ok (.aload_n 0, 1) := by decide +kernel
theorem dX9_next_1 : decode cX9_next 1 = .ok (.iload_n 1, 1) := by decide +kernel
theorem dX9_next_2 : decode cX9_next 2 = .ok (.invokevirtual 233, 3) := by decide +kernel
theorem dX9_next_5 : decode cX9_next 5 = .ok (.ifCond .eq 7, 3) := by decide +kernel
theorem dX9_next_8 : decode cX9_next 8 = .ok (.iconst 0, 1) := by decide +kernel
theorem dX9_next_9 : decode cX9_next 9 = .ok (.goto 7, 3) := by decide +kernel
theorem dX9_next_12 : decode cX9_next 12 = .ok (.aload_n 0, 1) := by decide +kernel
theorem dX9_next_13 : decode cX9_next 13 = .ok (.getfield 196, 3) := by decide +kernel
theorem dX9_next_16 : decode cX9_next 16 = .ok (.ireturn, 1) := by decide +kernel
theorem dX9_nextCost_0 : decode cX9_nextCost 0 = .ok (.aload_n 0, 1) := by decide +kernel
theorem dX9_nextCost_1 : decode cX9_nextCost 1 = .ok (.iload_n 1, 1) := by decide +kernel
theorem dX9_nextCost_2 : decode cX9_nextCost 2 = .ok (.invokevirtual 233, 3) := by decide +kernel
theorem dX9_nextCost_5 : decode cX9_nextCost 5 = .ok (.ifCond .eq 7, 3) := by decide +kernel
theorem dX9_nextCost_8 : decode cX9_nextCost 8 = .ok (.iconst 0, 1) := by decide +kernel
theorem dX9_nextCost_9 : decode cX9_nextCost 9 = .ok (.goto 7, 3) := by decide +kernel
theorem dX9_nextCost_12 : decode cX9_nextCost 12 = .ok (.aload_n 0, 1) := by decide +kernel
theorem dX9_nextCost_13 : decode cX9_nextCost 13 = .ok (.getfield 190, 3) := by decide +kernel
theorem dX9_nextCost_16 : decode cX9_nextCost 16 = .ok (.ireturn, 1) := by decide +kernel
theorem dX9_changes_0 : decode cX9_changes 0 = .ok (.iconst 0, 1) := by decide +kernel
theorem dX9_changes_1 : decode cX9_changes 1 = .ok (.istore_n 2, 1) := by decide +kernel
theorem dX9_changes_2 : decode cX9_changes 2 = .ok (.iload_n 2, 1) := by decide +kernel
theorem dX9_changes_3 : decode cX9_changes 3 = .ok (.bipush 96, 2) := by decide +kernel
theorem dX9_changes_5 : decode cX9_changes 5 = .ok (.if_icmp .ge 26, 3) := by decide +kernel
theorem dX9_changes_8 : decode cX9_changes 8 = .ok (.aload_n 0, 1) := by decide +kernel
theorem dX9_changes_9 : decode cX9_changes 9 = .ok (.getfield 125, 3) := by decide +kernel
theorem dX9_changes_12 : decode cX9_changes 12 = .ok (.iload_n 2, 1) := by decide +kernel
theorem dX9_changes_13 : decode cX9_changes 13 = .ok (.aload_n 0, 1) := by decide +kernel
theorem dX9_changes_14 : decode cX9_changes 14 = .ok (.getfield 119, 3) := by decide +kernel
theorem dX9_changes_17 : decode cX9_changes 17 = .ok (.bipush 96, 2) := by decide +kernel
theorem dX9_changes_19 : decode cX9_changes 19 = .ok (.iload_n 1, 1) := by decide +kernel
theorem dX9_changes_20 : decode cX9_changes 20 = .ok (.imul, 1) := by decide +kernel
theorem dX9_changes_21 : decode cX9_changes 21 = .ok (.iload_n 2, 1) := by decide +kernel
theorem dX9_changes_22 : decode cX9_changes 22 = .ok (.iadd, 1) := by decide +kernel
theorem dX9_changes_23 : decode cX9_changes 23 = .ok (.iaload, 1) := by decide +kernel
theorem dX9_changes_24 : decode cX9_changes 24 = .ok (.iastore, 1) := by decide +kernel
theorem dX9_changes_25 : decode cX9_changes 25 = .ok (.iinc 2 1, 3) := by decide +kernel
theorem dX9_changes_28 : decode cX9_changes 28 = .ok (.goto (-26), 3) := by decide +kernel
theorem dX9_changes_31 : decode cX9_changes 31 = .ok (.iconst 0, 1) := by decide +kernel
theorem dX9_changes_32 : decode cX9_changes 32 = .ok (.istore_n 2, 1) := by decide +kernel
theorem dX9_changes_33 : decode cX9_changes 33 = .ok (.iload_n 2, 1) := by decide +kernel
theorem dX9_changes_34 : decode cX9_changes 34 = .ok (.aload_n 0, 1) := by decide +kernel
theorem dX9_changes_35 : decode cX9_changes 35 = .ok (.getfield 200, 3) := by decide +kernel
theorem dX9_changes_38 : decode cX9_changes 38 = .ok (.aload_n 0, 1) := by decide +kernel
theorem dX9_changes_39 : decode cX9_changes 39 = .ok (.getfield 203, 3) := by decide +kernel
theorem dX9_changes_42 : decode cX9_changes 42 = .ok (.imul, 1) := by decide +kernel
theorem dX9_changes_43 : decode cX9_changes 43 = .ok (.if_icmp .ge 92, 3) := by decide +kernel
theorem dX9_changes_46 : decode cX9_changes 46 = .ok (.aload_n 0, 1) := by decide +kernel
theorem dX9_changes_47 : decode cX9_changes 47 = .ok (.getfield 221, 3) := by decide +kernel
theorem dX9_changes_50 : decode cX9_changes 50 = .ok (.iload_n 2, 1) := by decide +kernel
theorem dX9_changes_51 : decode cX9_changes 51 = .ok (.aload_n 0, 1) := by decide +kernel
theorem dX9_changes_52 : decode cX9_changes 52 = .ok (.getfield 200, 3) := by decide +kernel
theorem dX9_changes_55 : decode cX9_changes 55 = .ok (.idiv, 1) := by decide +kernel
theorem dX9_changes_56 : decode cX9_changes 56 = .ok (.bipush 12, 2) := by decide +kernel
theorem dX9_changes_58 : decode cX9_changes 58 = .ok (.imul, 1) := by decide +kernel
theorem dX9_changes_59 : decode cX9_changes 59 = .ok (.iadd, 1) := by decide +kernel
theorem dX9_changes_60 : decode cX9_changes 60 = .ok (.iload_n 2, 1) := by decide +kernel
theorem dX9_changes_61 : decode cX9_changes 61 = .ok (.aload_n 0, 1) := by decide +kernel
theorem dX9_changes_62 : decode cX9_changes 62 = .ok (.getfield 200, 3) := by decide +kernel
theorem dX9_changes_65 : decode cX9_changes 65 = .ok (.irem, 1) := by decide +kernel
theorem dX9_changes_66 : decode cX9_changes 66 = .ok (.iadd, 1) := by decide +kernel
theorem dX9_changes_67 : decode cX9_changes 67 = .ok (.istore_n 3, 1) := by decide +kernel
theorem dX9_changes_68 : decode cX9_changes 68 = .ok (.aload_n 0, 1) := by decide +kernel
theorem dX9_changes_69 : decode cX9_changes 69 = .ok (.getfield 119, 3) := by decide +kernel
theorem dX9_changes_72 : decode cX9_changes 72 = .ok (.bipush 96, 2) := by decide +kernel
theorem dX9_changes_74 : decode cX9_changes 74 = .ok (.iload_n 1, 1) := by decide +kernel
theorem dX9_changes_75 : decode cX9_changes 75 = .ok (.imul, 1) := by decide +kernel
theorem dX9_changes_76 : decode cX9_changes 76 = .ok (.iload_n 3, 1) := by decide +kernel
theorem dX9_changes_77 : decode cX9_changes 77 = .ok (.iadd, 1) := by decide +kernel
theorem dX9_changes_78 : decode cX9_changes 78 = .ok (.aload_n 0, 1) := by decide +kernel
theorem dX9_changes_79 : decode cX9_changes 79 = .ok (.getfield 196, 3) := by decide +kernel
theorem dX9_changes_82 : decode cX9_changes 82 = .ok (.bipush 99, 2) := by decide +kernel
theorem dX9_changes_84 : decode cX9_changes 84 = .ok (.if_icmp .ne 17, 3) := by decide +kernel
theorem dX9_changes_87 : decode cX9_changes 87 = .ok (.aload_n 0, 1) := by decide +kernel
theorem dX9_changes_88 : decode cX9_changes 88 = .ok (.getfield 125, 3) := by decide +kernel
theorem dX9_changes_91 : decode cX9_changes 91 = .ok (.iload_n 3, 1) := by decide +kernel
theorem dX9_changes_92 : decode cX9_changes 92 = .ok (.aload_n 0, 1) := by decide +kernel
theorem dX9_changes_93 : decode cX9_changes 93 = .ok (.getfield 206, 3) := by decide +kernel
theorem dX9_changes_96 : decode cX9_changes 96 = .ok (.iadd, 1) := by decide +kernel
theorem dX9_changes_97 : decode cX9_changes 97 = .ok (.iaload, 1) := by decide +kernel
theorem dX9_changes_98 : decode cX9_changes 98 = .ok (.goto 30, 3) := by decide +kernel
theorem dX9_changes_101 : decode cX9_changes 101 = .ok (.aload_n 0, 1) := by decide +kernel
theorem dX9_changes_102 : decode cX9_changes 102 = .ok (.getfield 196, 3) := by decide +kernel
theorem dX9_changes_105 : decode cX9_changes 105 = .ok (.bipush 102, 2) := by decide +kernel
theorem dX9_changes_107 : decode cX9_changes 107 = .ok (.if_icmp .ne 15, 3) := by decide +kernel
theorem dX9_changes_110 : decode cX9_changes 110 = .ok (.aload_n 0, 1) := by decide +kernel
theorem dX9_changes_111 : decode cX9_changes 111 = .ok (.getfield 122, 3) := by decide +kernel
theorem dX9_changes_114 : decode cX9_changes 114 = .ok (.aload_n 0, 1) := by decide +kernel
theorem dX9_changes_115 : decode cX9_changes 115 = .ok (.getfield 221, 3) := by decide +kernel
theorem dX9_changes_118 : decode cX9_changes 118 = .ok (.iaload, 1) := by decide +kernel
theorem dX9_changes_119 : decode cX9_changes 119 = .ok (.goto 9, 3) := by decide +kernel
theorem dX9_changes_122 : decode cX9_changes 122 = .ok (.aload_n 0, 1) := by decide +kernel
theorem dX9_changes_123 : decode cX9_changes 123 = .ok (.getfield 122, 3) := by decide +kernel
theorem dX9_changes_126 : decode cX9_changes 126 = .ok (.iload_n 3, 1) := by decide +kernel
theorem dX9_changes_127 : decode cX9_changes 127 = .ok (.iaload, 1) := by decide +kernel
theorem dX9_changes_128 : decode cX9_changes 128 = .ok (.iastore, 1) := by decide +kernel
theorem dX9_changes_129 : decode cX9_changes 129 = .ok (.iinc 2 1, 3) := by decide +kernel
theorem dX9_changes_132 : decode cX9_changes 132 = .ok (.goto (-99), 3) := by decide +kernel
theorem dX9_changes_135 : decode cX9_changes 135 = .ok (.return_, 1) := by decide +kernel
theorem dX9_line_0 : decode cX9_line 0 = .ok (.bipush 24, 2) := by decide +kernel
theorem dX9_line_2 : decode cX9_line 2 = .ok (.istore_n 1, 1) := by decide +kernel
theorem dX9_line_3 : decode cX9_line 3 = .ok (.iconst 1, 1) := by decide +kernel
theorem dX9_line_4 : decode cX9_line 4 = .ok (.istore_n 2, 1) := by decide +kernel
theorem dX9_line_5 : decode cX9_line 5 = .ok (.iload_n 2, 1) := by decide +kernel
theorem dX9_line_6 : decode cX9_line 6 = .ok (.ifCond .eq 150, 3) := by decide +kernel
theorem dX9_line_9 : decode cX9_line 9 = .ok (.iconst (-1), 1) := by decide +kernel
theorem dX9_line_10 : decode cX9_line 10 = .ok (.istore_n 3, 1) := by decide +kernel
theorem dX9_line_11 : decode cX9_line 11 = .ok (.iconst 0, 1) := by decide +kernel
theorem dX9_line_12 : decode cX9_line 12 = .ok (.istore 4, 2) := by decide +kernel
theorem dX9_line_14 : decode cX9_line 14 = .ok (.iload 4, 2) := by decide +kernel
theorem dX9_line_16 : decode cX9_line 16 = .ok (.aload_n 0, 1) := by decide +kernel
theorem dX9_line_17 : decode cX9_line 17 = .ok (.getfield 174, 3) := by decide +kernel
theorem dX9_line_20 : decode cX9_line 20 = .ok (.if_icmp .ge 65, 3) := by decide +kernel
theorem dX9_line_23 : decode cX9_line 23 = .ok (.iload_n 3, 1) := by decide +kernel
theorem dX9_line_24 : decode cX9_line 24 = .ok (.ifCond .lt 19, 3) := by decide +kernel
theorem dX9_line_27 : decode cX9_line 27 = .ok (.aload_n 0, 1) := by decide +kernel
theorem dX9_line_28 : decode cX9_line 28 = .ok (.getfield 110, 3) := by decide +kernel
theorem dX9_line_31 : decode cX9_line 31 = .ok (.iload 4, 2) := by decide +kernel
theorem dX9_line_33 : decode cX9_line 33 = .ok (.iaload, 1) := by decide +kernel
theorem dX9_line_34 : decode cX9_line 34 = .ok (.aload_n 0, 1) := by decide +kernel
theorem dX9_line_35 : decode cX9_line 35 = .ok (.getfield 110, 3) := by decide +kernel
theorem dX9_line_38 : decode cX9_line 38 = .ok (.iload_n 3, 1) := by decide +kernel
theorem dX9_line_39 : decode cX9_line 39 = .ok (.iaload, 1) := by decide +kernel
theorem dX9_line_40 : decode cX9_line 40 = .ok (.if_icmp .le 7, 3) := by decide +kernel
theorem dX9_line_43 : decode cX9_line 43 = .ok (.iconst 1, 1) := by decide +kernel
theorem dX9_line_44 : decode cX9_line 44 = .ok (.goto 4, 3) := by decide +kernel
theorem dX9_line_47 : decode cX9_line 47 = .ok (.iconst 0, 1) := by decide +kernel
theorem dX9_line_48 : decode cX9_line 48 = .ok (.istore 5, 2) := by decide +kernel
theorem dX9_line_50 : decode cX9_line 50 = .ok (.iload 5, 2) := by decide +kernel
theorem dX9_line_52 : decode cX9_line 52 = .ok (.ifCond .eq 25, 3) := by decide +kernel
theorem dX9_line_55 : decode cX9_line 55 = .ok (.aload_n 0, 1) := by decide +kernel
theorem dX9_line_56 : decode cX9_line 56 = .ok (.iload 4, 2) := by decide +kernel
theorem dX9_line_58 : decode cX9_line 58 = .ok (.invokevirtual 230, 3) := by decide +kernel
theorem dX9_line_61 : decode cX9_line 61 = .ok (.ifCond .eq 16, 3) := by decide +kernel
theorem dX9_line_64 : decode cX9_line 64 = .ok (.aload_n 0, 1) := by decide +kernel
theorem dX9_line_65 : decode cX9_line 65 = .ok (.getfield 190, 3) := by decide +kernel
theorem dX9_line_68 : decode cX9_line 68 = .ok (.iload_n 1, 1) := by decide +kernel
theorem dX9_line_69 : decode cX9_line 69 = .ok (.if_icmp .gt 8, 3) := by decide +kernel
theorem dX9_line_72 : decode cX9_line 72 = .ok (.iload 4, 2) := by decide +kernel
theorem dX9_line_74 : decode cX9_line 74 = .ok (.goto 4, 3) := by decide +kernel
theorem dX9_line_77 : decode cX9_line 77 = .ok (.iload_n 3, 1) := by decide +kernel
theorem dX9_line_78 : decode cX9_line 78 = .ok (.istore_n 3, 1) := by decide +kernel
theorem dX9_line_79 : decode cX9_line 79 = .ok (.iinc 4 1, 3) := by decide +kernel
theorem dX9_line_82 : decode cX9_line 82 = .ok (.goto (-68), 3) := by decide +kernel
theorem dX9_line_85 : decode cX9_line 85 = .ok (.iload_n 3, 1) := by decide +kernel
theorem dX9_line_86 : decode cX9_line 86 = .ok (.ifCond .lt 15, 3) := by decide +kernel
theorem dX9_line_89 : decode cX9_line 89 = .ok (.aload_n 0, 1) := by decide +kernel
theorem dX9_line_90 : decode cX9_line 90 = .ok (.iload_n 3, 1) := by decide +kernel
theorem dX9_line_91 : decode cX9_line 91 = .ok (.invokevirtual 230, 3) := by decide +kernel
theorem dX9_line_94 : decode cX9_line 94 = .ok (.ifCond .eq 7, 3) := by decide +kernel
theorem dX9_line_97 : decode cX9_line 97 = .ok (.iconst 1, 1) := by decide +kernel
theorem dX9_line_98 : decode cX9_line 98 = .ok (.goto 4, 3) := by decide +kernel
theorem dX9_line_101 : decode cX9_line 101 = .ok (.iconst 0, 1) := by decide +kernel
theorem dX9_line_102 : decode cX9_line 102 = .ok (.istore_n 2, 1) := by decide +kernel
theorem dX9_line_103 : decode cX9_line 103 = .ok (.iload_n 2, 1) := by decide +kernel
theorem dX9_line_104 : decode cX9_line 104 = .ok (.ifCond .eq 49, 3) := by decide +kernel
theorem dX9_line_107 : decode cX9_line 107 = .ok (.iload_n 1, 1) := by decide +kernel
theorem dX9_line_108 : decode cX9_line 108 = .ok (.aload_n 0, 1) := by decide +kernel
theorem dX9_line_109 : decode cX9_line 109 = .ok (.getfield 190, 3) := by decide +kernel
theorem dX9_line_112 : decode cX9_line 112 = .ok (.isub, 1) := by decide +kernel
theorem dX9_line_113 : decode cX9_line 113 = .ok (.istore_n 1, 1) := by decide +kernel
theorem dX9_line_114 : decode cX9_line 114 = .ok (.aload_n 0, 1) := by decide +kernel
theorem dX9_line_115 : decode cX9_line 115 = .ok (.getfield 110, 3) := by decide +kernel
theorem dX9_line_118 : decode cX9_line 118 = .ok (.iload_n 3, 1) := by decide +kernel
theorem dX9_line_119 : decode cX9_line 119 = .ok (.aload_n 0, 1) := by decide +kernel
theorem dX9_line_120 : decode cX9_line 120 = .ok (.getfield 110, 3) := by decide +kernel
theorem dX9_line_123 : decode cX9_line 123 = .ok (.iload_n 3, 1) := by decide +kernel
theorem dX9_line_124 : decode cX9_line 124 = .ok (.iaload, 1) := by decide +kernel
theorem dX9_line_125 : decode cX9_line 125 = .ok (.aload_n 0, 1) := by decide +kernel
theorem dX9_line_126 : decode cX9_line 126 = .ok (.getfield 190, 3) := by decide +kernel
theorem dX9_line_129 : decode cX9_line 129 = .ok (.if_icmp .le 17, 3) := by decide +kernel
theorem dX9_line_132 : decode cX9_line 132 = .ok (.aload_n 0, 1) := by decide +kernel
theorem dX9_line_133 : decode cX9_line 133 = .ok (.getfield 110, 3) := by decide +kernel
theorem dX9_line_136 : decode cX9_line 136 = .ok (.iload_n 3, 1) := by decide +kernel
theorem dX9_line_137 : decode cX9_line 137 = .ok (.iaload, 1) := by decide +kernel
theorem dX9_line_138 : decode cX9_line 138 = .ok (.aload_n 0, 1) := by decide +kernel
theorem dX9_line_139 : decode cX9_line 139 = .ok (.getfield 190, 3) := by decide +kernel
theorem dX9_line_142 : decode cX9_line 142 = .ok (.isub, 1) := by decide +kernel
theorem dX9_line_143 : decode cX9_line 143 = .ok (.goto 4, 3) := by decide +kernel
theorem dX9_line_146 : decode cX9_line 146 = .ok (.iconst 0, 1) := by decide +kernel
theorem dX9_line_147 : decode cX9_line 147 = .ok (.iastore, 1) := by decide +kernel
theorem dX9_line_148 : decode cX9_line 148 = .ok (.aload_n 0, 1) := by decide +kernel
theorem dX9_line_149 : decode cX9_line 149 = .ok (.iload_n 3, 1) := by decide +kernel
theorem dX9_line_150 : decode cX9_line 150 = .ok (.invokevirtual 236, 3) := by decide +kernel
theorem dX9_line_153 : decode cX9_line 153 = .ok (.goto (-148), 3) := by decide +kernel
theorem dX9_line_156 : decode cX9_line 156 = .ok (.bipush 24, 2) := by decide +kernel
theorem dX9_line_158 : decode cX9_line 158 = .ok (.iload_n 1, 1) := by decide +kernel
theorem dX9_line_159 : decode cX9_line 159 = .ok (.isub, 1) := by decide +kernel
theorem dX9_line_160 : decode cX9_line 160 = .ok (.ireturn, 1) := by decide +kernel
theorem dX9_tick_0 : decode cX9_tick 0 = .ok (.aload_n 0, 1) := by decide +kernel
theorem dX9_tick_1 : decode cX9_tick 1 = .ok (.iload_n 1, 1) := by decide +kernel
theorem dX9_tick_2 : decode cX9_tick 2 = .ok (.iconst 1, 1) := by decide +kernel
theorem dX9_tick_3 : decode cX9_tick 3 = .ok (.bipush 20, 2) := by decide +kernel
theorem dX9_tick_5 : decode cX9_tick 5 = .ok (.invokestatic 139, 3) := by decide +kernel
theorem dX9_tick_8 : decode cX9_tick 8 = .ok (.ifCond .eq 7, 3) := by decide +kernel
theorem dX9_tick_11 : decode cX9_tick 11 = .ok (.iconst 0, 1) := by decide +kernel
theorem dX9_tick_12 : decode cX9_tick 12 = .ok (.goto 4, 3) := by decide +kernel
theorem dX9_tick_15 : decode cX9_tick 15 = .ok (.iconst 1, 1) := by decide +kernel
theorem dX9_tick_16 : decode cX9_tick 16 = .ok (.invokevirtual 135, 3) := by decide +kernel
theorem dX9_tick_19 : decode cX9_tick 19 = .ok (.ifCond .eq 5, 3) := by decide +kernel
theorem dX9_tick_22 : decode cX9_tick 22 = .ok (.iconst 0, 1) := by decide +kernel
theorem dX9_tick_23 : decode cX9_tick 23 = .ok (.ireturn, 1) := by decide +kernel
theorem dX9_tick_24 : decode cX9_tick 24 = .ok (.iconst 0, 1) := by decide +kernel
theorem dX9_tick_25 : decode cX9_tick 25 = .ok (.istore_n 2, 1) := by decide +kernel
theorem dX9_tick_26 : decode cX9_tick 26 = .ok (.iconst 0, 1) := by decide +kernel
theorem dX9_tick_27 : decode cX9_tick 27 = .ok (.istore_n 3, 1) := by decide +kernel
theorem dX9_tick_28 : decode cX9_tick 28 = .ok (.iload_n 3, 1) := by decide +kernel
theorem dX9_tick_29 : decode cX9_tick 29 = .ok (.iload_n 1, 1) := by decide +kernel
theorem dX9_tick_30 : decode cX9_tick 30 = .ok (.if_icmp .ge 145, 3) := by decide +kernel
theorem dX9_tick_33 : decode cX9_tick 33 = .ok (.iconst 0, 1) := by decide +kernel
theorem dX9_tick_34 : decode cX9_tick 34 = .ok (.istore 4, 2) := by decide +kernel
theorem dX9_tick_36 : decode cX9_tick 36 = .ok (.iload 4, 2) := by decide +kernel
theorem dX9_tick_38 : decode cX9_tick 38 = .ok (.aload_n 0, 1) := by decide +kernel
theorem dX9_tick_39 : decode cX9_tick 39 = .ok (.getfield 132, 3) := by decide +kernel
theorem dX9_tick_42 : decode cX9_tick 42 = .ok (.if_icmp .ge 15, 3) := by decide +kernel
theorem dX9_tick_45 : decode cX9_tick 45 = .ok (.aload_n 0, 1) := by decide +kernel
theorem dX9_tick_46 : decode cX9_tick 46 = .ok (.iload 4, 2) := by decide +kernel
theorem dX9_tick_48 : decode cX9_tick 48 = .ok (.invokevirtual 239, 3) := by decide +kernel
theorem dX9_tick_51 : decode cX9_tick 51 = .ok (.iinc 4 1, 3) := by decide +kernel
theorem dX9_tick_54 : decode cX9_tick 54 = .ok (.goto (-18), 3) := by decide +kernel
theorem dX9_tick_57 : decode cX9_tick 57 = .ok (.iconst 0, 1) := by decide +kernel
theorem dX9_tick_58 : decode cX9_tick 58 = .ok (.istore 4, 2) := by decide +kernel
theorem dX9_tick_60 : decode cX9_tick 60 = .ok (.iload 4, 2) := by decide +kernel
theorem dX9_tick_62 : decode cX9_tick 62 = .ok (.aload_n 0, 1) := by decide +kernel
theorem dX9_tick_63 : decode cX9_tick 63 = .ok (.getfield 174, 3) := by decide +kernel
theorem dX9_tick_66 : decode cX9_tick 66 = .ok (.if_icmp .ge 56, 3) := by decide +kernel
theorem dX9_tick_69 : decode cX9_tick 69 = .ok (.aload_n 0, 1) := by decide +kernel
theorem dX9_tick_70 : decode cX9_tick 70 = .ok (.getfield 110, 3) := by decide +kernel
theorem dX9_tick_73 : decode cX9_tick 73 = .ok (.iload 4, 2) := by decide +kernel
theorem dX9_tick_75 : decode cX9_tick 75 = .ok (.aload_n 0, 1) := by decide +kernel
theorem dX9_tick_76 : decode cX9_tick 76 = .ok (.getfield 110, 3) := by decide +kernel
theorem dX9_tick_79 : decode cX9_tick 79 = .ok (.iload 4, 2) := by decide +kernel
theorem dX9_tick_81 : decode cX9_tick 81 = .ok (.iaload, 1) := by decide +kernel
theorem dX9_tick_82 : decode cX9_tick 82 = .ok (.aload_n 0, 1) := by decide +kernel
theorem dX9_tick_83 : decode cX9_tick 83 = .ok (.getfield 107, 3) := by decide +kernel
theorem dX9_tick_86 : decode cX9_tick 86 = .ok (.iload 4, 2) := by decide +kernel
theorem dX9_tick_88 : decode cX9_tick 88 = .ok (.iaload, 1) := by decide +kernel
theorem dX9_tick_89 : decode cX9_tick 89 = .ok (.iadd, 1) := by decide +kernel
theorem dX9_tick_90 : decode cX9_tick 90 = .ok (.bipush 60, 2) := by decide +kernel
theorem dX9_tick_92 : decode cX9_tick 92 = .ok (.if_icmp .le 8, 3) := by decide +kernel
theorem dX9_tick_95 : decode cX9_tick 95 = .ok (.bipush 60, 2) := by decide +kernel
theorem dX9_tick_97 : decode cX9_tick 97 = .ok (.goto 18, 3) := by decide +kernel
theorem dX9_tick_100 : decode cX9_tick 100 = .ok (.aload_n 0, 1) := by decide +kernel
theorem dX9_tick_101 : decode cX9_tick 101 = .ok (.getfield 110, 3) := by decide +kernel
theorem dX9_tick_104 : decode cX9_tick 104 = .ok (.iload 4, 2) := by decide +kernel
theorem dX9_tick_106 : decode cX9_tick 106 = .ok (.iaload, 1) := by decide +kernel
theorem dX9_tick_107 : decode cX9_tick 107 = .ok (.aload_n 0, 1) := by decide +kernel
theorem dX9_tick_108 : decode cX9_tick 108 = .ok (.getfield 107, 3) := by decide +kernel
theorem dX9_tick_111 : decode cX9_tick 111 = .ok (.iload 4, 2) := by decide +kernel
theorem dX9_tick_113 : decode cX9_tick 113 = .ok (.iaload, 1) := by decide +kernel
theorem dX9_tick_114 : decode cX9_tick 114 = .ok (.iadd, 1) := by decide +kernel
theorem dX9_tick_115 : decode cX9_tick 115 = .ok (.iastore, 1) := by decide +kernel
theorem dX9_tick_116 : decode cX9_tick 116 = .ok (.iinc 4 1, 3) := by decide +kernel
theorem dX9_tick_119 : decode cX9_tick 119 = .ok (.goto (-59), 3) := by decide +kernel
theorem dX9_tick_122 : decode cX9_tick 122 = .ok (.iload_n 2, 1) := by decide +kernel
theorem dX9_tick_123 : decode cX9_tick 123 = .ok (.aload_n 0, 1) := by decide +kernel
theorem dX9_tick_124 : decode cX9_tick 124 = .ok (.invokevirtual 242, 3) := by decide +kernel
theorem dX9_tick_127 : decode cX9_tick 127 = .ok (.iadd, 1) := by decide +kernel
theorem dX9_tick_128 : decode cX9_tick 128 = .ok (.istore_n 2, 1) := by decide +kernel
theorem dX9_tick_129 : decode cX9_tick 129 = .ok (.iconst 0, 1) := by decide +kernel
theorem dX9_tick_130 : decode cX9_tick 130 = .ok (.istore 4, 2) := by decide +kernel
theorem dX9_tick_132 : decode cX9_tick 132 = .ok (.iload 4, 2) := by decide +kernel
theorem dX9_tick_134 : decode cX9_tick 134 = .ok (.aload_n 0, 1) := by decide +kernel
theorem dX9_tick_135 : decode cX9_tick 135 = .ok (.getfield 132, 3) := by decide +kernel
theorem dX9_tick_138 : decode cX9_tick 138 = .ok (.if_icmp .ge 31, 3) := by decide +kernel
theorem dX9_tick_141 : decode cX9_tick 141 = .ok (.aload_n 0, 1) := by decide +kernel
theorem dX9_tick_142 : decode cX9_tick 142 = .ok (.getfield 80, 3) := by decide +kernel
theorem dX9_tick_145 : decode cX9_tick 145 = .ok (.iload 4, 2) := by decide +kernel
theorem dX9_tick_147 : decode cX9_tick 147 = .ok (.baload, 1) := by decide +kernel
theorem dX9_tick_148 : decode cX9_tick 148 = .ok (.ifCond .ne 9, 3) := by decide +kernel
theorem dX9_tick_151 : decode cX9_tick 151 = .ok (.aload_n 0, 1) := by decide +kernel
theorem dX9_tick_152 : decode cX9_tick 152 = .ok (.iload 4, 2) := by decide +kernel
theorem dX9_tick_154 : decode cX9_tick 154 = .ok (.invokevirtual 246, 3) := by decide +kernel
theorem dX9_tick_157 : decode cX9_tick 157 = .ok (.aload_n 0, 1) := by decide +kernel
theorem dX9_tick_158 : decode cX9_tick 158 = .ok (.iload 4, 2) := by decide +kernel
theorem dX9_tick_160 : decode cX9_tick 160 = .ok (.invokevirtual 249, 3) := by decide +kernel
theorem dX9_tick_163 : decode cX9_tick 163 = .ok (.iinc 4 1, 3) := by decide +kernel
theorem dX9_tick_166 : decode cX9_tick 166 = .ok (.goto (-34), 3) := by decide +kernel
theorem dX9_tick_169 : decode cX9_tick 169 = .ok (.iinc 3 1, 3) := by decide +kernel
theorem dX9_tick_172 : decode cX9_tick 172 = .ok (.goto (-144), 3) := by decide +kernel
theorem dX9_tick_175 : decode cX9_tick 175 = .ok (.aload_n 0, 1) := by decide +kernel
theorem dX9_tick_176 : decode cX9_tick 176 = .ok (.dup, 1) := by decide +kernel
theorem dX9_tick_177 : decode cX9_tick 177 = .ok (.getfield 252, 3) := by decide +kernel
theorem dX9_tick_180 : decode cX9_tick 180 = .ok (.iload_n 2, 1) := by decide +kernel
theorem dX9_tick_181 : decode cX9_tick 181 = .ok (.i2l, 1) := by decide +kernel
theorem dX9_tick_182 : decode cX9_tick 182 = .ok (.ladd, 1) := by decide +kernel
theorem dX9_tick_183 : decode cX9_tick 183 = .ok (.putfield 252, 3) := by decide +kernel
theorem dX9_tick_186 : decode cX9_tick 186 = .ok (.iload_n 2, 1) := by decide +kernel
theorem dX9_tick_187 : decode cX9_tick 187 = .ok (.ireturn, 1) := by decide +kernel
theorem dX9_carried_0 : decode cX9_carried 0 = .ok (.aload_n 0, 1) := by decide +kernel
theorem dX9_carried_1 : decode cX9_carried 1 = .ok (.iconst 0, 1) := by decide +kernel
theorem dX9_carried_2 : decode cX9_carried 2 = .ok (.putfield 128, 3) := by decide +kernel
theorem dX9_carried_5 : decode cX9_carried 5 = .ok (.aload_n 0, 1) := by decide +kernel
theorem dX9_carried_6 : decode cX9_carried 6 = .ok (.getfield 252, 3) := by decide +kernel
theorem dX9_carried_9 : decode cX9_carried 9 = .ok (.lreturn, 1) := by decide +kernel
theorem dX9_topOf_0 : decode cX9_topOf 0 = .ok (.bipush 6, 2) := by decide +kernel
theorem dX9_topOf_2 : decode cX9_topOf 2 = .ok (.iload_n 1, 1) := by decide +kernel
theorem dX9_topOf_3 : decode cX9_topOf 3 = .ok (.imul, 1) := by decide +kernel
theorem dX9_topOf_4 : decode cX9_topOf 4 = .ok (.aload_n 0, 1) := by decide +kernel
theorem dX9_topOf_5 : decode cX9_topOf 5 = .ok (.getfield 47, 3) := by decide +kernel
theorem dX9_topOf_8 : decode cX9_topOf 8 = .ok (.iload_n 1, 1) := by decide +kernel
theorem dX9_topOf_9 : decode cX9_topOf 9 = .ok (.iaload, 1) := by decide +kernel
theorem dX9_topOf_10 : decode cX9_topOf 10 = .ok (.iadd, 1) := by decide +kernel
theorem dX9_topOf_11 : decode cX9_topOf 11 = .ok (.iconst 1, 1) := by decide +kernel
theorem dX9_topOf_12 : decode cX9_topOf 12 = .ok (.isub, 1) := by decide +kernel
theorem dX9_topOf_13 : decode cX9_topOf 13 = .ok (.istore_n 2, 1) := by decide +kernel
theorem dX9_topOf_14 : decode cX9_topOf 14 = .ok (.iload_n 2, 1) := by decide +kernel
theorem dX9_topOf_15 : decode cX9_topOf 15 = .ok (.bipush 6, 2) := by decide +kernel
theorem dX9_topOf_17 : decode cX9_topOf 17 = .ok (.iload_n 1, 1) := by decide +kernel
theorem dX9_topOf_18 : decode cX9_topOf 18 = .ok (.imul, 1) := by decide +kernel
theorem dX9_topOf_19 : decode cX9_topOf 19 = .ok (.if_icmp .lt 30, 3) := by decide +kernel
theorem dX9_topOf_22 : decode cX9_topOf 22 = .ok (.aload_n 0, 1) := by decide +kernel
theorem dX9_topOf_23 : decode cX9_topOf 23 = .ok (.getfield 32, 3) := by decide +kernel
theorem dX9_topOf_26 : decode cX9_topOf 26 = .ok (.aload_n 0, 1) := by decide +kernel
theorem dX9_topOf_27 : decode cX9_topOf 27 = .ok (.getfield 44, 3) := by decide +kernel
theorem dX9_topOf_30 : decode cX9_topOf 30 = .ok (.iload_n 2, 1) := by decide +kernel
theorem dX9_topOf_31 : decode cX9_topOf 31 = .ok (.iaload, 1) := by decide +kernel
theorem dX9_topOf_32 : decode cX9_topOf 32 = .ok (.baload, 1) := by decide +kernel
theorem dX9_topOf_33 : decode cX9_topOf 33 = .ok (.ifCond .eq 10, 3) := by decide +kernel
theorem dX9_topOf_36 : decode cX9_topOf 36 = .ok (.aload_n 0, 1) := by decide +kernel
theorem dX9_topOf_37 : decode cX9_topOf 37 = .ok (.getfield 44, 3) := by decide +kernel
theorem dX9_topOf_40 : decode cX9_topOf 40 = .ok (.iload_n 2, 1) := by decide +kernel
theorem dX9_topOf_41 : decode cX9_topOf 41 = .ok (.iaload, 1) := by decide +kernel
theorem dX9_topOf_42 : decode cX9_topOf 42 = .ok (.ireturn, 1) := by decide +kernel
theorem dX9_topOf_43 : decode cX9_topOf 43 = .ok (.iinc 2 (-1), 3) := by decide +kernel
theorem dX9_topOf_46 : decode cX9_topOf 46 = .ok (.goto (-32), 3) := by decide +kernel
theorem dX9_topOf_49 : decode cX9_topOf 49 = .ok (.iconst (-1), 1) := by decide +kernel
theorem dX9_topOf_50 : decode cX9_topOf 50 = .ok (.ireturn, 1) := by decide +kernel
theorem dX9_type_0 : decode cX9_type 0 = .ok (.aload_n 0, 1) := by decide +kernel
theorem dX9_type_1 : decode cX9_type 1 = .ok (.iload_n 1, 1) := by decide +kernel
theorem dX9_type_2 : decode cX9_type 2 = .ok (.invokevirtual 180, 3) := by decide +kernel
theorem dX9_type_5 : decode cX9_type 5 = .ok (.ifCond .ne 27, 3) := by decide +kernel
theorem dX9_type_8 : decode cX9_type 8 = .ok (.aload_n 0, 1) := by decide +kernel
theorem dX9_type_9 : decode cX9_type 9 = .ok (.iload_n 2, 1) := by decide +kernel
theorem dX9_type_10 : decode cX9_type 10 = .ok (.bipush 97, 2) := by decide +kernel
theorem dX9_type_12 : decode cX9_type 12 = .ok (.if_icmp .lt 9, 3) := by decide +kernel
theorem dX9_type_15 : decode cX9_type 15 = .ok (.iload_n 2, 1) := by decide +kernel
theorem dX9_type_16 : decode cX9_type 16 = .ok (.bipush 122, 2) := by decide +kernel
theorem dX9_type_18 : decode cX9_type 18 = .ok (.if_icmp .le 7, 3) := by decide +kernel
theorem dX9_type_21 : decode cX9_type 21 = .ok (.iconst 2, 1) := by decide +kernel
theorem dX9_type_22 : decode cX9_type 22 = .ok (.goto 4, 3) := by decide +kernel
theorem dX9_type_25 : decode cX9_type 25 = .ok (.iconst 0, 1) := by decide +kernel
theorem dX9_type_26 : decode cX9_type 26 = .ok (.invokevirtual 135, 3) := by decide +kernel
theorem dX9_type_29 : decode cX9_type 29 = .ok (.ifCond .eq 5, 3) := by decide +kernel
theorem dX9_type_32 : decode cX9_type 32 = .ok (.iconst 0, 1) := by decide +kernel
theorem dX9_type_33 : decode cX9_type 33 = .ok (.ireturn, 1) := by decide +kernel
theorem dX9_type_34 : decode cX9_type 34 = .ok (.aload_n 0, 1) := by decide +kernel
theorem dX9_type_35 : decode cX9_type 35 = .ok (.getfield 104, 3) := by decide +kernel
theorem dX9_type_38 : decode cX9_type 38 = .ok (.iload_n 1, 1) := by decide +kernel
theorem dX9_type_39 : decode cX9_type 39 = .ok (.iaload, 1) := by decide +kernel
theorem dX9_type_40 : decode cX9_type 40 = .ok (.istore_n 3, 1) := by decide +kernel
theorem dX9_type_41 : decode cX9_type 41 = .ok (.aload_n 0, 1) := by decide +kernel
theorem dX9_type_42 : decode cX9_type 42 = .ok (.iload_n 3, 1) := by decide +kernel
theorem dX9_type_43 : decode cX9_type 43 = .ok (.invokevirtual 256, 3) := by decide +kernel
theorem dX9_type_46 : decode cX9_type 46 = .ok (.istore 4, 2) := by decide +kernel
theorem dX9_type_48 : decode cX9_type 48 = .ok (.aload_n 0, 1) := by decide +kernel
theorem dX9_type_49 : decode cX9_type 49 = .ok (.iload 4, 2) := by decide +kernel
theorem dX9_type_51 : decode cX9_type 51 = .ok (.ifCond .ge 7, 3) := by decide +kernel
theorem dX9_type_54 : decode cX9_type 54 = .ok (.iconst 3, 1) := by decide +kernel
theorem dX9_type_55 : decode cX9_type 55 = .ok (.goto 19, 3) := by decide +kernel
theorem dX9_type_58 : decode cX9_type 58 = .ok (.aload_n 0, 1) := by decide +kernel
theorem dX9_type_59 : decode cX9_type 59 = .ok (.getfield 50, 3) := by decide +kernel
theorem dX9_type_62 : decode cX9_type 62 = .ok (.iload_n 3, 1) := by decide +kernel
theorem dX9_type_63 : decode cX9_type 63 = .ok (.iaload, 1) := by decide +kernel
theorem dX9_type_64 : decode cX9_type 64 = .ok (.bipush 20, 2) := by decide +kernel
theorem dX9_type_66 : decode cX9_type 66 = .ok (.if_icmp .ne 7, 3) := by decide +kernel
theorem dX9_type_69 : decode cX9_type 69 = .ok (.iconst 4, 1) := by decide +kernel
theorem dX9_type_70 : decode cX9_type 70 = .ok (.goto 4, 3) := by decide +kernel
theorem dX9_type_73 : decode cX9_type 73 = .ok (.iconst 0, 1) := by decide +kernel
theorem dX9_type_74 : decode cX9_type 74 = .ok (.invokevirtual 135, 3) := by decide +kernel
theorem dX9_type_77 : decode cX9_type 77 = .ok (.ifCond .eq 5, 3) := by decide +kernel
theorem dX9_type_80 : decode cX9_type 80 = .ok (.iconst 0, 1) := by decide +kernel
theorem dX9_type_81 : decode cX9_type 81 = .ok (.ireturn, 1) := by decide +kernel
theorem dX9_type_82 : decode cX9_type 82 = .ok (.aload_n 0, 1) := by decide +kernel
theorem dX9_type_83 : decode cX9_type 83 = .ok (.getfield 25, 3) := by decide +kernel
theorem dX9_type_86 : decode cX9_type 86 = .ok (.iload 4, 2) := by decide +kernel
theorem dX9_type_88 : decode cX9_type 88 = .ok (.iaload, 1) := by decide +kernel
theorem dX9_type_89 : decode cX9_type 89 = .ok (.istore 5, 2) := by decide +kernel
theorem dX9_type_91 : decode cX9_type 91 = .ok (.bipush 20, 2) := by decide +kernel
theorem dX9_type_93 : decode cX9_type 93 = .ok (.iload_n 3, 1) := by decide +kernel
theorem dX9_type_94 : decode cX9_type 94 = .ok (.imul, 1) := by decide +kernel
theorem dX9_type_95 : decode cX9_type 95 = .ok (.istore 6, 2) := by decide +kernel
theorem dX9_type_97 : decode cX9_type 97 = .ok (.iload 6, 2) := by decide +kernel
theorem dX9_type_99 : decode cX9_type 99 = .ok (.bipush 20, 2) := by decide +kernel
theorem dX9_type_101 : decode cX9_type 101 = .ok (.iload_n 3, 1) := by decide +kernel
theorem dX9_type_102 : decode cX9_type 102 = .ok (.imul, 1) := by decide +kernel
theorem dX9_type_103 : decode cX9_type 103 = .ok (.aload_n 0, 1) := by decide +kernel
theorem dX9_type_104 : decode cX9_type 104 = .ok (.getfield 50, 3) := by decide +kernel
theorem dX9_type_107 : decode cX9_type 107 = .ok (.iload_n 3, 1) := by decide +kernel
theorem dX9_type_108 : decode cX9_type 108 = .ok (.iaload, 1) := by decide +kernel
theorem dX9_type_109 : decode cX9_type 109 = .ok (.iadd, 1) := by decide +kernel
theorem dX9_type_110 : decode cX9_type 110 = .ok (.if_icmp .ge 31, 3) := by decide +kernel
theorem dX9_type_113 : decode cX9_type 113 = .ok (.iload 5, 2) := by decide +kernel
theorem dX9_type_115 : decode cX9_type 115 = .ok (.aload_n 0, 1) := by decide +kernel
theorem dX9_type_116 : decode cX9_type 116 = .ok (.getfield 53, 3) := by decide +kernel
theorem dX9_type_119 : decode cX9_type 119 = .ok (.iload 6, 2) := by decide +kernel
theorem dX9_type_121 : decode cX9_type 121 = .ok (.iaload, 1) := by decide +kernel
theorem dX9_type_122 : decode cX9_type 122 = .ok (.iload 4, 2) := by decide +kernel
theorem dX9_type_124 : decode cX9_type 124 = .ok (.if_icmp .ne 7, 3) := by decide +kernel
theorem dX9_type_127 : decode cX9_type 127 = .ok (.iconst 1, 1) := by decide +kernel
theorem dX9_type_128 : decode cX9_type 128 = .ok (.goto 4, 3) := by decide +kernel
theorem dX9_type_131 : decode cX9_type 131 = .ok (.iconst 0, 1) := by decide +kernel
theorem dX9_type_132 : decode cX9_type 132 = .ok (.iadd, 1) := by decide +kernel
theorem dX9_type_133 : decode cX9_type 133 = .ok (.istore 5, 2) := by decide +kernel
theorem dX9_type_135 : decode cX9_type 135 = .ok (.iinc 6 1, 3) := by decide +kernel
theorem dX9_type_138 : decode cX9_type 138 = .ok (.goto (-41), 3) := by decide +kernel
theorem dX9_type_141 : decode cX9_type 141 = .ok (.bipush 20, 2) := by decide +kernel
theorem dX9_type_143 : decode cX9_type 143 = .ok (.iload_n 3, 1) := by decide +kernel
theorem dX9_type_144 : decode cX9_type 144 = .ok (.imul, 1) := by decide +kernel
theorem dX9_type_145 : decode cX9_type 145 = .ok (.aload_n 0, 1) := by decide +kernel
theorem dX9_type_146 : decode cX9_type 146 = .ok (.getfield 50, 3) := by decide +kernel
theorem dX9_type_149 : decode cX9_type 149 = .ok (.iload_n 3, 1) := by decide +kernel
theorem dX9_type_150 : decode cX9_type 150 = .ok (.iaload, 1) := by decide +kernel
theorem dX9_type_151 : decode cX9_type 151 = .ok (.iadd, 1) := by decide +kernel
theorem dX9_type_152 : decode cX9_type 152 = .ok (.istore 6, 2) := by decide +kernel
theorem dX9_type_154 : decode cX9_type 154 = .ok (.aload_n 0, 1) := by decide +kernel
theorem dX9_type_155 : decode cX9_type 155 = .ok (.getfield 53, 3) := by decide +kernel
theorem dX9_type_158 : decode cX9_type 158 = .ok (.iload 6, 2) := by decide +kernel
theorem dX9_type_160 : decode cX9_type 160 = .ok (.iload 4, 2) := by decide +kernel
theorem dX9_type_162 : decode cX9_type 162 = .ok (.iastore, 1) := by decide +kernel
theorem dX9_type_163 : decode cX9_type 163 = .ok (.aload_n 0, 1) := by decide +kernel
theorem dX9_type_164 : decode cX9_type 164 = .ok (.getfield 56, 3) := by decide +kernel
theorem dX9_type_167 : decode cX9_type 167 = .ok (.iload 6, 2) := by decide +kernel
theorem dX9_type_169 : decode cX9_type 169 = .ok (.bipush 101, 2) := by decide +kernel
theorem dX9_type_171 : decode cX9_type 171 = .ok (.iload_n 2, 1) := by decide +kernel
theorem dX9_type_172 : decode cX9_type 172 = .ok (.iadd, 1) := by decide +kernel
theorem dX9_type_173 : decode cX9_type 173 = .ok (.bipush 97, 2) := by decide +kernel
theorem dX9_type_175 : decode cX9_type 175 = .ok (.isub, 1) := by decide +kernel
theorem dX9_type_176 : decode cX9_type 176 = .ok (.iastore, 1) := by decide +kernel
theorem dX9_type_177 : decode cX9_type 177 = .ok (.aload_n 0, 1) := by decide +kernel
theorem dX9_type_178 : decode cX9_type 178 = .ok (.getfield 59, 3) := by decide +kernel
theorem dX9_type_181 : decode cX9_type 181 = .ok (.iload 6, 2) := by decide +kernel
theorem dX9_type_183 : decode cX9_type 183 = .ok (.iload 5, 2) := by decide +kernel
theorem dX9_type_185 : decode cX9_type 185 = .ok (.aload_n 0, 1) := by decide +kernel
theorem dX9_type_186 : decode cX9_type 186 = .ok (.getfield 19, 3) := by decide +kernel
theorem dX9_type_189 : decode cX9_type 189 = .ok (.iload 4, 2) := by decide +kernel
theorem dX9_type_191 : decode cX9_type 191 = .ok (.iaload, 1) := by decide +kernel
theorem dX9_type_192 : decode cX9_type 192 = .ok (.aload_n 0, 1) := by decide +kernel
theorem dX9_type_193 : decode cX9_type 193 = .ok (.getfield 22, 3) := by decide +kernel
theorem dX9_type_196 : decode cX9_type 196 = .ok (.iload 4, 2) := by decide +kernel
theorem dX9_type_198 : decode cX9_type 198 = .ok (.iaload, 1) := by decide +kernel
theorem dX9_type_199 : decode cX9_type 199 = .ok (.imul, 1) := by decide +kernel
theorem dX9_type_200 : decode cX9_type 200 = .ok (.irem, 1) := by decide +kernel
theorem dX9_type_201 : decode cX9_type 201 = .ok (.iastore, 1) := by decide +kernel
theorem dX9_type_202 : decode cX9_type 202 = .ok (.aload_n 0, 1) := by decide +kernel
theorem dX9_type_203 : decode cX9_type 203 = .ok (.getfield 62, 3) := by decide +kernel
theorem dX9_type_206 : decode cX9_type 206 = .ok (.iload 6, 2) := by decide +kernel
theorem dX9_type_208 : decode cX9_type 208 = .ok (.iload_n 1, 1) := by decide +kernel
theorem dX9_type_209 : decode cX9_type 209 = .ok (.iastore, 1) := by decide +kernel
theorem dX9_type_210 : decode cX9_type 210 = .ok (.aload_n 0, 1) := by decide +kernel
theorem dX9_type_211 : decode cX9_type 211 = .ok (.getfield 50, 3) := by decide +kernel
theorem dX9_type_214 : decode cX9_type 214 = .ok (.iload_n 3, 1) := by decide +kernel
theorem dX9_type_215 : decode cX9_type 215 = .ok (.dup2, 1) := by decide +kernel
theorem dX9_type_216 : decode cX9_type 216 = .ok (.iaload, 1) := by decide +kernel
theorem dX9_type_217 : decode cX9_type 217 = .ok (.iconst 1, 1) := by decide +kernel
theorem dX9_type_218 : decode cX9_type 218 = .ok (.iadd, 1) := by decide +kernel
theorem dX9_type_219 : decode cX9_type 219 = .ok (.iastore, 1) := by decide +kernel
theorem dX9_type_220 : decode cX9_type 220 = .ok (.aload_n 0, 1) := by decide +kernel
theorem dX9_type_221 : decode cX9_type 221 = .ok (.getfield 50, 3) := by decide +kernel
theorem dX9_type_224 : decode cX9_type 224 = .ok (.iload_n 3, 1) := by decide +kernel
theorem dX9_type_225 : decode cX9_type 225 = .ok (.iaload, 1) := by decide +kernel
theorem dX9_type_226 : decode cX9_type 226 = .ok (.ireturn, 1) := by decide +kernel
theorem dX9_doKeys_0 : decode cX9_doKeys 0 = .ok (.bipush 20, 2) := by decide +kernel
theorem dX9_doKeys_2 : decode cX9_doKeys 2 = .ok (.iload_n 1, 1) := by decide +kernel
theorem dX9_doKeys_3 : decode cX9_doKeys 3 = .ok (.imul, 1) := by decide +kernel
theorem dX9_doKeys_4 : decode cX9_doKeys 4 = .ok (.istore_n 2, 1) := by decide +kernel
theorem dX9_doKeys_5 : decode cX9_doKeys 5 = .ok (.iload_n 2, 1) := by decide +kernel
theorem dX9_doKeys_6 : decode cX9_doKeys 6 = .ok (.bipush 20, 2) := by decide +kernel
theorem dX9_doKeys_8 : decode cX9_doKeys 8 = .ok (.iload_n 1, 1) := by decide +kernel
theorem dX9_doKeys_9 : decode cX9_doKeys 9 = .ok (.imul, 1) := by decide +kernel
theorem dX9_doKeys_10 : decode cX9_doKeys 10 = .ok (.aload_n 0, 1) := by decide +kernel
theorem dX9_doKeys_11 : decode cX9_doKeys 11 = .ok (.getfield 50, 3) := by decide +kernel
theorem dX9_doKeys_14 : decode cX9_doKeys 14 = .ok (.iload_n 1, 1) := by decide +kernel
theorem dX9_doKeys_15 : decode cX9_doKeys 15 = .ok (.iaload, 1) := by decide +kernel
theorem dX9_doKeys_16 : decode cX9_doKeys 16 = .ok (.iadd, 1) := by decide +kernel
theorem dX9_doKeys_17 : decode cX9_doKeys 17 = .ok (.if_icmp .ge 166, 3) := by decide +kernel
theorem dX9_doKeys_20 : decode cX9_doKeys 20 = .ok (.aload_n 0, 1) := by decide +kernel
theorem dX9_doKeys_21 : decode cX9_doKeys 21 = .ok (.getfield 53, 3) := by decide +kernel
theorem dX9_doKeys_24 : decode cX9_doKeys 24 = .ok (.iload_n 2, 1) := by decide +kernel
theorem dX9_doKeys_25 : decode cX9_doKeys 25 = .ok (.iaload, 1) := by decide +kernel
theorem dX9_doKeys_26 : decode cX9_doKeys 26 = .ok (.istore_n 3, 1) := by decide +kernel
theorem dX9_doKeys_27 : decode cX9_doKeys 27 = .ok (.aload_n 0, 1) := by decide +kernel
theorem dX9_doKeys_28 : decode cX9_doKeys 28 = .ok (.getfield 28, 3) := by decide +kernel
theorem dX9_doKeys_31 : decode cX9_doKeys 31 = .ok (.iload_n 3, 1) := by decide +kernel
theorem dX9_doKeys_32 : decode cX9_doKeys 32 = .ok (.baload, 1) := by decide +kernel
theorem dX9_doKeys_33 : decode cX9_doKeys 33 = .ok (.ifCond .eq 67, 3) := by decide +kernel
theorem dX9_doKeys_36 : decode cX9_doKeys 36 = .ok (.aload_n 0, 1) := by decide +kernel
theorem dX9_doKeys_37 : decode cX9_doKeys 37 = .ok (.getfield 41, 3) := by decide +kernel
theorem dX9_doKeys_40 : decode cX9_doKeys 40 = .ok (.bipush 96, 2) := by decide +kernel
theorem dX9_doKeys_42 : decode cX9_doKeys 42 = .ok (.iload_n 3, 1) := by decide +kernel
theorem dX9_doKeys_43 : decode cX9_doKeys 43 = .ok (.imul, 1) := by decide +kernel
theorem dX9_doKeys_44 : decode cX9_doKeys 44 = .ok (.aload_n 0, 1) := by decide +kernel
theorem dX9_doKeys_45 : decode cX9_doKeys 45 = .ok (.getfield 25, 3) := by decide +kernel
theorem dX9_doKeys_48 : decode cX9_doKeys 48 = .ok (.iload_n 3, 1) := by decide +kernel
theorem dX9_doKeys_49 : decode cX9_doKeys 49 = .ok (.iaload, 1) := by decide +kernel
theorem dX9_doKeys_50 : decode cX9_doKeys 50 = .ok (.iadd, 1) := by decide +kernel
theorem dX9_doKeys_51 : decode cX9_doKeys 51 = .ok (.aload_n 0, 1) := by decide +kernel
theorem dX9_doKeys_52 : decode cX9_doKeys 52 = .ok (.getfield 38, 3) := by decide +kernel
theorem dX9_doKeys_55 : decode cX9_doKeys 55 = .ok (.iload_n 3, 1) := by decide +kernel
theorem dX9_doKeys_56 : decode cX9_doKeys 56 = .ok (.baload, 1) := by decide +kernel
theorem dX9_doKeys_57 : decode cX9_doKeys 57 = .ok (.ifCond .eq 8, 3) := by decide +kernel
theorem dX9_doKeys_60 : decode cX9_doKeys 60 = .ok (.bipush 7, 2) := by decide +kernel
theorem dX9_doKeys_62 : decode cX9_doKeys 62 = .ok (.goto 9, 3) := by decide +kernel
theorem dX9_doKeys_65 : decode cX9_doKeys 65 = .ok (.aload_n 0, 1) := by decide +kernel
theorem dX9_doKeys_66 : decode cX9_doKeys 66 = .ok (.getfield 56, 3) := by decide +kernel
theorem dX9_doKeys_69 : decode cX9_doKeys 69 = .ok (.iload_n 2, 1) := by decide +kernel
theorem dX9_doKeys_70 : decode cX9_doKeys 70 = .ok (.iaload, 1) := by decide +kernel
theorem dX9_doKeys_71 : decode cX9_doKeys 71 = .ok (.iastore, 1) := by decide +kernel
theorem dX9_doKeys_72 : decode cX9_doKeys 72 = .ok (.aload_n 0, 1) := by decide +kernel
theorem dX9_doKeys_73 : decode cX9_doKeys 73 = .ok (.getfield 25, 3) := by decide +kernel
theorem dX9_doKeys_76 : decode cX9_doKeys 76 = .ok (.iload_n 3, 1) := by decide +kernel
theorem dX9_doKeys_77 : decode cX9_doKeys 77 = .ok (.aload_n 0, 1) := by decide +kernel
theorem dX9_doKeys_78 : decode cX9_doKeys 78 = .ok (.getfield 25, 3) := by decide +kernel
theorem dX9_doKeys_81 : decode cX9_doKeys 81 = .ok (.iload_n 3, 1) := by decide +kernel
theorem dX9_doKeys_82 : decode cX9_doKeys 82 = .ok (.iaload, 1) := by decide +kernel
theorem dX9_doKeys_83 : decode cX9_doKeys 83 = .ok (.iconst 1, 1) := by decide +kernel
theorem dX9_doKeys_84 : decode cX9_doKeys 84 = .ok (.iadd, 1) := by decide +kernel
theorem dX9_doKeys_85 : decode cX9_doKeys 85 = .ok (.aload_n 0, 1) := by decide +kernel
theorem dX9_doKeys_86 : decode cX9_doKeys 86 = .ok (.getfield 19, 3) := by decide +kernel
theorem dX9_doKeys_89 : decode cX9_doKeys 89 = .ok (.iload_n 3, 1) := by decide +kernel
theorem dX9_doKeys_90 : decode cX9_doKeys 90 = .ok (.iaload, 1) := by decide +kernel
theorem dX9_doKeys_91 : decode cX9_doKeys 91 = .ok (.aload_n 0, 1) := by decide +kernel
theorem dX9_doKeys_92 : decode cX9_doKeys 92 = .ok (.getfield 22, 3) := by decide +kernel
theorem dX9_doKeys_95 : decode cX9_doKeys 95 = .ok (.iload_n 3, 1) := by decide +kernel
theorem dX9_doKeys_96 : decode cX9_doKeys 96 = .ok (.iaload, 1) := by decide +kernel
theorem dX9_doKeys_97 : decode cX9_doKeys 97 = .ok (.imul, 1) := by decide +kernel
theorem dX9_doKeys_98 : decode cX9_doKeys 98 = .ok (.irem, 1) := by decide +kernel
theorem dX9_doKeys_99 : decode cX9_doKeys 99 = .ok (.iastore, 1) := by decide +kernel
theorem dX9_doKeys_100 : decode cX9_doKeys 100 = .ok (.aload_n 0, 1) := by decide +kernel
theorem dX9_doKeys_101 : decode cX9_doKeys 101 = .ok (.iload_n 3, 1) := by decide +kernel
theorem dX9_doKeys_102 : decode cX9_doKeys 102 = .ok (.aload_n 0, 1) := by decide +kernel
theorem dX9_doKeys_103 : decode cX9_doKeys 103 = .ok (.getfield 59, 3) := by decide +kernel
theorem dX9_doKeys_106 : decode cX9_doKeys 106 = .ok (.iload_n 2, 1) := by decide +kernel
theorem dX9_doKeys_107 : decode cX9_doKeys 107 = .ok (.iaload, 1) := by decide +kernel
theorem dX9_doKeys_108 : decode cX9_doKeys 108 = .ok (.invokevirtual 183, 3) := by decide +kernel
theorem dX9_doKeys_111 : decode cX9_doKeys 111 = .ok (.istore 4, 2) := by decide +kernel
theorem dX9_doKeys_113 : decode cX9_doKeys 113 = .ok (.aload_n 0, 1) := by decide +kernel
theorem dX9_doKeys_114 : decode cX9_doKeys 114 = .ok (.getfield 113, 3) := by decide +kernel
theorem dX9_doKeys_117 : decode cX9_doKeys 117 = .ok (.aload_n 0, 1) := by decide +kernel
theorem dX9_doKeys_118 : decode cX9_doKeys 118 = .ok (.getfield 62, 3) := by decide +kernel
theorem dX9_doKeys_121 : decode cX9_doKeys 121 = .ok (.iload_n 2, 1) := by decide +kernel
theorem dX9_doKeys_122 : decode cX9_doKeys 122 = .ok (.iaload, 1) := by decide +kernel
theorem dX9_doKeys_123 : decode cX9_doKeys 123 = .ok (.dup2, 1) := by decide +kernel
theorem dX9_doKeys_124 : decode cX9_doKeys 124 = .ok (.iaload, 1) := by decide +kernel
theorem dX9_doKeys_125 : decode cX9_doKeys 125 = .ok (.iconst 1, 1) := by decide +kernel
theorem dX9_doKeys_126 : decode cX9_doKeys 126 = .ok (.iadd, 1) := by decide +kernel
theorem dX9_doKeys_127 : decode cX9_doKeys 127 = .ok (.iastore, 1) := by decide +kernel
theorem dX9_doKeys_128 : decode cX9_doKeys 128 = .ok (.aload_n 0, 1) := by decide +kernel
theorem dX9_doKeys_129 : decode cX9_doKeys 129 = .ok (.getfield 116, 3) := by decide +kernel
theorem dX9_doKeys_132 : decode cX9_doKeys 132 = .ok (.aload_n 0, 1) := by decide +kernel
theorem dX9_doKeys_133 : decode cX9_doKeys 133 = .ok (.getfield 62, 3) := by decide +kernel
theorem dX9_doKeys_136 : decode cX9_doKeys 136 = .ok (.iload_n 2, 1) := by decide +kernel
theorem dX9_doKeys_137 : decode cX9_doKeys 137 = .ok (.iaload, 1) := by decide +kernel
theorem dX9_doKeys_138 : decode cX9_doKeys 138 = .ok (.dup2, 1) := by decide +kernel
theorem dX9_doKeys_139 : decode cX9_doKeys 139 = .ok (.iaload, 1) := by decide +kernel
theorem dX9_doKeys_140 : decode cX9_doKeys 140 = .ok (.iload 4, 2) := by decide +kernel
theorem dX9_doKeys_142 : decode cX9_doKeys 142 = .ok (.ifCond .lt 32, 3) := by decide +kernel
theorem dX9_doKeys_145 : decode cX9_doKeys 145 = .ok (.aload_n 0, 1) := by decide +kernel
theorem dX9_doKeys_146 : decode cX9_doKeys 146 = .ok (.getfield 28, 3) := by decide +kernel
theorem dX9_doKeys_149 : decode cX9_doKeys 149 = .ok (.iload_n 3, 1) := by decide +kernel
theorem dX9_doKeys_150 : decode cX9_doKeys 150 = .ok (.baload, 1) := by decide +kernel
theorem dX9_doKeys_151 : decode cX9_doKeys 151 = .ok (.ifCond .eq 23, 3) := by decide +kernel
theorem dX9_doKeys_154 : decode cX9_doKeys 154 = .ok (.aload_n 0, 1) := by decide +kernel
theorem dX9_doKeys_155 : decode cX9_doKeys 155 = .ok (.iload_n 1, 1) := by decide +kernel
theorem dX9_doKeys_156 : decode cX9_doKeys 156 = .ok (.iload 4, 2) := by decide +kernel
theorem dX9_doKeys_158 : decode cX9_doKeys 158 = .ok (.invokevirtual 164, 3) := by decide +kernel
theorem dX9_doKeys_161 : decode cX9_doKeys 161 = .ok (.aload_n 0, 1) := by decide +kernel
theorem dX9_doKeys_162 : decode cX9_doKeys 162 = .ok (.getfield 56, 3) := by decide +kernel
theorem dX9_doKeys_165 : decode cX9_doKeys 165 = .ok (.iload_n 2, 1) := by decide +kernel
theorem dX9_doKeys_166 : decode cX9_doKeys 166 = .ok (.iaload, 1) := by decide +kernel
theorem dX9_doKeys_167 : decode cX9_doKeys 167 = .ok (.if_icmp .ne 7, 3) := by decide +kernel
theorem dX9_doKeys_170 : decode cX9_doKeys 170 = .ok (.iconst 1, 1) := by decide +kernel
theorem dX9_doKeys_171 : decode cX9_doKeys 171 = .ok (.goto 4, 3) := by decide +kernel
theorem dX9_doKeys_174 : decode cX9_doKeys 174 = .ok (.iconst 0, 1) := by decide +kernel
theorem dX9_doKeys_175 : decode cX9_doKeys 175 = .ok (.iadd, 1) := by decide +kernel
theorem dX9_doKeys_176 : decode cX9_doKeys 176 = .ok (.iastore, 1) := by decide +kernel
theorem dX9_doKeys_177 : decode cX9_doKeys 177 = .ok (.iinc 2 1, 3) := by decide +kernel
theorem dX9_doKeys_180 : decode cX9_doKeys 180 = .ok (.goto (-175), 3) := by decide +kernel
theorem dX9_doKeys_183 : decode cX9_doKeys 183 = .ok (.aload_n 0, 1) := by decide +kernel
theorem dX9_doKeys_184 : decode cX9_doKeys 184 = .ok (.getfield 50, 3) := by decide +kernel
theorem dX9_doKeys_187 : decode cX9_doKeys 187 = .ok (.iload_n 1, 1) := by decide +kernel
theorem dX9_doKeys_188 : decode cX9_doKeys 188 = .ok (.iconst 0, 1) := by decide +kernel
theorem dX9_doKeys_189 : decode cX9_doKeys 189 = .ok (.iastore, 1) := by decide +kernel
theorem dX9_doKeys_190 : decode cX9_doKeys 190 = .ok (.return_, 1) := by decide +kernel
theorem dX9_guesses_0 : decode cX9_guesses 0 = .ok (.aload_n 0, 1) := by decide +kernel
theorem dX9_guesses_1 : decode cX9_guesses 1 = .ok (.iload_n 1, 1) := by decide +kernel
theorem dX9_guesses_2 : decode cX9_guesses 2 = .ok (.invokevirtual 180, 3) := by decide +kernel
theorem dX9_guesses_5 : decode cX9_guesses 5 = .ok (.ifCond .eq 5, 3) := by decide +kernel
theorem dX9_guesses_8 : decode cX9_guesses 8 = .ok (.iconst 0, 1) := by decide +kernel
theorem dX9_guesses_9 : decode cX9_guesses 9 = .ok (.ireturn, 1) := by decide +kernel
theorem dX9_guesses_10 : decode cX9_guesses 10 = .ok (.iconst 0, 1) := by decide +kernel
theorem dX9_guesses_11 : decode cX9_guesses 11 = .ok (.istore_n 2, 1) := by decide +kernel
theorem dX9_guesses_12 : decode cX9_guesses 12 = .ok (.bipush 20, 2) := by decide +kernel
theorem dX9_guesses_14 : decode cX9_guesses 14 = .ok (.aload_n 0, 1) := by decide +kernel
theorem dX9_guesses_15 : decode cX9_guesses 15 = .ok (.getfield 104, 3) := by decide +kernel
theorem dX9_guesses_18 : decode cX9_guesses 18 = .ok (.iload_n 1, 1) := by decide +kernel
theorem dX9_guesses_19 : decode cX9_guesses 19 = .ok (.iaload, 1) := by decide +kernel
theorem dX9_guesses_20 : decode cX9_guesses 20 = .ok (.imul, 1) := by decide +kernel
theorem dX9_guesses_21 : decode cX9_guesses 21 = .ok (.istore_n 3, 1) := by decide +kernel
theorem dX9_guesses_22 : decode cX9_guesses 22 = .ok (.iload_n 3, 1) := by decide +kernel
theorem dX9_guesses_23 : decode cX9_guesses 23 = .ok (.istore 4, 2) := by decide +kernel
theorem dX9_guesses_25 : decode cX9_guesses 25 = .ok (.iload 4, 2) := by decide +kernel
theorem dX9_guesses_27 : decode cX9_guesses 27 = .ok (.iload_n 3, 1) := by decide +kernel
theorem dX9_guesses_28 : decode cX9_guesses 28 = .ok (.aload_n 0, 1) := by decide +kernel
theorem dX9_guesses_29 : decode cX9_guesses 29 = .ok (.getfield 50, 3) := by decide +kernel
theorem dX9_guesses_32 : decode cX9_guesses 32 = .ok (.aload_n 0, 1) := by decide +kernel
theorem dX9_guesses_33 : decode cX9_guesses 33 = .ok (.getfield 104, 3) := by decide +kernel
theorem dX9_guesses_36 : decode cX9_guesses 36 = .ok (.iload_n 1, 1) := by decide +kernel
theorem dX9_guesses_37 : decode cX9_guesses 37 = .ok (.iaload, 1) := by decide +kernel
theorem dX9_guesses_38 : decode cX9_guesses 38 = .ok (.iaload, 1) := by decide +kernel
theorem dX9_guesses_39 : decode cX9_guesses 39 = .ok (.iadd, 1) := by decide +kernel
theorem dX9_guesses_40 : decode cX9_guesses 40 = .ok (.if_icmp .ge 28, 3) := by decide +kernel
theorem dX9_guesses_43 : decode cX9_guesses 43 = .ok (.iload_n 2, 1) := by decide +kernel
theorem dX9_guesses_44 : decode cX9_guesses 44 = .ok (.aload_n 0, 1) := by decide +kernel
theorem dX9_guesses_45 : decode cX9_guesses 45 = .ok (.getfield 62, 3) := by decide +kernel
theorem dX9_guesses_48 : decode cX9_guesses 48 = .ok (.iload 4, 2) := by decide +kernel
theorem dX9_guesses_50 : decode cX9_guesses 50 = .ok (.iaload, 1) := by decide +kernel
theorem dX9_guesses_51 : decode cX9_guesses 51 = .ok (.iload_n 1, 1) := by decide +kernel
theorem dX9_guesses_52 : decode cX9_guesses 52 = .ok (.if_icmp .ne 7, 3) := by decide +kernel
theorem dX9_guesses_55 : decode cX9_guesses 55 = .ok (.iconst 1, 1) := by decide +kernel
theorem dX9_guesses_56 : decode cX9_guesses 56 = .ok (.goto 4, 3) := by decide +kernel
theorem dX9_guesses_59 : decode cX9_guesses 59 = .ok (.iconst 0, 1) := by decide +kernel
theorem dX9_guesses_60 : decode cX9_guesses 60 = .ok (.iadd, 1) := by decide +kernel
theorem dX9_guesses_61 : decode cX9_guesses 61 = .ok (.istore_n 2, 1) := by decide +kernel
theorem dX9_guesses_62 : decode cX9_guesses 62 = .ok (.iinc 4 1, 3) := by decide +kernel
theorem dX9_guesses_65 : decode cX9_guesses 65 = .ok (.goto (-40), 3) := by decide +kernel
theorem dX9_guesses_68 : decode cX9_guesses 68 = .ok (.iload_n 2, 1) := by decide +kernel
theorem dX9_guesses_69 : decode cX9_guesses 69 = .ok (.ireturn, 1) := by decide +kernel
theorem dX9_rightShare_0 : decode cX9_rightShare 0 = .ok (.aload_n 0, 1) := by decide +kernel
theorem dX9_rightShare_1 : decode cX9_rightShare 1 = .ok (.iload_n 1, 1) := by decide +kernel
theorem dX9_rightShare_2 : decode cX9_rightShare 2 = .ok (.invokevirtual 180, 3) := by decide +kernel
theorem dX9_rightShare_5 : decode cX9_rightShare 5 = .ok (.ifCond .eq 5, 3) := by decide +kernel
theorem dX9_rightShare_8 : decode cX9_rightShare 8 = .ok (.fconst 0, 1) := by decide +kernel
theorem dX9_rightShare_9 : decode cX9_rightShare 9 = .ok (.freturn, 1) := by decide +kernel
theorem dX9_rightShare_10 : decode cX9_rightShare 10 = .ok (.aload_n 0, 1) := by decide +kernel
theorem dX9_rightShare_11 : decode cX9_rightShare 11 = .ok (.aload_n 0, 1) := by decide +kernel
theorem dX9_rightShare_12 : decode cX9_rightShare 12 = .ok (.getfield 113, 3) := by decide +kernel
theorem dX9_rightShare_15 : decode cX9_rightShare 15 = .ok (.iload_n 1, 1) := by decide +kernel
theorem dX9_rightShare_16 : decode cX9_rightShare 16 = .ok (.iaload, 1) := by decide +kernel
theorem dX9_rightShare_17 : decode cX9_rightShare 17 = .ok (.ifCond .ne 7, 3) := by decide +kernel
theorem dX9_rightShare_20 : decode cX9_rightShare 20 = .ok (.iconst 2, 1) := by decide +kernel
theorem dX9_rightShare_21 : decode cX9_rightShare 21 = .ok (.goto 4, 3) := by decide +kernel
theorem dX9_rightShare_24 : decode cX9_rightShare 24 = .ok (.iconst 0, 1) := by decide +kernel
theorem dX9_rightShare_25 : decode cX9_rightShare 25 = .ok (.invokevirtual 135, 3) := by decide +kernel
theorem dX9_rightShare_28 : decode cX9_rightShare 28 = .ok (.ifCond .eq 7, 3) := by decide +kernel
theorem dX9_rightShare_31 : decode cX9_rightShare 31 = .ok (.fconst 0, 1) := by decide +kernel
theorem dX9_rightShare_32 : decode cX9_rightShare 32 = .ok (.goto 18, 3) := by decide +kernel
theorem dX9_rightShare_35 : decode cX9_rightShare 35 = .ok (.aload_n 0, 1) := by decide +kernel
theorem dX9_rightShare_36 : decode cX9_rightShare 36 = .ok (.getfield 116, 3) := by decide +kernel
theorem dX9_rightShare_39 : decode cX9_rightShare 39 = .ok (.iload_n 1, 1) := by decide +kernel
theorem dX9_rightShare_40 : decode cX9_rightShare 40 = .ok (.iaload, 1) := by decide +kernel
theorem dX9_rightShare_41 : decode cX9_rightShare 41 = .ok (.i2f, 1) := by decide +kernel
theorem dX9_rightShare_42 : decode cX9_rightShare 42 = .ok (.aload_n 0, 1) := by decide +kernel
theorem dX9_rightShare_43 : decode cX9_rightShare 43 = .ok (.getfield 113, 3) := by decide +kernel
theorem dX9_rightShare_46 : decode cX9_rightShare 46 = .ok (.iload_n 1, 1) := by decide +kernel
theorem dX9_rightShare_47 : decode cX9_rightShare 47 = .ok (.iaload, 1) := by decide +kernel
theorem dX9_rightShare_48 : decode cX9_rightShare 48 = .ok (.i2f, 1) := by decide +kernel
theorem dX9_rightShare_49 : decode cX9_rightShare 49 = .ok (.fdiv, 1) := by decide +kernel
theorem dX9_rightShare_50 : decode cX9_rightShare 50 = .ok (.freturn, 1) := by decide +kernel
theorem dX9_copy_0 : decode cX9_copy 0 = .ok (.aload_n 0, 1) := by decide +kernel
theorem dX9_copy_1 : decode cX9_copy 1 = .ok (.iload_n 1, 1) := by decide +kernel
theorem dX9_copy_2 : decode cX9_copy 2 = .ok (.invokevirtual 146, 3) := by decide +kernel
theorem dX9_copy_5 : decode cX9_copy 5 = .ok (.ifCond .ne 35, 3) := by decide +kernel
theorem dX9_copy_8 : decode cX9_copy 8 = .ok (.aload_n 0, 1) := by decide +kernel
theorem dX9_copy_9 : decode cX9_copy 9 = .ok (.iload_n 2, 1) := by decide +kernel
theorem dX9_copy_10 : decode cX9_copy 10 = .ok (.iconst 0, 1) := by decide +kernel
theorem dX9_copy_11 : decode cX9_copy 11 = .ok (.iconst 2, 1) := by decide +kernel
theorem dX9_copy_12 : decode cX9_copy 12 = .ok (.invokestatic 139, 3) := by decide +kernel
theorem dX9_copy_15 : decode cX9_copy 15 = .ok (.ifCond .eq 18, 3) := by decide +kernel
theorem dX9_copy_18 : decode cX9_copy 18 = .ok (.iload_n 3, 1) := by decide +kernel
theorem dX9_copy_19 : decode cX9_copy 19 = .ok (.iconst 0, 1) := by decide +kernel
theorem dX9_copy_20 : decode cX9_copy 20 = .ok (.sipush 9999, 3) := by decide +kernel
theorem dX9_copy_23 : decode cX9_copy 23 = .ok (.invokestatic 139, 3) := by decide +kernel
theorem dX9_copy_26 : decode cX9_copy 26 = .ok (.ifCond .eq 7, 3) := by decide +kernel
theorem dX9_copy_29 : decode cX9_copy 29 = .ok (.iconst 0, 1) := by decide +kernel
theorem dX9_copy_30 : decode cX9_copy 30 = .ok (.goto 4, 3) := by decide +kernel
theorem dX9_copy_33 : decode cX9_copy 33 = .ok (.iconst 2, 1) := by decide +kernel
theorem dX9_copy_34 : decode cX9_copy 34 = .ok (.invokevirtual 135, 3) := by decide +kernel
theorem dX9_copy_37 : decode cX9_copy 37 = .ok (.ifCond .eq 5, 3) := by decide +kernel
theorem dX9_copy_40 : decode cX9_copy 40 = .ok (.iconst 0, 1) := by decide +kernel
theorem dX9_copy_41 : decode cX9_copy 41 = .ok (.ireturn, 1) := by decide +kernel
theorem dX9_copy_42 : decode cX9_copy 42 = .ok (.aload_n 0, 1) := by decide +kernel
theorem dX9_copy_43 : decode cX9_copy 43 = .ok (.getfield 65, 3) := by decide +kernel
theorem dX9_copy_46 : decode cX9_copy 46 = .ok (.iload_n 1, 1) := by decide +kernel
theorem dX9_copy_47 : decode cX9_copy 47 = .ok (.iaload, 1) := by decide +kernel
theorem dX9_copy_48 : decode cX9_copy 48 = .ok (.ifCond .ne 7, 3) := by decide +kernel
theorem dX9_copy_51 : decode cX9_copy 51 = .ok (.iconst (-1), 1) := by decide +kernel
theorem dX9_copy_52 : decode cX9_copy 52 = .ok (.goto 9, 3) := by decide +kernel
theorem dX9_copy_55 : decode cX9_copy 55 = .ok (.aload_n 0, 1) := by decide +kernel
theorem dX9_copy_56 : decode cX9_copy 56 = .ok (.getfield 68, 3) := by decide +kernel
theorem dX9_copy_59 : decode cX9_copy 59 = .ok (.iload_n 1, 1) := by decide +kernel
theorem dX9_copy_60 : decode cX9_copy 60 = .ok (.iaload, 1) := by decide +kernel
theorem dX9_copy_61 : decode cX9_copy 61 = .ok (.istore 4, 2) := by decide +kernel
theorem dX9_copy_63 : decode cX9_copy 63 = .ok (.aload_n 0, 1) := by decide +kernel
theorem dX9_copy_64 : decode cX9_copy 64 = .ok (.getfield 65, 3) := by decide +kernel
theorem dX9_copy_67 : decode cX9_copy 67 = .ok (.iload_n 1, 1) := by decide +kernel
theorem dX9_copy_68 : decode cX9_copy 68 = .ok (.iload_n 2, 1) := by decide +kernel
theorem dX9_copy_69 : decode cX9_copy 69 = .ok (.iconst 1, 1) := by decide +kernel
theorem dX9_copy_70 : decode cX9_copy 70 = .ok (.iadd, 1) := by decide +kernel
theorem dX9_copy_71 : decode cX9_copy 71 = .ok (.iastore, 1) := by decide +kernel
theorem dX9_copy_72 : decode cX9_copy 72 = .ok (.aload_n 0, 1) := by decide +kernel
theorem dX9_copy_73 : decode cX9_copy 73 = .ok (.getfield 68, 3) := by decide +kernel
theorem dX9_copy_76 : decode cX9_copy 76 = .ok (.iload_n 1, 1) := by decide +kernel
theorem dX9_copy_77 : decode cX9_copy 77 = .ok (.iload_n 3, 1) := by decide +kernel
theorem dX9_copy_78 : decode cX9_copy 78 = .ok (.iastore, 1) := by decide +kernel
theorem dX9_copy_79 : decode cX9_copy 79 = .ok (.iconst 0, 1) := by decide +kernel
theorem dX9_copy_80 : decode cX9_copy 80 = .ok (.istore 5, 2) := by decide +kernel
theorem dX9_copy_82 : decode cX9_copy 82 = .ok (.iload 5, 2) := by decide +kernel
theorem dX9_copy_84 : decode cX9_copy 84 = .ok (.iconst 4, 1) := by decide +kernel
theorem dX9_copy_85 : decode cX9_copy 85 = .ok (.if_icmp .ge 31, 3) := by decide +kernel
theorem dX9_copy_88 : decode cX9_copy 88 = .ok (.aload_n 0, 1) := by decide +kernel
theorem dX9_copy_89 : decode cX9_copy 89 = .ok (.getfield 71, 3) := by decide +kernel
theorem dX9_copy_92 : decode cX9_copy 92 = .ok (.iconst 4, 1) := by decide +kernel
theorem dX9_copy_93 : decode cX9_copy 93 = .ok (.iload_n 1, 1) := by decide +kernel
theorem dX9_copy_94 : decode cX9_copy 94 = .ok (.imul, 1) := by decide +kernel
theorem dX9_copy_95 : decode cX9_copy 95 = .ok (.iload 5, 2) := by decide +kernel
theorem dX9_copy_97 : decode cX9_copy 97 = .ok (.iadd, 1) := by decide +kernel
theorem dX9_copy_98 : decode cX9_copy 98 = .ok (.iload 5, 2) := by decide +kernel
theorem dX9_copy_100 : decode cX9_copy 100 = .ok (.iload_n 1, 1) := by decide +kernel
theorem dX9_copy_101 : decode cX9_copy 101 = .ok (.if_icmp .ne 7, 3) := by decide +kernel
theorem dX9_copy_104 : decode cX9_copy 104 = .ok (.iconst 1, 1) := by decide +kernel
theorem dX9_copy_105 : decode cX9_copy 105 = .ok (.goto 4, 3) := by decide +kernel
theorem dX9_copy_108 : decode cX9_copy 108 = .ok (.iconst 0, 1) := by decide +kernel
theorem dX9_copy_109 : decode cX9_copy 109 = .ok (.bastore, 1) := by decide +kernel
theorem dX9_copy_110 : decode cX9_copy 110 = .ok (.iinc 5 1, 3) := by decide +kernel
theorem dX9_copy_113 : decode cX9_copy 113 = .ok (.goto (-31), 3) := by decide +kernel
theorem dX9_copy_116 : decode cX9_copy 116 = .ok (.iload 4, 2) := by decide +kernel
theorem dX9_copy_118 : decode cX9_copy 118 = .ok (.ireturn, 1) := by decide +kernel
theorem dX9_right_0 : decode cX9_right 0 = .ok (.iconst 4, 1) := by decide +kernel
theorem dX9_right_1 : decode cX9_right 1 = .ok (.iload_n 0, 1) := by decide +kernel
theorem dX9_right_2 : decode cX9_right 2 = .ok (.imul, 1) := by decide +kernel
theorem dX9_right_3 : decode cX9_right 3 = .ok (.iload_n 1, 1) := by decide +kernel
theorem dX9_right_4 : decode cX9_right 4 = .ok (.iadd, 1) := by decide +kernel
theorem dX9_right_5 : decode cX9_right 5 = .ok (.iconst 3, 1) := by decide +kernel
theorem dX9_right_6 : decode cX9_right 6 = .ok (.imul, 1) := by decide +kernel
theorem dX9_right_7 : decode cX9_right 7 = .ok (.iload_n 2, 1) := by decide +kernel
theorem dX9_right_8 : decode cX9_right 8 = .ok (.iadd, 1) := by decide +kernel
theorem dX9_right_9 : decode cX9_right 9 = .ok (.ireturn, 1) := by decide +kernel
theorem dX9_allow_0 : decode cX9_allow 0 = .ok (.aload_n 0, 1) := by decide +kernel
theorem dX9_allow_1 : decode cX9_allow 1 = .ok (.aload_n 0, 1) := by decide +kernel
theorem dX9_allow_2 : decode cX9_allow 2 = .ok (.iload_n 1, 1) := by decide +kernel
theorem dX9_allow_3 : decode cX9_allow 3 = .ok (.invokevirtual 143, 3) := by decide +kernel
theorem dX9_allow_6 : decode cX9_allow 6 = .ok (.ifCond .eq 11, 3) := by decide +kernel
theorem dX9_allow_9 : decode cX9_allow 9 = .ok (.aload_n 0, 1) := by decide +kernel
theorem dX9_allow_10 : decode cX9_allow 10 = .ok (.iload_n 2, 1) := by decide +kernel
theorem dX9_allow_11 : decode cX9_allow 11 = .ok (.invokevirtual 143, 3) := by decide +kernel
theorem dX9_allow_14 : decode cX9_allow 14 = .ok (.ifCond .ne 7, 3) := by decide +kernel
theorem dX9_allow_17 : decode cX9_allow 17 = .ok (.iconst 1, 1) := by decide +kernel
theorem dX9_allow_18 : decode cX9_allow 18 = .ok (.goto 22, 3) := by decide +kernel
theorem dX9_allow_21 : decode cX9_allow 21 = .ok (.iload_n 3, 1) := by decide +kernel
theorem dX9_allow_22 : decode cX9_allow 22 = .ok (.iconst 0, 1) := by decide +kernel
theorem dX9_allow_23 : decode cX9_allow 23 = .ok (.iconst 2, 1) := by decide +kernel
theorem dX9_allow_24 : decode cX9_allow 24 = .ok (.invokestatic 139, 3) := by decide +kernel
theorem dX9_allow_27 : decode cX9_allow 27 = .ok (.ifCond .eq 8, 3) := by decide +kernel
theorem dX9_allow_30 : decode cX9_allow 30 = .ok (.iload_n 1, 1) := by decide +kernel
theorem dX9_allow_31 : decode cX9_allow 31 = .ok (.iload_n 2, 1) := by decide +kernel
theorem dX9_allow_32 : decode cX9_allow 32 = .ok (.if_icmp .ne 7, 3) := by decide +kernel
theorem dX9_allow_35 : decode cX9_allow 35 = .ok (.iconst 2, 1) := by decide +kernel
theorem dX9_allow_36 : decode cX9_allow 36 = .ok (.goto 4, 3) := by decide +kernel
theorem dX9_allow_39 : decode cX9_allow 39 = .ok (.iconst 0, 1) := by decide +kernel
theorem dX9_allow_40 : decode cX9_allow 40 = .ok (.invokevirtual 135, 3) := by decide +kernel
theorem dX9_allow_43 : decode cX9_allow 43 = .ok (.ifCond .eq 5, 3) := by decide +kernel
theorem dX9_allow_46 : decode cX9_allow 46 = .ok (.iconst 0, 1) := by decide +kernel
theorem dX9_allow_47 : decode cX9_allow 47 = .ok (.ireturn, 1) := by decide +kernel
theorem dX9_allow_48 : decode cX9_allow 48 = .ok (.aload_n 0, 1) := by decide +kernel
theorem dX9_allow_49 : decode cX9_allow 49 = .ok (.getfield 74, 3) := by decide +kernel
theorem dX9_allow_52 : decode cX9_allow 52 = .ok (.iload_n 1, 1) := by decide +kernel
theorem dX9_allow_53 : decode cX9_allow 53 = .ok (.iload_n 2, 1) := by decide +kernel
theorem dX9_allow_54 : decode cX9_allow 54 = .ok (.iload_n 3, 1) := by decide +kernel
theorem dX9_allow_55 : decode cX9_allow 55 = .ok (.invokestatic 259, 3) := by decide +kernel
theorem dX9_allow_58 : decode cX9_allow 58 = .ok (.baload, 1) := by decide +kernel
theorem dX9_allow_59 : decode cX9_allow 59 = .ok (.istore 5, 2) := by decide +kernel
theorem dX9_allow_61 : decode cX9_allow 61 = .ok (.aload_n 0, 1) := by decide +kernel
theorem dX9_allow_62 : decode cX9_allow 62 = .ok (.getfield 74, 3) := by decide +kernel
theorem dX9_allow_65 : decode cX9_allow 65 = .ok (.iload_n 1, 1) := by decide +kernel
theorem dX9_allow_66 : decode cX9_allow 66 = .ok (.iload_n 2, 1) := by decide +kernel
theorem dX9_allow_67 : decode cX9_allow 67 = .ok (.iload_n 3, 1) := by decide +kernel
theorem dX9_allow_68 : decode cX9_allow 68 = .ok (.invokestatic 259, 3) := by decide +kernel
theorem dX9_allow_71 : decode cX9_allow 71 = .ok (.iload 4, 2) := by decide +kernel
theorem dX9_allow_73 : decode cX9_allow 73 = .ok (.bastore, 1) := by decide +kernel
theorem dX9_allow_74 : decode cX9_allow 74 = .ok (.iload 5, 2) := by decide +kernel
theorem dX9_allow_76 : decode cX9_allow 76 = .ok (.ireturn, 1) := by decide +kernel
theorem dX9_paste_0 : decode cX9_paste 0 = .ok (.aload_n 0, 1) := by decide +kernel
theorem dX9_paste_1 : decode cX9_paste 1 = .ok (.aload_n 0, 1) := by decide +kernel
theorem dX9_paste_2 : decode cX9_paste 2 = .ok (.iload_n 1, 1) := by decide +kernel
theorem dX9_paste_3 : decode cX9_paste 3 = .ok (.invokevirtual 143, 3) := by decide +kernel
theorem dX9_paste_6 : decode cX9_paste 6 = .ok (.ifCond .eq 16, 3) := by decide +kernel
theorem dX9_paste_9 : decode cX9_paste 9 = .ok (.aload_n 0, 1) := by decide +kernel
theorem dX9_paste_10 : decode cX9_paste 10 = .ok (.iload_n 2, 1) := by decide +kernel
theorem dX9_paste_11 : decode cX9_paste 11 = .ok (.invokevirtual 143, 3) := by decide +kernel
theorem dX9_paste_14 : decode cX9_paste 14 = .ok (.ifCond .eq 8, 3) := by decide +kernel
theorem dX9_paste_17 : decode cX9_paste 17 = .ok (.iload_n 1, 1) := by decide +kernel
theorem dX9_paste_18 : decode cX9_paste 18 = .ok (.iload_n 2, 1) := by decide +kernel
theorem dX9_paste_19 : decode cX9_paste 19 = .ok (.if_icmp .ne 7, 3) := by decide +kernel
theorem dX9_paste_22 : decode cX9_paste 22 = .ok (.iconst 1, 1) := by decide +kernel
theorem dX9_paste_23 : decode cX9_paste 23 = .ok (.goto 17, 3) := by decide +kernel
theorem dX9_paste_26 : decode cX9_paste 26 = .ok (.aload_n 0, 1) := by decide +kernel
theorem dX9_paste_27 : decode cX9_paste 27 = .ok (.getfield 65, 3) := by decide +kernel
theorem dX9_paste_30 : decode cX9_paste 30 = .ok (.iload_n 1, 1) := by decide +kernel
theorem dX9_paste_31 : decode cX9_paste 31 = .ok (.iaload, 1) := by decide +kernel
theorem dX9_paste_32 : decode cX9_paste 32 = .ok (.ifCond .ne 7, 3) := by decide +kernel
theorem dX9_paste_35 : decode cX9_paste 35 = .ok (.iconst 2, 1) := by decide +kernel
theorem dX9_paste_36 : decode cX9_paste 36 = .ok (.goto 4, 3) := by decide +kernel
theorem dX9_paste_39 : decode cX9_paste 39 = .ok (.iconst 0, 1) := by decide +kernel
theorem dX9_paste_40 : decode cX9_paste 40 = .ok (.invokevirtual 135, 3) := by decide +kernel
theorem dX9_paste_43 : decode cX9_paste 43 = .ok (.ifCond .eq 5, 3) := by decide +kernel
theorem dX9_paste_46 : decode cX9_paste 46 = .ok (.iconst 0, 1) := by decide +kernel
theorem dX9_paste_47 : decode cX9_paste 47 = .ok (.ireturn, 1) := by decide +kernel
theorem dX9_paste_48 : decode cX9_paste 48 = .ok (.iconst 1, 1) := by decide +kernel
theorem dX9_paste_49 : decode cX9_paste 49 = .ok (.istore_n 3, 1) := by decide +kernel
theorem dX9_paste_50 : decode cX9_paste 50 = .ok (.iconst 0, 1) := by decide +kernel
theorem dX9_paste_51 : decode cX9_paste 51 = .ok (.istore 4, 2) := by decide +kernel
theorem dX9_paste_53 : decode cX9_paste 53 = .ok (.iload 4, 2) := by decide +kernel
theorem dX9_paste_55 : decode cX9_paste 55 = .ok (.iconst 4, 1) := by decide +kernel
theorem dX9_paste_56 : decode cX9_paste 56 = .ok (.if_icmp .ge 61, 3) := by decide +kernel
theorem dX9_paste_59 : decode cX9_paste 59 = .ok (.iload_n 3, 1) := by decide +kernel
theorem dX9_paste_60 : decode cX9_paste 60 = .ok (.ifCond .eq 49, 3) := by decide +kernel
theorem dX9_paste_63 : decode cX9_paste 63 = .ok (.aload_n 0, 1) := by decide +kernel
theorem dX9_paste_64 : decode cX9_paste 64 = .ok (.getfield 71, 3) := by decide +kernel
theorem dX9_paste_67 : decode cX9_paste 67 = .ok (.iconst 4, 1) := by decide +kernel
theorem dX9_paste_68 : decode cX9_paste 68 = .ok (.iload_n 1, 1) := by decide +kernel
theorem dX9_paste_69 : decode cX9_paste 69 = .ok (.imul, 1) := by decide +kernel
theorem dX9_paste_70 : decode cX9_paste 70 = .ok (.iload 4, 2) := by decide +kernel
theorem dX9_paste_72 : decode cX9_paste 72 = .ok (.iadd, 1) := by decide +kernel
theorem dX9_paste_73 : decode cX9_paste 73 = .ok (.baload, 1) := by decide +kernel
theorem dX9_paste_74 : decode cX9_paste 74 = .ok (.ifCond .eq 31, 3) := by decide +kernel
theorem dX9_paste_77 : decode cX9_paste 77 = .ok (.iload 4, 2) := by decide +kernel
theorem dX9_paste_79 : decode cX9_paste 79 = .ok (.iload_n 2, 1) := by decide +kernel
theorem dX9_paste_80 : decode cX9_paste 80 = .ok (.if_icmp .eq 25, 3) := by decide +kernel
theorem dX9_paste_83 : decode cX9_paste 83 = .ok (.aload_n 0, 1) := by decide +kernel
theorem dX9_paste_84 : decode cX9_paste 84 = .ok (.getfield 74, 3) := by decide +kernel
theorem dX9_paste_87 : decode cX9_paste 87 = .ok (.iload 4, 2) := by decide +kernel
theorem dX9_paste_89 : decode cX9_paste 89 = .ok (.iload_n 2, 1) := by decide +kernel
theorem dX9_paste_90 : decode cX9_paste 90 = .ok (.aload_n 0, 1) := by decide +kernel
theorem dX9_paste_91 : decode cX9_paste 91 = .ok (.getfield 65, 3) := by decide +kernel
theorem dX9_paste_94 : decode cX9_paste 94 = .ok (.iload_n 1, 1) := by decide +kernel
theorem dX9_paste_95 : decode cX9_paste 95 = .ok (.iaload, 1) := by decide +kernel
theorem dX9_paste_96 : decode cX9_paste 96 = .ok (.iconst 1, 1) := by decide +kernel
theorem dX9_paste_97 : decode cX9_paste 97 = .ok (.isub, 1) := by decide +kernel
theorem dX9_paste_98 : decode cX9_paste 98 = .ok (.invokestatic 259, 3) := by decide +kernel
theorem dX9_paste_101 : decode cX9_paste 101 = .ok (.baload, 1) := by decide +kernel
theorem dX9_paste_102 : decode cX9_paste 102 = .ok (.ifCond .eq 7, 3) := by decide +kernel
theorem dX9_paste_105 : decode cX9_paste 105 = .ok (.iconst 1, 1) := by decide +kernel
theorem dX9_paste_106 : decode cX9_paste 106 = .ok (.goto 4, 3) := by decide +kernel
theorem dX9_paste_109 : decode cX9_paste 109 = .ok (.iconst 0, 1) := by decide +kernel
theorem dX9_paste_110 : decode cX9_paste 110 = .ok (.istore_n 3, 1) := by decide +kernel
theorem dX9_paste_111 : decode cX9_paste 111 = .ok (.iinc 4 1, 3) := by decide +kernel
theorem dX9_paste_114 : decode cX9_paste 114 = .ok (.goto (-61), 3) := by decide +kernel
theorem dX9_paste_117 : decode cX9_paste 117 = .ok (.aload_n 0, 1) := by decide +kernel
theorem dX9_paste_118 : decode cX9_paste 118 = .ok (.iload_n 3, 1) := by decide +kernel
theorem dX9_paste_119 : decode cX9_paste 119 = .ok (.ifCond .eq 7, 3) := by decide +kernel
theorem dX9_paste_122 : decode cX9_paste 122 = .ok (.iconst 0, 1) := by decide +kernel
theorem dX9_paste_123 : decode cX9_paste 123 = .ok (.goto 4, 3) := by decide +kernel
theorem dX9_paste_126 : decode cX9_paste 126 = .ok (.iconst 3, 1) := by decide +kernel
theorem dX9_paste_127 : decode cX9_paste 127 = .ok (.invokevirtual 135, 3) := by decide +kernel
theorem dX9_paste_130 : decode cX9_paste 130 = .ok (.ifCond .eq 5, 3) := by decide +kernel
theorem dX9_paste_133 : decode cX9_paste 133 = .ok (.iconst 0, 1) := by decide +kernel
theorem dX9_paste_134 : decode cX9_paste 134 = .ok (.ireturn, 1) := by decide +kernel
theorem dX9_paste_135 : decode cX9_paste 135 = .ok (.aload_n 0, 1) := by decide +kernel
theorem dX9_paste_136 : decode cX9_paste 136 = .ok (.getfield 65, 3) := by decide +kernel
theorem dX9_paste_139 : decode cX9_paste 139 = .ok (.iload_n 2, 1) := by decide +kernel
theorem dX9_paste_140 : decode cX9_paste 140 = .ok (.aload_n 0, 1) := by decide +kernel
theorem dX9_paste_141 : decode cX9_paste 141 = .ok (.getfield 65, 3) := by decide +kernel
theorem dX9_paste_144 : decode cX9_paste 144 = .ok (.iload_n 1, 1) := by decide +kernel
theorem dX9_paste_145 : decode cX9_paste 145 = .ok (.iaload, 1) := by decide +kernel
theorem dX9_paste_146 : decode cX9_paste 146 = .ok (.iastore, 1) := by decide +kernel
theorem dX9_paste_147 : decode cX9_paste 147 = .ok (.aload_n 0, 1) := by decide +kernel
theorem dX9_paste_148 : decode cX9_paste 148 = .ok (.getfield 68, 3) := by decide +kernel
theorem dX9_paste_151 : decode cX9_paste 151 = .ok (.iload_n 2, 1) := by decide +kernel
theorem dX9_paste_152 : decode cX9_paste 152 = .ok (.aload_n 0, 1) := by decide +kernel
theorem dX9_paste_153 : decode cX9_paste 153 = .ok (.getfield 68, 3) := by decide +kernel
theorem dX9_paste_156 : decode cX9_paste 156 = .ok (.iload_n 1, 1) := by decide +kernel
theorem dX9_paste_157 : decode cX9_paste 157 = .ok (.iaload, 1) := by decide +kernel
theorem dX9_paste_158 : decode cX9_paste 158 = .ok (.iastore, 1) := by decide +kernel
theorem dX9_paste_159 : decode cX9_paste 159 = .ok (.iconst 0, 1) := by decide +kernel
theorem dX9_paste_160 : decode cX9_paste 160 = .ok (.istore 4, 2) := by decide +kernel
theorem dX9_paste_162 : decode cX9_paste 162 = .ok (.iload 4, 2) := by decide +kernel
theorem dX9_paste_164 : decode cX9_paste 164 = .ok (.iconst 4, 1) := by decide +kernel
theorem dX9_paste_165 : decode cX9_paste 165 = .ok (.if_icmp .ge 45, 3) := by decide +kernel
theorem dX9_paste_168 : decode cX9_paste 168 = .ok (.aload_n 0, 1) := by decide +kernel
theorem dX9_paste_169 : decode cX9_paste 169 = .ok (.getfield 71, 3) := by decide +kernel
theorem dX9_paste_172 : decode cX9_paste 172 = .ok (.iconst 4, 1) := by decide +kernel
theorem dX9_paste_173 : decode cX9_paste 173 = .ok (.iload_n 2, 1) := by decide +kernel
theorem dX9_paste_174 : decode cX9_paste 174 = .ok (.imul, 1) := by decide +kernel
theorem dX9_paste_175 : decode cX9_paste 175 = .ok (.iload 4, 2) := by decide +kernel
theorem dX9_paste_177 : decode cX9_paste 177 = .ok (.iadd, 1) := by decide +kernel
theorem dX9_paste_178 : decode cX9_paste 178 = .ok (.iload 4, 2) := by decide +kernel
theorem dX9_paste_180 : decode cX9_paste 180 = .ok (.iload_n 2, 1) := by decide +kernel
theorem dX9_paste_181 : decode cX9_paste 181 = .ok (.if_icmp .eq 17, 3) := by decide +kernel
theorem dX9_paste_184 : decode cX9_paste 184 = .ok (.aload_n 0, 1) := by decide +kernel
theorem dX9_paste_185 : decode cX9_paste 185 = .ok (.getfield 71, 3) := by decide +kernel
theorem dX9_paste_188 : decode cX9_paste 188 = .ok (.iconst 4, 1) := by decide +kernel
theorem dX9_paste_189 : decode cX9_paste 189 = .ok (.iload_n 1, 1) := by decide +kernel
theorem dX9_paste_190 : decode cX9_paste 190 = .ok (.imul, 1) := by decide +kernel
theorem dX9_paste_191 : decode cX9_paste 191 = .ok (.iload 4, 2) := by decide +kernel
theorem dX9_paste_193 : decode cX9_paste 193 = .ok (.iadd, 1) := by decide +kernel
theorem dX9_paste_194 : decode cX9_paste 194 = .ok (.baload, 1) := by decide +kernel
theorem dX9_paste_195 : decode cX9_paste 195 = .ok (.ifCond .eq 7, 3) := by decide +kernel
theorem dX9_paste_198 : decode cX9_paste 198 = .ok (.iconst 1, 1) := by decide +kernel
theorem dX9_paste_199 : decode cX9_paste 199 = .ok (.goto 4, 3) := by decide +kernel
theorem dX9_paste_202 : decode cX9_paste 202 = .ok (.iconst 0, 1) := by decide +kernel
theorem dX9_paste_203 : decode cX9_paste 203 = .ok (.bastore, 1) := by decide +kernel
theorem dX9_paste_204 : decode cX9_paste 204 = .ok (.iinc 4 1, 3) := by decide +kernel
theorem dX9_paste_207 : decode cX9_paste 207 = .ok (.goto (-45), 3) := by decide +kernel
theorem dX9_paste_210 : decode cX9_paste 210 = .ok (.aload_n 0, 1) := by decide +kernel
theorem dX9_paste_211 : decode cX9_paste 211 = .ok (.getfield 68, 3) := by decide +kernel
theorem dX9_paste_214 : decode cX9_paste 214 = .ok (.iload_n 2, 1) := by decide +kernel
theorem dX9_paste_215 : decode cX9_paste 215 = .ok (.iaload, 1) := by decide +kernel
theorem dX9_paste_216 : decode cX9_paste 216 = .ok (.ireturn, 1) := by decide +kernel
theorem dX9_isLeft_0 : decode cX9_isLeft 0 = .ok (.aload_n 0, 1) := by decide +kernel
theorem dX9_isLeft_1 : decode cX9_isLeft 1 = .ok (.getfield 86, 3) := by decide +kernel
theorem dX9_isLeft_4 : decode cX9_isLeft 4 = .ok (.bipush 8, 2) := by decide +kernel
theorem dX9_isLeft_6 : decode cX9_isLeft 6 = .ok (.iload_n 1, 1) := by decide +kernel
theorem dX9_isLeft_7 : decode cX9_isLeft 7 = .ok (.imul, 1) := by decide +kernel
theorem dX9_isLeft_8 : decode cX9_isLeft 8 = .ok (.iload_n 2, 1) := by decide +kernel
theorem dX9_isLeft_9 : decode cX9_isLeft 9 = .ok (.iadd, 1) := by decide +kernel
theorem dX9_isLeft_10 : decode cX9_isLeft 10 = .ok (.baload, 1) := by decide +kernel
theorem dX9_isLeft_11 : decode cX9_isLeft 11 = .ok (.ifCond .ne 7, 3) := by decide +kernel
theorem dX9_isLeft_14 : decode cX9_isLeft 14 = .ok (.iconst 1, 1) := by decide +kernel
theorem dX9_isLeft_15 : decode cX9_isLeft 15 = .ok (.goto 4, 3) := by decide +kernel
theorem dX9_isLeft_18 : decode cX9_isLeft 18 = .ok (.iconst 0, 1) := by decide +kernel
theorem dX9_isLeft_19 : decode cX9_isLeft 19 = .ok (.istore_n 3, 1) := by decide +kernel
theorem dX9_isLeft_20 : decode cX9_isLeft 20 = .ok (.iconst 0, 1) := by decide +kernel
theorem dX9_isLeft_21 : decode cX9_isLeft 21 = .ok (.istore 4, 2) := by decide +kernel
theorem dX9_isLeft_23 : decode cX9_isLeft 23 = .ok (.iload 4, 2) := by decide +kernel
theorem dX9_isLeft_25 : decode cX9_isLeft 25 = .ok (.bipush 12, 2) := by decide +kernel
theorem dX9_isLeft_27 : decode cX9_isLeft 27 = .ok (.if_icmp .ge 50, 3) := by decide +kernel
theorem dX9_isLeft_30 : decode cX9_isLeft 30 = .ok (.iload_n 2, 1) := by decide +kernel
theorem dX9_isLeft_31 : decode cX9_isLeft 31 = .ok (.bipush 12, 2) := by decide +kernel
theorem dX9_isLeft_33 : decode cX9_isLeft 33 = .ok (.imul, 1) := by decide +kernel
theorem dX9_isLeft_34 : decode cX9_isLeft 34 = .ok (.iload 4, 2) := by decide +kernel
theorem dX9_isLeft_36 : decode cX9_isLeft 36 = .ok (.iadd, 1) := by decide +kernel
theorem dX9_isLeft_37 : decode cX9_isLeft 37 = .ok (.istore 5, 2) := by decide +kernel
theorem dX9_isLeft_39 : decode cX9_isLeft 39 = .ok (.iload_n 3, 1) := by decide +kernel
theorem dX9_isLeft_40 : decode cX9_isLeft 40 = .ok (.ifCond .ne 25, 3) := by decide +kernel
theorem dX9_isLeft_43 : decode cX9_isLeft 43 = .ok (.aload_n 0, 1) := by decide +kernel
theorem dX9_isLeft_44 : decode cX9_isLeft 44 = .ok (.getfield 89, 3) := by decide +kernel
theorem dX9_isLeft_47 : decode cX9_isLeft 47 = .ok (.bipush 96, 2) := by decide +kernel
theorem dX9_isLeft_49 : decode cX9_isLeft 49 = .ok (.iload_n 1, 1) := by decide +kernel
theorem dX9_isLeft_50 : decode cX9_isLeft 50 = .ok (.imul, 1) := by decide +kernel
theorem dX9_isLeft_51 : decode cX9_isLeft 51 = .ok (.iload 5, 2) := by decide +kernel
theorem dX9_isLeft_53 : decode cX9_isLeft 53 = .ok (.iadd, 1) := by decide +kernel
theorem dX9_isLeft_54 : decode cX9_isLeft 54 = .ok (.iaload, 1) := by decide +kernel
theorem dX9_isLeft_55 : decode cX9_isLeft 55 = .ok (.aload_n 0, 1) := by decide +kernel
theorem dX9_isLeft_56 : decode cX9_isLeft 56 = .ok (.iload_n 1, 1) := by decide +kernel
theorem dX9_isLeft_57 : decode cX9_isLeft 57 = .ok (.iload 5, 2) := by decide +kernel
theorem dX9_isLeft_59 : decode cX9_isLeft 59 = .ok (.invokevirtual 164, 3) := by decide +kernel
theorem dX9_isLeft_62 : decode cX9_isLeft 62 = .ok (.if_icmp .eq 7, 3) := by decide +kernel
theorem dX9_isLeft_65 : decode cX9_isLeft 65 = .ok (.iconst 1, 1) := by decide +kernel
theorem dX9_isLeft_66 : decode cX9_isLeft 66 = .ok (.goto 4, 3) := by decide +kernel
theorem dX9_isLeft_69 : decode cX9_isLeft 69 = .ok (.iconst 0, 1) := by decide +kernel
theorem dX9_isLeft_70 : decode cX9_isLeft 70 = .ok (.istore_n 3, 1) := by decide +kernel
theorem dX9_isLeft_71 : decode cX9_isLeft 71 = .ok (.iinc 4 1, 3) := by decide +kernel
theorem dX9_isLeft_74 : decode cX9_isLeft 74 = .ok (.goto (-51), 3) := by decide +kernel
theorem dX9_isLeft_77 : decode cX9_isLeft 77 = .ok (.iload_n 3, 1) := by decide +kernel
theorem dX9_isLeft_78 : decode cX9_isLeft 78 = .ok (.ireturn, 1) := by decide +kernel
theorem dX9_countLeft_0 : decode cX9_countLeft 0 = .ok (.iconst 0, 1) := by decide +kernel
theorem dX9_countLeft_1 : decode cX9_countLeft 1 = .ok (.istore_n 2, 1) := by decide +kernel
theorem dX9_countLeft_2 : decode cX9_countLeft 2 = .ok (.iconst 0, 1) := by decide +kernel
theorem dX9_countLeft_3 : decode cX9_countLeft 3 = .ok (.istore_n 3, 1) := by decide +kernel
theorem dX9_countLeft_4 : decode cX9_countLeft 4 = .ok (.iload_n 3, 1) := by decide +kernel
theorem dX9_countLeft_5 : decode cX9_countLeft 5 = .ok (.bipush 8, 2) := by decide +kernel
theorem dX9_countLeft_7 : decode cX9_countLeft 7 = .ok (.if_icmp .ge 26, 3) := by decide +kernel
theorem dX9_countLeft_10 : decode cX9_countLeft 10 = .ok (.iload_n 2, 1) := by decide +kernel
theorem dX9_countLeft_11 : decode cX9_countLeft 11 = .ok (.aload_n 0, 1) := by decide +kernel
theorem dX9_countLeft_12 : decode cX9_countLeft 12 = .ok (.iload_n 1, 1) := by decide +kernel
theorem dX9_countLeft_13 : decode cX9_countLeft 13 = .ok (.iload_n 3, 1) := by decide +kernel
theorem dX9_countLeft_14 : decode cX9_countLeft 14 = .ok (.invokevirtual 261, 3) := by decide +kernel
theorem dX9_countLeft_17 : decode cX9_countLeft 17 = .ok (.ifCond .eq 7, 3) := by decide +kernel
theorem dX9_countLeft_20 : decode cX9_countLeft 20 = .ok (.iconst 1, 1) := by decide +kernel
theorem dX9_countLeft_21 : decode cX9_countLeft 21 = .ok (.goto 4, 3) := by decide +kernel
theorem dX9_countLeft_24 : decode cX9_countLeft 24 = .ok (.iconst 0, 1) := by decide +kernel
theorem dX9_countLeft_25 : decode cX9_countLeft 25 = .ok (.iadd, 1) := by decide +kernel
theorem dX9_countLeft_26 : decode cX9_countLeft 26 = .ok (.istore_n 2, 1) := by decide +kernel
theorem dX9_countLeft_27 : decode cX9_countLeft 27 = .ok (.iinc 3 1, 3) := by decide +kernel
theorem dX9_countLeft_30 : decode cX9_countLeft 30 = .ok (.goto (-26), 3) := by decide +kernel
theorem dX9_countLeft_33 : decode cX9_countLeft 33 = .ok (.iload_n 2, 1) := by decide +kernel
theorem dX9_countLeft_34 : decode cX9_countLeft 34 = .ok (.ireturn, 1) := by decide +kernel
theorem dX9_copyRows_0 : decode cX9_copyRows 0 = .ok (.aload_n 0, 1) := by decide +kernel
theorem dX9_copyRows_1 : decode cX9_copyRows 1 = .ok (.getfield 80, 3) := by decide +kernel
theorem dX9_copyRows_4 : decode cX9_copyRows 4 = .ok (.iload_n 1, 1) := by decide +kernel
theorem dX9_copyRows_5 : decode cX9_copyRows 5 = .ok (.aload_n 0, 1) := by decide +kernel
theorem dX9_copyRows_6 : decode cX9_copyRows 6 = .ok (.getfield 77, 3) := by decide +kernel
theorem dX9_copyRows_9 : decode cX9_copyRows 9 = .ok (.iload_n 1, 1) := by decide +kernel
theorem dX9_copyRows_10 : decode cX9_copyRows 10 = .ok (.baload, 1) := by decide +kernel
theorem dX9_copyRows_11 : decode cX9_copyRows 11 = .ok (.ifCond .eq 16, 3) := by decide +kernel
theorem dX9_copyRows_14 : decode cX9_copyRows 14 = .ok (.aload_n 0, 1) := by decide +kernel
theorem dX9_copyRows_15 : decode cX9_copyRows 15 = .ok (.iload_n 1, 1) := by decide +kernel
theorem dX9_copyRows_16 : decode cX9_copyRows 16 = .ok (.invokevirtual 264, 3) := by decide +kernel
theorem dX9_copyRows_19 : decode cX9_copyRows 19 = .ok (.iconst 2, 1) := by decide +kernel
theorem dX9_copyRows_20 : decode cX9_copyRows 20 = .ok (.if_icmp .gt 7, 3) := by decide +kernel
theorem dX9_copyRows_23 : decode cX9_copyRows 23 = .ok (.iconst 1, 1) := by decide +kernel
theorem dX9_copyRows_24 : decode cX9_copyRows 24 = .ok (.goto 4, 3) := by decide +kernel
theorem dX9_copyRows_27 : decode cX9_copyRows 27 = .ok (.iconst 0, 1) := by decide +kernel
theorem dX9_copyRows_28 : decode cX9_copyRows 28 = .ok (.bastore, 1) := by decide +kernel
theorem dX9_copyRows_29 : decode cX9_copyRows 29 = .ok (.aload_n 0, 1) := by decide +kernel
theorem dX9_copyRows_30 : decode cX9_copyRows 30 = .ok (.getfield 80, 3) := by decide +kernel
theorem dX9_copyRows_33 : decode cX9_copyRows 33 = .ok (.iload_n 1, 1) := by decide +kernel
theorem dX9_copyRows_34 : decode cX9_copyRows 34 = .ok (.baload, 1) := by decide +kernel
theorem dX9_copyRows_35 : decode cX9_copyRows 35 = .ok (.ifCond .eq 23, 3) := by decide +kernel
theorem dX9_copyRows_38 : decode cX9_copyRows 38 = .ok (.aload_n 0, 1) := by decide +kernel
theorem dX9_copyRows_39 : decode cX9_copyRows 39 = .ok (.getfield 77, 3) := by decide +kernel
theorem dX9_copyRows_42 : decode cX9_copyRows 42 = .ok (.iload_n 1, 1) := by decide +kernel
theorem dX9_copyRows_43 : decode cX9_copyRows 43 = .ok (.iconst 0, 1) := by decide +kernel
theorem dX9_copyRows_44 : decode cX9_copyRows 44 = .ok (.bastore, 1) := by decide +kernel
theorem dX9_copyRows_45 : decode cX9_copyRows 45 = .ok (.aload_n 0, 1) := by decide +kernel
theorem dX9_copyRows_46 : decode cX9_copyRows 46 = .ok (.getfield 83, 3) := by decide +kernel
theorem dX9_copyRows_49 : decode cX9_copyRows 49 = .ok (.iload_n 1, 1) := by decide +kernel
theorem dX9_copyRows_50 : decode cX9_copyRows 50 = .ok (.dup2, 1) := by decide +kernel
theorem dX9_copyRows_51 : decode cX9_copyRows 51 = .ok (.iaload, 1) := by decide +kernel
theorem dX9_copyRows_52 : decode cX9_copyRows 52 = .ok (.iconst 1, 1) := by decide +kernel
theorem dX9_copyRows_53 : decode cX9_copyRows 53 = .ok (.iadd, 1) := by decide +kernel
theorem dX9_copyRows_54 : decode cX9_copyRows 54 = .ok (.iastore, 1) := by decide +kernel
theorem dX9_copyRows_55 : decode cX9_copyRows 55 = .ok (.goto 137, 3) := by decide +kernel
theorem dX9_copyRows_58 : decode cX9_copyRows 58 = .ok (.aload_n 0, 1) := by decide +kernel
theorem dX9_copyRows_59 : decode cX9_copyRows 59 = .ok (.getfield 77, 3) := by decide +kernel
theorem dX9_copyRows_62 : decode cX9_copyRows 62 = .ok (.iload_n 1, 1) := by decide +kernel
theorem dX9_copyRows_63 : decode cX9_copyRows 63 = .ok (.baload, 1) := by decide +kernel
theorem dX9_copyRows_64 : decode cX9_copyRows 64 = .ok (.ifCond .eq 128, 3) := by decide +kernel
theorem dX9_copyRows_67 : decode cX9_copyRows 67 = .ok (.iconst (-1), 1) := by decide +kernel
theorem dX9_copyRows_68 : decode cX9_copyRows 68 = .ok (.istore_n 2, 1) := by decide +kernel
theorem dX9_copyRows_69 : decode cX9_copyRows 69 = .ok (.iconst (-1), 1) := by decide +kernel
theorem dX9_copyRows_70 : decode cX9_copyRows 70 = .ok (.istore_n 3, 1) := by decide +kernel
theorem dX9_copyRows_71 : decode cX9_copyRows 71 = .ok (.bipush 7, 2) := by decide +kernel
theorem dX9_copyRows_73 : decode cX9_copyRows 73 = .ok (.istore 4, 2) := by decide +kernel
theorem dX9_copyRows_75 : decode cX9_copyRows 75 = .ok (.iload 4, 2) := by decide +kernel
theorem dX9_copyRows_77 : decode cX9_copyRows 77 = .ok (.ifCond .lt 48, 3) := by decide +kernel
theorem dX9_copyRows_80 : decode cX9_copyRows 80 = .ok (.aload_n 0, 1) := by decide +kernel
theorem dX9_copyRows_81 : decode cX9_copyRows 81 = .ok (.iload_n 1, 1) := by decide +kernel
theorem dX9_copyRows_82 : decode cX9_copyRows 82 = .ok (.iload 4, 2) := by decide +kernel
theorem dX9_copyRows_84 : decode cX9_copyRows 84 = .ok (.invokevirtual 261, 3) := by decide +kernel
theorem dX9_copyRows_87 : decode cX9_copyRows 87 = .ok (.ifCond .eq 8, 3) := by decide +kernel
theorem dX9_copyRows_90 : decode cX9_copyRows 90 = .ok (.iload 4, 2) := by decide +kernel
theorem dX9_copyRows_92 : decode cX9_copyRows 92 = .ok (.goto 4, 3) := by decide +kernel
theorem dX9_copyRows_95 : decode cX9_copyRows 95 = .ok (.iload_n 2, 1) := by decide +kernel
theorem dX9_copyRows_96 : decode cX9_copyRows 96 = .ok (.istore_n 2, 1) := by decide +kernel
theorem dX9_copyRows_97 : decode cX9_copyRows 97 = .ok (.aload_n 0, 1) := by decide +kernel
theorem dX9_copyRows_98 : decode cX9_copyRows 98 = .ok (.getfield 86, 3) := by decide +kernel
theorem dX9_copyRows_101 : decode cX9_copyRows 101 = .ok (.bipush 8, 2) := by decide +kernel
theorem dX9_copyRows_103 : decode cX9_copyRows 103 = .ok (.iload_n 1, 1) := by decide +kernel
theorem dX9_copyRows_104 : decode cX9_copyRows 104 = .ok (.imul, 1) := by decide +kernel
theorem dX9_copyRows_105 : decode cX9_copyRows 105 = .ok (.iload 4, 2) := by decide +kernel
theorem dX9_copyRows_107 : decode cX9_copyRows 107 = .ok (.iadd, 1) := by decide +kernel
theorem dX9_copyRows_108 : decode cX9_copyRows 108 = .ok (.baload, 1) := by decide +kernel
theorem dX9_copyRows_109 : decode cX9_copyRows 109 = .ok (.ifCond .eq 7, 3) := by decide +kernel
theorem dX9_copyRows_112 : decode cX9_copyRows 112 = .ok (.iload_n 3, 1) := by decide +kernel
theorem dX9_copyRows_113 : decode cX9_copyRows 113 = .ok (.goto 5, 3) := by decide +kernel
theorem dX9_copyRows_116 : decode cX9_copyRows 116 = .ok (.iload 4, 2) := by decide +kernel
theorem dX9_copyRows_118 : decode cX9_copyRows 118 = .ok (.istore_n 3, 1) := by decide +kernel
theorem dX9_copyRows_119 : decode cX9_copyRows 119 = .ok (.iinc 4 (-1), 3) := by decide +kernel
theorem dX9_copyRows_122 : decode cX9_copyRows 122 = .ok (.goto (-47), 3) := by decide +kernel
theorem dX9_copyRows_125 : decode cX9_copyRows 125 = .ok (.iload_n 3, 1) := by decide +kernel
theorem dX9_copyRows_126 : decode cX9_copyRows 126 = .ok (.ifCond .lt 7, 3) := by decide +kernel
theorem dX9_copyRows_129 : decode cX9_copyRows 129 = .ok (.iload_n 3, 1) := by decide +kernel
theorem dX9_copyRows_130 : decode cX9_copyRows 130 = .ok (.goto 4, 3) := by decide +kernel
theorem dX9_copyRows_133 : decode cX9_copyRows 133 = .ok (.iload_n 2, 1) := by decide +kernel
theorem dX9_copyRows_134 : decode cX9_copyRows 134 = .ok (.istore_n 2, 1) := by decide +kernel
theorem dX9_copyRows_135 : decode cX9_copyRows 135 = .ok (.aload_n 0, 1) := by decide +kernel
theorem dX9_copyRows_136 : decode cX9_copyRows 136 = .ok (.getfield 86, 3) := by decide +kernel
theorem dX9_copyRows_139 : decode cX9_copyRows 139 = .ok (.bipush 8, 2) := by decide +kernel
theorem dX9_copyRows_141 : decode cX9_copyRows 141 = .ok (.iload_n 1, 1) := by decide +kernel
theorem dX9_copyRows_142 : decode cX9_copyRows 142 = .ok (.imul, 1) := by decide +kernel
theorem dX9_copyRows_143 : decode cX9_copyRows 143 = .ok (.iload_n 2, 1) := by decide +kernel
theorem dX9_copyRows_144 : decode cX9_copyRows 144 = .ok (.iadd, 1) := by decide +kernel
theorem dX9_copyRows_145 : decode cX9_copyRows 145 = .ok (.iconst 1, 1) := by decide +kernel
theorem dX9_copyRows_146 : decode cX9_copyRows 146 = .ok (.bastore, 1) := by decide +kernel
theorem dX9_copyRows_147 : decode cX9_copyRows 147 = .ok (.iconst 0, 1) := by decide +kernel
theorem dX9_copyRows_148 : decode cX9_copyRows 148 = .ok (.istore 4, 2) := by decide +kernel
theorem dX9_copyRows_150 : decode cX9_copyRows 150 = .ok (.iload 4, 2) := by decide +kernel
theorem dX9_copyRows_152 : decode cX9_copyRows 152 = .ok (.bipush 12, 2) := by decide +kernel
theorem dX9_copyRows_154 : decode cX9_copyRows 154 = .ok (.if_icmp .ge 38, 3) := by decide +kernel
theorem dX9_copyRows_157 : decode cX9_copyRows 157 = .ok (.aload_n 0, 1) := by decide +kernel
theorem dX9_copyRows_158 : decode cX9_copyRows 158 = .ok (.getfield 89, 3) := by decide +kernel
theorem dX9_copyRows_161 : decode cX9_copyRows 161 = .ok (.bipush 96, 2) := by decide +kernel
theorem dX9_copyRows_163 : decode cX9_copyRows 163 = .ok (.iload_n 1, 1) := by decide +kernel
theorem dX9_copyRows_164 : decode cX9_copyRows 164 = .ok (.imul, 1) := by decide +kernel
theorem dX9_copyRows_165 : decode cX9_copyRows 165 = .ok (.iload_n 2, 1) := by decide +kernel
theorem dX9_copyRows_166 : decode cX9_copyRows 166 = .ok (.bipush 12, 2) := by decide +kernel
theorem dX9_copyRows_168 : decode cX9_copyRows 168 = .ok (.imul, 1) := by decide +kernel
theorem dX9_copyRows_169 : decode cX9_copyRows 169 = .ok (.iadd, 1) := by decide +kernel
theorem dX9_copyRows_170 : decode cX9_copyRows 170 = .ok (.iload 4, 2) := by decide +kernel
theorem dX9_copyRows_172 : decode cX9_copyRows 172 = .ok (.iadd, 1) := by decide +kernel
theorem dX9_copyRows_173 : decode cX9_copyRows 173 = .ok (.aload_n 0, 1) := by decide +kernel
theorem dX9_copyRows_174 : decode cX9_copyRows 174 = .ok (.iload_n 1, 1) := by decide +kernel
theorem dX9_copyRows_175 : decode cX9_copyRows 175 = .ok (.iload_n 2, 1) := by decide +kernel
theorem dX9_copyRows_176 : decode cX9_copyRows 176 = .ok (.bipush 12, 2) := by decide +kernel
theorem dX9_copyRows_178 : decode cX9_copyRows 178 = .ok (.imul, 1) := by decide +kernel
theorem dX9_copyRows_179 : decode cX9_copyRows 179 = .ok (.iload 4, 2) := by decide +kernel
theorem dX9_copyRows_181 : decode cX9_copyRows 181 = .ok (.iadd, 1) := by decide +kernel
theorem dX9_copyRows_182 : decode cX9_copyRows 182 = .ok (.invokevirtual 164, 3) := by decide +kernel
theorem dX9_copyRows_185 : decode cX9_copyRows 185 = .ok (.iastore, 1) := by decide +kernel
theorem dX9_copyRows_186 : decode cX9_copyRows 186 = .ok (.iinc 4 1, 3) := by decide +kernel
theorem dX9_copyRows_189 : decode cX9_copyRows 189 = .ok (.goto (-39), 3) := by decide +kernel
theorem dX9_copyRows_192 : decode cX9_copyRows 192 = .ok (.return_, 1) := by decide +kernel
theorem dX9_move_0 : decode cX9_move 0 = .ok (.aload_n 0, 1) := by decide +kernel
theorem dX9_move_1 : decode cX9_move 1 = .ok (.iload_n 1, 1) := by decide +kernel
theorem dX9_move_2 : decode cX9_move 2 = .ok (.invokevirtual 146, 3) := by decide +kernel
theorem dX9_move_5 : decode cX9_move 5 = .ok (.ifCond .ne 24, 3) := by decide +kernel
theorem dX9_move_8 : decode cX9_move 8 = .ok (.aload_n 0, 1) := by decide +kernel
theorem dX9_move_9 : decode cX9_move 9 = .ok (.aload_n 0, 1) := by decide +kernel
theorem dX9_move_10 : decode cX9_move 10 = .ok (.getfield 77, 3) := by decide +kernel
theorem dX9_move_13 : decode cX9_move 13 = .ok (.iload_n 1, 1) := by decide +kernel
theorem dX9_move_14 : decode cX9_move 14 = .ok (.baload, 1) := by decide +kernel
theorem dX9_move_15 : decode cX9_move 15 = .ok (.ifCond .eq 7, 3) := by decide +kernel
theorem dX9_move_18 : decode cX9_move 18 = .ok (.iconst 2, 1) := by decide +kernel
theorem dX9_move_19 : decode cX9_move 19 = .ok (.goto 4, 3) := by decide +kernel
theorem dX9_move_22 : decode cX9_move 22 = .ok (.iconst 0, 1) := by decide +kernel
theorem dX9_move_23 : decode cX9_move 23 = .ok (.invokevirtual 135, 3) := by decide +kernel
theorem dX9_move_26 : decode cX9_move 26 = .ok (.ifCond .eq 5, 3) := by decide +kernel
theorem dX9_move_29 : decode cX9_move 29 = .ok (.iconst 0, 1) := by decide +kernel
theorem dX9_move_30 : decode cX9_move 30 = .ok (.ireturn, 1) := by decide +kernel
theorem dX9_move_31 : decode cX9_move 31 = .ok (.aload_n 0, 1) := by decide +kernel
theorem dX9_move_32 : decode cX9_move 32 = .ok (.getfield 77, 3) := by decide +kernel
theorem dX9_move_35 : decode cX9_move 35 = .ok (.iload_n 1, 1) := by decide +kernel
theorem dX9_move_36 : decode cX9_move 36 = .ok (.iconst 1, 1) := by decide +kernel
theorem dX9_move_37 : decode cX9_move 37 = .ok (.bastore, 1) := by decide +kernel
theorem dX9_move_38 : decode cX9_move 38 = .ok (.iconst 0, 1) := by decide +kernel
theorem dX9_move_39 : decode cX9_move 39 = .ok (.istore_n 2, 1) := by decide +kernel
theorem dX9_move_40 : decode cX9_move 40 = .ok (.iload_n 2, 1) := by decide +kernel
theorem dX9_move_41 : decode cX9_move 41 = .ok (.bipush 8, 2) := by decide +kernel
theorem dX9_move_43 : decode cX9_move 43 = .ok (.if_icmp .ge 21, 3) := by decide +kernel
theorem dX9_move_46 : decode cX9_move 46 = .ok (.aload_n 0, 1) := by decide +kernel
theorem dX9_move_47 : decode cX9_move 47 = .ok (.getfield 86, 3) := by decide +kernel
theorem dX9_move_50 : decode cX9_move 50 = .ok (.bipush 8, 2) := by decide +kernel
theorem dX9_move_52 : decode cX9_move 52 = .ok (.iload_n 1, 1) := by decide +kernel
theorem dX9_move_53 : decode cX9_move 53 = .ok (.imul, 1) := by decide +kernel
theorem dX9_move_54 : decode cX9_move 54 = .ok (.iload_n 2, 1) := by decide +kernel
theorem dX9_move_55 : decode cX9_move 55 = .ok (.iadd, 1) := by decide +kernel
theorem dX9_move_56 : decode cX9_move 56 = .ok (.iconst 0, 1) := by decide +kernel
theorem dX9_move_57 : decode cX9_move 57 = .ok (.bastore, 1) := by decide +kernel
theorem dX9_move_58 : decode cX9_move 58 = .ok (.iinc 2 1, 3) := by decide +kernel
theorem dX9_move_61 : decode cX9_move 61 = .ok (.goto (-21), 3) := by decide +kernel
theorem dX9_move_64 : decode cX9_move 64 = .ok (.aload_n 0, 1) := by decide +kernel
theorem dX9_move_65 : decode cX9_move 65 = .ok (.getfield 83, 3) := by decide +kernel
theorem dX9_move_68 : decode cX9_move 68 = .ok (.iload_n 1, 1) := by decide +kernel
theorem dX9_move_69 : decode cX9_move 69 = .ok (.iaload, 1) := by decide +kernel
theorem dX9_move_70 : decode cX9_move 70 = .ok (.ifCond .le 7, 3) := by decide +kernel
theorem dX9_move_73 : decode cX9_move 73 = .ok (.iconst 1, 1) := by decide +kernel
theorem dX9_move_74 : decode cX9_move 74 = .ok (.goto 4, 3) := by decide +kernel
theorem dX9_move_77 : decode cX9_move 77 = .ok (.iconst 0, 1) := by decide +kernel
theorem dX9_move_78 : decode cX9_move 78 = .ok (.ireturn, 1) := by decide +kernel
theorem dX9_left_0 : decode cX9_left 0 = .ok (.aload_n 0, 1) := by decide +kernel
theorem dX9_left_1 : decode cX9_left 1 = .ok (.iload_n 1, 1) := by decide +kernel
theorem dX9_left_2 : decode cX9_left 2 = .ok (.invokevirtual 146, 3) := by decide +kernel
theorem dX9_left_5 : decode cX9_left 5 = .ok (.ifCond .ne 24, 3) := by decide +kernel
theorem dX9_left_8 : decode cX9_left 8 = .ok (.aload_n 0, 1) := by decide +kernel
theorem dX9_left_9 : decode cX9_left 9 = .ok (.aload_n 0, 1) := by decide +kernel
theorem dX9_left_10 : decode cX9_left 10 = .ok (.getfield 77, 3) := by decide +kernel
theorem dX9_left_13 : decode cX9_left 13 = .ok (.iload_n 1, 1) := by decide +kernel
theorem dX9_left_14 : decode cX9_left 14 = .ok (.baload, 1) := by decide +kernel
theorem dX9_left_15 : decode cX9_left 15 = .ok (.ifCond .eq 7, 3) := by decide +kernel
theorem dX9_left_18 : decode cX9_left 18 = .ok (.iconst 0, 1) := by decide +kernel
theorem dX9_left_19 : decode cX9_left 19 = .ok (.goto 4, 3) := by decide +kernel
theorem dX9_left_22 : decode cX9_left 22 = .ok (.iconst 2, 1) := by decide +kernel
theorem dX9_left_23 : decode cX9_left 23 = .ok (.invokevirtual 135, 3) := by decide +kernel
theorem dX9_left_26 : decode cX9_left 26 = .ok (.ifCond .eq 7, 3) := by decide +kernel
theorem dX9_left_29 : decode cX9_left 29 = .ok (.iconst 0, 1) := by decide +kernel
theorem dX9_left_30 : decode cX9_left 30 = .ok (.goto 8, 3) := by decide +kernel
theorem dX9_left_33 : decode cX9_left 33 = .ok (.aload_n 0, 1) := by decide +kernel
theorem dX9_left_34 : decode cX9_left 34 = .ok (.iload_n 1, 1) := by decide +kernel
theorem dX9_left_35 : decode cX9_left 35 = .ok (.invokevirtual 264, 3) := by decide +kernel
theorem dX9_left_38 : decode cX9_left 38 = .ok (.ireturn, 1) := by decide +kernel
theorem dX9_host_0 : decode cX9_host 0 = .ok (.aload_n 0, 1) := by decide +kernel
theorem dX9_host_1 : decode cX9_host 1 = .ok (.iload_n 1, 1) := by decide +kernel
theorem dX9_host_2 : decode cX9_host 2 = .ok (.invokevirtual 146, 3) := by decide +kernel
theorem dX9_host_5 : decode cX9_host 5 = .ok (.ifCond .eq 7, 3) := by decide +kernel
theorem dX9_host_8 : decode cX9_host 8 = .ok (.iconst 0, 1) := by decide +kernel
theorem dX9_host_9 : decode cX9_host 9 = .ok (.goto 9, 3) := by decide +kernel
theorem dX9_host_12 : decode cX9_host 12 = .ok (.aload_n 0, 1) := by decide +kernel
theorem dX9_host_13 : decode cX9_host 13 = .ok (.getfield 83, 3) := by decide +kernel
theorem dX9_host_16 : decode cX9_host 16 = .ok (.iload_n 1, 1) := by decide +kernel
theorem dX9_host_17 : decode cX9_host 17 = .ok (.iaload, 1) := by decide +kernel
theorem dX9_host_18 : decode cX9_host 18 = .ok (.ireturn, 1) := by decide +kernel
theorem dX9_lookOf_0 : decode cX9_lookOf 0 = .ok (.aload_n 0, 1) := by decide +kernel
theorem dX9_lookOf_1 : decode cX9_lookOf 1 = .ok (.getfield 101, 3) := by decide +kernel
theorem dX9_lookOf_4 : decode cX9_lookOf 4 = .ok (.bipush 60, 2) := by decide +kernel
theorem dX9_lookOf_6 : decode cX9_lookOf 6 = .ok (.iload_n 1, 1) := by decide +kernel
theorem dX9_lookOf_7 : decode cX9_lookOf 7 = .ok (.imul, 1) := by decide +kernel
theorem dX9_lookOf_8 : decode cX9_lookOf 8 = .ok (.iload_n 2, 1) := by decide +kernel
theorem dX9_lookOf_9 : decode cX9_lookOf 9 = .ok (.iadd, 1) := by decide +kernel
theorem dX9_lookOf_10 : decode cX9_lookOf 10 = .ok (.bipush 96, 2) := by decide +kernel
theorem dX9_lookOf_12 : decode cX9_lookOf 12 = .ok (.imul, 1) := by decide +kernel
theorem dX9_lookOf_13 : decode cX9_lookOf 13 = .ok (.iload_n 3, 1) := by decide +kernel
theorem dX9_lookOf_14 : decode cX9_lookOf 14 = .ok (.iadd, 1) := by decide +kernel
theorem dX9_lookOf_15 : decode cX9_lookOf 15 = .ok (.iaload, 1) := by decide +kernel
theorem dX9_lookOf_16 : decode cX9_lookOf 16 = .ok (.ireturn, 1) := by decide +kernel
theorem dX9_recordLook_0 : decode cX9_recordLook 0 = .ok (.aload_n 0, 1) := by decide +kernel
theorem dX9_recordLook_1 : decode cX9_recordLook 1 = .ok (.getfield 95, 3) := by decide +kernel
theorem dX9_recordLook_4 : decode cX9_recordLook 4 = .ok (.iload_n 1, 1) := by decide +kernel
theorem dX9_recordLook_5 : decode cX9_recordLook 5 = .ok (.iaload, 1) := by decide +kernel
theorem dX9_recordLook_6 : decode cX9_recordLook 6 = .ok (.istore_n 2, 1) := by decide +kernel
theorem dX9_recordLook_7 : decode cX9_recordLook 7 = .ok (.aload_n 0, 1) := by decide +kernel
theorem dX9_recordLook_8 : decode cX9_recordLook 8 = .ok (.getfield 92, 3) := by decide +kernel
theorem dX9_recordLook_11 : decode cX9_recordLook 11 = .ok (.iload_n 1, 1) := by decide +kernel
theorem dX9_recordLook_12 : decode cX9_recordLook 12 = .ok (.baload, 1) := by decide +kernel
theorem dX9_recordLook_13 : decode cX9_recordLook 13 = .ok (.ifCond .eq 9, 3) := by decide +kernel
theorem dX9_recordLook_16 : decode cX9_recordLook 16 = .ok (.iload_n 2, 1) := by decide +kernel
theorem dX9_recordLook_17 : decode cX9_recordLook 17 = .ok (.bipush 60, 2) := by decide +kernel
theorem dX9_recordLook_19 : decode cX9_recordLook 19 = .ok (.if_icmp .ne 4, 3) := by decide +kernel
theorem dX9_recordLook_22 : decode cX9_recordLook 22 = .ok (.return_, 1) := by decide +kernel
theorem dX9_recordLook_23 : decode cX9_recordLook 23 = .ok (.iconst 0, 1) := by decide +kernel
theorem dX9_recordLook_24 : decode cX9_recordLook 24 = .ok (.istore_n 3, 1) := by decide +kernel
theorem dX9_recordLook_25 : decode cX9_recordLook 25 = .ok (.iload_n 3, 1) := by decide +kernel
theorem dX9_recordLook_26 : decode cX9_recordLook 26 = .ok (.bipush 96, 2) := by decide +kernel
theorem dX9_recordLook_28 : decode cX9_recordLook 28 = .ok (.if_icmp .ge 100, 3) := by decide +kernel
theorem dX9_recordLook_31 : decode cX9_recordLook 31 = .ok (.aload_n 0, 1) := by decide +kernel
theorem dX9_recordLook_32 : decode cX9_recordLook 32 = .ok (.iload_n 1, 1) := by decide +kernel
theorem dX9_recordLook_33 : decode cX9_recordLook 33 = .ok (.iload_n 3, 1) := by decide +kernel
theorem dX9_recordLook_34 : decode cX9_recordLook 34 = .ok (.invokevirtual 161, 3) := by decide +kernel
theorem dX9_recordLook_37 : decode cX9_recordLook 37 = .ok (.istore 4, 2) := by decide +kernel
theorem dX9_recordLook_39 : decode cX9_recordLook 39 = .ok (.iload 4, 2) := by decide +kernel
theorem dX9_recordLook_41 : decode cX9_recordLook 41 = .ok (.ifCond .lt 19, 3) := by decide +kernel
theorem dX9_recordLook_44 : decode cX9_recordLook 44 = .ok (.aload_n 0, 1) := by decide +kernel
theorem dX9_recordLook_45 : decode cX9_recordLook 45 = .ok (.getfield 35, 3) := by decide +kernel
theorem dX9_recordLook_48 : decode cX9_recordLook 48 = .ok (.iload 4, 2) := by decide +kernel
theorem dX9_recordLook_50 : decode cX9_recordLook 50 = .ok (.baload, 1) := by decide +kernel
theorem dX9_recordLook_51 : decode cX9_recordLook 51 = .ok (.ifCond .eq 9, 3) := by decide +kernel
theorem dX9_recordLook_54 : decode cX9_recordLook 54 = .ok (.sipush 255, 3) := by decide +kernel
theorem dX9_recordLook_57 : decode cX9_recordLook 57 = .ok (.goto 9, 3) := by decide +kernel
theorem dX9_recordLook_60 : decode cX9_recordLook 60 = .ok (.aload_n 0, 1) := by decide +kernel
theorem dX9_recordLook_61 : decode cX9_recordLook 61 = .ok (.iload_n 1, 1) := by decide +kernel
theorem dX9_recordLook_62 : decode cX9_recordLook 62 = .ok (.iload_n 3, 1) := by decide +kernel
theorem dX9_recordLook_63 : decode cX9_recordLook 63 = .ok (.invokevirtual 164, 3) := by decide +kernel
theorem dX9_recordLook_66 : decode cX9_recordLook 66 = .ok (.istore 5, 2) := by decide +kernel
theorem dX9_recordLook_68 : decode cX9_recordLook 68 = .ok (.aload_n 0, 1) := by decide +kernel
theorem dX9_recordLook_69 : decode cX9_recordLook 69 = .ok (.getfield 101, 3) := by decide +kernel
theorem dX9_recordLook_72 : decode cX9_recordLook 72 = .ok (.bipush 60, 2) := by decide +kernel
theorem dX9_recordLook_74 : decode cX9_recordLook 74 = .ok (.iload_n 1, 1) := by decide +kernel
theorem dX9_recordLook_75 : decode cX9_recordLook 75 = .ok (.imul, 1) := by decide +kernel
theorem dX9_recordLook_76 : decode cX9_recordLook 76 = .ok (.iload_n 2, 1) := by decide +kernel
theorem dX9_recordLook_77 : decode cX9_recordLook 77 = .ok (.iadd, 1) := by decide +kernel
theorem dX9_recordLook_78 : decode cX9_recordLook 78 = .ok (.bipush 96, 2) := by decide +kernel
theorem dX9_recordLook_80 : decode cX9_recordLook 80 = .ok (.imul, 1) := by decide +kernel
theorem dX9_recordLook_81 : decode cX9_recordLook 81 = .ok (.iload_n 3, 1) := by decide +kernel
theorem dX9_recordLook_82 : decode cX9_recordLook 82 = .ok (.iadd, 1) := by decide +kernel
theorem dX9_recordLook_83 : decode cX9_recordLook 83 = .ok (.iload 5, 2) := by decide +kernel
theorem dX9_recordLook_85 : decode cX9_recordLook 85 = .ok (.iastore, 1) := by decide +kernel
theorem dX9_recordLook_86 : decode cX9_recordLook 86 = .ok (.aload_n 0, 1) := by decide +kernel
theorem dX9_recordLook_87 : decode cX9_recordLook 87 = .ok (.getfield 98, 3) := by decide +kernel
theorem dX9_recordLook_90 : decode cX9_recordLook 90 = .ok (.iload_n 1, 1) := by decide +kernel
theorem dX9_recordLook_91 : decode cX9_recordLook 91 = .ok (.dup2, 1) := by decide +kernel
theorem dX9_recordLook_92 : decode cX9_recordLook 92 = .ok (.iaload, 1) := by decide +kernel
theorem dX9_recordLook_93 : decode cX9_recordLook 93 = .ok (.iload 5, 2) := by decide +kernel
theorem dX9_recordLook_95 : decode cX9_recordLook 95 = .ok (.iload_n 2, 1) := by decide +kernel
theorem dX9_recordLook_96 : decode cX9_recordLook 96 = .ok (.ifCond .ne 7, 3) := by decide +kernel
theorem dX9_recordLook_99 : decode cX9_recordLook 99 = .ok (.iconst 0, 1) := by decide +kernel
theorem dX9_recordLook_100 : decode cX9_recordLook 100 = .ok (.goto 12, 3) := by decide +kernel
theorem dX9_recordLook_103 : decode cX9_recordLook 103 = .ok (.aload_n 0, 1) := by decide +kernel
theorem dX9_recordLook_104 : decode cX9_recordLook 104 = .ok (.iload_n 1, 1) := by decide +kernel
theorem dX9_recordLook_105 : decode cX9_recordLook 105 = .ok (.iload_n 2, 1) := by decide +kernel
theorem dX9_recordLook_106 : decode cX9_recordLook 106 = .ok (.iconst 1, 1) := by decide +kernel
theorem dX9_recordLook_107 : decode cX9_recordLook 107 = .ok (.isub, 1) := by decide +kernel
theorem dX9_recordLook_108 : decode cX9_recordLook 108 = .ok (.iload_n 3, 1) := by decide +kernel
theorem dX9_recordLook_109 : decode cX9_recordLook 109 = .ok (.invokevirtual 267, 3) := by decide +kernel
theorem dX9_recordLook_112 : decode cX9_recordLook 112 = .ok (.if_icmp .ne 7, 3) := by decide +kernel
theorem dX9_recordLook_115 : decode cX9_recordLook 115 = .ok (.iconst 0, 1) := by decide +kernel
theorem dX9_recordLook_116 : decode cX9_recordLook 116 = .ok (.goto 4, 3) := by decide +kernel
theorem dX9_recordLook_119 : decode cX9_recordLook 119 = .ok (.iconst 1, 1) := by decide +kernel
theorem dX9_recordLook_120 : decode cX9_recordLook 120 = .ok (.iadd, 1) := by decide +kernel
theorem dX9_recordLook_121 : decode cX9_recordLook 121 = .ok (.iastore, 1) := by decide +kernel
theorem dX9_recordLook_122 : decode cX9_recordLook 122 = .ok (.iinc 3 1, 3) := by decide +kernel
theorem dX9_recordLook_125 : decode cX9_recordLook 125 = .ok (.goto (-100), 3) := by decide +kernel
theorem dX9_recordLook_128 : decode cX9_recordLook 128 = .ok (.aload_n 0, 1) := by decide +kernel
theorem dX9_recordLook_129 : decode cX9_recordLook 129 = .ok (.getfield 95, 3) := by decide +kernel
theorem dX9_recordLook_132 : decode cX9_recordLook 132 = .ok (.iload_n 1, 1) := by decide +kernel
theorem dX9_recordLook_133 : decode cX9_recordLook 133 = .ok (.dup2, 1) := by decide +kernel
theorem dX9_recordLook_134 : decode cX9_recordLook 134 = .ok (.iaload, 1) := by decide +kernel
theorem dX9_recordLook_135 : decode cX9_recordLook 135 = .ok (.iconst 1, 1) := by decide +kernel
theorem dX9_recordLook_136 : decode cX9_recordLook 136 = .ok (.iadd, 1) := by decide +kernel
theorem dX9_recordLook_137 : decode cX9_recordLook 137 = .ok (.iastore, 1) := by decide +kernel
theorem dX9_recordLook_138 : decode cX9_recordLook 138 = .ok (.return_, 1) := by decide +kernel
theorem dX9_record_0 : decode cX9_record 0 = .ok (.aload_n 0, 1) := by decide +kernel
theorem dX9_record_1 : decode cX9_record 1 = .ok (.iload_n 1, 1) := by decide +kernel
theorem dX9_record_2 : decode cX9_record 2 = .ok (.invokevirtual 146, 3) := by decide +kernel
theorem dX9_record_5 : decode cX9_record 5 = .ok (.ifCond .eq 5, 3) := by decide +kernel
theorem dX9_record_8 : decode cX9_record 8 = .ok (.iconst 0, 1) := by decide +kernel
theorem dX9_record_9 : decode cX9_record 9 = .ok (.ireturn, 1) := by decide +kernel
theorem dX9_record_10 : decode cX9_record 10 = .ok (.aload_n 0, 1) := by decide +kernel
theorem dX9_record_11 : decode cX9_record 11 = .ok (.getfield 95, 3) := by decide +kernel
theorem dX9_record_14 : decode cX9_record 14 = .ok (.iload_n 1, 1) := by decide +kernel
theorem dX9_record_15 : decode cX9_record 15 = .ok (.iaload, 1) := by decide +kernel
theorem dX9_record_16 : decode cX9_record 16 = .ok (.istore_n 2, 1) := by decide +kernel
theorem dX9_record_17 : decode cX9_record 17 = .ok (.aload_n 0, 1) := by decide +kernel
theorem dX9_record_18 : decode cX9_record 18 = .ok (.getfield 95, 3) := by decide +kernel
theorem dX9_record_21 : decode cX9_record 21 = .ok (.iload_n 1, 1) := by decide +kernel
theorem dX9_record_22 : decode cX9_record 22 = .ok (.iconst 0, 1) := by decide +kernel
theorem dX9_record_23 : decode cX9_record 23 = .ok (.iastore, 1) := by decide +kernel
theorem dX9_record_24 : decode cX9_record 24 = .ok (.aload_n 0, 1) := by decide +kernel
theorem dX9_record_25 : decode cX9_record 25 = .ok (.getfield 98, 3) := by decide +kernel
theorem dX9_record_28 : decode cX9_record 28 = .ok (.iload_n 1, 1) := by decide +kernel
theorem dX9_record_29 : decode cX9_record 29 = .ok (.iconst 0, 1) := by decide +kernel
theorem dX9_record_30 : decode cX9_record 30 = .ok (.iastore, 1) := by decide +kernel
theorem dX9_record_31 : decode cX9_record 31 = .ok (.aload_n 0, 1) := by decide +kernel
theorem dX9_record_32 : decode cX9_record 32 = .ok (.getfield 92, 3) := by decide +kernel
theorem dX9_record_35 : decode cX9_record 35 = .ok (.iload_n 1, 1) := by decide +kernel
theorem dX9_record_36 : decode cX9_record 36 = .ok (.iconst 1, 1) := by decide +kernel
theorem dX9_record_37 : decode cX9_record 37 = .ok (.bastore, 1) := by decide +kernel
theorem dX9_record_38 : decode cX9_record 38 = .ok (.iload_n 2, 1) := by decide +kernel
theorem dX9_record_39 : decode cX9_record 39 = .ok (.ireturn, 1) := by decide +kernel
theorem dX9_played_0 : decode cX9_played 0 = .ok (.aload_n 0, 1) := by decide +kernel
theorem dX9_played_1 : decode cX9_played 1 = .ok (.aload_n 0, 1) := by decide +kernel
theorem dX9_played_2 : decode cX9_played 2 = .ok (.iload_n 1, 1) := by decide +kernel
theorem dX9_played_3 : decode cX9_played 3 = .ok (.invokevirtual 143, 3) := by decide +kernel
theorem dX9_played_6 : decode cX9_played 6 = .ok (.ifCond .eq 16, 3) := by decide +kernel
theorem dX9_played_9 : decode cX9_played 9 = .ok (.iload_n 3, 1) := by decide +kernel
theorem dX9_played_10 : decode cX9_played 10 = .ok (.iload 4, 2) := by decide +kernel
theorem dX9_played_12 : decode cX9_played 12 = .ok (.invokestatic 171, 3) := by decide +kernel
theorem dX9_played_15 : decode cX9_played 15 = .ok (.ifCond .eq 7, 3) := by decide +kernel
theorem dX9_played_18 : decode cX9_played 18 = .ok (.iconst 0, 1) := by decide +kernel
theorem dX9_played_19 : decode cX9_played 19 = .ok (.goto 4, 3) := by decide +kernel
theorem dX9_played_22 : decode cX9_played 22 = .ok (.iconst 1, 1) := by decide +kernel
theorem dX9_played_23 : decode cX9_played 23 = .ok (.invokevirtual 135, 3) := by decide +kernel
theorem dX9_played_26 : decode cX9_played 26 = .ok (.ifCond .ne 29, 3) := by decide +kernel
theorem dX9_played_29 : decode cX9_played 29 = .ok (.aload_n 0, 1) := by decide +kernel
theorem dX9_played_30 : decode cX9_played 30 = .ok (.iload_n 2, 1) := by decide +kernel
theorem dX9_played_31 : decode cX9_played 31 = .ok (.iconst 1, 1) := by decide +kernel
theorem dX9_played_32 : decode cX9_played 32 = .ok (.aload_n 0, 1) := by decide +kernel
theorem dX9_played_33 : decode cX9_played 33 = .ok (.getfield 95, 3) := by decide +kernel
theorem dX9_played_36 : decode cX9_played 36 = .ok (.iload_n 1, 1) := by decide +kernel
theorem dX9_played_37 : decode cX9_played 37 = .ok (.iaload, 1) := by decide +kernel
theorem dX9_played_38 : decode cX9_played 38 = .ok (.invokestatic 139, 3) := by decide +kernel
theorem dX9_played_41 : decode cX9_played 41 = .ok (.ifCond .eq 7, 3) := by decide +kernel
theorem dX9_played_44 : decode cX9_played 44 = .ok (.iconst 0, 1) := by decide +kernel
theorem dX9_played_45 : decode cX9_played 45 = .ok (.goto 4, 3) := by decide +kernel
theorem dX9_played_48 : decode cX9_played 48 = .ok (.iconst 2, 1) := by decide +kernel
theorem dX9_played_49 : decode cX9_played 49 = .ok (.invokevirtual 135, 3) := by decide +kernel
theorem dX9_played_52 : decode cX9_played 52 = .ok (.ifCond .eq 5, 3) := by decide +kernel
theorem dX9_played_55 : decode cX9_played 55 = .ok (.iconst 0, 1) := by decide +kernel
theorem dX9_played_56 : decode cX9_played 56 = .ok (.ireturn, 1) := by decide +kernel
theorem dX9_played_57 : decode cX9_played 57 = .ok (.aload_n 0, 1) := by decide +kernel
theorem dX9_played_58 : decode cX9_played 58 = .ok (.iload_n 1, 1) := by decide +kernel
theorem dX9_played_59 : decode cX9_played 59 = .ok (.iload_n 2, 1) := by decide +kernel
theorem dX9_played_60 : decode cX9_played 60 = .ok (.iconst 1, 1) := by decide +kernel
theorem dX9_played_61 : decode cX9_played 61 = .ok (.isub, 1) := by decide +kernel
theorem dX9_played_62 : decode cX9_played 62 = .ok (.iload 4, 2) := by decide +kernel
theorem dX9_played_64 : decode cX9_played 64 = .ok (.bipush 12, 2) := by decide +kernel
theorem dX9_played_66 : decode cX9_played 66 = .ok (.imul, 1) := by decide +kernel
theorem dX9_played_67 : decode cX9_played 67 = .ok (.iload_n 3, 1) := by decide +kernel
theorem dX9_played_68 : decode cX9_played 68 = .ok (.iadd, 1) := by decide +kernel
theorem dX9_played_69 : decode cX9_played 69 = .ok (.invokevirtual 267, 3) := by decide +kernel
theorem dX9_played_72 : decode cX9_played 72 = .ok (.ireturn, 1) := by decide +kernel
theorem dX9_noted_0 : decode cX9_noted 0 = .ok (.aload_n 0, 1) := by decide +kernel
theorem dX9_noted_1 : decode cX9_noted 1 = .ok (.iload_n 1, 1) := by decide +kernel
theorem dX9_noted_2 : decode cX9_noted 2 = .ok (.invokevirtual 146, 3) := by decide +kernel
theorem dX9_noted_5 : decode cX9_noted 5 = .ok (.ifCond .ne 24, 3) := by decide +kernel
theorem dX9_noted_8 : decode cX9_noted 8 = .ok (.aload_n 0, 1) := by decide +kernel
theorem dX9_noted_9 : decode cX9_noted 9 = .ok (.aload_n 0, 1) := by decide +kernel
theorem dX9_noted_10 : decode cX9_noted 10 = .ok (.getfield 92, 3) := by decide +kernel
theorem dX9_noted_13 : decode cX9_noted 13 = .ok (.iload_n 1, 1) := by decide +kernel
theorem dX9_noted_14 : decode cX9_noted 14 = .ok (.baload, 1) := by decide +kernel
theorem dX9_noted_15 : decode cX9_noted 15 = .ok (.ifCond .eq 7, 3) := by decide +kernel
theorem dX9_noted_18 : decode cX9_noted 18 = .ok (.iconst 0, 1) := by decide +kernel
theorem dX9_noted_19 : decode cX9_noted 19 = .ok (.goto 4, 3) := by decide +kernel
theorem dX9_noted_22 : decode cX9_noted 22 = .ok (.iconst 2, 1) := by decide +kernel
theorem dX9_noted_23 : decode cX9_noted 23 = .ok (.invokevirtual 135, 3) := by decide +kernel
theorem dX9_noted_26 : decode cX9_noted 26 = .ok (.ifCond .eq 7, 3) := by decide +kernel
theorem dX9_noted_29 : decode cX9_noted 29 = .ok (.iconst 0, 1) := by decide +kernel
theorem dX9_noted_30 : decode cX9_noted 30 = .ok (.goto 9, 3) := by decide +kernel
theorem dX9_noted_33 : decode cX9_noted 33 = .ok (.aload_n 0, 1) := by decide +kernel
theorem dX9_noted_34 : decode cX9_noted 34 = .ok (.getfield 98, 3) := by decide +kernel
theorem dX9_noted_37 : decode cX9_noted 37 = .ok (.iload_n 1, 1) := by decide +kernel
theorem dX9_noted_38 : decode cX9_noted 38 = .ok (.iaload, 1) := by decide +kernel
theorem dX9_noted_39 : decode cX9_noted 39 = .ok (.ireturn, 1) := by decide +kernel
theorem dX9_meanBehind_0 : decode cX9_meanBehind 0 = .ok (.iconst 0, 1) := by decide +kernel
theorem dX9_meanBehind_1 : decode cX9_meanBehind 1 = .ok (.istore_n 1, 1) := by decide +kernel
theorem dX9_meanBehind_2 : decode cX9_meanBehind 2 = .ok (.iconst 0, 1) := by decide +kernel
theorem dX9_meanBehind_3 : decode cX9_meanBehind 3 = .ok (.istore_n 2, 1) := by decide +kernel
theorem dX9_meanBehind_4 : decode cX9_meanBehind 4 = .ok (.iload_n 2, 1) := by decide +kernel
theorem dX9_meanBehind_5 : decode cX9_meanBehind 5 = .ok (.aload_n 0, 1) := by decide +kernel
theorem dX9_meanBehind_6 : decode cX9_meanBehind 6 = .ok (.getfield 174, 3) := by decide +kernel
theorem dX9_meanBehind_9 : decode cX9_meanBehind 9 = .ok (.if_icmp .ge 17, 3) := by decide +kernel
theorem dX9_meanBehind_12 : decode cX9_meanBehind 12 = .ok (.iload_n 1, 1) := by decide +kernel
theorem dX9_meanBehind_13 : decode cX9_meanBehind 13 = .ok (.aload_n 0, 1) := by decide +kernel
theorem dX9_meanBehind_14 : decode cX9_meanBehind 14 = .ok (.iload_n 2, 1) := by decide +kernel
theorem dX9_meanBehind_15 : decode cX9_meanBehind 15 = .ok (.invokevirtual 186, 3) := by decide +kernel
theorem dX9_meanBehind_18 : decode cX9_meanBehind 18 = .ok (.iadd, 1) := by decide +kernel
theorem dX9_meanBehind_19 : decode cX9_meanBehind 19 = .ok (.istore_n 1, 1) := by decide +kernel
theorem dX9_meanBehind_20 : decode cX9_meanBehind 20 = .ok (.iinc 2 1, 3) := by decide +kernel
theorem dX9_meanBehind_23 : decode cX9_meanBehind 23 = .ok (.goto (-19), 3) := by decide +kernel
theorem dX9_meanBehind_26 : decode cX9_meanBehind 26 = .ok (.aload_n 0, 1) := by decide +kernel
theorem dX9_meanBehind_27 : decode cX9_meanBehind 27 = .ok (.aload_n 0, 1) := by decide +kernel
theorem dX9_meanBehind_28 : decode cX9_meanBehind 28 = .ok (.getfield 174, 3) := by decide +kernel
theorem dX9_meanBehind_31 : decode cX9_meanBehind 31 = .ok (.ifCond .ne 7, 3) := by decide +kernel
theorem dX9_meanBehind_34 : decode cX9_meanBehind 34 = .ok (.iconst 1, 1) := by decide +kernel
theorem dX9_meanBehind_35 : decode cX9_meanBehind 35 = .ok (.goto 4, 3) := by decide +kernel
theorem dX9_meanBehind_38 : decode cX9_meanBehind 38 = .ok (.iconst 0, 1) := by decide +kernel
theorem dX9_meanBehind_39 : decode cX9_meanBehind 39 = .ok (.invokevirtual 135, 3) := by decide +kernel
theorem dX9_meanBehind_42 : decode cX9_meanBehind 42 = .ok (.ifCond .eq 7, 3) := by decide +kernel
theorem dX9_meanBehind_45 : decode cX9_meanBehind 45 = .ok (.dconst 0, 1) := by decide +kernel
theorem dX9_meanBehind_46 : decode cX9_meanBehind 46 = .ok (.goto 11, 3) := by decide +kernel
theorem dX9_meanBehind_49 : decode cX9_meanBehind 49 = .ok (.iload_n 1, 1) := by decide +kernel
theorem dX9_meanBehind_50 : decode cX9_meanBehind 50 = .ok (.i2d, 1) := by decide +kernel
theorem dX9_meanBehind_51 : decode cX9_meanBehind 51 = .ok (.aload_n 0, 1) := by decide +kernel
theorem dX9_meanBehind_52 : decode cX9_meanBehind 52 = .ok (.getfield 174, 3) := by decide +kernel
theorem dX9_meanBehind_55 : decode cX9_meanBehind 55 = .ok (.i2d, 1) := by decide +kernel
theorem dX9_meanBehind_56 : decode cX9_meanBehind 56 = .ok (.ddiv, 1) := by decide +kernel
theorem dX9_meanBehind_57 : decode cX9_meanBehind 57 = .ok (.dreturn, 1) := by decide +kernel
theorem dX9_isConsistent_0 : decode cX9_isConsistent 0 = .ok (.aload_n 0, 1) := by decide +kernel
theorem dX9_isConsistent_1 : decode cX9_isConsistent 1 = .ok (.iconst 0, 1) := by decide +kernel
theorem dX9_isConsistent_2 : decode cX9_isConsistent 2 = .ok (.putfield 128, 3) := by decide +kernel
theorem dX9_isConsistent_5 : decode cX9_isConsistent 5 = .ok (.iconst 1, 1) := by decide +kernel
theorem dX9_isConsistent_6 : decode cX9_isConsistent 6 = .ok (.ireturn, 1) := by decide +kernel
theorem dJx00060_init_a7421_0 : decode cJx00060_init_a7421 0 = .ok (.aload_n 0, 1) := by decide +kernel
theorem dJx00060_init_a7421_1 : decode cJx00060_init_a7421 1 = .ok (.aload_n 1, 1) := by decide +kernel
theorem dJx00060_init_a7421_2 : decode cJx00060_init_a7421 2 = .ok (.invokespecial 7, 3) := by decide +kernel
theorem dJx00060_init_a7421_5 : decode cJx00060_init_a7421 5 = .ok (.return_, 1) := by decide +kernel
theorem dJ9_max_7cf53_0 : decode cJ9_max_7cf53 0 = .ok (.iload_n 0, 1) := by decide +kernel
theorem dJ9_max_7cf53_1 : decode cJ9_max_7cf53 1 = .ok (.iload_n 1, 1) := by decide +kernel
theorem dJ9_max_7cf53_2 : decode cJ9_max_7cf53 2 = .ok (.if_icmp .lt 7, 3) := by decide +kernel
theorem dJ9_max_7cf53_5 : decode cJ9_max_7cf53 5 = .ok (.iload_n 0, 1) := by decide +kernel
theorem dJ9_max_7cf53_6 : decode cJ9_max_7cf53 6 = .ok (.goto 4, 3) := by decide +kernel
theorem dJ9_max_7cf53_9 : decode cJ9_max_7cf53 9 = .ok (.iload_n 1, 1) := by decide +kernel
theorem dJ9_max_7cf53_10 : decode cJ9_max_7cf53 10 = .ok (.ireturn, 1) := by decide +kernel
theorem dJ9_min_7cf53_0 : decode cJ9_min_7cf53 0 = .ok (.iload_n 0, 1) := by decide +kernel
theorem dJ9_min_7cf53_1 : decode cJ9_min_7cf53 1 = .ok (.iload_n 1, 1) := by decide +kernel
theorem dJ9_min_7cf53_2 : decode cJ9_min_7cf53 2 = .ok (.if_icmp .gt 7, 3) := by decide +kernel
theorem dJ9_min_7cf53_5 : decode cJ9_min_7cf53 5 = .ok (.iload_n 0, 1) := by decide +kernel
theorem dJ9_min_7cf53_6 : decode cJ9_min_7cf53 6 = .ok (.goto 4, 3) := by decide +kernel
theorem dJ9_min_7cf53_9 : decode cJ9_min_7cf53 9 = .ok (.iload_n 1, 1) := by decide +kernel
theorem dJ9_min_7cf53_10 : decode cJ9_min_7cf53 10 = .ok (.ireturn, 1) := by decide +kernel
theorem dJxa1e45_init_da8c8_0 : decode cJxa1e45_init_da8c8 0 = .ok (.aload_n 0, 1) := by decide +kernel
theorem dJxa1e45_init_da8c8_1 : decode cJxa1e45_init_da8c8 1 = .ok (.invokespecial 1, 3) := by decide +kernel
theorem dJxa1e45_init_da8c8_4 : decode cJxa1e45_init_da8c8 4 = .ok (.return_, 1) := by decide +kernel
theorem dJxc12de_init_da8c8_0 : decode cJxc12de_init_da8c8 0 = .ok (.aload_n 0, 1) := by decide +kernel
theorem dJxc12de_init_da8c8_1 : decode cJxc12de_init_da8c8 1 = .ok (.invokespecial 1, 3) := by decide +kernel
theorem dJxc12de_init_da8c8_4 : decode cJxc12de_init_da8c8 4 = .ok (.aload_n 0, 1) := by decide +kernel
theorem dJxc12de_init_da8c8_5 : decode cJxc12de_init_da8c8 5 = .ok (.iconst 0, 1) := by decide +kernel
theorem dJxc12de_init_da8c8_6 : decode cJxc12de_init_da8c8 6 = .ok (.putfield 7, 3) := by decide +kernel
theorem dJxc12de_init_da8c8_9 : decode cJxc12de_init_da8c8 9 = .ok (.return_, 1) := by decide +kernel
theorem dJx4a65c_init_da8c8_0 : decode cJx4a65c_init_da8c8 0 = .ok (.aload_n 0, 1) := by decide +kernel
theorem dJx4a65c_init_da8c8_1 : decode cJx4a65c_init_da8c8 1 = .ok (.invokespecial 1, 3) := by decide +kernel
theorem dJx4a65c_init_da8c8_4 : decode cJx4a65c_init_da8c8 4 = .ok (.aload_n 0, 1) := by decide +kernel
theorem dJx4a65c_init_da8c8_5 : decode cJx4a65c_init_da8c8 5 = .ok (.getstatic 39, 3) := by decide +kernel
theorem dJx4a65c_init_da8c8_8 : decode cJx4a65c_init_da8c8 8 = .ok (.putfield 9, 3) := by decide +kernel
theorem dJx4a65c_init_da8c8_11 : decode cJx4a65c_init_da8c8 11 = .ok (.return_, 1) := by decide +kernel
theorem dJx4a65c_grow_92f84_0 : decode cJx4a65c_grow_92f84 0 = .ok (.aload_n 0, 1) := by decide +kernel
theorem dJx4a65c_grow_92f84_1 : decode cJx4a65c_grow_92f84 1 = .ok (.getfield 9, 3) := by decide +kernel
theorem dJx4a65c_grow_92f84_4 : decode cJx4a65c_grow_92f84 4 = .ok (.arraylength, 1) := by decide +kernel
theorem dJx4a65c_grow_92f84_5 : decode cJx4a65c_grow_92f84 5 = .ok (.istore_n 2, 1) := by decide +kernel
theorem dJx4a65c_grow_92f84_6 : decode cJx4a65c_grow_92f84 6 = .ok (.iload_n 2, 1) := by decide +kernel
theorem dJx4a65c_grow_92f84_7 : decode cJx4a65c_grow_92f84 7 = .ok (.ifCond .gt 13, 3) := by decide +kernel
theorem dJx4a65c_grow_92f84_10 : decode cJx4a65c_grow_92f84 10 = .ok (.aload_n 0, 1) := by decide +kernel
theorem dJx4a65c_grow_92f84_11 : decode cJx4a65c_grow_92f84 11 = .ok (.getfield 9, 3) := by decide +kernel
theorem dJx4a65c_grow_92f84_14 : decode cJx4a65c_grow_92f84 14 = .ok (.getstatic 39, 3) := by decide +kernel
theorem dJx4a65c_grow_92f84_17 : decode cJx4a65c_grow_92f84 17 = .ok (.if_acmp .eq 28, 3) := by decide +kernel
theorem dJx4a65c_grow_92f84_20 : decode cJx4a65c_grow_92f84 20 = .ok (.iload_n 2, 1) := by decide +kernel
theorem dJx4a65c_grow_92f84_21 : decode cJx4a65c_grow_92f84 21 = .ok (.iload_n 1, 1) := by decide +kernel
theorem dJx4a65c_grow_92f84_22 : decode cJx4a65c_grow_92f84 22 = .ok (.iload_n 2, 1) := by decide +kernel
theorem dJx4a65c_grow_92f84_23 : decode cJx4a65c_grow_92f84 23 = .ok (.isub, 1) := by decide +kernel
theorem dJx4a65c_grow_92f84_24 : decode cJx4a65c_grow_92f84 24 = .ok (.iload_n 2, 1) := by decide +kernel
theorem dJx4a65c_grow_92f84_25 : decode cJx4a65c_grow_92f84 25 = .ok (.iconst 1, 1) := by decide +kernel
theorem dJx4a65c_grow_92f84_26 : decode cJx4a65c_grow_92f84 26 = .ok (.ishr, 1) := by decide +kernel
theorem dJx4a65c_grow_92f84_27 : decode cJx4a65c_grow_92f84 27 = .ok (.invokestatic 73, 3) := by decide +kernel
theorem dJx4a65c_grow_92f84_30 : decode cJx4a65c_grow_92f84 30 = .ok (.istore_n 3, 1) := by decide +kernel
theorem dJx4a65c_grow_92f84_31 : decode cJx4a65c_grow_92f84 31 = .ok (.aload_n 0, 1) := by decide +kernel
theorem dJx4a65c_grow_92f84_32 : decode cJx4a65c_grow_92f84 32 = .ok (.aload_n 0, 1) := by decide +kernel
theorem dJx4a65c_grow_92f84_33 : decode cJx4a65c_grow_92f84 33 = .ok (.getfield 9, 3) := by decide +kernel
theorem dJx4a65c_grow_92f84_36 : decode cJx4a65c_grow_92f84 36 = .ok (.iload_n 3, 1) := by decide +kernel
theorem dJx4a65c_grow_92f84_37 : decode cJx4a65c_grow_92f84 37 = .ok (.invokestatic 66, 3) := by decide +kernel
theorem dJx4a65c_grow_92f84_40 : decode cJx4a65c_grow_92f84 40 = .ok (.dup_x1, 1) := by decide +kernel
theorem dJx4a65c_grow_92f84_41 : decode cJx4a65c_grow_92f84 41 = .ok (.putfield 9, 3) := by decide +kernel
theorem dJx4a65c_grow_92f84_44 : decode cJx4a65c_grow_92f84 44 = .ok (.areturn, 1) := by decide +kernel
theorem dJx4a65c_grow_92f84_45 : decode cJx4a65c_grow_92f84 45 = .ok (.aload_n 0, 1) := by decide +kernel
theorem dJx4a65c_grow_92f84_46 : decode cJx4a65c_grow_92f84 46 = .ok (.bipush 10, 2) := by decide +kernel
theorem dJx4a65c_grow_92f84_48 : decode cJx4a65c_grow_92f84 48 = .ok (.iload_n 1, 1) := by decide +kernel
theorem dJx4a65c_grow_92f84_49 : decode cJx4a65c_grow_92f84 49 = .ok (.invokestatic 79, 3) := by decide +kernel
theorem dJx4a65c_grow_92f84_52 : decode cJx4a65c_grow_92f84 52 = .ok (.anewarray 7, 3) := by decide +kernel
theorem dJx4a65c_grow_92f84_55 : decode cJx4a65c_grow_92f84 55 = .ok (.dup_x1, 1) := by decide +kernel
theorem dJx4a65c_grow_92f84_56 : decode cJx4a65c_grow_92f84 56 = .ok (.putfield 9, 3) := by decide +kernel
theorem dJx4a65c_grow_92f84_59 : decode cJx4a65c_grow_92f84 59 = .ok (.areturn, 1) := by decide +kernel
theorem dJx4a65c_grow_d5877_0 : decode cJx4a65c_grow_d5877 0 = .ok (.aload_n 0, 1) := by decide +kernel
theorem dJx4a65c_grow_d5877_1 : decode cJx4a65c_grow_d5877 1 = .ok (.aload_n 0, 1) := by decide +kernel
theorem dJx4a65c_grow_d5877_2 : decode cJx4a65c_grow_d5877 2 = .ok (.getfield 48, 3) := by decide +kernel
theorem dJx4a65c_grow_d5877_5 : decode cJx4a65c_grow_d5877 5 = .ok (.iconst 1, 1) := by decide +kernel
theorem dJx4a65c_grow_d5877_6 : decode cJx4a65c_grow_d5877 6 = .ok (.iadd, 1) := by decide +kernel
theorem dJx4a65c_grow_d5877_7 : decode cJx4a65c_grow_d5877 7 = .ok (.invokevirtual 69, 3) := by decide +kernel
theorem dJx4a65c_grow_d5877_10 : decode cJx4a65c_grow_d5877 10 = .ok (.areturn, 1) := by decide +kernel
theorem dJx4a65c_size_8abf5_0 : decode cJx4a65c_size_8abf5 0 = .ok (.aload_n 0, 1) := by decide +kernel
theorem dJx4a65c_size_8abf5_1 : decode cJx4a65c_size_8abf5 1 = .ok (.getfield 48, 3) := by decide +kernel
theorem dJx4a65c_size_8abf5_4 : decode cJx4a65c_size_8abf5 4 = .ok (.ireturn, 1) := by decide +kernel
theorem dJx4a65c_elementData_915e3_0 : decode cJx4a65c_elementData_915e3 0 = .ok (.aload_n 0, 1) := by decide +kernel
theorem dJx4a65c_elementData_915e3_1 : decode cJx4a65c_elementData_915e3 1 = .ok (.getfield 9, 3) := by decide +kernel
theorem dJx4a65c_elementData_915e3_4 : decode cJx4a65c_elementData_915e3 4 = .ok (.iload_n 1, 1) := by decide +kernel
theorem dJx4a65c_elementData_915e3_5 : decode cJx4a65c_elementData_915e3 5 = .ok (.aaload, 1) := by decide +kernel
theorem dJx4a65c_elementData_915e3_6 : decode cJx4a65c_elementData_915e3 6 = .ok (.areturn, 1) := by decide +kernel
theorem dJx4a65c_get_915e3_0 : decode cJx4a65c_get_915e3 0 = .ok (.iload_n 1, 1) := by decide +kernel
theorem dJx4a65c_get_915e3_1 : decode cJx4a65c_get_915e3 1 = .ok (.aload_n 0, 1) := by decide +kernel
theorem dJx4a65c_get_915e3_2 : decode cJx4a65c_get_915e3 2 = .ok (.getfield 48, 3) := by decide +kernel
theorem dJx4a65c_get_915e3_5 : decode cJx4a65c_get_915e3 5 = .ok (.invokestatic 118, 3) := by decide +kernel
theorem dJx4a65c_get_915e3_8 : decode cJx4a65c_get_915e3 8 = .ok (.pop, 1) := by decide +kernel
theorem dJx4a65c_get_915e3_9 : decode cJx4a65c_get_915e3 9 = .ok (.aload_n 0, 1) := by decide +kernel
theorem dJx4a65c_get_915e3_10 : decode cJx4a65c_get_915e3 10 = .ok (.iload_n 1, 1) := by decide +kernel
theorem dJx4a65c_get_915e3_11 : decode cJx4a65c_get_915e3 11 = .ok (.invokevirtual 123, 3) := by decide +kernel
theorem dJx4a65c_get_915e3_14 : decode cJx4a65c_get_915e3 14 = .ok (.areturn, 1) := by decide +kernel
theorem dJx4a65c_add_72be8_0 : decode cJx4a65c_add_72be8 0 = .ok (.iload_n 3, 1) := by decide +kernel
theorem dJx4a65c_add_72be8_1 : decode cJx4a65c_add_72be8 1 = .ok (.aload_n 2, 1) := by decide +kernel
theorem dJx4a65c_add_72be8_2 : decode cJx4a65c_add_72be8 2 = .ok (.arraylength, 1) := by decide +kernel
theorem dJx4a65c_add_72be8_3 : decode cJx4a65c_add_72be8 3 = .ok (.if_icmp .ne 8, 3) := by decide +kernel
theorem dJx4a65c_add_72be8_6 : decode cJx4a65c_add_72be8 6 = .ok (.aload_n 0, 1) := by decide +kernel
theorem dJx4a65c_add_72be8_7 : decode cJx4a65c_add_72be8 7 = .ok (.invokevirtual 129, 3) := by decide +kernel
theorem dJx4a65c_add_72be8_10 : decode cJx4a65c_add_72be8 10 = .ok (.astore_n 2, 1) := by decide +kernel
theorem dJx4a65c_add_72be8_11 : decode cJx4a65c_add_72be8 11 = .ok (.aload_n 2, 1) := by decide +kernel
theorem dJx4a65c_add_72be8_12 : decode cJx4a65c_add_72be8 12 = .ok (.iload_n 3, 1) := by decide +kernel
theorem dJx4a65c_add_72be8_13 : decode cJx4a65c_add_72be8 13 = .ok (.aload_n 1, 1) := by decide +kernel
theorem dJx4a65c_add_72be8_14 : decode cJx4a65c_add_72be8 14 = .ok (.aastore, 1) := by decide +kernel
theorem dJx4a65c_add_72be8_15 : decode cJx4a65c_add_72be8 15 = .ok (.aload_n 0, 1) := by decide +kernel
theorem dJx4a65c_add_72be8_16 : decode cJx4a65c_add_72be8 16 = .ok (.iload_n 3, 1) := by decide +kernel
theorem dJx4a65c_add_72be8_17 : decode cJx4a65c_add_72be8 17 = .ok (.iconst 1, 1) := by decide +kernel
theorem dJx4a65c_add_72be8_18 : decode cJx4a65c_add_72be8 18 = .ok (.iadd, 1) := by decide +kernel
theorem dJx4a65c_add_72be8_19 : decode cJx4a65c_add_72be8 19 = .ok (.putfield 48, 3) := by decide +kernel
theorem dJx4a65c_add_72be8_22 : decode cJx4a65c_add_72be8 22 = .ok (.return_, 1) := by decide +kernel
theorem dJx4a65c_add_9ea2d_0 : decode cJx4a65c_add_9ea2d 0 = .ok (.aload_n 0, 1) := by decide +kernel
theorem dJx4a65c_add_9ea2d_1 : decode cJx4a65c_add_9ea2d 1 = .ok (.dup, 1) := by decide +kernel
theorem dJx4a65c_add_9ea2d_2 : decode cJx4a65c_add_9ea2d 2 = .ok (.getfield 63, 3) := by decide +kernel
theorem dJx4a65c_add_9ea2d_5 : decode cJx4a65c_add_9ea2d 5 = .ok (.iconst 1, 1) := by decide +kernel
theorem dJx4a65c_add_9ea2d_6 : decode cJx4a65c_add_9ea2d 6 = .ok (.iadd, 1) := by decide +kernel
theorem dJx4a65c_add_9ea2d_7 : decode cJx4a65c_add_9ea2d 7 = .ok (.putfield 63, 3) := by decide +kernel
theorem dJx4a65c_add_9ea2d_10 : decode cJx4a65c_add_9ea2d 10 = .ok (.aload_n 0, 1) := by decide +kernel
theorem dJx4a65c_add_9ea2d_11 : decode cJx4a65c_add_9ea2d 11 = .ok (.aload_n 1, 1) := by decide +kernel
theorem dJx4a65c_add_9ea2d_12 : decode cJx4a65c_add_9ea2d 12 = .ok (.aload_n 0, 1) := by decide +kernel
theorem dJx4a65c_add_9ea2d_13 : decode cJx4a65c_add_9ea2d 13 = .ok (.getfield 9, 3) := by decide +kernel
theorem dJx4a65c_add_9ea2d_16 : decode cJx4a65c_add_9ea2d 16 = .ok (.aload_n 0, 1) := by decide +kernel
theorem dJx4a65c_add_9ea2d_17 : decode cJx4a65c_add_9ea2d 17 = .ok (.getfield 48, 3) := by decide +kernel
theorem dJx4a65c_add_9ea2d_20 : decode cJx4a65c_add_9ea2d 20 = .ok (.invokevirtual 131, 3) := by decide +kernel
theorem dJx4a65c_add_9ea2d_23 : decode cJx4a65c_add_9ea2d 23 = .ok (.iconst 1, 1) := by decide +kernel
theorem dJx4a65c_add_9ea2d_24 : decode cJx4a65c_add_9ea2d 24 = .ok (.ireturn, 1) := by decide +kernel
theorem dJx4a65c_remove_915e3_0 : decode cJx4a65c_remove_915e3 0 = .ok (.iload_n 1, 1) := by decide +kernel
theorem dJx4a65c_remove_915e3_1 : decode cJx4a65c_remove_915e3 1 = .ok (.aload_n 0, 1) := by decide +kernel
theorem dJx4a65c_remove_915e3_2 : decode cJx4a65c_remove_915e3 2 = .ok (.getfield 48, 3) := by decide +kernel
theorem dJx4a65c_remove_915e3_5 : decode cJx4a65c_remove_915e3 5 = .ok (.invokestatic 118, 3) := by decide +kernel
theorem dJx4a65c_remove_915e3_8 : decode cJx4a65c_remove_915e3 8 = .ok (.pop, 1) := by decide +kernel
theorem dJx4a65c_remove_915e3_9 : decode cJx4a65c_remove_915e3 9 = .ok (.aload_n 0, 1) := by decide +kernel
theorem dJx4a65c_remove_915e3_10 : decode cJx4a65c_remove_915e3 10 = .ok (.getfield 9, 3) := by decide +kernel
theorem dJx4a65c_remove_915e3_13 : decode cJx4a65c_remove_915e3 13 = .ok (.astore_n 2, 1) := by decide +kernel
theorem dJx4a65c_remove_915e3_14 : decode cJx4a65c_remove_915e3 14 = .ok (.aload_n 2, 1) := by decide +kernel
theorem dJx4a65c_remove_915e3_15 : decode cJx4a65c_remove_915e3 15 = .ok (.iload_n 1, 1) := by decide +kernel
theorem dJx4a65c_remove_915e3_16 : decode cJx4a65c_remove_915e3 16 = .ok (.aaload, 1) := by decide +kernel
theorem dJx4a65c_remove_915e3_17 : decode cJx4a65c_remove_915e3 17 = .ok (.astore_n 3, 1) := by decide +kernel
theorem dJx4a65c_remove_915e3_18 : decode cJx4a65c_remove_915e3 18 = .ok (.aload_n 0, 1) := by decide +kernel
theorem dJx4a65c_remove_915e3_19 : decode cJx4a65c_remove_915e3 19 = .ok (.aload_n 2, 1) := by decide +kernel
theorem dJx4a65c_remove_915e3_20 : decode cJx4a65c_remove_915e3 20 = .ok (.iload_n 1, 1) := by decide +kernel
theorem dJx4a65c_remove_915e3_21 : decode cJx4a65c_remove_915e3 21 = .ok (.invokevirtual 144, 3) := by decide +kernel
theorem dJx4a65c_remove_915e3_24 : decode cJx4a65c_remove_915e3 24 = .ok (.aload_n 3, 1) := by decide +kernel
theorem dJx4a65c_remove_915e3_25 : decode cJx4a65c_remove_915e3 25 = .ok (.areturn, 1) := by decide +kernel
theorem dJx4a65c_fastRemove_b59b0_0 : decode cJx4a65c_fastRemove_b59b0 0 = .ok (.aload_n 0, 1) := by decide +kernel
theorem dJx4a65c_fastRemove_b59b0_1 : decode cJx4a65c_fastRemove_b59b0 1 = .ok (.dup, 1) := by decide +kernel
theorem dJx4a65c_fastRemove_b59b0_2 : decode cJx4a65c_fastRemove_b59b0 2 = .ok (.getfield 63, 3) := by decide +kernel
theorem dJx4a65c_fastRemove_b59b0_5 : decode cJx4a65c_fastRemove_b59b0 5 = .ok (.iconst 1, 1) := by decide +kernel
theorem dJx4a65c_fastRemove_b59b0_6 : decode cJx4a65c_fastRemove_b59b0 6 = .ok (.iadd, 1) := by decide +kernel
theorem dJx4a65c_fastRemove_b59b0_7 : decode cJx4a65c_fastRemove_b59b0 7 = .ok (.putfield 63, 3) := by decide +kernel
theorem dJx4a65c_fastRemove_b59b0_10 : decode cJx4a65c_fastRemove_b59b0 10 = .ok (.aload_n 0, 1) := by decide +kernel
theorem dJx4a65c_fastRemove_b59b0_11 : decode cJx4a65c_fastRemove_b59b0 11 = .ok (.getfield 48, 3) := by decide +kernel
theorem dJx4a65c_fastRemove_b59b0_14 : decode cJx4a65c_fastRemove_b59b0 14 = .ok (.iconst 1, 1) := by decide +kernel
theorem dJx4a65c_fastRemove_b59b0_15 : decode cJx4a65c_fastRemove_b59b0 15 = .ok (.isub, 1) := by decide +kernel
theorem dJx4a65c_fastRemove_b59b0_16 : decode cJx4a65c_fastRemove_b59b0 16 = .ok (.dup, 1) := by decide +kernel
theorem dJx4a65c_fastRemove_b59b0_17 : decode cJx4a65c_fastRemove_b59b0 17 = .ok (.istore_n 3, 1) := by decide +kernel
theorem dJx4a65c_fastRemove_b59b0_18 : decode cJx4a65c_fastRemove_b59b0 18 = .ok (.iload_n 2, 1) := by decide +kernel
theorem dJx4a65c_fastRemove_b59b0_19 : decode cJx4a65c_fastRemove_b59b0 19 = .ok (.if_icmp .le 15, 3) := by decide +kernel
theorem dJx4a65c_fastRemove_b59b0_22 : decode cJx4a65c_fastRemove_b59b0 22 = .ok (.aload_n 1, 1) := by decide +kernel
theorem dJx4a65c_fastRemove_b59b0_23 : decode cJx4a65c_fastRemove_b59b0 23 = .ok (.iload_n 2, 1) := by decide +kernel
theorem dJx4a65c_fastRemove_b59b0_24 : decode cJx4a65c_fastRemove_b59b0 24 = .ok (.iconst 1, 1) := by decide +kernel
theorem dJx4a65c_fastRemove_b59b0_25 : decode cJx4a65c_fastRemove_b59b0 25 = .ok (.iadd, 1) := by decide +kernel
theorem dJx4a65c_fastRemove_b59b0_26 : decode cJx4a65c_fastRemove_b59b0 26 = .ok (.aload_n 1, 1) := by decide +kernel
theorem dJx4a65c_fastRemove_b59b0_27 : decode cJx4a65c_fastRemove_b59b0 27 = .ok (.iload_n 2, 1) := by decide +kernel
theorem dJx4a65c_fastRemove_b59b0_28 : decode cJx4a65c_fastRemove_b59b0 28 = .ok (.iload_n 3, 1) := by decide +kernel
theorem dJx4a65c_fastRemove_b59b0_29 : decode cJx4a65c_fastRemove_b59b0 29 = .ok (.iload_n 2, 1) := by decide +kernel
theorem dJx4a65c_fastRemove_b59b0_30 : decode cJx4a65c_fastRemove_b59b0 30 = .ok (.isub, 1) := by decide +kernel
theorem dJx4a65c_fastRemove_b59b0_31 : decode cJx4a65c_fastRemove_b59b0 31 = .ok (.invokestatic 112, 3) := by decide +kernel
theorem dJx4a65c_fastRemove_b59b0_34 : decode cJx4a65c_fastRemove_b59b0 34 = .ok (.aload_n 1, 1) := by decide +kernel
theorem dJx4a65c_fastRemove_b59b0_35 : decode cJx4a65c_fastRemove_b59b0 35 = .ok (.aload_n 0, 1) := by decide +kernel
theorem dJx4a65c_fastRemove_b59b0_36 : decode cJx4a65c_fastRemove_b59b0 36 = .ok (.iload_n 3, 1) := by decide +kernel
theorem dJx4a65c_fastRemove_b59b0_37 : decode cJx4a65c_fastRemove_b59b0 37 = .ok (.dup_x1, 1) := by decide +kernel
theorem dJx4a65c_fastRemove_b59b0_38 : decode cJx4a65c_fastRemove_b59b0 38 = .ok (.putfield 48, 3) := by decide +kernel
theorem dJx4a65c_fastRemove_b59b0_41 : decode cJx4a65c_fastRemove_b59b0 41 = .ok (.aconst_null, 1) := by decide +kernel
theorem dJx4a65c_fastRemove_b59b0_42 : decode cJx4a65c_fastRemove_b59b0 42 = .ok (.aastore, 1) := by decide +kernel
theorem dJx4a65c_fastRemove_b59b0_43 : decode cJx4a65c_fastRemove_b59b0 43 = .ok (.return_, 1) := by decide +kernel
theorem dJx4a65c_clear_da8c8_0 : decode cJx4a65c_clear_da8c8 0 = .ok (.aload_n 0, 1) := by decide +kernel
theorem dJx4a65c_clear_da8c8_1 : decode cJx4a65c_clear_da8c8 1 = .ok (.dup, 1) := by decide +kernel
theorem dJx4a65c_clear_da8c8_2 : decode cJx4a65c_clear_da8c8 2 = .ok (.getfield 63, 3) := by decide +kernel
theorem dJx4a65c_clear_da8c8_5 : decode cJx4a65c_clear_da8c8 5 = .ok (.iconst 1, 1) := by decide +kernel
theorem dJx4a65c_clear_da8c8_6 : decode cJx4a65c_clear_da8c8 6 = .ok (.iadd, 1) := by decide +kernel
theorem dJx4a65c_clear_da8c8_7 : decode cJx4a65c_clear_da8c8 7 = .ok (.putfield 63, 3) := by decide +kernel
theorem dJx4a65c_clear_da8c8_10 : decode cJx4a65c_clear_da8c8 10 = .ok (.aload_n 0, 1) := by decide +kernel
theorem dJx4a65c_clear_da8c8_11 : decode cJx4a65c_clear_da8c8 11 = .ok (.getfield 9, 3) := by decide +kernel
theorem dJx4a65c_clear_da8c8_14 : decode cJx4a65c_clear_da8c8 14 = .ok (.astore_n 1, 1) := by decide +kernel
theorem dJx4a65c_clear_da8c8_15 : decode cJx4a65c_clear_da8c8 15 = .ok (.aload_n 0, 1) := by decide +kernel
theorem dJx4a65c_clear_da8c8_16 : decode cJx4a65c_clear_da8c8 16 = .ok (.getfield 48, 3) := by decide +kernel
theorem dJx4a65c_clear_da8c8_19 : decode cJx4a65c_clear_da8c8 19 = .ok (.istore_n 2, 1) := by decide +kernel
theorem dJx4a65c_clear_da8c8_20 : decode cJx4a65c_clear_da8c8 20 = .ok (.aload_n 0, 1) := by decide +kernel
theorem dJx4a65c_clear_da8c8_21 : decode cJx4a65c_clear_da8c8 21 = .ok (.iconst 0, 1) := by decide +kernel
theorem dJx4a65c_clear_da8c8_22 : decode cJx4a65c_clear_da8c8 22 = .ok (.dup_x1, 1) := by decide +kernel
theorem dJx4a65c_clear_da8c8_23 : decode cJx4a65c_clear_da8c8 23 = .ok (.putfield 48, 3) := by decide +kernel
theorem dJx4a65c_clear_da8c8_26 : decode cJx4a65c_clear_da8c8 26 = .ok (.istore_n 3, 1) := by decide +kernel
theorem dJx4a65c_clear_da8c8_27 : decode cJx4a65c_clear_da8c8 27 = .ok (.iload_n 3, 1) := by decide +kernel
theorem dJx4a65c_clear_da8c8_28 : decode cJx4a65c_clear_da8c8 28 = .ok (.iload_n 2, 1) := by decide +kernel
theorem dJx4a65c_clear_da8c8_29 : decode cJx4a65c_clear_da8c8 29 = .ok (.if_icmp .ge 13, 3) := by decide +kernel
theorem dJx4a65c_clear_da8c8_32 : decode cJx4a65c_clear_da8c8 32 = .ok (.aload_n 1, 1) := by decide +kernel
theorem dJx4a65c_clear_da8c8_33 : decode cJx4a65c_clear_da8c8 33 = .ok (.iload_n 3, 1) := by decide +kernel
theorem dJx4a65c_clear_da8c8_34 : decode cJx4a65c_clear_da8c8 34 = .ok (.aconst_null, 1) := by decide +kernel
theorem dJx4a65c_clear_da8c8_35 : decode cJx4a65c_clear_da8c8 35 = .ok (.aastore, 1) := by decide +kernel
theorem dJx4a65c_clear_da8c8_36 : decode cJx4a65c_clear_da8c8 36 = .ok (.iinc 3 1, 3) := by decide +kernel
theorem dJx4a65c_clear_da8c8_39 : decode cJx4a65c_clear_da8c8 39 = .ok (.goto (-12), 3) := by decide +kernel
theorem dJx4a65c_clear_da8c8_42 : decode cJx4a65c_clear_da8c8 42 = .ok (.return_, 1) := by decide +kernel
theorem dJ7_fill_53178_0 : decode cJ7_fill_53178 0 = .ok (.iconst 0, 1) := by decide +kernel
theorem dJ7_fill_53178_1 : decode cJ7_fill_53178 1 = .ok (.istore_n 2, 1) := by decide +kernel
theorem dJ7_fill_53178_2 : decode cJ7_fill_53178 2 = .ok (.aload_n 0, 1) := by decide +kernel
theorem dJ7_fill_53178_3 : decode cJ7_fill_53178 3 = .ok (.arraylength, 1) := by decide +kernel
theorem dJ7_fill_53178_4 : decode cJ7_fill_53178 4 = .ok (.istore_n 3, 1) := by decide +kernel
theorem dJ7_fill_53178_5 : decode cJ7_fill_53178 5 = .ok (.iload_n 2, 1) := by decide +kernel
theorem dJ7_fill_53178_6 : decode cJ7_fill_53178 6 = .ok (.iload_n 3, 1) := by decide +kernel
theorem dJ7_fill_53178_7 : decode cJ7_fill_53178 7 = .ok (.if_icmp .ge 13, 3) := by decide +kernel
theorem dJ7_fill_53178_10 : decode cJ7_fill_53178 10 = .ok (.aload_n 0, 1) := by decide +kernel
theorem dJ7_fill_53178_11 : decode cJ7_fill_53178 11 = .ok (.iload_n 2, 1) := by decide +kernel
theorem dJ7_fill_53178_12 : decode cJ7_fill_53178 12 = .ok (.iload_n 1, 1) := by decide +kernel
theorem dJ7_fill_53178_13 : decode cJ7_fill_53178 13 = .ok (.iastore, 1) := by decide +kernel
theorem dJ7_fill_53178_14 : decode cJ7_fill_53178 14 = .ok (.iinc 2 1, 3) := by decide +kernel
theorem dJ7_fill_53178_17 : decode cJ7_fill_53178 17 = .ok (.goto (-12), 3) := by decide +kernel
theorem dJ7_fill_53178_20 : decode cJ7_fill_53178 20 = .ok (.return_, 1) := by decide +kernel
theorem dJ7_copyOf_1904c_0 : decode cJ7_copyOf_1904c 0 = .ok (.aload_n 0, 1) := by decide +kernel
theorem dJ7_copyOf_1904c_1 : decode cJ7_copyOf_1904c 1 = .ok (.iload_n 1, 1) := by decide +kernel
theorem dJ7_copyOf_1904c_2 : decode cJ7_copyOf_1904c 2 = .ok (.aload_n 0, 1) := by decide +kernel
theorem dJ7_copyOf_1904c_3 : decode cJ7_copyOf_1904c 3 = .ok (.invokevirtual 86, 3) := by decide +kernel
theorem dJ7_copyOf_1904c_6 : decode cJ7_copyOf_1904c 6 = .ok (.invokestatic 300, 3) := by decide +kernel
theorem dJ7_copyOf_1904c_9 : decode cJ7_copyOf_1904c 9 = .ok (.areturn, 1) := by decide +kernel
theorem dJ7_copyOf_6403c_0 : decode cJ7_copyOf_6403c 0 = .ok (.aload_n 2, 1) := by decide +kernel
theorem dJ7_copyOf_6403c_1 : decode cJ7_copyOf_6403c 1 = .ok (.ldc 110, 2) := by decide +kernel
theorem dJ7_copyOf_6403c_3 : decode cJ7_copyOf_6403c 3 = .ok (.if_acmp .ne 10, 3) := by decide +kernel
theorem dJ7_copyOf_6403c_6 : decode cJ7_copyOf_6403c 6 = .ok (.iload_n 1, 1) := by decide +kernel
theorem dJ7_copyOf_6403c_7 : decode cJ7_copyOf_6403c 7 = .ok (.anewarray 2, 3) := by decide +kernel
theorem dJ7_copyOf_6403c_10 : decode cJ7_copyOf_6403c 10 = .ok (.goto 14, 3) := by decide +kernel
theorem dJ7_copyOf_6403c_13 : decode cJ7_copyOf_6403c 13 = .ok (.aload_n 2, 1) := by decide +kernel
theorem dJ7_copyOf_6403c_14 : decode cJ7_copyOf_6403c 14 = .ok (.invokevirtual 90, 3) := by decide +kernel
theorem dJ7_copyOf_6403c_17 : decode cJ7_copyOf_6403c 17 = .ok (.iload_n 1, 1) := by decide +kernel
theorem dJ7_copyOf_6403c_18 : decode cJ7_copyOf_6403c 18 = .ok (.invokestatic 95, 3) := by decide +kernel
theorem dJ7_copyOf_6403c_21 : decode cJ7_copyOf_6403c 21 = .ok (.checkcast 110, 3) := by decide +kernel
theorem dJ7_copyOf_6403c_24 : decode cJ7_copyOf_6403c 24 = .ok (.astore_n 3, 1) := by decide +kernel
theorem dJ7_copyOf_6403c_25 : decode cJ7_copyOf_6403c 25 = .ok (.aload_n 0, 1) := by decide +kernel
theorem dJ7_copyOf_6403c_26 : decode cJ7_copyOf_6403c 26 = .ok (.iconst 0, 1) := by decide +kernel
theorem dJ7_copyOf_6403c_27 : decode cJ7_copyOf_6403c 27 = .ok (.aload_n 3, 1) := by decide +kernel
theorem dJ7_copyOf_6403c_28 : decode cJ7_copyOf_6403c 28 = .ok (.iconst 0, 1) := by decide +kernel
theorem dJ7_copyOf_6403c_29 : decode cJ7_copyOf_6403c 29 = .ok (.aload_n 0, 1) := by decide +kernel
theorem dJ7_copyOf_6403c_30 : decode cJ7_copyOf_6403c 30 = .ok (.arraylength, 1) := by decide +kernel
theorem dJ7_copyOf_6403c_31 : decode cJ7_copyOf_6403c 31 = .ok (.iload_n 1, 1) := by decide +kernel
theorem dJ7_copyOf_6403c_32 : decode cJ7_copyOf_6403c 32 = .ok (.invokestatic 304, 3) := by decide +kernel
theorem dJ7_copyOf_6403c_35 : decode cJ7_copyOf_6403c 35 = .ok (.invokestatic 150, 3) := by decide +kernel
theorem dJ7_copyOf_6403c_38 : decode cJ7_copyOf_6403c 38 = .ok (.aload_n 3, 1) := by decide +kernel
theorem dJ7_copyOf_6403c_39 : decode cJ7_copyOf_6403c 39 = .ok (.areturn, 1) := by decide +kernel
theorem dJ15_checkIndex_7cf53_0 : decode cJ15_checkIndex_7cf53 0 = .ok (.iload_n 0, 1) := by decide +kernel
theorem dJ15_checkIndex_7cf53_1 : decode cJ15_checkIndex_7cf53 1 = .ok (.iload_n 1, 1) := by decide +kernel
theorem dJ15_checkIndex_7cf53_2 : decode cJ15_checkIndex_7cf53 2 = .ok (.aconst_null, 1) := by decide +kernel
theorem dJ15_checkIndex_7cf53_3 : decode cJ15_checkIndex_7cf53 3 = .ok (.invokestatic 105, 3) := by decide +kernel
theorem dJ15_checkIndex_7cf53_6 : decode cJ15_checkIndex_7cf53 6 = .ok (.ireturn, 1) := by decide +kernel
theorem dJ8_newLength_cabcc_0 : decode cJ8_newLength_cabcc 0 = .ok (.iload_n 0, 1) := by decide +kernel
theorem dJ8_newLength_cabcc_1 : decode cJ8_newLength_cabcc 1 = .ok (.iload_n 1, 1) := by decide +kernel
theorem dJ8_newLength_cabcc_2 : decode cJ8_newLength_cabcc 2 = .ok (.iload_n 2, 1) := by decide +kernel
theorem dJ8_newLength_cabcc_3 : decode cJ8_newLength_cabcc 3 = .ok (.invokestatic 194, 3) := by decide +kernel
theorem dJ8_newLength_cabcc_6 : decode cJ8_newLength_cabcc 6 = .ok (.iadd, 1) := by decide +kernel
theorem dJ8_newLength_cabcc_7 : decode cJ8_newLength_cabcc 7 = .ok (.istore_n 3, 1) := by decide +kernel
theorem dJ8_newLength_cabcc_8 : decode cJ8_newLength_cabcc 8 = .ok (.iconst 0, 1) := by decide +kernel
theorem dJ8_newLength_cabcc_9 : decode cJ8_newLength_cabcc 9 = .ok (.iload_n 3, 1) := by decide +kernel
theorem dJ8_newLength_cabcc_10 : decode cJ8_newLength_cabcc 10 = .ok (.if_icmp .ge 11, 3) := by decide +kernel
theorem dJ8_newLength_cabcc_13 : decode cJ8_newLength_cabcc 13 = .ok (.iload_n 3, 1) := by decide +kernel
theorem dJ8_newLength_cabcc_14 : decode cJ8_newLength_cabcc 14 = .ok (.ldc 200, 2) := by decide +kernel
theorem dJ8_newLength_cabcc_16 : decode cJ8_newLength_cabcc 16 = .ok (.if_icmp .gt 5, 3) := by decide +kernel
theorem dJ8_newLength_cabcc_19 : decode cJ8_newLength_cabcc 19 = .ok (.iload_n 3, 1) := by decide +kernel
theorem dJ8_newLength_cabcc_20 : decode cJ8_newLength_cabcc 20 = .ok (.ireturn, 1) := by decide +kernel
theorem dJ8_newLength_cabcc_21 : decode cJ8_newLength_cabcc 21 = .ok (.iload_n 0, 1) := by decide +kernel
theorem dJ8_newLength_cabcc_22 : decode cJ8_newLength_cabcc 22 = .ok (.iload_n 1, 1) := by decide +kernel
theorem dJ8_newLength_cabcc_23 : decode cJ8_newLength_cabcc 23 = .ok (.invokestatic 201, 3) := by decide +kernel
theorem dJ8_newLength_cabcc_26 : decode cJ8_newLength_cabcc 26 = .ok (.ireturn, 1) := by decide +kernel
theorem dJ8_hugeLength_7cf53_0 : decode cJ8_hugeLength_7cf53 0 = .ok (.iload_n 0, 1) := by decide +kernel
theorem dJ8_hugeLength_7cf53_1 : decode cJ8_hugeLength_7cf53 1 = .ok (.iload_n 1, 1) := by decide +kernel
theorem dJ8_hugeLength_7cf53_2 : decode cJ8_hugeLength_7cf53 2 = .ok (.iadd, 1) := by decide +kernel
theorem dJ8_hugeLength_7cf53_3 : decode cJ8_hugeLength_7cf53 3 = .ok (.istore_n 2, 1) := by decide +kernel
theorem dJ8_hugeLength_7cf53_4 : decode cJ8_hugeLength_7cf53 4 = .ok (.iload_n 2, 1) := by decide +kernel
theorem dJ8_hugeLength_7cf53_5 : decode cJ8_hugeLength_7cf53 5 = .ok (.ifCond .ge 44, 3) := by decide +kernel
theorem dJ8_hugeLength_7cf53_8 : decode cJ8_hugeLength_7cf53 8 = .ok (.new 204, 3) := by decide +kernel
theorem dJ8_hugeLength_7cf53_11 : decode cJ8_hugeLength_7cf53 11 = .ok (.dup, 1) := by decide +kernel
theorem dJ8_hugeLength_7cf53_12 : decode cJ8_hugeLength_7cf53 12 = .ok (.new 89, 3) := by decide +kernel
theorem dJ8_hugeLength_7cf53_15 : decode cJ8_hugeLength_7cf53 15 = .ok (.dup, 1) := by decide +kernel
theorem dJ8_hugeLength_7cf53_16 : decode cJ8_hugeLength_7cf53 16 = .ok (.invokespecial 91, 3) := by decide +kernel
theorem dJ8_hugeLength_7cf53_19 : decode cJ8_hugeLength_7cf53 19 = .ok (.ldc 206, 2) := by decide +kernel
theorem dJ8_hugeLength_7cf53_21 : decode cJ8_hugeLength_7cf53 21 = .ok (.invokevirtual 94, 3) := by decide +kernel
theorem dJ8_hugeLength_7cf53_24 : decode cJ8_hugeLength_7cf53 24 = .ok (.iload_n 0, 1) := by decide +kernel
theorem dJ8_hugeLength_7cf53_25 : decode cJ8_hugeLength_7cf53 25 = .ok (.invokevirtual 98, 3) := by decide +kernel
theorem dJ8_hugeLength_7cf53_28 : decode cJ8_hugeLength_7cf53 28 = .ok (.ldc 208, 2) := by decide +kernel
theorem dJ8_hugeLength_7cf53_30 : decode cJ8_hugeLength_7cf53 30 = .ok (.invokevirtual 94, 3) := by decide +kernel
theorem dJ8_hugeLength_7cf53_33 : decode cJ8_hugeLength_7cf53 33 = .ok (.iload_n 1, 1) := by decide +kernel
theorem dJ8_hugeLength_7cf53_34 : decode cJ8_hugeLength_7cf53 34 = .ok (.invokevirtual 98, 3) := by decide +kernel
theorem dJ8_hugeLength_7cf53_37 : decode cJ8_hugeLength_7cf53 37 = .ok (.ldc 210, 2) := by decide +kernel
theorem dJ8_hugeLength_7cf53_39 : decode cJ8_hugeLength_7cf53 39 = .ok (.invokevirtual 94, 3) := by decide +kernel
theorem dJ8_hugeLength_7cf53_42 : decode cJ8_hugeLength_7cf53 42 = .ok (.invokevirtual 101, 3) := by decide +kernel
theorem dJ8_hugeLength_7cf53_45 : decode cJ8_hugeLength_7cf53 45 = .ok (.invokespecial 212, 3) := by decide +kernel
theorem dJ8_hugeLength_7cf53_48 : decode cJ8_hugeLength_7cf53 48 = .ok (.athrow, 1) := by decide +kernel
theorem dJ8_hugeLength_7cf53_49 : decode cJ8_hugeLength_7cf53 49 = .ok (.iload_n 2, 1) := by decide +kernel
theorem dJ8_hugeLength_7cf53_50 : decode cJ8_hugeLength_7cf53 50 = .ok (.ldc 200, 2) := by decide +kernel
theorem dJ8_hugeLength_7cf53_52 : decode cJ8_hugeLength_7cf53 52 = .ok (.if_icmp .gt 6, 3) := by decide +kernel
theorem dJ8_hugeLength_7cf53_55 : decode cJ8_hugeLength_7cf53 55 = .ok (.ldc 200, 2) := by decide +kernel
theorem dJ8_hugeLength_7cf53_57 : decode cJ8_hugeLength_7cf53 57 = .ok (.ireturn, 1) := by decide +kernel
theorem dJ8_hugeLength_7cf53_58 : decode cJ8_hugeLength_7cf53 58 = .ok (.iload_n 2, 1) := by decide +kernel
theorem dJ8_hugeLength_7cf53_59 : decode cJ8_hugeLength_7cf53 59 = .ok (.ireturn, 1) := by decide +kernel
theorem dJ3_checkIndex_8e157_0 : decode cJ3_checkIndex_8e157 0 = .ok (.iload_n 0, 1) := by decide +kernel
theorem dJ3_checkIndex_8e157_1 : decode cJ3_checkIndex_8e157 1 = .ok (.ifCond .lt 8, 3) := by decide +kernel
theorem dJ3_checkIndex_8e157_4 : decode cJ3_checkIndex_8e157 4 = .ok (.iload_n 0, 1) := by decide +kernel
theorem dJ3_checkIndex_8e157_5 : decode cJ3_checkIndex_8e157 5 = .ok (.iload_n 1, 1) := by decide +kernel
theorem dJ3_checkIndex_8e157_6 : decode cJ3_checkIndex_8e157 6 = .ok (.if_icmp .lt 10, 3) := by decide +kernel
theorem dJ3_checkIndex_8e157_9 : decode cJ3_checkIndex_8e157 9 = .ok (.aload_n 2, 1) := by decide +kernel
theorem dJ3_checkIndex_8e157_10 : decode cJ3_checkIndex_8e157 10 = .ok (.iload_n 0, 1) := by decide +kernel
theorem dJ3_checkIndex_8e157_11 : decode cJ3_checkIndex_8e157 11 = .ok (.iload_n 1, 1) := by decide +kernel
theorem dJ3_checkIndex_8e157_12 : decode cJ3_checkIndex_8e157 12 = .ok (.invokestatic 95, 3) := by decide +kernel
theorem dJ3_checkIndex_8e157_15 : decode cJ3_checkIndex_8e157 15 = .ok (.athrow, 1) := by decide +kernel
theorem dJ3_checkIndex_8e157_16 : decode cJ3_checkIndex_8e157 16 = .ok (.iload_n 0, 1) := by decide +kernel
theorem dJ3_checkIndex_8e157_17 : decode cJ3_checkIndex_8e157 17 = .ok (.ireturn, 1) := by decide +kernel
theorem dL_openSession_0 : decode cL_openSession 0 = .ok (.aload_n 1, 1) := by decide +kernel
theorem dL_openSession_1 : decode cL_openSession 1 = .ok (.iconst 0, 1) := by decide +kernel
theorem dL_openSession_2 : decode cL_openSession 2 = .ok (.aload_n 0, 1) := by decide +kernel
theorem dL_openSession_3 : decode cL_openSession 3 = .ok (.invokevirtual 7, 3) := by decide +kernel
theorem dL_openSession_6 : decode cL_openSession 6 = .ok (.i2l, 1) := by decide +kernel
theorem dL_openSession_7 : decode cL_openSession 7 = .ok (.lastore, 1) := by decide +kernel
theorem dL_openSession_8 : decode cL_openSession 8 = .ok (.goto 6, 3) := by decide +kernel
theorem dL_openSession_11 : decode cL_openSession 11 = .ok (.astore_n 2, 1) := by decide +kernel
theorem dL_openSession_12 : decode cL_openSession 12 = .ok (.iconst 1, 1) := by decide +kernel
theorem dL_openSession_13 : decode cL_openSession 13 = .ok (.ireturn, 1) := by decide +kernel
theorem dL_openSession_14 : decode cL_openSession 14 = .ok (.iconst 0, 1) := by decide +kernel
theorem dL_openSession_15 : decode cL_openSession 15 = .ok (.ireturn, 1) := by decide +kernel
theorem dL_openWindow_0 : decode cL_openWindow 0 = .ok (.aload 6, 2) := by decide +kernel
theorem dL_openWindow_2 : decode cL_openWindow 2 = .ok (.iconst 0, 1) := by decide +kernel
theorem dL_openWindow_3 : decode cL_openWindow 3 = .ok (.aload_n 0, 1) := by decide +kernel
theorem dL_openWindow_4 : decode cL_openWindow 4 = .ok (.iload_n 1, 1) := by decide +kernel
theorem dL_openWindow_5 : decode cL_openWindow 5 = .ok (.iload_n 2, 1) := by decide +kernel
theorem dL_openWindow_6 : decode cL_openWindow 6 = .ok (.iload_n 3, 1) := by decide +kernel
theorem dL_openWindow_7 : decode cL_openWindow 7 = .ok (.iload 4, 2) := by decide +kernel
theorem dL_openWindow_9 : decode cL_openWindow 9 = .ok (.iload 5, 2) := by decide +kernel
theorem dL_openWindow_11 : decode cL_openWindow 11 = .ok (.invokevirtual 15, 3) := by decide +kernel
theorem dL_openWindow_14 : decode cL_openWindow 14 = .ok (.i2l, 1) := by decide +kernel
theorem dL_openWindow_15 : decode cL_openWindow 15 = .ok (.lastore, 1) := by decide +kernel
theorem dL_openWindow_16 : decode cL_openWindow 16 = .ok (.goto 15, 3) := by decide +kernel
theorem dL_openWindow_19 : decode cL_openWindow 19 = .ok (.astore 7, 2) := by decide +kernel
theorem dL_openWindow_21 : decode cL_openWindow 21 = .ok (.iconst 1, 1) := by decide +kernel
theorem dL_openWindow_22 : decode cL_openWindow 22 = .ok (.ireturn, 1) := by decide +kernel
theorem dL_openWindow_23 : decode cL_openWindow 23 = .ok (.astore 7, 2) := by decide +kernel
theorem dL_openWindow_25 : decode cL_openWindow 25 = .ok (.iconst 2, 1) := by decide +kernel
theorem dL_openWindow_26 : decode cL_openWindow 26 = .ok (.ireturn, 1) := by decide +kernel
theorem dL_openWindow_27 : decode cL_openWindow 27 = .ok (.astore 7, 2) := by decide +kernel
theorem dL_openWindow_29 : decode cL_openWindow 29 = .ok (.iconst 3, 1) := by decide +kernel
theorem dL_openWindow_30 : decode cL_openWindow 30 = .ok (.ireturn, 1) := by decide +kernel
theorem dL_openWindow_31 : decode cL_openWindow 31 = .ok (.iconst 0, 1) := by decide +kernel
theorem dL_openWindow_32 : decode cL_openWindow 32 = .ok (.ireturn, 1) := by decide +kernel
theorem dL_closeWindow_0 : decode cL_closeWindow 0 = .ok (.aload_n 3, 1) := by decide +kernel
theorem dL_closeWindow_1 : decode cL_closeWindow 1 = .ok (.iconst 0, 1) := by decide +kernel
theorem dL_closeWindow_2 : decode cL_closeWindow 2 = .ok (.aload_n 0, 1) := by decide +kernel
theorem dL_closeWindow_3 : decode cL_closeWindow 3 = .ok (.iload_n 1, 1) := by decide +kernel
theorem dL_closeWindow_4 : decode cL_closeWindow 4 = .ok (.iload_n 2, 1) := by decide +kernel
theorem dL_closeWindow_5 : decode cL_closeWindow 5 = .ok (.invokevirtual 23, 3) := by decide +kernel
theorem dL_closeWindow_8 : decode cL_closeWindow 8 = .ok (.ifCond .eq 7, 3) := by decide +kernel
theorem dL_closeWindow_11 : decode cL_closeWindow 11 = .ok (.lconst 1, 1) := by decide +kernel
theorem dL_closeWindow_12 : decode cL_closeWindow 12 = .ok (.goto 4, 3) := by decide +kernel
theorem dL_closeWindow_15 : decode cL_closeWindow 15 = .ok (.lconst 0, 1) := by decide +kernel
theorem dL_closeWindow_16 : decode cL_closeWindow 16 = .ok (.lastore, 1) := by decide +kernel
theorem dL_closeWindow_17 : decode cL_closeWindow 17 = .ok (.goto 7, 3) := by decide +kernel
theorem dL_closeWindow_20 : decode cL_closeWindow 20 = .ok (.astore 4, 2) := by decide +kernel
theorem dL_closeWindow_22 : decode cL_closeWindow 22 = .ok (.iconst 1, 1) := by decide +kernel
theorem dL_closeWindow_23 : decode cL_closeWindow 23 = .ok (.ireturn, 1) := by decide +kernel
theorem dL_closeWindow_24 : decode cL_closeWindow 24 = .ok (.iconst 0, 1) := by decide +kernel
theorem dL_closeWindow_25 : decode cL_closeWindow 25 = .ok (.ireturn, 1) := by decide +kernel
theorem dL_moveWindow_0 : decode cL_moveWindow 0 = .ok (.aload 5, 2) := by decide +kernel
theorem dL_moveWindow_2 : decode cL_moveWindow 2 = .ok (.iconst 0, 1) := by decide +kernel
theorem dL_moveWindow_3 : decode cL_moveWindow 3 = .ok (.aload_n 0, 1) := by decide +kernel
theorem dL_moveWindow_4 : decode cL_moveWindow 4 = .ok (.iload_n 1, 1) := by decide +kernel
theorem dL_moveWindow_5 : decode cL_moveWindow 5 = .ok (.iload_n 2, 1) := by decide +kernel
theorem dL_moveWindow_6 : decode cL_moveWindow 6 = .ok (.iload_n 3, 1) := by decide +kernel
theorem dL_moveWindow_7 : decode cL_moveWindow 7 = .ok (.iload 4, 2) := by decide +kernel
theorem dL_moveWindow_9 : decode cL_moveWindow 9 = .ok (.invokevirtual 27, 3) := by decide +kernel
theorem dL_moveWindow_12 : decode cL_moveWindow 12 = .ok (.i2l, 1) := by decide +kernel
theorem dL_moveWindow_13 : decode cL_moveWindow 13 = .ok (.lastore, 1) := by decide +kernel
theorem dL_moveWindow_14 : decode cL_moveWindow 14 = .ok (.goto 11, 3) := by decide +kernel
theorem dL_moveWindow_17 : decode cL_moveWindow 17 = .ok (.astore 6, 2) := by decide +kernel
theorem dL_moveWindow_19 : decode cL_moveWindow 19 = .ok (.iconst 1, 1) := by decide +kernel
theorem dL_moveWindow_20 : decode cL_moveWindow 20 = .ok (.ireturn, 1) := by decide +kernel
theorem dL_moveWindow_21 : decode cL_moveWindow 21 = .ok (.astore 6, 2) := by decide +kernel
theorem dL_moveWindow_23 : decode cL_moveWindow 23 = .ok (.iconst 2, 1) := by decide +kernel
theorem dL_moveWindow_24 : decode cL_moveWindow 24 = .ok (.ireturn, 1) := by decide +kernel
theorem dL_moveWindow_25 : decode cL_moveWindow 25 = .ok (.iconst 0, 1) := by decide +kernel
theorem dL_moveWindow_26 : decode cL_moveWindow 26 = .ok (.ireturn, 1) := by decide +kernel
theorem dL_raise_0 : decode cL_raise 0 = .ok (.aload_n 3, 1) := by decide +kernel
theorem dL_raise_1 : decode cL_raise 1 = .ok (.iconst 0, 1) := by decide +kernel
theorem dL_raise_2 : decode cL_raise 2 = .ok (.aload_n 0, 1) := by decide +kernel
theorem dL_raise_3 : decode cL_raise 3 = .ok (.iload_n 1, 1) := by decide +kernel
theorem dL_raise_4 : decode cL_raise 4 = .ok (.iload_n 2, 1) := by decide +kernel
theorem dL_raise_5 : decode cL_raise 5 = .ok (.invokevirtual 31, 3) := by decide +kernel
theorem dL_raise_8 : decode cL_raise 8 = .ok (.ifCond .eq 7, 3) := by decide +kernel
theorem dL_raise_11 : decode cL_raise 11 = .ok (.lconst 1, 1) := by decide +kernel
theorem dL_raise_12 : decode cL_raise 12 = .ok (.goto 4, 3) := by decide +kernel
theorem dL_raise_15 : decode cL_raise 15 = .ok (.lconst 0, 1) := by decide +kernel
theorem dL_raise_16 : decode cL_raise 16 = .ok (.lastore, 1) := by decide +kernel
theorem dL_raise_17 : decode cL_raise 17 = .ok (.goto 7, 3) := by decide +kernel
theorem dL_raise_20 : decode cL_raise 20 = .ok (.astore 4, 2) := by decide +kernel
theorem dL_raise_22 : decode cL_raise 22 = .ok (.iconst 1, 1) := by decide +kernel
theorem dL_raise_23 : decode cL_raise 23 = .ok (.ireturn, 1) := by decide +kernel
theorem dL_raise_24 : decode cL_raise 24 = .ok (.iconst 0, 1) := by decide +kernel
theorem dL_raise_25 : decode cL_raise 25 = .ok (.ireturn, 1) := by decide +kernel
theorem dL_show_0 : decode cL_show 0 = .ok (.aload 4, 2) := by decide +kernel
theorem dL_show_2 : decode cL_show 2 = .ok (.iconst 0, 1) := by decide +kernel
theorem dL_show_3 : decode cL_show 3 = .ok (.aload_n 0, 1) := by decide +kernel
theorem dL_show_4 : decode cL_show 4 = .ok (.iload_n 1, 1) := by decide +kernel
theorem dL_show_5 : decode cL_show 5 = .ok (.iload_n 2, 1) := by decide +kernel
theorem dL_show_6 : decode cL_show 6 = .ok (.iload_n 3, 1) := by decide +kernel
theorem dL_show_7 : decode cL_show 7 = .ok (.invokevirtual 34, 3) := by decide +kernel
theorem dL_show_10 : decode cL_show 10 = .ok (.ifCond .eq 7, 3) := by decide +kernel
theorem dL_show_13 : decode cL_show 13 = .ok (.lconst 1, 1) := by decide +kernel
theorem dL_show_14 : decode cL_show 14 = .ok (.goto 4, 3) := by decide +kernel
theorem dL_show_17 : decode cL_show 17 = .ok (.lconst 0, 1) := by decide +kernel
theorem dL_show_18 : decode cL_show 18 = .ok (.lastore, 1) := by decide +kernel
theorem dL_show_19 : decode cL_show 19 = .ok (.goto 7, 3) := by decide +kernel
theorem dL_show_22 : decode cL_show 22 = .ok (.astore 5, 2) := by decide +kernel
theorem dL_show_24 : decode cL_show 24 = .ok (.iconst 1, 1) := by decide +kernel
theorem dL_show_25 : decode cL_show 25 = .ok (.ireturn, 1) := by decide +kernel
theorem dL_show_26 : decode cL_show 26 = .ok (.iconst 0, 1) := by decide +kernel
theorem dL_show_27 : decode cL_show 27 = .ok (.ireturn, 1) := by decide +kernel
theorem dL_mark_0 : decode cL_mark 0 = .ok (.aload 5, 2) := by decide +kernel
theorem dL_mark_2 : decode cL_mark 2 = .ok (.iconst 0, 1) := by decide +kernel
theorem dL_mark_3 : decode cL_mark 3 = .ok (.aload_n 0, 1) := by decide +kernel
theorem dL_mark_4 : decode cL_mark 4 = .ok (.iload_n 1, 1) := by decide +kernel
theorem dL_mark_5 : decode cL_mark 5 = .ok (.iload_n 2, 1) := by decide +kernel
theorem dL_mark_6 : decode cL_mark 6 = .ok (.iload_n 3, 1) := by decide +kernel
theorem dL_mark_7 : decode cL_mark 7 = .ok (.iload 4, 2) := by decide +kernel
theorem dL_mark_9 : decode cL_mark 9 = .ok (.invokevirtual 38, 3) := by decide +kernel
theorem dL_mark_12 : decode cL_mark 12 = .ok (.ifCond .eq 7, 3) := by decide +kernel
theorem dL_mark_15 : decode cL_mark 15 = .ok (.lconst 1, 1) := by decide +kernel
theorem dL_mark_16 : decode cL_mark 16 = .ok (.goto 4, 3) := by decide +kernel
theorem dL_mark_19 : decode cL_mark 19 = .ok (.lconst 0, 1) := by decide +kernel
theorem dL_mark_20 : decode cL_mark 20 = .ok (.lastore, 1) := by decide +kernel
theorem dL_mark_21 : decode cL_mark 21 = .ok (.goto 7, 3) := by decide +kernel
theorem dL_mark_24 : decode cL_mark 24 = .ok (.astore 6, 2) := by decide +kernel
theorem dL_mark_26 : decode cL_mark 26 = .ok (.iconst 1, 1) := by decide +kernel
theorem dL_mark_27 : decode cL_mark 27 = .ok (.ireturn, 1) := by decide +kernel
theorem dL_mark_28 : decode cL_mark 28 = .ok (.iconst 0, 1) := by decide +kernel
theorem dL_mark_29 : decode cL_mark 29 = .ok (.ireturn, 1) := by decide +kernel
theorem dL_draw_0 : decode cL_draw 0 = .ok (.aload 8, 2) := by decide +kernel
theorem dL_draw_2 : decode cL_draw 2 = .ok (.iconst 0, 1) := by decide +kernel
theorem dL_draw_3 : decode cL_draw 3 = .ok (.aload_n 0, 1) := by decide +kernel
theorem dL_draw_4 : decode cL_draw 4 = .ok (.iload_n 1, 1) := by decide +kernel
theorem dL_draw_5 : decode cL_draw 5 = .ok (.iload_n 2, 1) := by decide +kernel
theorem dL_draw_6 : decode cL_draw 6 = .ok (.iload_n 3, 1) := by decide +kernel
theorem dL_draw_7 : decode cL_draw 7 = .ok (.iload 4, 2) := by decide +kernel
theorem dL_draw_9 : decode cL_draw 9 = .ok (.iload 5, 2) := by decide +kernel
theorem dL_draw_11 : decode cL_draw 11 = .ok (.iload 6, 2) := by decide +kernel
theorem dL_draw_13 : decode cL_draw 13 = .ok (.iload 7, 2) := by decide +kernel
theorem dL_draw_15 : decode cL_draw 15 = .ok (.invokevirtual 42, 3) := by decide +kernel
theorem dL_draw_18 : decode cL_draw 18 = .ok (.i2l, 1) := by decide +kernel
theorem dL_draw_19 : decode cL_draw 19 = .ok (.lastore, 1) := by decide +kernel
theorem dL_draw_20 : decode cL_draw 20 = .ok (.goto 11, 3) := by decide +kernel
theorem dL_draw_23 : decode cL_draw 23 = .ok (.astore 9, 2) := by decide +kernel
theorem dL_draw_25 : decode cL_draw 25 = .ok (.iconst 1, 1) := by decide +kernel
theorem dL_draw_26 : decode cL_draw 26 = .ok (.ireturn, 1) := by decide +kernel
theorem dL_draw_27 : decode cL_draw 27 = .ok (.astore 9, 2) := by decide +kernel
theorem dL_draw_29 : decode cL_draw 29 = .ok (.iconst 2, 1) := by decide +kernel
theorem dL_draw_30 : decode cL_draw 30 = .ok (.ireturn, 1) := by decide +kernel
theorem dL_draw_31 : decode cL_draw 31 = .ok (.iconst 0, 1) := by decide +kernel
theorem dL_draw_32 : decode cL_draw 32 = .ok (.ireturn, 1) := by decide +kernel
theorem dL_screen_0 : decode cL_screen 0 = .ok (.aload 4, 2) := by decide +kernel
theorem dL_screen_2 : decode cL_screen 2 = .ok (.iconst 0, 1) := by decide +kernel
theorem dL_screen_3 : decode cL_screen 3 = .ok (.aload_n 0, 1) := by decide +kernel
theorem dL_screen_4 : decode cL_screen 4 = .ok (.iload_n 1, 1) := by decide +kernel
theorem dL_screen_5 : decode cL_screen 5 = .ok (.iload_n 2, 1) := by decide +kernel
theorem dL_screen_6 : decode cL_screen 6 = .ok (.iload_n 3, 1) := by decide +kernel
theorem dL_screen_7 : decode cL_screen 7 = .ok (.invokevirtual 46, 3) := by decide +kernel
theorem dL_screen_10 : decode cL_screen 10 = .ok (.i2l, 1) := by decide +kernel
theorem dL_screen_11 : decode cL_screen 11 = .ok (.lastore, 1) := by decide +kernel
theorem dL_screen_12 : decode cL_screen 12 = .ok (.goto 7, 3) := by decide +kernel
theorem dL_screen_15 : decode cL_screen 15 = .ok (.astore 5, 2) := by decide +kernel
theorem dL_screen_17 : decode cL_screen 17 = .ok (.iconst 1, 1) := by decide +kernel
theorem dL_screen_18 : decode cL_screen 18 = .ok (.ireturn, 1) := by decide +kernel
theorem dL_screen_19 : decode cL_screen 19 = .ok (.iconst 0, 1) := by decide +kernel
theorem dL_screen_20 : decode cL_screen 20 = .ok (.ireturn, 1) := by decide +kernel
theorem dL_join_0 : decode cL_join 0 = .ok (.aload_n 3, 1) := by decide +kernel
theorem dL_join_1 : decode cL_join 1 = .ok (.iconst 0, 1) := by decide +kernel
theorem dL_join_2 : decode cL_join 2 = .ok (.aload_n 0, 1) := by decide +kernel
theorem dL_join_3 : decode cL_join 3 = .ok (.iload_n 1, 1) := by decide +kernel
theorem dL_join_4 : decode cL_join 4 = .ok (.iload_n 2, 1) := by decide +kernel
theorem dL_join_5 : decode cL_join 5 = .ok (.invokevirtual 50, 3) := by decide +kernel
theorem dL_join_8 : decode cL_join 8 = .ok (.i2l, 1) := by decide +kernel
theorem dL_join_9 : decode cL_join 9 = .ok (.lastore, 1) := by decide +kernel
theorem dL_join_10 : decode cL_join 10 = .ok (.goto 15, 3) := by decide +kernel
theorem dL_join_13 : decode cL_join 13 = .ok (.astore 4, 2) := by decide +kernel
theorem dL_join_15 : decode cL_join 15 = .ok (.iconst 1, 1) := by decide +kernel
theorem dL_join_16 : decode cL_join 16 = .ok (.ireturn, 1) := by decide +kernel
theorem dL_join_17 : decode cL_join 17 = .ok (.astore 4, 2) := by decide +kernel
theorem dL_join_19 : decode cL_join 19 = .ok (.iconst 2, 1) := by decide +kernel
theorem dL_join_20 : decode cL_join 20 = .ok (.ireturn, 1) := by decide +kernel
theorem dL_join_21 : decode cL_join 21 = .ok (.astore 4, 2) := by decide +kernel
theorem dL_join_23 : decode cL_join 23 = .ok (.iconst 3, 1) := by decide +kernel
theorem dL_join_24 : decode cL_join 24 = .ok (.ireturn, 1) := by decide +kernel
theorem dL_join_25 : decode cL_join 25 = .ok (.iconst 0, 1) := by decide +kernel
theorem dL_join_26 : decode cL_join 26 = .ok (.ireturn, 1) := by decide +kernel
theorem dL_bid_0 : decode cL_bid 0 = .ok (.aload_n 3, 1) := by decide +kernel
theorem dL_bid_1 : decode cL_bid 1 = .ok (.iconst 0, 1) := by decide +kernel
theorem dL_bid_2 : decode cL_bid 2 = .ok (.aload_n 0, 1) := by decide +kernel
theorem dL_bid_3 : decode cL_bid 3 = .ok (.iload_n 1, 1) := by decide +kernel
theorem dL_bid_4 : decode cL_bid 4 = .ok (.iload_n 2, 1) := by decide +kernel
theorem dL_bid_5 : decode cL_bid 5 = .ok (.invokevirtual 54, 3) := by decide +kernel
theorem dL_bid_8 : decode cL_bid 8 = .ok (.i2l, 1) := by decide +kernel
theorem dL_bid_9 : decode cL_bid 9 = .ok (.lastore, 1) := by decide +kernel
theorem dL_bid_10 : decode cL_bid 10 = .ok (.goto 11, 3) := by decide +kernel
theorem dL_bid_13 : decode cL_bid 13 = .ok (.astore 4, 2) := by decide +kernel
theorem dL_bid_15 : decode cL_bid 15 = .ok (.iconst 1, 1) := by decide +kernel
theorem dL_bid_16 : decode cL_bid 16 = .ok (.ireturn, 1) := by decide +kernel
theorem dL_bid_17 : decode cL_bid 17 = .ok (.astore 4, 2) := by decide +kernel
theorem dL_bid_19 : decode cL_bid 19 = .ok (.iconst 2, 1) := by decide +kernel
theorem dL_bid_20 : decode cL_bid 20 = .ok (.ireturn, 1) := by decide +kernel
theorem dL_bid_21 : decode cL_bid 21 = .ok (.iconst 0, 1) := by decide +kernel
theorem dL_bid_22 : decode cL_bid 22 = .ok (.ireturn, 1) := by decide +kernel
theorem dL_money_0 : decode cL_money 0 = .ok (.aload_n 2, 1) := by decide +kernel
theorem dL_money_1 : decode cL_money 1 = .ok (.iconst 0, 1) := by decide +kernel
theorem dL_money_2 : decode cL_money 2 = .ok (.aload_n 0, 1) := by decide +kernel
theorem dL_money_3 : decode cL_money 3 = .ok (.iload_n 1, 1) := by decide +kernel
theorem dL_money_4 : decode cL_money 4 = .ok (.invokevirtual 57, 3) := by decide +kernel
theorem dL_money_7 : decode cL_money 7 = .ok (.i2l, 1) := by decide +kernel
theorem dL_money_8 : decode cL_money 8 = .ok (.lastore, 1) := by decide +kernel
theorem dL_money_9 : decode cL_money 9 = .ok (.goto 6, 3) := by decide +kernel
theorem dL_money_12 : decode cL_money 12 = .ok (.astore_n 3, 1) := by decide +kernel
theorem dL_money_13 : decode cL_money 13 = .ok (.iconst 1, 1) := by decide +kernel
theorem dL_money_14 : decode cL_money 14 = .ok (.ireturn, 1) := by decide +kernel
theorem dL_money_15 : decode cL_money 15 = .ok (.iconst 0, 1) := by decide +kernel
theorem dL_money_16 : decode cL_money 16 = .ok (.ireturn, 1) := by decide +kernel
theorem dL_picture_0 : decode cL_picture 0 = .ok (.aload 4, 2) := by decide +kernel
theorem dL_picture_2 : decode cL_picture 2 = .ok (.iconst 0, 1) := by decide +kernel
theorem dL_picture_3 : decode cL_picture 3 = .ok (.aload_n 0, 1) := by decide +kernel
theorem dL_picture_4 : decode cL_picture 4 = .ok (.iload_n 1, 1) := by decide +kernel
theorem dL_picture_5 : decode cL_picture 5 = .ok (.iload_n 2, 1) := by decide +kernel
theorem dL_picture_6 : decode cL_picture 6 = .ok (.iload_n 3, 1) := by decide +kernel
theorem dL_picture_7 : decode cL_picture 7 = .ok (.invokevirtual 61, 3) := by decide +kernel
theorem dL_picture_10 : decode cL_picture 10 = .ok (.i2l, 1) := by decide +kernel
theorem dL_picture_11 : decode cL_picture 11 = .ok (.lastore, 1) := by decide +kernel
theorem dL_picture_12 : decode cL_picture 12 = .ok (.goto 7, 3) := by decide +kernel
theorem dL_picture_15 : decode cL_picture 15 = .ok (.astore 5, 2) := by decide +kernel
theorem dL_picture_17 : decode cL_picture 17 = .ok (.iconst 1, 1) := by decide +kernel
theorem dL_picture_18 : decode cL_picture 18 = .ok (.ireturn, 1) := by decide +kernel
theorem dL_picture_19 : decode cL_picture 19 = .ok (.iconst 0, 1) := by decide +kernel
theorem dL_picture_20 : decode cL_picture 20 = .ok (.ireturn, 1) := by decide +kernel
theorem dL_seen_0 : decode cL_seen 0 = .ok (.aload 4, 2) := by decide +kernel
theorem dL_seen_2 : decode cL_seen 2 = .ok (.iconst 0, 1) := by decide +kernel
theorem dL_seen_3 : decode cL_seen 3 = .ok (.aload_n 0, 1) := by decide +kernel
theorem dL_seen_4 : decode cL_seen 4 = .ok (.iload_n 1, 1) := by decide +kernel
theorem dL_seen_5 : decode cL_seen 5 = .ok (.iload_n 2, 1) := by decide +kernel
theorem dL_seen_6 : decode cL_seen 6 = .ok (.iload_n 3, 1) := by decide +kernel
theorem dL_seen_7 : decode cL_seen 7 = .ok (.invokevirtual 64, 3) := by decide +kernel
theorem dL_seen_10 : decode cL_seen 10 = .ok (.i2l, 1) := by decide +kernel
theorem dL_seen_11 : decode cL_seen 11 = .ok (.lastore, 1) := by decide +kernel
theorem dL_seen_12 : decode cL_seen 12 = .ok (.goto 7, 3) := by decide +kernel
theorem dL_seen_15 : decode cL_seen 15 = .ok (.astore 5, 2) := by decide +kernel
theorem dL_seen_17 : decode cL_seen 17 = .ok (.iconst 1, 1) := by decide +kernel
theorem dL_seen_18 : decode cL_seen 18 = .ok (.ireturn, 1) := by decide +kernel
theorem dL_seen_19 : decode cL_seen 19 = .ok (.iconst 0, 1) := by decide +kernel
theorem dL_seen_20 : decode cL_seen 20 = .ok (.ireturn, 1) := by decide +kernel
theorem dL_behind_0 : decode cL_behind 0 = .ok (.aload_n 2, 1) := by decide +kernel
theorem dL_behind_1 : decode cL_behind 1 = .ok (.iconst 0, 1) := by decide +kernel
theorem dL_behind_2 : decode cL_behind 2 = .ok (.aload_n 0, 1) := by decide +kernel
theorem dL_behind_3 : decode cL_behind 3 = .ok (.iload_n 1, 1) := by decide +kernel
theorem dL_behind_4 : decode cL_behind 4 = .ok (.invokevirtual 67, 3) := by decide +kernel
theorem dL_behind_7 : decode cL_behind 7 = .ok (.i2l, 1) := by decide +kernel
theorem dL_behind_8 : decode cL_behind 8 = .ok (.lastore, 1) := by decide +kernel
theorem dL_behind_9 : decode cL_behind 9 = .ok (.goto 6, 3) := by decide +kernel
theorem dL_behind_12 : decode cL_behind 12 = .ok (.astore_n 3, 1) := by decide +kernel
theorem dL_behind_13 : decode cL_behind 13 = .ok (.iconst 1, 1) := by decide +kernel
theorem dL_behind_14 : decode cL_behind 14 = .ok (.ireturn, 1) := by decide +kernel
theorem dL_behind_15 : decode cL_behind 15 = .ok (.iconst 0, 1) := by decide +kernel
theorem dL_behind_16 : decode cL_behind 16 = .ok (.ireturn, 1) := by decide +kernel
theorem dL_next_0 : decode cL_next 0 = .ok (.aload_n 2, 1) := by decide +kernel
theorem dL_next_1 : decode cL_next 1 = .ok (.iconst 0, 1) := by decide +kernel
theorem dL_next_2 : decode cL_next 2 = .ok (.aload_n 0, 1) := by decide +kernel
theorem dL_next_3 : decode cL_next 3 = .ok (.iload_n 1, 1) := by decide +kernel
theorem dL_next_4 : decode cL_next 4 = .ok (.invokevirtual 70, 3) := by decide +kernel
theorem dL_next_7 : decode cL_next 7 = .ok (.i2l, 1) := by decide +kernel
theorem dL_next_8 : decode cL_next 8 = .ok (.lastore, 1) := by decide +kernel
theorem dL_next_9 : decode cL_next 9 = .ok (.goto 9, 3) := by decide +kernel
theorem dL_next_12 : decode cL_next 12 = .ok (.astore_n 3, 1) := by decide +kernel
theorem dL_next_13 : decode cL_next 13 = .ok (.iconst 1, 1) := by decide +kernel
theorem dL_next_14 : decode cL_next 14 = .ok (.ireturn, 1) := by decide +kernel
theorem dL_next_15 : decode cL_next 15 = .ok (.astore_n 3, 1) := by decide +kernel
theorem dL_next_16 : decode cL_next 16 = .ok (.iconst 2, 1) := by decide +kernel
theorem dL_next_17 : decode cL_next 17 = .ok (.ireturn, 1) := by decide +kernel
theorem dL_next_18 : decode cL_next 18 = .ok (.iconst 0, 1) := by decide +kernel
theorem dL_next_19 : decode cL_next 19 = .ok (.ireturn, 1) := by decide +kernel
theorem dL_nextCost_0 : decode cL_nextCost 0 = .ok (.aload_n 2, 1) := by decide +kernel
theorem dL_nextCost_1 : decode cL_nextCost 1 = .ok (.iconst 0, 1) := by decide +kernel
theorem dL_nextCost_2 : decode cL_nextCost 2 = .ok (.aload_n 0, 1) := by decide +kernel
theorem dL_nextCost_3 : decode cL_nextCost 3 = .ok (.iload_n 1, 1) := by decide +kernel
theorem dL_nextCost_4 : decode cL_nextCost 4 = .ok (.invokevirtual 76, 3) := by decide +kernel
theorem dL_nextCost_7 : decode cL_nextCost 7 = .ok (.i2l, 1) := by decide +kernel
theorem dL_nextCost_8 : decode cL_nextCost 8 = .ok (.lastore, 1) := by decide +kernel
theorem dL_nextCost_9 : decode cL_nextCost 9 = .ok (.goto 9, 3) := by decide +kernel
theorem dL_nextCost_12 : decode cL_nextCost 12 = .ok (.astore_n 3, 1) := by decide +kernel
theorem dL_nextCost_13 : decode cL_nextCost 13 = .ok (.iconst 1, 1) := by decide +kernel
theorem dL_nextCost_14 : decode cL_nextCost 14 = .ok (.ireturn, 1) := by decide +kernel
theorem dL_nextCost_15 : decode cL_nextCost 15 = .ok (.astore_n 3, 1) := by decide +kernel
theorem dL_nextCost_16 : decode cL_nextCost 16 = .ok (.iconst 2, 1) := by decide +kernel
theorem dL_nextCost_17 : decode cL_nextCost 17 = .ok (.ireturn, 1) := by decide +kernel
theorem dL_nextCost_18 : decode cL_nextCost 18 = .ok (.iconst 0, 1) := by decide +kernel
theorem dL_nextCost_19 : decode cL_nextCost 19 = .ok (.ireturn, 1) := by decide +kernel
theorem dL_tick_0 : decode cL_tick 0 = .ok (.aload_n 2, 1) := by decide +kernel
theorem dL_tick_1 : decode cL_tick 1 = .ok (.iconst 0, 1) := by decide +kernel
theorem dL_tick_2 : decode cL_tick 2 = .ok (.aload_n 0, 1) := by decide +kernel
theorem dL_tick_3 : decode cL_tick 3 = .ok (.iload_n 1, 1) := by decide +kernel
theorem dL_tick_4 : decode cL_tick 4 = .ok (.invokevirtual 79, 3) := by decide +kernel
theorem dL_tick_7 : decode cL_tick 7 = .ok (.i2l, 1) := by decide +kernel
theorem dL_tick_8 : decode cL_tick 8 = .ok (.lastore, 1) := by decide +kernel
theorem dL_tick_9 : decode cL_tick 9 = .ok (.goto 6, 3) := by decide +kernel
theorem dL_tick_12 : decode cL_tick 12 = .ok (.astore_n 3, 1) := by decide +kernel
theorem dL_tick_13 : decode cL_tick 13 = .ok (.iconst 1, 1) := by decide +kernel
theorem dL_tick_14 : decode cL_tick 14 = .ok (.ireturn, 1) := by decide +kernel
theorem dL_tick_15 : decode cL_tick 15 = .ok (.iconst 0, 1) := by decide +kernel
theorem dL_tick_16 : decode cL_tick 16 = .ok (.ireturn, 1) := by decide +kernel
theorem dL_type_0 : decode cL_type 0 = .ok (.aload_n 3, 1) := by decide +kernel
theorem dL_type_1 : decode cL_type 1 = .ok (.iconst 0, 1) := by decide +kernel
theorem dL_type_2 : decode cL_type 2 = .ok (.aload_n 0, 1) := by decide +kernel
theorem dL_type_3 : decode cL_type 3 = .ok (.iload_n 1, 1) := by decide +kernel
theorem dL_type_4 : decode cL_type 4 = .ok (.iload_n 2, 1) := by decide +kernel
theorem dL_type_5 : decode cL_type 5 = .ok (.invokevirtual 82, 3) := by decide +kernel
theorem dL_type_8 : decode cL_type 8 = .ok (.i2l, 1) := by decide +kernel
theorem dL_type_9 : decode cL_type 9 = .ok (.lastore, 1) := by decide +kernel
theorem dL_type_10 : decode cL_type 10 = .ok (.goto 19, 3) := by decide +kernel
theorem dL_type_13 : decode cL_type 13 = .ok (.astore 4, 2) := by decide +kernel
theorem dL_type_15 : decode cL_type 15 = .ok (.iconst 1, 1) := by decide +kernel
theorem dL_type_16 : decode cL_type 16 = .ok (.ireturn, 1) := by decide +kernel
theorem dL_type_17 : decode cL_type 17 = .ok (.astore 4, 2) := by decide +kernel
theorem dL_type_19 : decode cL_type 19 = .ok (.iconst 2, 1) := by decide +kernel
theorem dL_type_20 : decode cL_type 20 = .ok (.ireturn, 1) := by decide +kernel
theorem dL_type_21 : decode cL_type 21 = .ok (.astore 4, 2) := by decide +kernel
theorem dL_type_23 : decode cL_type 23 = .ok (.iconst 3, 1) := by decide +kernel
theorem dL_type_24 : decode cL_type 24 = .ok (.ireturn, 1) := by decide +kernel
theorem dL_type_25 : decode cL_type 25 = .ok (.astore 4, 2) := by decide +kernel
theorem dL_type_27 : decode cL_type 27 = .ok (.iconst 4, 1) := by decide +kernel
theorem dL_type_28 : decode cL_type 28 = .ok (.ireturn, 1) := by decide +kernel
theorem dL_type_29 : decode cL_type 29 = .ok (.iconst 0, 1) := by decide +kernel
theorem dL_type_30 : decode cL_type 30 = .ok (.ireturn, 1) := by decide +kernel
theorem dL_guesses_0 : decode cL_guesses 0 = .ok (.aload_n 2, 1) := by decide +kernel
theorem dL_guesses_1 : decode cL_guesses 1 = .ok (.iconst 0, 1) := by decide +kernel
theorem dL_guesses_2 : decode cL_guesses 2 = .ok (.aload_n 0, 1) := by decide +kernel
theorem dL_guesses_3 : decode cL_guesses 3 = .ok (.iload_n 1, 1) := by decide +kernel
theorem dL_guesses_4 : decode cL_guesses 4 = .ok (.invokevirtual 88, 3) := by decide +kernel
theorem dL_guesses_7 : decode cL_guesses 7 = .ok (.i2l, 1) := by decide +kernel
theorem dL_guesses_8 : decode cL_guesses 8 = .ok (.lastore, 1) := by decide +kernel
theorem dL_guesses_9 : decode cL_guesses 9 = .ok (.goto 6, 3) := by decide +kernel
theorem dL_guesses_12 : decode cL_guesses 12 = .ok (.astore_n 3, 1) := by decide +kernel
theorem dL_guesses_13 : decode cL_guesses 13 = .ok (.iconst 1, 1) := by decide +kernel
theorem dL_guesses_14 : decode cL_guesses 14 = .ok (.ireturn, 1) := by decide +kernel
theorem dL_guesses_15 : decode cL_guesses 15 = .ok (.iconst 0, 1) := by decide +kernel
theorem dL_guesses_16 : decode cL_guesses 16 = .ok (.ireturn, 1) := by decide +kernel
theorem dL_rightShare_0 : decode cL_rightShare 0 = .ok (.aload_n 2, 1) := by decide +kernel
theorem dL_rightShare_1 : decode cL_rightShare 1 = .ok (.iconst 0, 1) := by decide +kernel
theorem dL_rightShare_2 : decode cL_rightShare 2 = .ok (.aload_n 0, 1) := by decide +kernel
theorem dL_rightShare_3 : decode cL_rightShare 3 = .ok (.iload_n 1, 1) := by decide +kernel
theorem dL_rightShare_4 : decode cL_rightShare 4 = .ok (.invokevirtual 91, 3) := by decide +kernel
theorem dL_rightShare_7 : decode cL_rightShare 7 = .ok (.f2d, 1) := by decide +kernel
theorem dL_rightShare_8 : decode cL_rightShare 8 = .ok (.dastore, 1) := by decide +kernel
theorem dL_rightShare_9 : decode cL_rightShare 9 = .ok (.goto 9, 3) := by decide +kernel
theorem dL_rightShare_12 : decode cL_rightShare 12 = .ok (.astore_n 3, 1) := by decide +kernel
theorem dL_rightShare_13 : decode cL_rightShare 13 = .ok (.iconst 1, 1) := by decide +kernel
theorem dL_rightShare_14 : decode cL_rightShare 14 = .ok (.ireturn, 1) := by decide +kernel
theorem dL_rightShare_15 : decode cL_rightShare 15 = .ok (.astore_n 3, 1) := by decide +kernel
theorem dL_rightShare_16 : decode cL_rightShare 16 = .ok (.iconst 2, 1) := by decide +kernel
theorem dL_rightShare_17 : decode cL_rightShare 17 = .ok (.ireturn, 1) := by decide +kernel
theorem dL_rightShare_18 : decode cL_rightShare 18 = .ok (.iconst 0, 1) := by decide +kernel
theorem dL_rightShare_19 : decode cL_rightShare 19 = .ok (.ireturn, 1) := by decide +kernel
theorem dL_copy_0 : decode cL_copy 0 = .ok (.aload 4, 2) := by decide +kernel
theorem dL_copy_2 : decode cL_copy 2 = .ok (.iconst 0, 1) := by decide +kernel
theorem dL_copy_3 : decode cL_copy 3 = .ok (.aload_n 0, 1) := by decide +kernel
theorem dL_copy_4 : decode cL_copy 4 = .ok (.iload_n 1, 1) := by decide +kernel
theorem dL_copy_5 : decode cL_copy 5 = .ok (.iload_n 2, 1) := by decide +kernel
theorem dL_copy_6 : decode cL_copy 6 = .ok (.iload_n 3, 1) := by decide +kernel
theorem dL_copy_7 : decode cL_copy 7 = .ok (.invokevirtual 97, 3) := by decide +kernel
theorem dL_copy_10 : decode cL_copy 10 = .ok (.i2l, 1) := by decide +kernel
theorem dL_copy_11 : decode cL_copy 11 = .ok (.lastore, 1) := by decide +kernel
theorem dL_copy_12 : decode cL_copy 12 = .ok (.goto 11, 3) := by decide +kernel
theorem dL_copy_15 : decode cL_copy 15 = .ok (.astore 5, 2) := by decide +kernel
theorem dL_copy_17 : decode cL_copy 17 = .ok (.iconst 1, 1) := by decide +kernel
theorem dL_copy_18 : decode cL_copy 18 = .ok (.ireturn, 1) := by decide +kernel
theorem dL_copy_19 : decode cL_copy 19 = .ok (.astore 5, 2) := by decide +kernel
theorem dL_copy_21 : decode cL_copy 21 = .ok (.iconst 2, 1) := by decide +kernel
theorem dL_copy_22 : decode cL_copy 22 = .ok (.ireturn, 1) := by decide +kernel
theorem dL_copy_23 : decode cL_copy 23 = .ok (.iconst 0, 1) := by decide +kernel
theorem dL_copy_24 : decode cL_copy 24 = .ok (.ireturn, 1) := by decide +kernel
theorem dL_allow_0 : decode cL_allow 0 = .ok (.aload 5, 2) := by decide +kernel
theorem dL_allow_2 : decode cL_allow 2 = .ok (.iconst 0, 1) := by decide +kernel
theorem dL_allow_3 : decode cL_allow 3 = .ok (.aload_n 0, 1) := by decide +kernel
theorem dL_allow_4 : decode cL_allow 4 = .ok (.iload_n 1, 1) := by decide +kernel
theorem dL_allow_5 : decode cL_allow 5 = .ok (.iload_n 2, 1) := by decide +kernel
theorem dL_allow_6 : decode cL_allow 6 = .ok (.iload_n 3, 1) := by decide +kernel
theorem dL_allow_7 : decode cL_allow 7 = .ok (.iload 4, 2) := by decide +kernel
theorem dL_allow_9 : decode cL_allow 9 = .ok (.invokevirtual 100, 3) := by decide +kernel
theorem dL_allow_12 : decode cL_allow 12 = .ok (.ifCond .eq 7, 3) := by decide +kernel
theorem dL_allow_15 : decode cL_allow 15 = .ok (.lconst 1, 1) := by decide +kernel
theorem dL_allow_16 : decode cL_allow 16 = .ok (.goto 4, 3) := by decide +kernel
theorem dL_allow_19 : decode cL_allow 19 = .ok (.lconst 0, 1) := by decide +kernel
theorem dL_allow_20 : decode cL_allow 20 = .ok (.lastore, 1) := by decide +kernel
theorem dL_allow_21 : decode cL_allow 21 = .ok (.goto 11, 3) := by decide +kernel
theorem dL_allow_24 : decode cL_allow 24 = .ok (.astore 6, 2) := by decide +kernel
theorem dL_allow_26 : decode cL_allow 26 = .ok (.iconst 1, 1) := by decide +kernel
theorem dL_allow_27 : decode cL_allow 27 = .ok (.ireturn, 1) := by decide +kernel
theorem dL_allow_28 : decode cL_allow 28 = .ok (.astore 6, 2) := by decide +kernel
theorem dL_allow_30 : decode cL_allow 30 = .ok (.iconst 2, 1) := by decide +kernel
theorem dL_allow_31 : decode cL_allow 31 = .ok (.ireturn, 1) := by decide +kernel
theorem dL_allow_32 : decode cL_allow 32 = .ok (.iconst 0, 1) := by decide +kernel
theorem dL_allow_33 : decode cL_allow 33 = .ok (.ireturn, 1) := by decide +kernel
theorem dL_paste_0 : decode cL_paste 0 = .ok (.aload_n 3, 1) := by decide +kernel
theorem dL_paste_1 : decode cL_paste 1 = .ok (.iconst 0, 1) := by decide +kernel
theorem dL_paste_2 : decode cL_paste 2 = .ok (.aload_n 0, 1) := by decide +kernel
theorem dL_paste_3 : decode cL_paste 3 = .ok (.iload_n 1, 1) := by decide +kernel
theorem dL_paste_4 : decode cL_paste 4 = .ok (.iload_n 2, 1) := by decide +kernel
theorem dL_paste_5 : decode cL_paste 5 = .ok (.invokevirtual 104, 3) := by decide +kernel
theorem dL_paste_8 : decode cL_paste 8 = .ok (.i2l, 1) := by decide +kernel
theorem dL_paste_9 : decode cL_paste 9 = .ok (.lastore, 1) := by decide +kernel
theorem dL_paste_10 : decode cL_paste 10 = .ok (.goto 15, 3) := by decide +kernel
theorem dL_paste_13 : decode cL_paste 13 = .ok (.astore 4, 2) := by decide +kernel
theorem dL_paste_15 : decode cL_paste 15 = .ok (.iconst 1, 1) := by decide +kernel
theorem dL_paste_16 : decode cL_paste 16 = .ok (.ireturn, 1) := by decide +kernel
theorem dL_paste_17 : decode cL_paste 17 = .ok (.astore 4, 2) := by decide +kernel
theorem dL_paste_19 : decode cL_paste 19 = .ok (.iconst 2, 1) := by decide +kernel
theorem dL_paste_20 : decode cL_paste 20 = .ok (.ireturn, 1) := by decide +kernel
theorem dL_paste_21 : decode cL_paste 21 = .ok (.astore 4, 2) := by decide +kernel
theorem dL_paste_23 : decode cL_paste 23 = .ok (.iconst 3, 1) := by decide +kernel
theorem dL_paste_24 : decode cL_paste 24 = .ok (.ireturn, 1) := by decide +kernel
theorem dL_paste_25 : decode cL_paste 25 = .ok (.iconst 0, 1) := by decide +kernel
theorem dL_paste_26 : decode cL_paste 26 = .ok (.ireturn, 1) := by decide +kernel
theorem dL_move_0 : decode cL_move 0 = .ok (.aload_n 2, 1) := by decide +kernel
theorem dL_move_1 : decode cL_move 1 = .ok (.iconst 0, 1) := by decide +kernel
theorem dL_move_2 : decode cL_move 2 = .ok (.aload_n 0, 1) := by decide +kernel
theorem dL_move_3 : decode cL_move 3 = .ok (.iload_n 1, 1) := by decide +kernel
theorem dL_move_4 : decode cL_move 4 = .ok (.invokevirtual 107, 3) := by decide +kernel
theorem dL_move_7 : decode cL_move 7 = .ok (.ifCond .eq 7, 3) := by decide +kernel
theorem dL_move_10 : decode cL_move 10 = .ok (.lconst 1, 1) := by decide +kernel
theorem dL_move_11 : decode cL_move 11 = .ok (.goto 4, 3) := by decide +kernel
theorem dL_move_14 : decode cL_move 14 = .ok (.lconst 0, 1) := by decide +kernel
theorem dL_move_15 : decode cL_move 15 = .ok (.lastore, 1) := by decide +kernel
theorem dL_move_16 : decode cL_move 16 = .ok (.goto 9, 3) := by decide +kernel
theorem dL_move_19 : decode cL_move 19 = .ok (.astore_n 3, 1) := by decide +kernel
theorem dL_move_20 : decode cL_move 20 = .ok (.iconst 1, 1) := by decide +kernel
theorem dL_move_21 : decode cL_move 21 = .ok (.ireturn, 1) := by decide +kernel
theorem dL_move_22 : decode cL_move 22 = .ok (.astore_n 3, 1) := by decide +kernel
theorem dL_move_23 : decode cL_move 23 = .ok (.iconst 2, 1) := by decide +kernel
theorem dL_move_24 : decode cL_move 24 = .ok (.ireturn, 1) := by decide +kernel
theorem dL_move_25 : decode cL_move 25 = .ok (.iconst 0, 1) := by decide +kernel
theorem dL_move_26 : decode cL_move 26 = .ok (.ireturn, 1) := by decide +kernel
theorem dL_left_0 : decode cL_left 0 = .ok (.aload_n 2, 1) := by decide +kernel
theorem dL_left_1 : decode cL_left 1 = .ok (.iconst 0, 1) := by decide +kernel
theorem dL_left_2 : decode cL_left 2 = .ok (.aload_n 0, 1) := by decide +kernel
theorem dL_left_3 : decode cL_left 3 = .ok (.iload_n 1, 1) := by decide +kernel
theorem dL_left_4 : decode cL_left 4 = .ok (.invokevirtual 111, 3) := by decide +kernel
theorem dL_left_7 : decode cL_left 7 = .ok (.i2l, 1) := by decide +kernel
theorem dL_left_8 : decode cL_left 8 = .ok (.lastore, 1) := by decide +kernel
theorem dL_left_9 : decode cL_left 9 = .ok (.goto 9, 3) := by decide +kernel
theorem dL_left_12 : decode cL_left 12 = .ok (.astore_n 3, 1) := by decide +kernel
theorem dL_left_13 : decode cL_left 13 = .ok (.iconst 1, 1) := by decide +kernel
theorem dL_left_14 : decode cL_left 14 = .ok (.ireturn, 1) := by decide +kernel
theorem dL_left_15 : decode cL_left 15 = .ok (.astore_n 3, 1) := by decide +kernel
theorem dL_left_16 : decode cL_left 16 = .ok (.iconst 2, 1) := by decide +kernel
theorem dL_left_17 : decode cL_left 17 = .ok (.ireturn, 1) := by decide +kernel
theorem dL_left_18 : decode cL_left 18 = .ok (.iconst 0, 1) := by decide +kernel
theorem dL_left_19 : decode cL_left 19 = .ok (.ireturn, 1) := by decide +kernel
theorem dL_host_0 : decode cL_host 0 = .ok (.aload_n 2, 1) := by decide +kernel
theorem dL_host_1 : decode cL_host 1 = .ok (.iconst 0, 1) := by decide +kernel
theorem dL_host_2 : decode cL_host 2 = .ok (.aload_n 0, 1) := by decide +kernel
theorem dL_host_3 : decode cL_host 3 = .ok (.iload_n 1, 1) := by decide +kernel
theorem dL_host_4 : decode cL_host 4 = .ok (.invokevirtual 114, 3) := by decide +kernel
theorem dL_host_7 : decode cL_host 7 = .ok (.i2l, 1) := by decide +kernel
theorem dL_host_8 : decode cL_host 8 = .ok (.lastore, 1) := by decide +kernel
theorem dL_host_9 : decode cL_host 9 = .ok (.goto 6, 3) := by decide +kernel
theorem dL_host_12 : decode cL_host 12 = .ok (.astore_n 3, 1) := by decide +kernel
theorem dL_host_13 : decode cL_host 13 = .ok (.iconst 1, 1) := by decide +kernel
theorem dL_host_14 : decode cL_host 14 = .ok (.ireturn, 1) := by decide +kernel
theorem dL_host_15 : decode cL_host 15 = .ok (.iconst 0, 1) := by decide +kernel
theorem dL_host_16 : decode cL_host 16 = .ok (.ireturn, 1) := by decide +kernel
theorem dL_record_0 : decode cL_record 0 = .ok (.aload_n 2, 1) := by decide +kernel
theorem dL_record_1 : decode cL_record 1 = .ok (.iconst 0, 1) := by decide +kernel
theorem dL_record_2 : decode cL_record 2 = .ok (.aload_n 0, 1) := by decide +kernel
theorem dL_record_3 : decode cL_record 3 = .ok (.iload_n 1, 1) := by decide +kernel
theorem dL_record_4 : decode cL_record 4 = .ok (.invokevirtual 117, 3) := by decide +kernel
theorem dL_record_7 : decode cL_record 7 = .ok (.i2l, 1) := by decide +kernel
theorem dL_record_8 : decode cL_record 8 = .ok (.lastore, 1) := by decide +kernel
theorem dL_record_9 : decode cL_record 9 = .ok (.goto 6, 3) := by decide +kernel
theorem dL_record_12 : decode cL_record 12 = .ok (.astore_n 3, 1) := by decide +kernel
theorem dL_record_13 : decode cL_record 13 = .ok (.iconst 1, 1) := by decide +kernel
theorem dL_record_14 : decode cL_record 14 = .ok (.ireturn, 1) := by decide +kernel
theorem dL_record_15 : decode cL_record 15 = .ok (.iconst 0, 1) := by decide +kernel
theorem dL_record_16 : decode cL_record 16 = .ok (.ireturn, 1) := by decide +kernel
theorem dL_played_0 : decode cL_played 0 = .ok (.aload 5, 2) := by decide +kernel
theorem dL_played_2 : decode cL_played 2 = .ok (.iconst 0, 1) := by decide +kernel
theorem dL_played_3 : decode cL_played 3 = .ok (.aload_n 0, 1) := by decide +kernel
theorem dL_played_4 : decode cL_played 4 = .ok (.iload_n 1, 1) := by decide +kernel
theorem dL_played_5 : decode cL_played 5 = .ok (.iload_n 2, 1) := by decide +kernel
theorem dL_played_6 : decode cL_played 6 = .ok (.iload_n 3, 1) := by decide +kernel
theorem dL_played_7 : decode cL_played 7 = .ok (.iload 4, 2) := by decide +kernel
theorem dL_played_9 : decode cL_played 9 = .ok (.invokevirtual 120, 3) := by decide +kernel
theorem dL_played_12 : decode cL_played 12 = .ok (.i2l, 1) := by decide +kernel
theorem dL_played_13 : decode cL_played 13 = .ok (.lastore, 1) := by decide +kernel
theorem dL_played_14 : decode cL_played 14 = .ok (.goto 11, 3) := by decide +kernel
theorem dL_played_17 : decode cL_played 17 = .ok (.astore 6, 2) := by decide +kernel
theorem dL_played_19 : decode cL_played 19 = .ok (.iconst 1, 1) := by decide +kernel
theorem dL_played_20 : decode cL_played 20 = .ok (.ireturn, 1) := by decide +kernel
theorem dL_played_21 : decode cL_played 21 = .ok (.astore 6, 2) := by decide +kernel
theorem dL_played_23 : decode cL_played 23 = .ok (.iconst 2, 1) := by decide +kernel
theorem dL_played_24 : decode cL_played 24 = .ok (.ireturn, 1) := by decide +kernel
theorem dL_played_25 : decode cL_played 25 = .ok (.iconst 0, 1) := by decide +kernel
theorem dL_played_26 : decode cL_played 26 = .ok (.ireturn, 1) := by decide +kernel
theorem dL_noted_0 : decode cL_noted 0 = .ok (.aload_n 2, 1) := by decide +kernel
theorem dL_noted_1 : decode cL_noted 1 = .ok (.iconst 0, 1) := by decide +kernel
theorem dL_noted_2 : decode cL_noted 2 = .ok (.aload_n 0, 1) := by decide +kernel
theorem dL_noted_3 : decode cL_noted 3 = .ok (.iload_n 1, 1) := by decide +kernel
theorem dL_noted_4 : decode cL_noted 4 = .ok (.invokevirtual 123, 3) := by decide +kernel
theorem dL_noted_7 : decode cL_noted 7 = .ok (.i2l, 1) := by decide +kernel
theorem dL_noted_8 : decode cL_noted 8 = .ok (.lastore, 1) := by decide +kernel
theorem dL_noted_9 : decode cL_noted 9 = .ok (.goto 9, 3) := by decide +kernel
theorem dL_noted_12 : decode cL_noted 12 = .ok (.astore_n 3, 1) := by decide +kernel
theorem dL_noted_13 : decode cL_noted 13 = .ok (.iconst 1, 1) := by decide +kernel
theorem dL_noted_14 : decode cL_noted 14 = .ok (.ireturn, 1) := by decide +kernel
theorem dL_noted_15 : decode cL_noted 15 = .ok (.astore_n 3, 1) := by decide +kernel
theorem dL_noted_16 : decode cL_noted 16 = .ok (.iconst 2, 1) := by decide +kernel
theorem dL_noted_17 : decode cL_noted 17 = .ok (.ireturn, 1) := by decide +kernel
theorem dL_noted_18 : decode cL_noted 18 = .ok (.iconst 0, 1) := by decide +kernel
theorem dL_noted_19 : decode cL_noted 19 = .ok (.ireturn, 1) := by decide +kernel
theorem dL_meanBehind_0 : decode cL_meanBehind 0 = .ok (.aload_n 1, 1) := by decide +kernel
theorem dL_meanBehind_1 : decode cL_meanBehind 1 = .ok (.iconst 0, 1) := by decide +kernel
theorem dL_meanBehind_2 : decode cL_meanBehind 2 = .ok (.aload_n 0, 1) := by decide +kernel
theorem dL_meanBehind_3 : decode cL_meanBehind 3 = .ok (.invokevirtual 126, 3) := by decide +kernel
theorem dL_meanBehind_6 : decode cL_meanBehind 6 = .ok (.dastore, 1) := by decide +kernel
theorem dL_meanBehind_7 : decode cL_meanBehind 7 = .ok (.goto 6, 3) := by decide +kernel
theorem dL_meanBehind_10 : decode cL_meanBehind 10 = .ok (.astore_n 2, 1) := by decide +kernel
theorem dL_meanBehind_11 : decode cL_meanBehind 11 = .ok (.iconst 1, 1) := by decide +kernel
theorem dL_meanBehind_12 : decode cL_meanBehind 12 = .ok (.ireturn, 1) := by decide +kernel
theorem dL_meanBehind_13 : decode cL_meanBehind 13 = .ok (.iconst 0, 1) := by decide +kernel
theorem dL_meanBehind_14 : decode cL_meanBehind 14 = .ok (.ireturn, 1) := by decide +kernel
theorem dL_law_0 : decode cL_law 0 = .ok (.new 8, 3) := by decide +kernel
theorem dL_law_3 : decode cL_law 3 = .ok (.dup, 1) := by decide +kernel
theorem dL_law_4 : decode cL_law 4 = .ok (.invokespecial 130, 3) := by decide +kernel
theorem dL_law_7 : decode cL_law 7 = .ok (.astore_n 1, 1) := by decide +kernel
theorem dL_law_8 : decode cL_law 8 = .ok (.new 131, 3) := by decide +kernel
theorem dL_law_11 : decode cL_law 11 = .ok (.dup, 1) := by decide +kernel
theorem dL_law_12 : decode cL_law 12 = .ok (.invokespecial 133, 3) := by decide +kernel
theorem dL_law_15 : decode cL_law 15 = .ok (.astore_n 2, 1) := by decide +kernel
theorem dL_law_16 : decode cL_law 16 = .ok (.iconst 1, 1) := by decide +kernel
theorem dL_law_17 : decode cL_law 17 = .ok (.newarray .long, 2) := by decide +kernel
theorem dL_law_19 : decode cL_law 19 = .ok (.astore_n 3, 1) := by decide +kernel
theorem dL_law_20 : decode cL_law 20 = .ok (.iconst 1, 1) := by decide +kernel
theorem dL_law_21 : decode cL_law 21 = .ok (.newarray .double, 2) := by decide +kernel
theorem dL_law_23 : decode cL_law 23 = .ok (.astore 4, 2) := by decide +kernel
theorem dL_law_25 : decode cL_law 25 = .ok (.iconst 0, 1) := by decide +kernel
theorem dL_law_26 : decode cL_law 26 = .ok (.istore 5, 2) := by decide +kernel
theorem dL_law_28 : decode cL_law 28 = .ok (.iload 5, 2) := by decide +kernel
theorem dL_law_30 : decode cL_law 30 = .ok (.aload_n 0, 1) := by decide +kernel
theorem dL_law_31 : decode cL_law 31 = .ok (.arraylength, 1) := by decide +kernel
theorem dL_law_32 : decode cL_law 32 = .ok (.bipush 8, 2) := by decide +kernel
theorem dL_law_34 : decode cL_law 34 = .ok (.isub, 1) := by decide +kernel
theorem dL_law_35 : decode cL_law 35 = .ok (.if_icmp .gt 2513, 3) := by decide +kernel
theorem dL_law_38 : decode cL_law 38 = .ok (.aload_n 0, 1) := by decide +kernel
theorem dL_law_39 : decode cL_law 39 = .ok (.iload 5, 2) := by decide +kernel
theorem dL_law_41 : decode cL_law 41 = .ok (.iaload, 1) := by decide +kernel
theorem dL_law_42 : decode cL_law 42 = .ok (.bipush 63, 2) := by decide +kernel
theorem dL_law_44 : decode cL_law 44 = .ok (.iand, 1) := by decide +kernel
theorem dL_law_45 : decode cL_law 45 = .ok (.tableswitch 2497 0 32 #[147, 191, 295, 370, 462, 537, 640, 771, 903, 983, 1051, 1119, 1175, 1255, 1335, 1391, 1447, 1503, 1559, 1573, 1643, 1699, 1777, 1857, 1972, 2040, 2103, 2159, 2215, 2271, 2363, 2419, 2484], 147) := by decide +kernel
theorem dL_law_192 : decode cL_law 192 = .ok (.aload_n 1, 1) := by decide +kernel
theorem dL_law_193 : decode cL_law 193 = .ok (.aload_n 3, 1) := by decide +kernel
theorem dL_law_194 : decode cL_law 194 = .ok (.invokestatic 134, 3) := by decide +kernel
theorem dL_law_197 : decode cL_law 197 = .ok (.istore 6, 2) := by decide +kernel
theorem dL_law_199 : decode cL_law 199 = .ok (.aload_n 2, 1) := by decide +kernel
theorem dL_law_200 : decode cL_law 200 = .ok (.invokevirtual 139, 3) := by decide +kernel
theorem dL_law_203 : decode cL_law 203 = .ok (.istore 7, 2) := by decide +kernel
theorem dL_law_205 : decode cL_law 205 = .ok (.aload_n 2, 1) := by decide +kernel
theorem dL_law_206 : decode cL_law 206 = .ok (.invokevirtual 140, 3) := by decide +kernel
theorem dL_law_209 : decode cL_law 209 = .ok (.iload 6, 2) := by decide +kernel
theorem dL_law_211 : decode cL_law 211 = .ok (.if_icmp .eq 5, 3) := by decide +kernel
theorem dL_law_214 : decode cL_law 214 = .ok (.iconst 0, 1) := by decide +kernel
theorem dL_law_215 : decode cL_law 215 = .ok (.ireturn, 1) := by decide +kernel
theorem dL_law_216 : decode cL_law 216 = .ok (.iload 6, 2) := by decide +kernel
theorem dL_law_218 : decode cL_law 218 = .ok (.ifCond .ne 15, 3) := by decide +kernel
theorem dL_law_221 : decode cL_law 221 = .ok (.aload_n 3, 1) := by decide +kernel
theorem dL_law_222 : decode cL_law 222 = .ok (.iconst 0, 1) := by decide +kernel
theorem dL_law_223 : decode cL_law 223 = .ok (.laload, 1) := by decide +kernel
theorem dL_law_224 : decode cL_law 224 = .ok (.iload 7, 2) := by decide +kernel
theorem dL_law_226 : decode cL_law 226 = .ok (.i2l, 1) := by decide +kernel
theorem dL_law_227 : decode cL_law 227 = .ok (.lcmp, 1) := by decide +kernel
theorem dL_law_228 : decode cL_law 228 = .ok (.ifCond .eq 5, 3) := by decide +kernel
theorem dL_law_231 : decode cL_law 231 = .ok (.iconst 0, 1) := by decide +kernel
theorem dL_law_232 : decode cL_law 232 = .ok (.ireturn, 1) := by decide +kernel
theorem dL_law_233 : decode cL_law 233 = .ok (.goto 2309, 3) := by decide +kernel
theorem dL_law_236 : decode cL_law 236 = .ok (.aload_n 1, 1) := by decide +kernel
theorem dL_law_237 : decode cL_law 237 = .ok (.aload_n 0, 1) := by decide +kernel
theorem dL_law_238 : decode cL_law 238 = .ok (.iload 5, 2) := by decide +kernel
theorem dL_law_240 : decode cL_law 240 = .ok (.iconst 1, 1) := by decide +kernel
theorem dL_law_241 : decode cL_law 241 = .ok (.iadd, 1) := by decide +kernel
theorem dL_law_242 : decode cL_law 242 = .ok (.iaload, 1) := by decide +kernel
theorem dL_law_243 : decode cL_law 243 = .ok (.aload_n 0, 1) := by decide +kernel
theorem dL_law_244 : decode cL_law 244 = .ok (.iload 5, 2) := by decide +kernel
theorem dL_law_246 : decode cL_law 246 = .ok (.iconst 2, 1) := by decide +kernel
theorem dL_law_247 : decode cL_law 247 = .ok (.iadd, 1) := by decide +kernel
theorem dL_law_248 : decode cL_law 248 = .ok (.iaload, 1) := by decide +kernel
theorem dL_law_249 : decode cL_law 249 = .ok (.aload_n 0, 1) := by decide +kernel
theorem dL_law_250 : decode cL_law 250 = .ok (.iload 5, 2) := by decide +kernel
theorem dL_law_252 : decode cL_law 252 = .ok (.iconst 3, 1) := by decide +kernel
theorem dL_law_253 : decode cL_law 253 = .ok (.iadd, 1) := by decide +kernel
theorem dL_law_254 : decode cL_law 254 = .ok (.iaload, 1) := by decide +kernel
theorem dL_law_255 : decode cL_law 255 = .ok (.aload_n 0, 1) := by decide +kernel
theorem dL_law_256 : decode cL_law 256 = .ok (.iload 5, 2) := by decide +kernel
theorem dL_law_258 : decode cL_law 258 = .ok (.iconst 4, 1) := by decide +kernel
theorem dL_law_259 : decode cL_law 259 = .ok (.iadd, 1) := by decide +kernel
theorem dL_law_260 : decode cL_law 260 = .ok (.iaload, 1) := by decide +kernel
theorem dL_law_261 : decode cL_law 261 = .ok (.aload_n 0, 1) := by decide +kernel
theorem dL_law_262 : decode cL_law 262 = .ok (.iload 5, 2) := by decide +kernel
theorem dL_law_264 : decode cL_law 264 = .ok (.iconst 5, 1) := by decide +kernel
theorem dL_law_265 : decode cL_law 265 = .ok (.iadd, 1) := by decide +kernel
theorem dL_law_266 : decode cL_law 266 = .ok (.iaload, 1) := by decide +kernel
theorem dL_law_267 : decode cL_law 267 = .ok (.aload_n 3, 1) := by decide +kernel
theorem dL_law_268 : decode cL_law 268 = .ok (.invokestatic 143, 3) := by decide +kernel
theorem dL_law_271 : decode cL_law 271 = .ok (.istore 6, 2) := by decide +kernel
theorem dL_law_273 : decode cL_law 273 = .ok (.aload_n 2, 1) := by decide +kernel
theorem dL_law_274 : decode cL_law 274 = .ok (.aload_n 0, 1) := by decide +kernel
theorem dL_law_275 : decode cL_law 275 = .ok (.iload 5, 2) := by decide +kernel
theorem dL_law_277 : decode cL_law 277 = .ok (.iconst 1, 1) := by decide +kernel
theorem dL_law_278 : decode cL_law 278 = .ok (.iadd, 1) := by decide +kernel
theorem dL_law_279 : decode cL_law 279 = .ok (.iaload, 1) := by decide +kernel
theorem dL_law_280 : decode cL_law 280 = .ok (.aload_n 0, 1) := by decide +kernel
theorem dL_law_281 : decode cL_law 281 = .ok (.iload 5, 2) := by decide +kernel
theorem dL_law_283 : decode cL_law 283 = .ok (.iconst 2, 1) := by decide +kernel
theorem dL_law_284 : decode cL_law 284 = .ok (.iadd, 1) := by decide +kernel
theorem dL_law_285 : decode cL_law 285 = .ok (.iaload, 1) := by decide +kernel
theorem dL_law_286 : decode cL_law 286 = .ok (.aload_n 0, 1) := by decide +kernel
theorem dL_law_287 : decode cL_law 287 = .ok (.iload 5, 2) := by decide +kernel
theorem dL_law_289 : decode cL_law 289 = .ok (.iconst 3, 1) := by decide +kernel
theorem dL_law_290 : decode cL_law 290 = .ok (.iadd, 1) := by decide +kernel
theorem dL_law_291 : decode cL_law 291 = .ok (.iaload, 1) := by decide +kernel
theorem dL_law_292 : decode cL_law 292 = .ok (.aload_n 0, 1) := by decide +kernel
theorem dL_law_293 : decode cL_law 293 = .ok (.iload 5, 2) := by decide +kernel
theorem dL_law_295 : decode cL_law 295 = .ok (.iconst 4, 1) := by decide +kernel
theorem dL_law_296 : decode cL_law 296 = .ok (.iadd, 1) := by decide +kernel
theorem dL_law_297 : decode cL_law 297 = .ok (.iaload, 1) := by decide +kernel
theorem dL_law_298 : decode cL_law 298 = .ok (.aload_n 0, 1) := by decide +kernel
theorem dL_law_299 : decode cL_law 299 = .ok (.iload 5, 2) := by decide +kernel
theorem dL_law_301 : decode cL_law 301 = .ok (.iconst 5, 1) := by decide +kernel
theorem dL_law_302 : decode cL_law 302 = .ok (.iadd, 1) := by decide +kernel
theorem dL_law_303 : decode cL_law 303 = .ok (.iaload, 1) := by decide +kernel
theorem dL_law_304 : decode cL_law 304 = .ok (.invokevirtual 146, 3) := by decide +kernel
theorem dL_law_307 : decode cL_law 307 = .ok (.istore 7, 2) := by decide +kernel
theorem dL_law_309 : decode cL_law 309 = .ok (.aload_n 2, 1) := by decide +kernel
theorem dL_law_310 : decode cL_law 310 = .ok (.invokevirtual 140, 3) := by decide +kernel
theorem dL_law_313 : decode cL_law 313 = .ok (.iload 6, 2) := by decide +kernel
theorem dL_law_315 : decode cL_law 315 = .ok (.if_icmp .eq 5, 3) := by decide +kernel
theorem dL_law_318 : decode cL_law 318 = .ok (.iconst 0, 1) := by decide +kernel
theorem dL_law_319 : decode cL_law 319 = .ok (.ireturn, 1) := by decide +kernel
theorem dL_law_320 : decode cL_law 320 = .ok (.iload 6, 2) := by decide +kernel
theorem dL_law_322 : decode cL_law 322 = .ok (.ifCond .ne 15, 3) := by decide +kernel
theorem dL_law_325 : decode cL_law 325 = .ok (.aload_n 3, 1) := by decide +kernel
theorem dL_law_326 : decode cL_law 326 = .ok (.iconst 0, 1) := by decide +kernel
theorem dL_law_327 : decode cL_law 327 = .ok (.laload, 1) := by decide +kernel
theorem dL_law_328 : decode cL_law 328 = .ok (.iload 7, 2) := by decide +kernel
theorem dL_law_330 : decode cL_law 330 = .ok (.i2l, 1) := by decide +kernel
theorem dL_law_331 : decode cL_law 331 = .ok (.lcmp, 1) := by decide +kernel
theorem dL_law_332 : decode cL_law 332 = .ok (.ifCond .eq 5, 3) := by decide +kernel
theorem dL_law_335 : decode cL_law 335 = .ok (.iconst 0, 1) := by decide +kernel
theorem dL_law_336 : decode cL_law 336 = .ok (.ireturn, 1) := by decide +kernel
theorem dL_law_337 : decode cL_law 337 = .ok (.goto 2205, 3) := by decide +kernel
theorem dL_law_340 : decode cL_law 340 = .ok (.aload_n 1, 1) := by decide +kernel
theorem dL_law_341 : decode cL_law 341 = .ok (.aload_n 0, 1) := by decide +kernel
theorem dL_law_342 : decode cL_law 342 = .ok (.iload 5, 2) := by decide +kernel
theorem dL_law_344 : decode cL_law 344 = .ok (.iconst 1, 1) := by decide +kernel
theorem dL_law_345 : decode cL_law 345 = .ok (.iadd, 1) := by decide +kernel
theorem dL_law_346 : decode cL_law 346 = .ok (.iaload, 1) := by decide +kernel
theorem dL_law_347 : decode cL_law 347 = .ok (.aload_n 0, 1) := by decide +kernel
theorem dL_law_348 : decode cL_law 348 = .ok (.iload 5, 2) := by decide +kernel
theorem dL_law_350 : decode cL_law 350 = .ok (.iconst 2, 1) := by decide +kernel
theorem dL_law_351 : decode cL_law 351 = .ok (.iadd, 1) := by decide +kernel
theorem dL_law_352 : decode cL_law 352 = .ok (.iaload, 1) := by decide +kernel
theorem dL_law_353 : decode cL_law 353 = .ok (.aload_n 3, 1) := by decide +kernel
theorem dL_law_354 : decode cL_law 354 = .ok (.invokestatic 147, 3) := by decide +kernel
theorem dL_law_357 : decode cL_law 357 = .ok (.istore 6, 2) := by decide +kernel
theorem dL_law_359 : decode cL_law 359 = .ok (.aload_n 2, 1) := by decide +kernel
theorem dL_law_360 : decode cL_law 360 = .ok (.aload_n 0, 1) := by decide +kernel
theorem dL_law_361 : decode cL_law 361 = .ok (.iload 5, 2) := by decide +kernel
theorem dL_law_363 : decode cL_law 363 = .ok (.iconst 1, 1) := by decide +kernel
theorem dL_law_364 : decode cL_law 364 = .ok (.iadd, 1) := by decide +kernel
theorem dL_law_365 : decode cL_law 365 = .ok (.iaload, 1) := by decide +kernel
theorem dL_law_366 : decode cL_law 366 = .ok (.aload_n 0, 1) := by decide +kernel
theorem dL_law_367 : decode cL_law 367 = .ok (.iload 5, 2) := by decide +kernel
theorem dL_law_369 : decode cL_law 369 = .ok (.iconst 2, 1) := by decide +kernel
theorem dL_law_370 : decode cL_law 370 = .ok (.iadd, 1) := by decide +kernel
theorem dL_law_371 : decode cL_law 371 = .ok (.iaload, 1) := by decide +kernel
theorem dL_law_372 : decode cL_law 372 = .ok (.invokevirtual 150, 3) := by decide +kernel
theorem dL_law_375 : decode cL_law 375 = .ok (.istore 7, 2) := by decide +kernel
theorem dL_law_377 : decode cL_law 377 = .ok (.aload_n 2, 1) := by decide +kernel
theorem dL_law_378 : decode cL_law 378 = .ok (.invokevirtual 140, 3) := by decide +kernel
theorem dL_law_381 : decode cL_law 381 = .ok (.iload 6, 2) := by decide +kernel
theorem dL_law_383 : decode cL_law 383 = .ok (.if_icmp .eq 5, 3) := by decide +kernel
theorem dL_law_386 : decode cL_law 386 = .ok (.iconst 0, 1) := by decide +kernel
theorem dL_law_387 : decode cL_law 387 = .ok (.ireturn, 1) := by decide +kernel
theorem dL_law_388 : decode cL_law 388 = .ok (.iload 6, 2) := by decide +kernel
theorem dL_law_390 : decode cL_law 390 = .ok (.ifCond .ne 22, 3) := by decide +kernel
theorem dL_law_393 : decode cL_law 393 = .ok (.aload_n 3, 1) := by decide +kernel
theorem dL_law_394 : decode cL_law 394 = .ok (.iconst 0, 1) := by decide +kernel
theorem dL_law_395 : decode cL_law 395 = .ok (.laload, 1) := by decide +kernel
theorem dL_law_396 : decode cL_law 396 = .ok (.iload 7, 2) := by decide +kernel
theorem dL_law_398 : decode cL_law 398 = .ok (.ifCond .eq 7, 3) := by decide +kernel
theorem dL_law_401 : decode cL_law 401 = .ok (.lconst 1, 1) := by decide +kernel
theorem dL_law_402 : decode cL_law 402 = .ok (.goto 4, 3) := by decide +kernel
theorem dL_law_405 : decode cL_law 405 = .ok (.lconst 0, 1) := by decide +kernel
theorem dL_law_406 : decode cL_law 406 = .ok (.lcmp, 1) := by decide +kernel
theorem dL_law_407 : decode cL_law 407 = .ok (.ifCond .eq 5, 3) := by decide +kernel
theorem dL_law_410 : decode cL_law 410 = .ok (.iconst 0, 1) := by decide +kernel
theorem dL_law_411 : decode cL_law 411 = .ok (.ireturn, 1) := by decide +kernel
theorem dL_law_412 : decode cL_law 412 = .ok (.goto 2130, 3) := by decide +kernel
theorem dL_law_415 : decode cL_law 415 = .ok (.aload_n 1, 1) := by decide +kernel
theorem dL_law_416 : decode cL_law 416 = .ok (.aload_n 0, 1) := by decide +kernel
theorem dL_law_417 : decode cL_law 417 = .ok (.iload 5, 2) := by decide +kernel
theorem dL_law_419 : decode cL_law 419 = .ok (.iconst 1, 1) := by decide +kernel
theorem dL_law_420 : decode cL_law 420 = .ok (.iadd, 1) := by decide +kernel
theorem dL_law_421 : decode cL_law 421 = .ok (.iaload, 1) := by decide +kernel
theorem dL_law_422 : decode cL_law 422 = .ok (.aload_n 0, 1) := by decide +kernel
theorem dL_law_423 : decode cL_law 423 = .ok (.iload 5, 2) := by decide +kernel
theorem dL_law_425 : decode cL_law 425 = .ok (.iconst 2, 1) := by decide +kernel
theorem dL_law_426 : decode cL_law 426 = .ok (.iadd, 1) := by decide +kernel
theorem dL_law_427 : decode cL_law 427 = .ok (.iaload, 1) := by decide +kernel
theorem dL_law_428 : decode cL_law 428 = .ok (.aload_n 0, 1) := by decide +kernel
theorem dL_law_429 : decode cL_law 429 = .ok (.iload 5, 2) := by decide +kernel
theorem dL_law_431 : decode cL_law 431 = .ok (.iconst 3, 1) := by decide +kernel
theorem dL_law_432 : decode cL_law 432 = .ok (.iadd, 1) := by decide +kernel
theorem dL_law_433 : decode cL_law 433 = .ok (.iaload, 1) := by decide +kernel
theorem dL_law_434 : decode cL_law 434 = .ok (.aload_n 0, 1) := by decide +kernel
theorem dL_law_435 : decode cL_law 435 = .ok (.iload 5, 2) := by decide +kernel
theorem dL_law_437 : decode cL_law 437 = .ok (.iconst 4, 1) := by decide +kernel
theorem dL_law_438 : decode cL_law 438 = .ok (.iadd, 1) := by decide +kernel
theorem dL_law_439 : decode cL_law 439 = .ok (.iaload, 1) := by decide +kernel
theorem dL_law_440 : decode cL_law 440 = .ok (.aload_n 3, 1) := by decide +kernel
theorem dL_law_441 : decode cL_law 441 = .ok (.invokestatic 151, 3) := by decide +kernel
theorem dL_law_444 : decode cL_law 444 = .ok (.istore 6, 2) := by decide +kernel
theorem dL_law_446 : decode cL_law 446 = .ok (.aload_n 2, 1) := by decide +kernel
theorem dL_law_447 : decode cL_law 447 = .ok (.aload_n 0, 1) := by decide +kernel
theorem dL_law_448 : decode cL_law 448 = .ok (.iload 5, 2) := by decide +kernel
theorem dL_law_450 : decode cL_law 450 = .ok (.iconst 1, 1) := by decide +kernel
theorem dL_law_451 : decode cL_law 451 = .ok (.iadd, 1) := by decide +kernel
theorem dL_law_452 : decode cL_law 452 = .ok (.iaload, 1) := by decide +kernel
theorem dL_law_453 : decode cL_law 453 = .ok (.aload_n 0, 1) := by decide +kernel
theorem dL_law_454 : decode cL_law 454 = .ok (.iload 5, 2) := by decide +kernel
theorem dL_law_456 : decode cL_law 456 = .ok (.iconst 2, 1) := by decide +kernel
theorem dL_law_457 : decode cL_law 457 = .ok (.iadd, 1) := by decide +kernel
theorem dL_law_458 : decode cL_law 458 = .ok (.iaload, 1) := by decide +kernel
theorem dL_law_459 : decode cL_law 459 = .ok (.aload_n 0, 1) := by decide +kernel
theorem dL_law_460 : decode cL_law 460 = .ok (.iload 5, 2) := by decide +kernel
theorem dL_law_462 : decode cL_law 462 = .ok (.iconst 3, 1) := by decide +kernel
theorem dL_law_463 : decode cL_law 463 = .ok (.iadd, 1) := by decide +kernel
theorem dL_law_464 : decode cL_law 464 = .ok (.iaload, 1) := by decide +kernel
theorem dL_law_465 : decode cL_law 465 = .ok (.aload_n 0, 1) := by decide +kernel
theorem dL_law_466 : decode cL_law 466 = .ok (.iload 5, 2) := by decide +kernel
theorem dL_law_468 : decode cL_law 468 = .ok (.iconst 4, 1) := by decide +kernel
theorem dL_law_469 : decode cL_law 469 = .ok (.iadd, 1) := by decide +kernel
theorem dL_law_470 : decode cL_law 470 = .ok (.iaload, 1) := by decide +kernel
theorem dL_law_471 : decode cL_law 471 = .ok (.invokevirtual 154, 3) := by decide +kernel
theorem dL_law_474 : decode cL_law 474 = .ok (.istore 7, 2) := by decide +kernel
theorem dL_law_476 : decode cL_law 476 = .ok (.aload_n 2, 1) := by decide +kernel
theorem dL_law_477 : decode cL_law 477 = .ok (.invokevirtual 140, 3) := by decide +kernel
theorem dL_law_480 : decode cL_law 480 = .ok (.iload 6, 2) := by decide +kernel
theorem dL_law_482 : decode cL_law 482 = .ok (.if_icmp .eq 5, 3) := by decide +kernel
theorem dL_law_485 : decode cL_law 485 = .ok (.iconst 0, 1) := by decide +kernel
theorem dL_law_486 : decode cL_law 486 = .ok (.ireturn, 1) := by decide +kernel
theorem dL_law_487 : decode cL_law 487 = .ok (.iload 6, 2) := by decide +kernel
theorem dL_law_489 : decode cL_law 489 = .ok (.ifCond .ne 15, 3) := by decide +kernel
theorem dL_law_492 : decode cL_law 492 = .ok (.aload_n 3, 1) := by decide +kernel
theorem dL_law_493 : decode cL_law 493 = .ok (.iconst 0, 1) := by decide +kernel
theorem dL_law_494 : decode cL_law 494 = .ok (.laload, 1) := by decide +kernel
theorem dL_law_495 : decode cL_law 495 = .ok (.iload 7, 2) := by decide +kernel
theorem dL_law_497 : decode cL_law 497 = .ok (.i2l, 1) := by decide +kernel
theorem dL_law_498 : decode cL_law 498 = .ok (.lcmp, 1) := by decide +kernel
theorem dL_law_499 : decode cL_law 499 = .ok (.ifCond .eq 5, 3) := by decide +kernel
theorem dL_law_502 : decode cL_law 502 = .ok (.iconst 0, 1) := by decide +kernel
theorem dL_law_503 : decode cL_law 503 = .ok (.ireturn, 1) := by decide +kernel
theorem dL_law_504 : decode cL_law 504 = .ok (.goto 2038, 3) := by decide +kernel
theorem dL_law_507 : decode cL_law 507 = .ok (.aload_n 1, 1) := by decide +kernel
theorem dL_law_508 : decode cL_law 508 = .ok (.aload_n 0, 1) := by decide +kernel
theorem dL_law_509 : decode cL_law 509 = .ok (.iload 5, 2) := by decide +kernel
theorem dL_law_511 : decode cL_law 511 = .ok (.iconst 1, 1) := by decide +kernel
theorem dL_law_512 : decode cL_law 512 = .ok (.iadd, 1) := by decide +kernel
theorem dL_law_513 : decode cL_law 513 = .ok (.iaload, 1) := by decide +kernel
theorem dL_law_514 : decode cL_law 514 = .ok (.aload_n 0, 1) := by decide +kernel
theorem dL_law_515 : decode cL_law 515 = .ok (.iload 5, 2) := by decide +kernel
theorem dL_law_517 : decode cL_law 517 = .ok (.iconst 2, 1) := by decide +kernel
theorem dL_law_518 : decode cL_law 518 = .ok (.iadd, 1) := by decide +kernel
theorem dL_law_519 : decode cL_law 519 = .ok (.iaload, 1) := by decide +kernel
theorem dL_law_520 : decode cL_law 520 = .ok (.aload_n 3, 1) := by decide +kernel
theorem dL_law_521 : decode cL_law 521 = .ok (.invokestatic 155, 3) := by decide +kernel
theorem dL_law_524 : decode cL_law 524 = .ok (.istore 6, 2) := by decide +kernel
theorem dL_law_526 : decode cL_law 526 = .ok (.aload_n 2, 1) := by decide +kernel
theorem dL_law_527 : decode cL_law 527 = .ok (.aload_n 0, 1) := by decide +kernel
theorem dL_law_528 : decode cL_law 528 = .ok (.iload 5, 2) := by decide +kernel
theorem dL_law_530 : decode cL_law 530 = .ok (.iconst 1, 1) := by decide +kernel
theorem dL_law_531 : decode cL_law 531 = .ok (.iadd, 1) := by decide +kernel
theorem dL_law_532 : decode cL_law 532 = .ok (.iaload, 1) := by decide +kernel
theorem dL_law_533 : decode cL_law 533 = .ok (.aload_n 0, 1) := by decide +kernel
theorem dL_law_534 : decode cL_law 534 = .ok (.iload 5, 2) := by decide +kernel
theorem dL_law_536 : decode cL_law 536 = .ok (.iconst 2, 1) := by decide +kernel
theorem dL_law_537 : decode cL_law 537 = .ok (.iadd, 1) := by decide +kernel
theorem dL_law_538 : decode cL_law 538 = .ok (.iaload, 1) := by decide +kernel
theorem dL_law_539 : decode cL_law 539 = .ok (.invokevirtual 157, 3) := by decide +kernel
theorem dL_law_542 : decode cL_law 542 = .ok (.istore 7, 2) := by decide +kernel
theorem dL_law_544 : decode cL_law 544 = .ok (.aload_n 2, 1) := by decide +kernel
theorem dL_law_545 : decode cL_law 545 = .ok (.invokevirtual 140, 3) := by decide +kernel
theorem dL_law_548 : decode cL_law 548 = .ok (.iload 6, 2) := by decide +kernel
theorem dL_law_550 : decode cL_law 550 = .ok (.if_icmp .eq 5, 3) := by decide +kernel
theorem dL_law_553 : decode cL_law 553 = .ok (.iconst 0, 1) := by decide +kernel
theorem dL_law_554 : decode cL_law 554 = .ok (.ireturn, 1) := by decide +kernel
theorem dL_law_555 : decode cL_law 555 = .ok (.iload 6, 2) := by decide +kernel
theorem dL_law_557 : decode cL_law 557 = .ok (.ifCond .ne 22, 3) := by decide +kernel
theorem dL_law_560 : decode cL_law 560 = .ok (.aload_n 3, 1) := by decide +kernel
theorem dL_law_561 : decode cL_law 561 = .ok (.iconst 0, 1) := by decide +kernel
theorem dL_law_562 : decode cL_law 562 = .ok (.laload, 1) := by decide +kernel
theorem dL_law_563 : decode cL_law 563 = .ok (.iload 7, 2) := by decide +kernel
theorem dL_law_565 : decode cL_law 565 = .ok (.ifCond .eq 7, 3) := by decide +kernel
theorem dL_law_568 : decode cL_law 568 = .ok (.lconst 1, 1) := by decide +kernel
theorem dL_law_569 : decode cL_law 569 = .ok (.goto 4, 3) := by decide +kernel
theorem dL_law_572 : decode cL_law 572 = .ok (.lconst 0, 1) := by decide +kernel
theorem dL_law_573 : decode cL_law 573 = .ok (.lcmp, 1) := by decide +kernel
theorem dL_law_574 : decode cL_law 574 = .ok (.ifCond .eq 5, 3) := by decide +kernel
theorem dL_law_577 : decode cL_law 577 = .ok (.iconst 0, 1) := by decide +kernel
theorem dL_law_578 : decode cL_law 578 = .ok (.ireturn, 1) := by decide +kernel
theorem dL_law_579 : decode cL_law 579 = .ok (.goto 1963, 3) := by decide +kernel
theorem dL_law_582 : decode cL_law 582 = .ok (.aload_n 1, 1) := by decide +kernel
theorem dL_law_583 : decode cL_law 583 = .ok (.aload_n 0, 1) := by decide +kernel
theorem dL_law_584 : decode cL_law 584 = .ok (.iload 5, 2) := by decide +kernel
theorem dL_law_586 : decode cL_law 586 = .ok (.iconst 1, 1) := by decide +kernel
theorem dL_law_587 : decode cL_law 587 = .ok (.iadd, 1) := by decide +kernel
theorem dL_law_588 : decode cL_law 588 = .ok (.iaload, 1) := by decide +kernel
theorem dL_law_589 : decode cL_law 589 = .ok (.aload_n 0, 1) := by decide +kernel
theorem dL_law_590 : decode cL_law 590 = .ok (.iload 5, 2) := by decide +kernel
theorem dL_law_592 : decode cL_law 592 = .ok (.iconst 2, 1) := by decide +kernel
theorem dL_law_593 : decode cL_law 593 = .ok (.iadd, 1) := by decide +kernel
theorem dL_law_594 : decode cL_law 594 = .ok (.iaload, 1) := by decide +kernel
theorem dL_law_595 : decode cL_law 595 = .ok (.aload_n 0, 1) := by decide +kernel
theorem dL_law_596 : decode cL_law 596 = .ok (.iload 5, 2) := by decide +kernel
theorem dL_law_598 : decode cL_law 598 = .ok (.iconst 3, 1) := by decide +kernel
theorem dL_law_599 : decode cL_law 599 = .ok (.iadd, 1) := by decide +kernel
theorem dL_law_600 : decode cL_law 600 = .ok (.iaload, 1) := by decide +kernel
theorem dL_law_601 : decode cL_law 601 = .ok (.ifCond .eq 7, 3) := by decide +kernel
theorem dL_law_604 : decode cL_law 604 = .ok (.iconst 1, 1) := by decide +kernel
theorem dL_law_605 : decode cL_law 605 = .ok (.goto 4, 3) := by decide +kernel
theorem dL_law_608 : decode cL_law 608 = .ok (.iconst 0, 1) := by decide +kernel
theorem dL_law_609 : decode cL_law 609 = .ok (.aload_n 3, 1) := by decide +kernel
theorem dL_law_610 : decode cL_law 610 = .ok (.invokestatic 158, 3) := by decide +kernel
theorem dL_law_613 : decode cL_law 613 = .ok (.istore 6, 2) := by decide +kernel
theorem dL_law_615 : decode cL_law 615 = .ok (.aload_n 2, 1) := by decide +kernel
theorem dL_law_616 : decode cL_law 616 = .ok (.aload_n 0, 1) := by decide +kernel
theorem dL_law_617 : decode cL_law 617 = .ok (.iload 5, 2) := by decide +kernel
theorem dL_law_619 : decode cL_law 619 = .ok (.iconst 1, 1) := by decide +kernel
theorem dL_law_620 : decode cL_law 620 = .ok (.iadd, 1) := by decide +kernel
theorem dL_law_621 : decode cL_law 621 = .ok (.iaload, 1) := by decide +kernel
theorem dL_law_622 : decode cL_law 622 = .ok (.aload_n 0, 1) := by decide +kernel
theorem dL_law_623 : decode cL_law 623 = .ok (.iload 5, 2) := by decide +kernel
theorem dL_law_625 : decode cL_law 625 = .ok (.iconst 2, 1) := by decide +kernel
theorem dL_law_626 : decode cL_law 626 = .ok (.iadd, 1) := by decide +kernel
theorem dL_law_627 : decode cL_law 627 = .ok (.iaload, 1) := by decide +kernel
theorem dL_law_628 : decode cL_law 628 = .ok (.aload_n 0, 1) := by decide +kernel
theorem dL_law_629 : decode cL_law 629 = .ok (.iload 5, 2) := by decide +kernel
theorem dL_law_631 : decode cL_law 631 = .ok (.iconst 3, 1) := by decide +kernel
theorem dL_law_632 : decode cL_law 632 = .ok (.iadd, 1) := by decide +kernel
theorem dL_law_633 : decode cL_law 633 = .ok (.iaload, 1) := by decide +kernel
theorem dL_law_634 : decode cL_law 634 = .ok (.ifCond .eq 7, 3) := by decide +kernel
theorem dL_law_637 : decode cL_law 637 = .ok (.iconst 1, 1) := by decide +kernel
theorem dL_law_638 : decode cL_law 638 = .ok (.goto 4, 3) := by decide +kernel
theorem dL_law_641 : decode cL_law 641 = .ok (.iconst 0, 1) := by decide +kernel
theorem dL_law_642 : decode cL_law 642 = .ok (.invokevirtual 161, 3) := by decide +kernel
theorem dL_law_645 : decode cL_law 645 = .ok (.istore 7, 2) := by decide +kernel
theorem dL_law_647 : decode cL_law 647 = .ok (.aload_n 2, 1) := by decide +kernel
theorem dL_law_648 : decode cL_law 648 = .ok (.invokevirtual 140, 3) := by decide +kernel
theorem dL_law_651 : decode cL_law 651 = .ok (.iload 6, 2) := by decide +kernel
theorem dL_law_653 : decode cL_law 653 = .ok (.if_icmp .eq 5, 3) := by decide +kernel
theorem dL_law_656 : decode cL_law 656 = .ok (.iconst 0, 1) := by decide +kernel
theorem dL_law_657 : decode cL_law 657 = .ok (.ireturn, 1) := by decide +kernel
theorem dL_law_658 : decode cL_law 658 = .ok (.iload 6, 2) := by decide +kernel
theorem dL_law_660 : decode cL_law 660 = .ok (.ifCond .ne 22, 3) := by decide +kernel
theorem dL_law_663 : decode cL_law 663 = .ok (.aload_n 3, 1) := by decide +kernel
theorem dL_law_664 : decode cL_law 664 = .ok (.iconst 0, 1) := by decide +kernel
theorem dL_law_665 : decode cL_law 665 = .ok (.laload, 1) := by decide +kernel
theorem dL_law_666 : decode cL_law 666 = .ok (.iload 7, 2) := by decide +kernel
theorem dL_law_668 : decode cL_law 668 = .ok (.ifCond .eq 7, 3) := by decide +kernel
theorem dL_law_671 : decode cL_law 671 = .ok (.lconst 1, 1) := by decide +kernel
theorem dL_law_672 : decode cL_law 672 = .ok (.goto 4, 3) := by decide +kernel
theorem dL_law_675 : decode cL_law 675 = .ok (.lconst 0, 1) := by decide +kernel
theorem dL_law_676 : decode cL_law 676 = .ok (.lcmp, 1) := by decide +kernel
theorem dL_law_677 : decode cL_law 677 = .ok (.ifCond .eq 5, 3) := by decide +kernel
theorem dL_law_680 : decode cL_law 680 = .ok (.iconst 0, 1) := by decide +kernel
theorem dL_law_681 : decode cL_law 681 = .ok (.ireturn, 1) := by decide +kernel
theorem dL_law_682 : decode cL_law 682 = .ok (.goto 1860, 3) := by decide +kernel
theorem dL_law_685 : decode cL_law 685 = .ok (.aload_n 1, 1) := by decide +kernel
theorem dL_law_686 : decode cL_law 686 = .ok (.aload_n 0, 1) := by decide +kernel
theorem dL_law_687 : decode cL_law 687 = .ok (.iload 5, 2) := by decide +kernel
theorem dL_law_689 : decode cL_law 689 = .ok (.iconst 1, 1) := by decide +kernel
theorem dL_law_690 : decode cL_law 690 = .ok (.iadd, 1) := by decide +kernel
theorem dL_law_691 : decode cL_law 691 = .ok (.iaload, 1) := by decide +kernel
theorem dL_law_692 : decode cL_law 692 = .ok (.aload_n 0, 1) := by decide +kernel
theorem dL_law_693 : decode cL_law 693 = .ok (.iload 5, 2) := by decide +kernel
theorem dL_law_695 : decode cL_law 695 = .ok (.iconst 2, 1) := by decide +kernel
theorem dL_law_696 : decode cL_law 696 = .ok (.iadd, 1) := by decide +kernel
theorem dL_law_697 : decode cL_law 697 = .ok (.iaload, 1) := by decide +kernel
theorem dL_law_698 : decode cL_law 698 = .ok (.aload_n 0, 1) := by decide +kernel
theorem dL_law_699 : decode cL_law 699 = .ok (.iload 5, 2) := by decide +kernel
theorem dL_law_701 : decode cL_law 701 = .ok (.iconst 3, 1) := by decide +kernel
theorem dL_law_702 : decode cL_law 702 = .ok (.iadd, 1) := by decide +kernel
theorem dL_law_703 : decode cL_law 703 = .ok (.iaload, 1) := by decide +kernel
theorem dL_law_704 : decode cL_law 704 = .ok (.ifCond .eq 7, 3) := by decide +kernel
theorem dL_law_707 : decode cL_law 707 = .ok (.iconst 1, 1) := by decide +kernel
theorem dL_law_708 : decode cL_law 708 = .ok (.goto 4, 3) := by decide +kernel
theorem dL_law_711 : decode cL_law 711 = .ok (.iconst 0, 1) := by decide +kernel
theorem dL_law_712 : decode cL_law 712 = .ok (.aload_n 0, 1) := by decide +kernel
theorem dL_law_713 : decode cL_law 713 = .ok (.iload 5, 2) := by decide +kernel
theorem dL_law_715 : decode cL_law 715 = .ok (.iconst 4, 1) := by decide +kernel
theorem dL_law_716 : decode cL_law 716 = .ok (.iadd, 1) := by decide +kernel
theorem dL_law_717 : decode cL_law 717 = .ok (.iaload, 1) := by decide +kernel
theorem dL_law_718 : decode cL_law 718 = .ok (.ifCond .eq 7, 3) := by decide +kernel
theorem dL_law_721 : decode cL_law 721 = .ok (.iconst 1, 1) := by decide +kernel
theorem dL_law_722 : decode cL_law 722 = .ok (.goto 4, 3) := by decide +kernel
theorem dL_law_725 : decode cL_law 725 = .ok (.iconst 0, 1) := by decide +kernel
theorem dL_law_726 : decode cL_law 726 = .ok (.aload_n 3, 1) := by decide +kernel
theorem dL_law_727 : decode cL_law 727 = .ok (.invokestatic 162, 3) := by decide +kernel
theorem dL_law_730 : decode cL_law 730 = .ok (.istore 6, 2) := by decide +kernel
theorem dL_law_732 : decode cL_law 732 = .ok (.aload_n 2, 1) := by decide +kernel
theorem dL_law_733 : decode cL_law 733 = .ok (.aload_n 0, 1) := by decide +kernel
theorem dL_law_734 : decode cL_law 734 = .ok (.iload 5, 2) := by decide +kernel
theorem dL_law_736 : decode cL_law 736 = .ok (.iconst 1, 1) := by decide +kernel
theorem dL_law_737 : decode cL_law 737 = .ok (.iadd, 1) := by decide +kernel
theorem dL_law_738 : decode cL_law 738 = .ok (.iaload, 1) := by decide +kernel
theorem dL_law_739 : decode cL_law 739 = .ok (.aload_n 0, 1) := by decide +kernel
theorem dL_law_740 : decode cL_law 740 = .ok (.iload 5, 2) := by decide +kernel
theorem dL_law_742 : decode cL_law 742 = .ok (.iconst 2, 1) := by decide +kernel
theorem dL_law_743 : decode cL_law 743 = .ok (.iadd, 1) := by decide +kernel
theorem dL_law_744 : decode cL_law 744 = .ok (.iaload, 1) := by decide +kernel
theorem dL_law_745 : decode cL_law 745 = .ok (.aload_n 0, 1) := by decide +kernel
theorem dL_law_746 : decode cL_law 746 = .ok (.iload 5, 2) := by decide +kernel
theorem dL_law_748 : decode cL_law 748 = .ok (.iconst 3, 1) := by decide +kernel
theorem dL_law_749 : decode cL_law 749 = .ok (.iadd, 1) := by decide +kernel
theorem dL_law_750 : decode cL_law 750 = .ok (.iaload, 1) := by decide +kernel
theorem dL_law_751 : decode cL_law 751 = .ok (.ifCond .eq 7, 3) := by decide +kernel
theorem dL_law_754 : decode cL_law 754 = .ok (.iconst 1, 1) := by decide +kernel
theorem dL_law_755 : decode cL_law 755 = .ok (.goto 4, 3) := by decide +kernel
theorem dL_law_758 : decode cL_law 758 = .ok (.iconst 0, 1) := by decide +kernel
theorem dL_law_759 : decode cL_law 759 = .ok (.aload_n 0, 1) := by decide +kernel
theorem dL_law_760 : decode cL_law 760 = .ok (.iload 5, 2) := by decide +kernel
theorem dL_law_762 : decode cL_law 762 = .ok (.iconst 4, 1) := by decide +kernel
theorem dL_law_763 : decode cL_law 763 = .ok (.iadd, 1) := by decide +kernel
theorem dL_law_764 : decode cL_law 764 = .ok (.iaload, 1) := by decide +kernel
theorem dL_law_765 : decode cL_law 765 = .ok (.ifCond .eq 7, 3) := by decide +kernel
theorem dL_law_768 : decode cL_law 768 = .ok (.iconst 1, 1) := by decide +kernel
theorem dL_law_769 : decode cL_law 769 = .ok (.goto 4, 3) := by decide +kernel
theorem dL_law_772 : decode cL_law 772 = .ok (.iconst 0, 1) := by decide +kernel
theorem dL_law_773 : decode cL_law 773 = .ok (.invokevirtual 165, 3) := by decide +kernel
theorem dL_law_776 : decode cL_law 776 = .ok (.istore 7, 2) := by decide +kernel
theorem dL_law_778 : decode cL_law 778 = .ok (.aload_n 2, 1) := by decide +kernel
theorem dL_law_779 : decode cL_law 779 = .ok (.invokevirtual 140, 3) := by decide +kernel
theorem dL_law_782 : decode cL_law 782 = .ok (.iload 6, 2) := by decide +kernel
theorem dL_law_784 : decode cL_law 784 = .ok (.if_icmp .eq 5, 3) := by decide +kernel
theorem dL_law_787 : decode cL_law 787 = .ok (.iconst 0, 1) := by decide +kernel
theorem dL_law_788 : decode cL_law 788 = .ok (.ireturn, 1) := by decide +kernel
theorem dL_law_789 : decode cL_law 789 = .ok (.iload 6, 2) := by decide +kernel
theorem dL_law_791 : decode cL_law 791 = .ok (.ifCond .ne 22, 3) := by decide +kernel
theorem dL_law_794 : decode cL_law 794 = .ok (.aload_n 3, 1) := by decide +kernel
theorem dL_law_795 : decode cL_law 795 = .ok (.iconst 0, 1) := by decide +kernel
theorem dL_law_796 : decode cL_law 796 = .ok (.laload, 1) := by decide +kernel
theorem dL_law_797 : decode cL_law 797 = .ok (.iload 7, 2) := by decide +kernel
theorem dL_law_799 : decode cL_law 799 = .ok (.ifCond .eq 7, 3) := by decide +kernel
theorem dL_law_802 : decode cL_law 802 = .ok (.lconst 1, 1) := by decide +kernel
theorem dL_law_803 : decode cL_law 803 = .ok (.goto 4, 3) := by decide +kernel
theorem dL_law_806 : decode cL_law 806 = .ok (.lconst 0, 1) := by decide +kernel
theorem dL_law_807 : decode cL_law 807 = .ok (.lcmp, 1) := by decide +kernel
theorem dL_law_808 : decode cL_law 808 = .ok (.ifCond .eq 5, 3) := by decide +kernel
theorem dL_law_811 : decode cL_law 811 = .ok (.iconst 0, 1) := by decide +kernel
theorem dL_law_812 : decode cL_law 812 = .ok (.ireturn, 1) := by decide +kernel
theorem dL_law_813 : decode cL_law 813 = .ok (.goto 1729, 3) := by decide +kernel
theorem dL_law_816 : decode cL_law 816 = .ok (.aload_n 1, 1) := by decide +kernel
theorem dL_law_817 : decode cL_law 817 = .ok (.aload_n 0, 1) := by decide +kernel
theorem dL_law_818 : decode cL_law 818 = .ok (.iload 5, 2) := by decide +kernel
theorem dL_law_820 : decode cL_law 820 = .ok (.iconst 1, 1) := by decide +kernel
theorem dL_law_821 : decode cL_law 821 = .ok (.iadd, 1) := by decide +kernel
theorem dL_law_822 : decode cL_law 822 = .ok (.iaload, 1) := by decide +kernel
theorem dL_law_823 : decode cL_law 823 = .ok (.aload_n 0, 1) := by decide +kernel
theorem dL_law_824 : decode cL_law 824 = .ok (.iload 5, 2) := by decide +kernel
theorem dL_law_826 : decode cL_law 826 = .ok (.iconst 2, 1) := by decide +kernel
theorem dL_law_827 : decode cL_law 827 = .ok (.iadd, 1) := by decide +kernel
theorem dL_law_828 : decode cL_law 828 = .ok (.iaload, 1) := by decide +kernel
theorem dL_law_829 : decode cL_law 829 = .ok (.aload_n 0, 1) := by decide +kernel
theorem dL_law_830 : decode cL_law 830 = .ok (.iload 5, 2) := by decide +kernel
theorem dL_law_832 : decode cL_law 832 = .ok (.iconst 3, 1) := by decide +kernel
theorem dL_law_833 : decode cL_law 833 = .ok (.iadd, 1) := by decide +kernel
theorem dL_law_834 : decode cL_law 834 = .ok (.iaload, 1) := by decide +kernel
theorem dL_law_835 : decode cL_law 835 = .ok (.aload_n 0, 1) := by decide +kernel
theorem dL_law_836 : decode cL_law 836 = .ok (.iload 5, 2) := by decide +kernel
theorem dL_law_838 : decode cL_law 838 = .ok (.iconst 4, 1) := by decide +kernel
theorem dL_law_839 : decode cL_law 839 = .ok (.iadd, 1) := by decide +kernel
theorem dL_law_840 : decode cL_law 840 = .ok (.iaload, 1) := by decide +kernel
theorem dL_law_841 : decode cL_law 841 = .ok (.aload_n 0, 1) := by decide +kernel
theorem dL_law_842 : decode cL_law 842 = .ok (.iload 5, 2) := by decide +kernel
theorem dL_law_844 : decode cL_law 844 = .ok (.iconst 5, 1) := by decide +kernel
theorem dL_law_845 : decode cL_law 845 = .ok (.iadd, 1) := by decide +kernel
theorem dL_law_846 : decode cL_law 846 = .ok (.iaload, 1) := by decide +kernel
theorem dL_law_847 : decode cL_law 847 = .ok (.aload_n 0, 1) := by decide +kernel
theorem dL_law_848 : decode cL_law 848 = .ok (.iload 5, 2) := by decide +kernel
theorem dL_law_850 : decode cL_law 850 = .ok (.bipush 6, 2) := by decide +kernel
theorem dL_law_852 : decode cL_law 852 = .ok (.iadd, 1) := by decide +kernel
theorem dL_law_853 : decode cL_law 853 = .ok (.iaload, 1) := by decide +kernel
theorem dL_law_854 : decode cL_law 854 = .ok (.aload_n 0, 1) := by decide +kernel
theorem dL_law_855 : decode cL_law 855 = .ok (.iload 5, 2) := by decide +kernel
theorem dL_law_857 : decode cL_law 857 = .ok (.bipush 7, 2) := by decide +kernel
theorem dL_law_859 : decode cL_law 859 = .ok (.iadd, 1) := by decide +kernel
theorem dL_law_860 : decode cL_law 860 = .ok (.iaload, 1) := by decide +kernel
theorem dL_law_861 : decode cL_law 861 = .ok (.aload_n 3, 1) := by decide +kernel
theorem dL_law_862 : decode cL_law 862 = .ok (.invokestatic 166, 3) := by decide +kernel
theorem dL_law_865 : decode cL_law 865 = .ok (.istore 6, 2) := by decide +kernel
theorem dL_law_867 : decode cL_law 867 = .ok (.aload_n 2, 1) := by decide +kernel
theorem dL_law_868 : decode cL_law 868 = .ok (.aload_n 0, 1) := by decide +kernel
theorem dL_law_869 : decode cL_law 869 = .ok (.iload 5, 2) := by decide +kernel
theorem dL_law_871 : decode cL_law 871 = .ok (.iconst 1, 1) := by decide +kernel
theorem dL_law_872 : decode cL_law 872 = .ok (.iadd, 1) := by decide +kernel
theorem dL_law_873 : decode cL_law 873 = .ok (.iaload, 1) := by decide +kernel
theorem dL_law_874 : decode cL_law 874 = .ok (.aload_n 0, 1) := by decide +kernel
theorem dL_law_875 : decode cL_law 875 = .ok (.iload 5, 2) := by decide +kernel
theorem dL_law_877 : decode cL_law 877 = .ok (.iconst 2, 1) := by decide +kernel
theorem dL_law_878 : decode cL_law 878 = .ok (.iadd, 1) := by decide +kernel
theorem dL_law_879 : decode cL_law 879 = .ok (.iaload, 1) := by decide +kernel
theorem dL_law_880 : decode cL_law 880 = .ok (.aload_n 0, 1) := by decide +kernel
theorem dL_law_881 : decode cL_law 881 = .ok (.iload 5, 2) := by decide +kernel
theorem dL_law_883 : decode cL_law 883 = .ok (.iconst 3, 1) := by decide +kernel
theorem dL_law_884 : decode cL_law 884 = .ok (.iadd, 1) := by decide +kernel
theorem dL_law_885 : decode cL_law 885 = .ok (.iaload, 1) := by decide +kernel
theorem dL_law_886 : decode cL_law 886 = .ok (.aload_n 0, 1) := by decide +kernel
theorem dL_law_887 : decode cL_law 887 = .ok (.iload 5, 2) := by decide +kernel
theorem dL_law_889 : decode cL_law 889 = .ok (.iconst 4, 1) := by decide +kernel
theorem dL_law_890 : decode cL_law 890 = .ok (.iadd, 1) := by decide +kernel
theorem dL_law_891 : decode cL_law 891 = .ok (.iaload, 1) := by decide +kernel
theorem dL_law_892 : decode cL_law 892 = .ok (.aload_n 0, 1) := by decide +kernel
theorem dL_law_893 : decode cL_law 893 = .ok (.iload 5, 2) := by decide +kernel
theorem dL_law_895 : decode cL_law 895 = .ok (.iconst 5, 1) := by decide +kernel
theorem dL_law_896 : decode cL_law 896 = .ok (.iadd, 1) := by decide +kernel
theorem dL_law_897 : decode cL_law 897 = .ok (.iaload, 1) := by decide +kernel
theorem dL_law_898 : decode cL_law 898 = .ok (.aload_n 0, 1) := by decide +kernel
theorem dL_law_899 : decode cL_law 899 = .ok (.iload 5, 2) := by decide +kernel
theorem dL_law_901 : decode cL_law 901 = .ok (.bipush 6, 2) := by decide +kernel
theorem dL_law_903 : decode cL_law 903 = .ok (.iadd, 1) := by decide +kernel
theorem dL_law_904 : decode cL_law 904 = .ok (.iaload, 1) := by decide +kernel
theorem dL_law_905 : decode cL_law 905 = .ok (.aload_n 0, 1) := by decide +kernel
theorem dL_law_906 : decode cL_law 906 = .ok (.iload 5, 2) := by decide +kernel
theorem dL_law_908 : decode cL_law 908 = .ok (.bipush 7, 2) := by decide +kernel
theorem dL_law_910 : decode cL_law 910 = .ok (.iadd, 1) := by decide +kernel
theorem dL_law_911 : decode cL_law 911 = .ok (.iaload, 1) := by decide +kernel
theorem dL_law_912 : decode cL_law 912 = .ok (.invokevirtual 169, 3) := by decide +kernel
theorem dL_law_915 : decode cL_law 915 = .ok (.istore 7, 2) := by decide +kernel
theorem dL_law_917 : decode cL_law 917 = .ok (.aload_n 2, 1) := by decide +kernel
theorem dL_law_918 : decode cL_law 918 = .ok (.invokevirtual 140, 3) := by decide +kernel
theorem dL_law_921 : decode cL_law 921 = .ok (.iload 6, 2) := by decide +kernel
theorem dL_law_923 : decode cL_law 923 = .ok (.if_icmp .eq 5, 3) := by decide +kernel
theorem dL_law_926 : decode cL_law 926 = .ok (.iconst 0, 1) := by decide +kernel
theorem dL_law_927 : decode cL_law 927 = .ok (.ireturn, 1) := by decide +kernel
theorem dL_law_928 : decode cL_law 928 = .ok (.iload 6, 2) := by decide +kernel
theorem dL_law_930 : decode cL_law 930 = .ok (.ifCond .ne 15, 3) := by decide +kernel
theorem dL_law_933 : decode cL_law 933 = .ok (.aload_n 3, 1) := by decide +kernel
theorem dL_law_934 : decode cL_law 934 = .ok (.iconst 0, 1) := by decide +kernel
theorem dL_law_935 : decode cL_law 935 = .ok (.laload, 1) := by decide +kernel
theorem dL_law_936 : decode cL_law 936 = .ok (.iload 7, 2) := by decide +kernel
theorem dL_law_938 : decode cL_law 938 = .ok (.i2l, 1) := by decide +kernel
theorem dL_law_939 : decode cL_law 939 = .ok (.lcmp, 1) := by decide +kernel
theorem dL_law_940 : decode cL_law 940 = .ok (.ifCond .eq 5, 3) := by decide +kernel
theorem dL_law_943 : decode cL_law 943 = .ok (.iconst 0, 1) := by decide +kernel
theorem dL_law_944 : decode cL_law 944 = .ok (.ireturn, 1) := by decide +kernel
theorem dL_law_945 : decode cL_law 945 = .ok (.goto 1597, 3) := by decide +kernel
theorem dL_law_948 : decode cL_law 948 = .ok (.aload_n 1, 1) := by decide +kernel
theorem dL_law_949 : decode cL_law 949 = .ok (.aload_n 0, 1) := by decide +kernel
theorem dL_law_950 : decode cL_law 950 = .ok (.iload 5, 2) := by decide +kernel
theorem dL_law_952 : decode cL_law 952 = .ok (.iconst 1, 1) := by decide +kernel
theorem dL_law_953 : decode cL_law 953 = .ok (.iadd, 1) := by decide +kernel
theorem dL_law_954 : decode cL_law 954 = .ok (.iaload, 1) := by decide +kernel
theorem dL_law_955 : decode cL_law 955 = .ok (.aload_n 0, 1) := by decide +kernel
theorem dL_law_956 : decode cL_law 956 = .ok (.iload 5, 2) := by decide +kernel
theorem dL_law_958 : decode cL_law 958 = .ok (.iconst 2, 1) := by decide +kernel
theorem dL_law_959 : decode cL_law 959 = .ok (.iadd, 1) := by decide +kernel
theorem dL_law_960 : decode cL_law 960 = .ok (.iaload, 1) := by decide +kernel
theorem dL_law_961 : decode cL_law 961 = .ok (.aload_n 0, 1) := by decide +kernel
theorem dL_law_962 : decode cL_law 962 = .ok (.iload 5, 2) := by decide +kernel
theorem dL_law_964 : decode cL_law 964 = .ok (.iconst 3, 1) := by decide +kernel
theorem dL_law_965 : decode cL_law 965 = .ok (.iadd, 1) := by decide +kernel
theorem dL_law_966 : decode cL_law 966 = .ok (.iaload, 1) := by decide +kernel
theorem dL_law_967 : decode cL_law 967 = .ok (.aload_n 3, 1) := by decide +kernel
theorem dL_law_968 : decode cL_law 968 = .ok (.invokestatic 170, 3) := by decide +kernel
theorem dL_law_971 : decode cL_law 971 = .ok (.istore 6, 2) := by decide +kernel
theorem dL_law_973 : decode cL_law 973 = .ok (.aload_n 2, 1) := by decide +kernel
theorem dL_law_974 : decode cL_law 974 = .ok (.aload_n 0, 1) := by decide +kernel
theorem dL_law_975 : decode cL_law 975 = .ok (.iload 5, 2) := by decide +kernel
theorem dL_law_977 : decode cL_law 977 = .ok (.iconst 1, 1) := by decide +kernel
theorem dL_law_978 : decode cL_law 978 = .ok (.iadd, 1) := by decide +kernel
theorem dL_law_979 : decode cL_law 979 = .ok (.iaload, 1) := by decide +kernel
theorem dL_law_980 : decode cL_law 980 = .ok (.aload_n 0, 1) := by decide +kernel
theorem dL_law_981 : decode cL_law 981 = .ok (.iload 5, 2) := by decide +kernel
theorem dL_law_983 : decode cL_law 983 = .ok (.iconst 2, 1) := by decide +kernel
theorem dL_law_984 : decode cL_law 984 = .ok (.iadd, 1) := by decide +kernel
theorem dL_law_985 : decode cL_law 985 = .ok (.iaload, 1) := by decide +kernel
theorem dL_law_986 : decode cL_law 986 = .ok (.aload_n 0, 1) := by decide +kernel
theorem dL_law_987 : decode cL_law 987 = .ok (.iload 5, 2) := by decide +kernel
theorem dL_law_989 : decode cL_law 989 = .ok (.iconst 3, 1) := by decide +kernel
theorem dL_law_990 : decode cL_law 990 = .ok (.iadd, 1) := by decide +kernel
theorem dL_law_991 : decode cL_law 991 = .ok (.iaload, 1) := by decide +kernel
theorem dL_law_992 : decode cL_law 992 = .ok (.invokevirtual 173, 3) := by decide +kernel
theorem dL_law_995 : decode cL_law 995 = .ok (.istore 7, 2) := by decide +kernel
theorem dL_law_997 : decode cL_law 997 = .ok (.aload_n 2, 1) := by decide +kernel
theorem dL_law_998 : decode cL_law 998 = .ok (.invokevirtual 140, 3) := by decide +kernel
theorem dL_law_1001 : decode cL_law 1001 = .ok (.iload 6, 2) := by decide +kernel
theorem dL_law_1003 : decode cL_law 1003 = .ok (.if_icmp .eq 5, 3) := by decide +kernel
theorem dL_law_1006 : decode cL_law 1006 = .ok (.iconst 0, 1) := by decide +kernel
theorem dL_law_1007 : decode cL_law 1007 = .ok (.ireturn, 1) := by decide +kernel
theorem dL_law_1008 : decode cL_law 1008 = .ok (.iload 6, 2) := by decide +kernel
theorem dL_law_1010 : decode cL_law 1010 = .ok (.ifCond .ne 15, 3) := by decide +kernel
theorem dL_law_1013 : decode cL_law 1013 = .ok (.aload_n 3, 1) := by decide +kernel
theorem dL_law_1014 : decode cL_law 1014 = .ok (.iconst 0, 1) := by decide +kernel
theorem dL_law_1015 : decode cL_law 1015 = .ok (.laload, 1) := by decide +kernel
theorem dL_law_1016 : decode cL_law 1016 = .ok (.iload 7, 2) := by decide +kernel
theorem dL_law_1018 : decode cL_law 1018 = .ok (.i2l, 1) := by decide +kernel
theorem dL_law_1019 : decode cL_law 1019 = .ok (.lcmp, 1) := by decide +kernel
theorem dL_law_1020 : decode cL_law 1020 = .ok (.ifCond .eq 5, 3) := by decide +kernel
theorem dL_law_1023 : decode cL_law 1023 = .ok (.iconst 0, 1) := by decide +kernel
theorem dL_law_1024 : decode cL_law 1024 = .ok (.ireturn, 1) := by decide +kernel
theorem dL_law_1025 : decode cL_law 1025 = .ok (.goto 1517, 3) := by decide +kernel
theorem dL_law_1028 : decode cL_law 1028 = .ok (.aload_n 1, 1) := by decide +kernel
theorem dL_law_1029 : decode cL_law 1029 = .ok (.aload_n 0, 1) := by decide +kernel
theorem dL_law_1030 : decode cL_law 1030 = .ok (.iload 5, 2) := by decide +kernel
theorem dL_law_1032 : decode cL_law 1032 = .ok (.iconst 1, 1) := by decide +kernel
theorem dL_law_1033 : decode cL_law 1033 = .ok (.iadd, 1) := by decide +kernel
theorem dL_law_1034 : decode cL_law 1034 = .ok (.iaload, 1) := by decide +kernel
theorem dL_law_1035 : decode cL_law 1035 = .ok (.aload_n 0, 1) := by decide +kernel
theorem dL_law_1036 : decode cL_law 1036 = .ok (.iload 5, 2) := by decide +kernel
theorem dL_law_1038 : decode cL_law 1038 = .ok (.iconst 2, 1) := by decide +kernel
theorem dL_law_1039 : decode cL_law 1039 = .ok (.iadd, 1) := by decide +kernel
theorem dL_law_1040 : decode cL_law 1040 = .ok (.iaload, 1) := by decide +kernel
theorem dL_law_1041 : decode cL_law 1041 = .ok (.aload_n 3, 1) := by decide +kernel
theorem dL_law_1042 : decode cL_law 1042 = .ok (.invokestatic 174, 3) := by decide +kernel
theorem dL_law_1045 : decode cL_law 1045 = .ok (.istore 6, 2) := by decide +kernel
theorem dL_law_1047 : decode cL_law 1047 = .ok (.aload_n 2, 1) := by decide +kernel
theorem dL_law_1048 : decode cL_law 1048 = .ok (.aload_n 0, 1) := by decide +kernel
theorem dL_law_1049 : decode cL_law 1049 = .ok (.iload 5, 2) := by decide +kernel
theorem dL_law_1051 : decode cL_law 1051 = .ok (.iconst 1, 1) := by decide +kernel
theorem dL_law_1052 : decode cL_law 1052 = .ok (.iadd, 1) := by decide +kernel
theorem dL_law_1053 : decode cL_law 1053 = .ok (.iaload, 1) := by decide +kernel
theorem dL_law_1054 : decode cL_law 1054 = .ok (.aload_n 0, 1) := by decide +kernel
theorem dL_law_1055 : decode cL_law 1055 = .ok (.iload 5, 2) := by decide +kernel
theorem dL_law_1057 : decode cL_law 1057 = .ok (.iconst 2, 1) := by decide +kernel
theorem dL_law_1058 : decode cL_law 1058 = .ok (.iadd, 1) := by decide +kernel
theorem dL_law_1059 : decode cL_law 1059 = .ok (.iaload, 1) := by decide +kernel
theorem dL_law_1060 : decode cL_law 1060 = .ok (.invokevirtual 176, 3) := by decide +kernel
theorem dL_law_1063 : decode cL_law 1063 = .ok (.istore 7, 2) := by decide +kernel
theorem dL_law_1065 : decode cL_law 1065 = .ok (.aload_n 2, 1) := by decide +kernel
theorem dL_law_1066 : decode cL_law 1066 = .ok (.invokevirtual 140, 3) := by decide +kernel
theorem dL_law_1069 : decode cL_law 1069 = .ok (.iload 6, 2) := by decide +kernel
theorem dL_law_1071 : decode cL_law 1071 = .ok (.if_icmp .eq 5, 3) := by decide +kernel
theorem dL_law_1074 : decode cL_law 1074 = .ok (.iconst 0, 1) := by decide +kernel
theorem dL_law_1075 : decode cL_law 1075 = .ok (.ireturn, 1) := by decide +kernel
theorem dL_law_1076 : decode cL_law 1076 = .ok (.iload 6, 2) := by decide +kernel
theorem dL_law_1078 : decode cL_law 1078 = .ok (.ifCond .ne 15, 3) := by decide +kernel
theorem dL_law_1081 : decode cL_law 1081 = .ok (.aload_n 3, 1) := by decide +kernel
theorem dL_law_1082 : decode cL_law 1082 = .ok (.iconst 0, 1) := by decide +kernel
theorem dL_law_1083 : decode cL_law 1083 = .ok (.laload, 1) := by decide +kernel
theorem dL_law_1084 : decode cL_law 1084 = .ok (.iload 7, 2) := by decide +kernel
theorem dL_law_1086 : decode cL_law 1086 = .ok (.i2l, 1) := by decide +kernel
theorem dL_law_1087 : decode cL_law 1087 = .ok (.lcmp, 1) := by decide +kernel
theorem dL_law_1088 : decode cL_law 1088 = .ok (.ifCond .eq 5, 3) := by decide +kernel
theorem dL_law_1091 : decode cL_law 1091 = .ok (.iconst 0, 1) := by decide +kernel
theorem dL_law_1092 : decode cL_law 1092 = .ok (.ireturn, 1) := by decide +kernel
theorem dL_law_1093 : decode cL_law 1093 = .ok (.goto 1449, 3) := by decide +kernel
theorem dL_law_1096 : decode cL_law 1096 = .ok (.aload_n 1, 1) := by decide +kernel
theorem dL_law_1097 : decode cL_law 1097 = .ok (.aload_n 0, 1) := by decide +kernel
theorem dL_law_1098 : decode cL_law 1098 = .ok (.iload 5, 2) := by decide +kernel
theorem dL_law_1100 : decode cL_law 1100 = .ok (.iconst 1, 1) := by decide +kernel
theorem dL_law_1101 : decode cL_law 1101 = .ok (.iadd, 1) := by decide +kernel
theorem dL_law_1102 : decode cL_law 1102 = .ok (.iaload, 1) := by decide +kernel
theorem dL_law_1103 : decode cL_law 1103 = .ok (.aload_n 0, 1) := by decide +kernel
theorem dL_law_1104 : decode cL_law 1104 = .ok (.iload 5, 2) := by decide +kernel
theorem dL_law_1106 : decode cL_law 1106 = .ok (.iconst 2, 1) := by decide +kernel
theorem dL_law_1107 : decode cL_law 1107 = .ok (.iadd, 1) := by decide +kernel
theorem dL_law_1108 : decode cL_law 1108 = .ok (.iaload, 1) := by decide +kernel
theorem dL_law_1109 : decode cL_law 1109 = .ok (.aload_n 3, 1) := by decide +kernel
theorem dL_law_1110 : decode cL_law 1110 = .ok (.invokestatic 177, 3) := by decide +kernel
theorem dL_law_1113 : decode cL_law 1113 = .ok (.istore 6, 2) := by decide +kernel
theorem dL_law_1115 : decode cL_law 1115 = .ok (.aload_n 2, 1) := by decide +kernel
theorem dL_law_1116 : decode cL_law 1116 = .ok (.aload_n 0, 1) := by decide +kernel
theorem dL_law_1117 : decode cL_law 1117 = .ok (.iload 5, 2) := by decide +kernel
theorem dL_law_1119 : decode cL_law 1119 = .ok (.iconst 1, 1) := by decide +kernel
theorem dL_law_1120 : decode cL_law 1120 = .ok (.iadd, 1) := by decide +kernel
theorem dL_law_1121 : decode cL_law 1121 = .ok (.iaload, 1) := by decide +kernel
theorem dL_law_1122 : decode cL_law 1122 = .ok (.aload_n 0, 1) := by decide +kernel
theorem dL_law_1123 : decode cL_law 1123 = .ok (.iload 5, 2) := by decide +kernel
theorem dL_law_1125 : decode cL_law 1125 = .ok (.iconst 2, 1) := by decide +kernel
theorem dL_law_1126 : decode cL_law 1126 = .ok (.iadd, 1) := by decide +kernel
theorem dL_law_1127 : decode cL_law 1127 = .ok (.iaload, 1) := by decide +kernel
theorem dL_law_1128 : decode cL_law 1128 = .ok (.invokevirtual 179, 3) := by decide +kernel
theorem dL_law_1131 : decode cL_law 1131 = .ok (.istore 7, 2) := by decide +kernel
theorem dL_law_1133 : decode cL_law 1133 = .ok (.aload_n 2, 1) := by decide +kernel
theorem dL_law_1134 : decode cL_law 1134 = .ok (.invokevirtual 140, 3) := by decide +kernel
theorem dL_law_1137 : decode cL_law 1137 = .ok (.iload 6, 2) := by decide +kernel
theorem dL_law_1139 : decode cL_law 1139 = .ok (.if_icmp .eq 5, 3) := by decide +kernel
theorem dL_law_1142 : decode cL_law 1142 = .ok (.iconst 0, 1) := by decide +kernel
theorem dL_law_1143 : decode cL_law 1143 = .ok (.ireturn, 1) := by decide +kernel
theorem dL_law_1144 : decode cL_law 1144 = .ok (.iload 6, 2) := by decide +kernel
theorem dL_law_1146 : decode cL_law 1146 = .ok (.ifCond .ne 15, 3) := by decide +kernel
theorem dL_law_1149 : decode cL_law 1149 = .ok (.aload_n 3, 1) := by decide +kernel
theorem dL_law_1150 : decode cL_law 1150 = .ok (.iconst 0, 1) := by decide +kernel
theorem dL_law_1151 : decode cL_law 1151 = .ok (.laload, 1) := by decide +kernel
theorem dL_law_1152 : decode cL_law 1152 = .ok (.iload 7, 2) := by decide +kernel
theorem dL_law_1154 : decode cL_law 1154 = .ok (.i2l, 1) := by decide +kernel
theorem dL_law_1155 : decode cL_law 1155 = .ok (.lcmp, 1) := by decide +kernel
theorem dL_law_1156 : decode cL_law 1156 = .ok (.ifCond .eq 5, 3) := by decide +kernel
theorem dL_law_1159 : decode cL_law 1159 = .ok (.iconst 0, 1) := by decide +kernel
theorem dL_law_1160 : decode cL_law 1160 = .ok (.ireturn, 1) := by decide +kernel
theorem dL_law_1161 : decode cL_law 1161 = .ok (.goto 1381, 3) := by decide +kernel
theorem dL_law_1164 : decode cL_law 1164 = .ok (.aload_n 1, 1) := by decide +kernel
theorem dL_law_1165 : decode cL_law 1165 = .ok (.aload_n 0, 1) := by decide +kernel
theorem dL_law_1166 : decode cL_law 1166 = .ok (.iload 5, 2) := by decide +kernel
theorem dL_law_1168 : decode cL_law 1168 = .ok (.iconst 1, 1) := by decide +kernel
theorem dL_law_1169 : decode cL_law 1169 = .ok (.iadd, 1) := by decide +kernel
theorem dL_law_1170 : decode cL_law 1170 = .ok (.iaload, 1) := by decide +kernel
theorem dL_law_1171 : decode cL_law 1171 = .ok (.aload_n 3, 1) := by decide +kernel
theorem dL_law_1172 : decode cL_law 1172 = .ok (.invokestatic 180, 3) := by decide +kernel
theorem dL_law_1175 : decode cL_law 1175 = .ok (.istore 6, 2) := by decide +kernel
theorem dL_law_1177 : decode cL_law 1177 = .ok (.aload_n 2, 1) := by decide +kernel
theorem dL_law_1178 : decode cL_law 1178 = .ok (.aload_n 0, 1) := by decide +kernel
theorem dL_law_1179 : decode cL_law 1179 = .ok (.iload 5, 2) := by decide +kernel
theorem dL_law_1181 : decode cL_law 1181 = .ok (.iconst 1, 1) := by decide +kernel
theorem dL_law_1182 : decode cL_law 1182 = .ok (.iadd, 1) := by decide +kernel
theorem dL_law_1183 : decode cL_law 1183 = .ok (.iaload, 1) := by decide +kernel
theorem dL_law_1184 : decode cL_law 1184 = .ok (.invokevirtual 183, 3) := by decide +kernel
theorem dL_law_1187 : decode cL_law 1187 = .ok (.istore 7, 2) := by decide +kernel
theorem dL_law_1189 : decode cL_law 1189 = .ok (.aload_n 2, 1) := by decide +kernel
theorem dL_law_1190 : decode cL_law 1190 = .ok (.invokevirtual 140, 3) := by decide +kernel
theorem dL_law_1193 : decode cL_law 1193 = .ok (.iload 6, 2) := by decide +kernel
theorem dL_law_1195 : decode cL_law 1195 = .ok (.if_icmp .eq 5, 3) := by decide +kernel
theorem dL_law_1198 : decode cL_law 1198 = .ok (.iconst 0, 1) := by decide +kernel
theorem dL_law_1199 : decode cL_law 1199 = .ok (.ireturn, 1) := by decide +kernel
theorem dL_law_1200 : decode cL_law 1200 = .ok (.iload 6, 2) := by decide +kernel
theorem dL_law_1202 : decode cL_law 1202 = .ok (.ifCond .ne 15, 3) := by decide +kernel
theorem dL_law_1205 : decode cL_law 1205 = .ok (.aload_n 3, 1) := by decide +kernel
theorem dL_law_1206 : decode cL_law 1206 = .ok (.iconst 0, 1) := by decide +kernel
theorem dL_law_1207 : decode cL_law 1207 = .ok (.laload, 1) := by decide +kernel
theorem dL_law_1208 : decode cL_law 1208 = .ok (.iload 7, 2) := by decide +kernel
theorem dL_law_1210 : decode cL_law 1210 = .ok (.i2l, 1) := by decide +kernel
theorem dL_law_1211 : decode cL_law 1211 = .ok (.lcmp, 1) := by decide +kernel
theorem dL_law_1212 : decode cL_law 1212 = .ok (.ifCond .eq 5, 3) := by decide +kernel
theorem dL_law_1215 : decode cL_law 1215 = .ok (.iconst 0, 1) := by decide +kernel
theorem dL_law_1216 : decode cL_law 1216 = .ok (.ireturn, 1) := by decide +kernel
theorem dL_law_1217 : decode cL_law 1217 = .ok (.goto 1325, 3) := by decide +kernel
theorem dL_law_1220 : decode cL_law 1220 = .ok (.aload_n 1, 1) := by decide +kernel
theorem dL_law_1221 : decode cL_law 1221 = .ok (.aload_n 0, 1) := by decide +kernel
theorem dL_law_1222 : decode cL_law 1222 = .ok (.iload 5, 2) := by decide +kernel
theorem dL_law_1224 : decode cL_law 1224 = .ok (.iconst 1, 1) := by decide +kernel
theorem dL_law_1225 : decode cL_law 1225 = .ok (.iadd, 1) := by decide +kernel
theorem dL_law_1226 : decode cL_law 1226 = .ok (.iaload, 1) := by decide +kernel
theorem dL_law_1227 : decode cL_law 1227 = .ok (.aload_n 0, 1) := by decide +kernel
theorem dL_law_1228 : decode cL_law 1228 = .ok (.iload 5, 2) := by decide +kernel
theorem dL_law_1230 : decode cL_law 1230 = .ok (.iconst 2, 1) := by decide +kernel
theorem dL_law_1231 : decode cL_law 1231 = .ok (.iadd, 1) := by decide +kernel
theorem dL_law_1232 : decode cL_law 1232 = .ok (.iaload, 1) := by decide +kernel
theorem dL_law_1233 : decode cL_law 1233 = .ok (.aload_n 0, 1) := by decide +kernel
theorem dL_law_1234 : decode cL_law 1234 = .ok (.iload 5, 2) := by decide +kernel
theorem dL_law_1236 : decode cL_law 1236 = .ok (.iconst 3, 1) := by decide +kernel
theorem dL_law_1237 : decode cL_law 1237 = .ok (.iadd, 1) := by decide +kernel
theorem dL_law_1238 : decode cL_law 1238 = .ok (.iaload, 1) := by decide +kernel
theorem dL_law_1239 : decode cL_law 1239 = .ok (.aload_n 3, 1) := by decide +kernel
theorem dL_law_1240 : decode cL_law 1240 = .ok (.invokestatic 184, 3) := by decide +kernel
theorem dL_law_1243 : decode cL_law 1243 = .ok (.istore 6, 2) := by decide +kernel
theorem dL_law_1245 : decode cL_law 1245 = .ok (.aload_n 2, 1) := by decide +kernel
theorem dL_law_1246 : decode cL_law 1246 = .ok (.aload_n 0, 1) := by decide +kernel
theorem dL_law_1247 : decode cL_law 1247 = .ok (.iload 5, 2) := by decide +kernel
theorem dL_law_1249 : decode cL_law 1249 = .ok (.iconst 1, 1) := by decide +kernel
theorem dL_law_1250 : decode cL_law 1250 = .ok (.iadd, 1) := by decide +kernel
theorem dL_law_1251 : decode cL_law 1251 = .ok (.iaload, 1) := by decide +kernel
theorem dL_law_1252 : decode cL_law 1252 = .ok (.aload_n 0, 1) := by decide +kernel
theorem dL_law_1253 : decode cL_law 1253 = .ok (.iload 5, 2) := by decide +kernel
theorem dL_law_1255 : decode cL_law 1255 = .ok (.iconst 2, 1) := by decide +kernel
theorem dL_law_1256 : decode cL_law 1256 = .ok (.iadd, 1) := by decide +kernel
theorem dL_law_1257 : decode cL_law 1257 = .ok (.iaload, 1) := by decide +kernel
theorem dL_law_1258 : decode cL_law 1258 = .ok (.aload_n 0, 1) := by decide +kernel
theorem dL_law_1259 : decode cL_law 1259 = .ok (.iload 5, 2) := by decide +kernel
theorem dL_law_1261 : decode cL_law 1261 = .ok (.iconst 3, 1) := by decide +kernel
theorem dL_law_1262 : decode cL_law 1262 = .ok (.iadd, 1) := by decide +kernel
theorem dL_law_1263 : decode cL_law 1263 = .ok (.iaload, 1) := by decide +kernel
theorem dL_law_1264 : decode cL_law 1264 = .ok (.invokevirtual 186, 3) := by decide +kernel
theorem dL_law_1267 : decode cL_law 1267 = .ok (.istore 7, 2) := by decide +kernel
theorem dL_law_1269 : decode cL_law 1269 = .ok (.aload_n 2, 1) := by decide +kernel
theorem dL_law_1270 : decode cL_law 1270 = .ok (.invokevirtual 140, 3) := by decide +kernel
theorem dL_law_1273 : decode cL_law 1273 = .ok (.iload 6, 2) := by decide +kernel
theorem dL_law_1275 : decode cL_law 1275 = .ok (.if_icmp .eq 5, 3) := by decide +kernel
theorem dL_law_1278 : decode cL_law 1278 = .ok (.iconst 0, 1) := by decide +kernel
theorem dL_law_1279 : decode cL_law 1279 = .ok (.ireturn, 1) := by decide +kernel
theorem dL_law_1280 : decode cL_law 1280 = .ok (.iload 6, 2) := by decide +kernel
theorem dL_law_1282 : decode cL_law 1282 = .ok (.ifCond .ne 15, 3) := by decide +kernel
theorem dL_law_1285 : decode cL_law 1285 = .ok (.aload_n 3, 1) := by decide +kernel
theorem dL_law_1286 : decode cL_law 1286 = .ok (.iconst 0, 1) := by decide +kernel
theorem dL_law_1287 : decode cL_law 1287 = .ok (.laload, 1) := by decide +kernel
theorem dL_law_1288 : decode cL_law 1288 = .ok (.iload 7, 2) := by decide +kernel
theorem dL_law_1290 : decode cL_law 1290 = .ok (.i2l, 1) := by decide +kernel
theorem dL_law_1291 : decode cL_law 1291 = .ok (.lcmp, 1) := by decide +kernel
theorem dL_law_1292 : decode cL_law 1292 = .ok (.ifCond .eq 5, 3) := by decide +kernel
theorem dL_law_1295 : decode cL_law 1295 = .ok (.iconst 0, 1) := by decide +kernel
theorem dL_law_1296 : decode cL_law 1296 = .ok (.ireturn, 1) := by decide +kernel
theorem dL_law_1297 : decode cL_law 1297 = .ok (.goto 1245, 3) := by decide +kernel
theorem dL_law_1300 : decode cL_law 1300 = .ok (.aload_n 1, 1) := by decide +kernel
theorem dL_law_1301 : decode cL_law 1301 = .ok (.aload_n 0, 1) := by decide +kernel
theorem dL_law_1302 : decode cL_law 1302 = .ok (.iload 5, 2) := by decide +kernel
theorem dL_law_1304 : decode cL_law 1304 = .ok (.iconst 1, 1) := by decide +kernel
theorem dL_law_1305 : decode cL_law 1305 = .ok (.iadd, 1) := by decide +kernel
theorem dL_law_1306 : decode cL_law 1306 = .ok (.iaload, 1) := by decide +kernel
theorem dL_law_1307 : decode cL_law 1307 = .ok (.aload_n 0, 1) := by decide +kernel
theorem dL_law_1308 : decode cL_law 1308 = .ok (.iload 5, 2) := by decide +kernel
theorem dL_law_1310 : decode cL_law 1310 = .ok (.iconst 2, 1) := by decide +kernel
theorem dL_law_1311 : decode cL_law 1311 = .ok (.iadd, 1) := by decide +kernel
theorem dL_law_1312 : decode cL_law 1312 = .ok (.iaload, 1) := by decide +kernel
theorem dL_law_1313 : decode cL_law 1313 = .ok (.aload_n 0, 1) := by decide +kernel
theorem dL_law_1314 : decode cL_law 1314 = .ok (.iload 5, 2) := by decide +kernel
theorem dL_law_1316 : decode cL_law 1316 = .ok (.iconst 3, 1) := by decide +kernel
theorem dL_law_1317 : decode cL_law 1317 = .ok (.iadd, 1) := by decide +kernel
theorem dL_law_1318 : decode cL_law 1318 = .ok (.iaload, 1) := by decide +kernel
theorem dL_law_1319 : decode cL_law 1319 = .ok (.aload_n 3, 1) := by decide +kernel
theorem dL_law_1320 : decode cL_law 1320 = .ok (.invokestatic 187, 3) := by decide +kernel
theorem dL_law_1323 : decode cL_law 1323 = .ok (.istore 6, 2) := by decide +kernel
theorem dL_law_1325 : decode cL_law 1325 = .ok (.aload_n 2, 1) := by decide +kernel
theorem dL_law_1326 : decode cL_law 1326 = .ok (.aload_n 0, 1) := by decide +kernel
theorem dL_law_1327 : decode cL_law 1327 = .ok (.iload 5, 2) := by decide +kernel
theorem dL_law_1329 : decode cL_law 1329 = .ok (.iconst 1, 1) := by decide +kernel
theorem dL_law_1330 : decode cL_law 1330 = .ok (.iadd, 1) := by decide +kernel
theorem dL_law_1331 : decode cL_law 1331 = .ok (.iaload, 1) := by decide +kernel
theorem dL_law_1332 : decode cL_law 1332 = .ok (.aload_n 0, 1) := by decide +kernel
theorem dL_law_1333 : decode cL_law 1333 = .ok (.iload 5, 2) := by decide +kernel
theorem dL_law_1335 : decode cL_law 1335 = .ok (.iconst 2, 1) := by decide +kernel
theorem dL_law_1336 : decode cL_law 1336 = .ok (.iadd, 1) := by decide +kernel
theorem dL_law_1337 : decode cL_law 1337 = .ok (.iaload, 1) := by decide +kernel
theorem dL_law_1338 : decode cL_law 1338 = .ok (.aload_n 0, 1) := by decide +kernel
theorem dL_law_1339 : decode cL_law 1339 = .ok (.iload 5, 2) := by decide +kernel
theorem dL_law_1341 : decode cL_law 1341 = .ok (.iconst 3, 1) := by decide +kernel
theorem dL_law_1342 : decode cL_law 1342 = .ok (.iadd, 1) := by decide +kernel
theorem dL_law_1343 : decode cL_law 1343 = .ok (.iaload, 1) := by decide +kernel
theorem dL_law_1344 : decode cL_law 1344 = .ok (.invokevirtual 189, 3) := by decide +kernel
theorem dL_law_1347 : decode cL_law 1347 = .ok (.istore 7, 2) := by decide +kernel
theorem dL_law_1349 : decode cL_law 1349 = .ok (.aload_n 2, 1) := by decide +kernel
theorem dL_law_1350 : decode cL_law 1350 = .ok (.invokevirtual 140, 3) := by decide +kernel
theorem dL_law_1353 : decode cL_law 1353 = .ok (.iload 6, 2) := by decide +kernel
theorem dL_law_1355 : decode cL_law 1355 = .ok (.if_icmp .eq 5, 3) := by decide +kernel
theorem dL_law_1358 : decode cL_law 1358 = .ok (.iconst 0, 1) := by decide +kernel
theorem dL_law_1359 : decode cL_law 1359 = .ok (.ireturn, 1) := by decide +kernel
theorem dL_law_1360 : decode cL_law 1360 = .ok (.iload 6, 2) := by decide +kernel
theorem dL_law_1362 : decode cL_law 1362 = .ok (.ifCond .ne 15, 3) := by decide +kernel
theorem dL_law_1365 : decode cL_law 1365 = .ok (.aload_n 3, 1) := by decide +kernel
theorem dL_law_1366 : decode cL_law 1366 = .ok (.iconst 0, 1) := by decide +kernel
theorem dL_law_1367 : decode cL_law 1367 = .ok (.laload, 1) := by decide +kernel
theorem dL_law_1368 : decode cL_law 1368 = .ok (.iload 7, 2) := by decide +kernel
theorem dL_law_1370 : decode cL_law 1370 = .ok (.i2l, 1) := by decide +kernel
theorem dL_law_1371 : decode cL_law 1371 = .ok (.lcmp, 1) := by decide +kernel
theorem dL_law_1372 : decode cL_law 1372 = .ok (.ifCond .eq 5, 3) := by decide +kernel
theorem dL_law_1375 : decode cL_law 1375 = .ok (.iconst 0, 1) := by decide +kernel
theorem dL_law_1376 : decode cL_law 1376 = .ok (.ireturn, 1) := by decide +kernel
theorem dL_law_1377 : decode cL_law 1377 = .ok (.goto 1165, 3) := by decide +kernel
theorem dL_law_1380 : decode cL_law 1380 = .ok (.aload_n 1, 1) := by decide +kernel
theorem dL_law_1381 : decode cL_law 1381 = .ok (.aload_n 0, 1) := by decide +kernel
theorem dL_law_1382 : decode cL_law 1382 = .ok (.iload 5, 2) := by decide +kernel
theorem dL_law_1384 : decode cL_law 1384 = .ok (.iconst 1, 1) := by decide +kernel
theorem dL_law_1385 : decode cL_law 1385 = .ok (.iadd, 1) := by decide +kernel
theorem dL_law_1386 : decode cL_law 1386 = .ok (.iaload, 1) := by decide +kernel
theorem dL_law_1387 : decode cL_law 1387 = .ok (.aload_n 3, 1) := by decide +kernel
theorem dL_law_1388 : decode cL_law 1388 = .ok (.invokestatic 190, 3) := by decide +kernel
theorem dL_law_1391 : decode cL_law 1391 = .ok (.istore 6, 2) := by decide +kernel
theorem dL_law_1393 : decode cL_law 1393 = .ok (.aload_n 2, 1) := by decide +kernel
theorem dL_law_1394 : decode cL_law 1394 = .ok (.aload_n 0, 1) := by decide +kernel
theorem dL_law_1395 : decode cL_law 1395 = .ok (.iload 5, 2) := by decide +kernel
theorem dL_law_1397 : decode cL_law 1397 = .ok (.iconst 1, 1) := by decide +kernel
theorem dL_law_1398 : decode cL_law 1398 = .ok (.iadd, 1) := by decide +kernel
theorem dL_law_1399 : decode cL_law 1399 = .ok (.iaload, 1) := by decide +kernel
theorem dL_law_1400 : decode cL_law 1400 = .ok (.invokevirtual 192, 3) := by decide +kernel
theorem dL_law_1403 : decode cL_law 1403 = .ok (.istore 7, 2) := by decide +kernel
theorem dL_law_1405 : decode cL_law 1405 = .ok (.aload_n 2, 1) := by decide +kernel
theorem dL_law_1406 : decode cL_law 1406 = .ok (.invokevirtual 140, 3) := by decide +kernel
theorem dL_law_1409 : decode cL_law 1409 = .ok (.iload 6, 2) := by decide +kernel
theorem dL_law_1411 : decode cL_law 1411 = .ok (.if_icmp .eq 5, 3) := by decide +kernel
theorem dL_law_1414 : decode cL_law 1414 = .ok (.iconst 0, 1) := by decide +kernel
theorem dL_law_1415 : decode cL_law 1415 = .ok (.ireturn, 1) := by decide +kernel
theorem dL_law_1416 : decode cL_law 1416 = .ok (.iload 6, 2) := by decide +kernel
theorem dL_law_1418 : decode cL_law 1418 = .ok (.ifCond .ne 15, 3) := by decide +kernel
theorem dL_law_1421 : decode cL_law 1421 = .ok (.aload_n 3, 1) := by decide +kernel
theorem dL_law_1422 : decode cL_law 1422 = .ok (.iconst 0, 1) := by decide +kernel
theorem dL_law_1423 : decode cL_law 1423 = .ok (.laload, 1) := by decide +kernel
theorem dL_law_1424 : decode cL_law 1424 = .ok (.iload 7, 2) := by decide +kernel
theorem dL_law_1426 : decode cL_law 1426 = .ok (.i2l, 1) := by decide +kernel
theorem dL_law_1427 : decode cL_law 1427 = .ok (.lcmp, 1) := by decide +kernel
theorem dL_law_1428 : decode cL_law 1428 = .ok (.ifCond .eq 5, 3) := by decide +kernel
theorem dL_law_1431 : decode cL_law 1431 = .ok (.iconst 0, 1) := by decide +kernel
theorem dL_law_1432 : decode cL_law 1432 = .ok (.ireturn, 1) := by decide +kernel
theorem dL_law_1433 : decode cL_law 1433 = .ok (.goto 1109, 3) := by decide +kernel
theorem dL_law_1436 : decode cL_law 1436 = .ok (.aload_n 1, 1) := by decide +kernel
theorem dL_law_1437 : decode cL_law 1437 = .ok (.aload_n 0, 1) := by decide +kernel
theorem dL_law_1438 : decode cL_law 1438 = .ok (.iload 5, 2) := by decide +kernel
theorem dL_law_1440 : decode cL_law 1440 = .ok (.iconst 1, 1) := by decide +kernel
theorem dL_law_1441 : decode cL_law 1441 = .ok (.iadd, 1) := by decide +kernel
theorem dL_law_1442 : decode cL_law 1442 = .ok (.iaload, 1) := by decide +kernel
theorem dL_law_1443 : decode cL_law 1443 = .ok (.aload_n 3, 1) := by decide +kernel
theorem dL_law_1444 : decode cL_law 1444 = .ok (.invokestatic 193, 3) := by decide +kernel
theorem dL_law_1447 : decode cL_law 1447 = .ok (.istore 6, 2) := by decide +kernel
theorem dL_law_1449 : decode cL_law 1449 = .ok (.aload_n 2, 1) := by decide +kernel
theorem dL_law_1450 : decode cL_law 1450 = .ok (.aload_n 0, 1) := by decide +kernel
theorem dL_law_1451 : decode cL_law 1451 = .ok (.iload 5, 2) := by decide +kernel
theorem dL_law_1453 : decode cL_law 1453 = .ok (.iconst 1, 1) := by decide +kernel
theorem dL_law_1454 : decode cL_law 1454 = .ok (.iadd, 1) := by decide +kernel
theorem dL_law_1455 : decode cL_law 1455 = .ok (.iaload, 1) := by decide +kernel
theorem dL_law_1456 : decode cL_law 1456 = .ok (.invokevirtual 195, 3) := by decide +kernel
theorem dL_law_1459 : decode cL_law 1459 = .ok (.istore 7, 2) := by decide +kernel
theorem dL_law_1461 : decode cL_law 1461 = .ok (.aload_n 2, 1) := by decide +kernel
theorem dL_law_1462 : decode cL_law 1462 = .ok (.invokevirtual 140, 3) := by decide +kernel
theorem dL_law_1465 : decode cL_law 1465 = .ok (.iload 6, 2) := by decide +kernel
theorem dL_law_1467 : decode cL_law 1467 = .ok (.if_icmp .eq 5, 3) := by decide +kernel
theorem dL_law_1470 : decode cL_law 1470 = .ok (.iconst 0, 1) := by decide +kernel
theorem dL_law_1471 : decode cL_law 1471 = .ok (.ireturn, 1) := by decide +kernel
theorem dL_law_1472 : decode cL_law 1472 = .ok (.iload 6, 2) := by decide +kernel
theorem dL_law_1474 : decode cL_law 1474 = .ok (.ifCond .ne 15, 3) := by decide +kernel
theorem dL_law_1477 : decode cL_law 1477 = .ok (.aload_n 3, 1) := by decide +kernel
theorem dL_law_1478 : decode cL_law 1478 = .ok (.iconst 0, 1) := by decide +kernel
theorem dL_law_1479 : decode cL_law 1479 = .ok (.laload, 1) := by decide +kernel
theorem dL_law_1480 : decode cL_law 1480 = .ok (.iload 7, 2) := by decide +kernel
theorem dL_law_1482 : decode cL_law 1482 = .ok (.i2l, 1) := by decide +kernel
theorem dL_law_1483 : decode cL_law 1483 = .ok (.lcmp, 1) := by decide +kernel
theorem dL_law_1484 : decode cL_law 1484 = .ok (.ifCond .eq 5, 3) := by decide +kernel
theorem dL_law_1487 : decode cL_law 1487 = .ok (.iconst 0, 1) := by decide +kernel
theorem dL_law_1488 : decode cL_law 1488 = .ok (.ireturn, 1) := by decide +kernel
theorem dL_law_1489 : decode cL_law 1489 = .ok (.goto 1053, 3) := by decide +kernel
theorem dL_law_1492 : decode cL_law 1492 = .ok (.aload_n 1, 1) := by decide +kernel
theorem dL_law_1493 : decode cL_law 1493 = .ok (.aload_n 0, 1) := by decide +kernel
theorem dL_law_1494 : decode cL_law 1494 = .ok (.iload 5, 2) := by decide +kernel
theorem dL_law_1496 : decode cL_law 1496 = .ok (.iconst 1, 1) := by decide +kernel
theorem dL_law_1497 : decode cL_law 1497 = .ok (.iadd, 1) := by decide +kernel
theorem dL_law_1498 : decode cL_law 1498 = .ok (.iaload, 1) := by decide +kernel
theorem dL_law_1499 : decode cL_law 1499 = .ok (.aload_n 3, 1) := by decide +kernel
theorem dL_law_1500 : decode cL_law 1500 = .ok (.invokestatic 196, 3) := by decide +kernel
theorem dL_law_1503 : decode cL_law 1503 = .ok (.istore 6, 2) := by decide +kernel
theorem dL_law_1505 : decode cL_law 1505 = .ok (.aload_n 2, 1) := by decide +kernel
theorem dL_law_1506 : decode cL_law 1506 = .ok (.aload_n 0, 1) := by decide +kernel
theorem dL_law_1507 : decode cL_law 1507 = .ok (.iload 5, 2) := by decide +kernel
theorem dL_law_1509 : decode cL_law 1509 = .ok (.iconst 1, 1) := by decide +kernel
theorem dL_law_1510 : decode cL_law 1510 = .ok (.iadd, 1) := by decide +kernel
theorem dL_law_1511 : decode cL_law 1511 = .ok (.iaload, 1) := by decide +kernel
theorem dL_law_1512 : decode cL_law 1512 = .ok (.invokevirtual 198, 3) := by decide +kernel
theorem dL_law_1515 : decode cL_law 1515 = .ok (.istore 7, 2) := by decide +kernel
theorem dL_law_1517 : decode cL_law 1517 = .ok (.aload_n 2, 1) := by decide +kernel
theorem dL_law_1518 : decode cL_law 1518 = .ok (.invokevirtual 140, 3) := by decide +kernel
theorem dL_law_1521 : decode cL_law 1521 = .ok (.iload 6, 2) := by decide +kernel
theorem dL_law_1523 : decode cL_law 1523 = .ok (.if_icmp .eq 5, 3) := by decide +kernel
theorem dL_law_1526 : decode cL_law 1526 = .ok (.iconst 0, 1) := by decide +kernel
theorem dL_law_1527 : decode cL_law 1527 = .ok (.ireturn, 1) := by decide +kernel
theorem dL_law_1528 : decode cL_law 1528 = .ok (.iload 6, 2) := by decide +kernel
theorem dL_law_1530 : decode cL_law 1530 = .ok (.ifCond .ne 15, 3) := by decide +kernel
theorem dL_law_1533 : decode cL_law 1533 = .ok (.aload_n 3, 1) := by decide +kernel
theorem dL_law_1534 : decode cL_law 1534 = .ok (.iconst 0, 1) := by decide +kernel
theorem dL_law_1535 : decode cL_law 1535 = .ok (.laload, 1) := by decide +kernel
theorem dL_law_1536 : decode cL_law 1536 = .ok (.iload 7, 2) := by decide +kernel
theorem dL_law_1538 : decode cL_law 1538 = .ok (.i2l, 1) := by decide +kernel
theorem dL_law_1539 : decode cL_law 1539 = .ok (.lcmp, 1) := by decide +kernel
theorem dL_law_1540 : decode cL_law 1540 = .ok (.ifCond .eq 5, 3) := by decide +kernel
theorem dL_law_1543 : decode cL_law 1543 = .ok (.iconst 0, 1) := by decide +kernel
theorem dL_law_1544 : decode cL_law 1544 = .ok (.ireturn, 1) := by decide +kernel
theorem dL_law_1545 : decode cL_law 1545 = .ok (.goto 997, 3) := by decide +kernel
theorem dL_law_1548 : decode cL_law 1548 = .ok (.aload_n 1, 1) := by decide +kernel
theorem dL_law_1549 : decode cL_law 1549 = .ok (.aload_n 0, 1) := by decide +kernel
theorem dL_law_1550 : decode cL_law 1550 = .ok (.iload 5, 2) := by decide +kernel
theorem dL_law_1552 : decode cL_law 1552 = .ok (.iconst 1, 1) := by decide +kernel
theorem dL_law_1553 : decode cL_law 1553 = .ok (.iadd, 1) := by decide +kernel
theorem dL_law_1554 : decode cL_law 1554 = .ok (.iaload, 1) := by decide +kernel
theorem dL_law_1555 : decode cL_law 1555 = .ok (.aload_n 3, 1) := by decide +kernel
theorem dL_law_1556 : decode cL_law 1556 = .ok (.invokestatic 199, 3) := by decide +kernel
theorem dL_law_1559 : decode cL_law 1559 = .ok (.istore 6, 2) := by decide +kernel
theorem dL_law_1561 : decode cL_law 1561 = .ok (.aload_n 2, 1) := by decide +kernel
theorem dL_law_1562 : decode cL_law 1562 = .ok (.aload_n 0, 1) := by decide +kernel
theorem dL_law_1563 : decode cL_law 1563 = .ok (.iload 5, 2) := by decide +kernel
theorem dL_law_1565 : decode cL_law 1565 = .ok (.iconst 1, 1) := by decide +kernel
theorem dL_law_1566 : decode cL_law 1566 = .ok (.iadd, 1) := by decide +kernel
theorem dL_law_1567 : decode cL_law 1567 = .ok (.iaload, 1) := by decide +kernel
theorem dL_law_1568 : decode cL_law 1568 = .ok (.invokevirtual 201, 3) := by decide +kernel
theorem dL_law_1571 : decode cL_law 1571 = .ok (.istore 7, 2) := by decide +kernel
theorem dL_law_1573 : decode cL_law 1573 = .ok (.aload_n 2, 1) := by decide +kernel
theorem dL_law_1574 : decode cL_law 1574 = .ok (.invokevirtual 140, 3) := by decide +kernel
theorem dL_law_1577 : decode cL_law 1577 = .ok (.iload 6, 2) := by decide +kernel
theorem dL_law_1579 : decode cL_law 1579 = .ok (.if_icmp .eq 5, 3) := by decide +kernel
theorem dL_law_1582 : decode cL_law 1582 = .ok (.iconst 0, 1) := by decide +kernel
theorem dL_law_1583 : decode cL_law 1583 = .ok (.ireturn, 1) := by decide +kernel
theorem dL_law_1584 : decode cL_law 1584 = .ok (.iload 6, 2) := by decide +kernel
theorem dL_law_1586 : decode cL_law 1586 = .ok (.ifCond .ne 15, 3) := by decide +kernel
theorem dL_law_1589 : decode cL_law 1589 = .ok (.aload_n 3, 1) := by decide +kernel
theorem dL_law_1590 : decode cL_law 1590 = .ok (.iconst 0, 1) := by decide +kernel
theorem dL_law_1591 : decode cL_law 1591 = .ok (.laload, 1) := by decide +kernel
theorem dL_law_1592 : decode cL_law 1592 = .ok (.iload 7, 2) := by decide +kernel
theorem dL_law_1594 : decode cL_law 1594 = .ok (.i2l, 1) := by decide +kernel
theorem dL_law_1595 : decode cL_law 1595 = .ok (.lcmp, 1) := by decide +kernel
theorem dL_law_1596 : decode cL_law 1596 = .ok (.ifCond .eq 5, 3) := by decide +kernel
theorem dL_law_1599 : decode cL_law 1599 = .ok (.iconst 0, 1) := by decide +kernel
theorem dL_law_1600 : decode cL_law 1600 = .ok (.ireturn, 1) := by decide +kernel
theorem dL_law_1601 : decode cL_law 1601 = .ok (.goto 941, 3) := by decide +kernel
theorem dL_law_1604 : decode cL_law 1604 = .ok (.aload_n 1, 1) := by decide +kernel
theorem dL_law_1605 : decode cL_law 1605 = .ok (.invokevirtual 202, 3) := by decide +kernel
theorem dL_law_1608 : decode cL_law 1608 = .ok (.aload_n 2, 1) := by decide +kernel
theorem dL_law_1609 : decode cL_law 1609 = .ok (.invokevirtual 206, 3) := by decide +kernel
theorem dL_law_1612 : decode cL_law 1612 = .ok (.lcmp, 1) := by decide +kernel
theorem dL_law_1613 : decode cL_law 1613 = .ok (.ifCond .eq 929, 3) := by decide +kernel
theorem dL_law_1616 : decode cL_law 1616 = .ok (.iconst 0, 1) := by decide +kernel
theorem dL_law_1617 : decode cL_law 1617 = .ok (.ireturn, 1) := by decide +kernel
theorem dL_law_1618 : decode cL_law 1618 = .ok (.aload_n 1, 1) := by decide +kernel
theorem dL_law_1619 : decode cL_law 1619 = .ok (.aload_n 0, 1) := by decide +kernel
theorem dL_law_1620 : decode cL_law 1620 = .ok (.iload 5, 2) := by decide +kernel
theorem dL_law_1622 : decode cL_law 1622 = .ok (.iconst 1, 1) := by decide +kernel
theorem dL_law_1623 : decode cL_law 1623 = .ok (.iadd, 1) := by decide +kernel
theorem dL_law_1624 : decode cL_law 1624 = .ok (.iaload, 1) := by decide +kernel
theorem dL_law_1625 : decode cL_law 1625 = .ok (.aload_n 0, 1) := by decide +kernel
theorem dL_law_1626 : decode cL_law 1626 = .ok (.iload 5, 2) := by decide +kernel
theorem dL_law_1628 : decode cL_law 1628 = .ok (.iconst 2, 1) := by decide +kernel
theorem dL_law_1629 : decode cL_law 1629 = .ok (.iadd, 1) := by decide +kernel
theorem dL_law_1630 : decode cL_law 1630 = .ok (.iaload, 1) := by decide +kernel
theorem dL_law_1631 : decode cL_law 1631 = .ok (.i2c, 1) := by decide +kernel
theorem dL_law_1632 : decode cL_law 1632 = .ok (.aload_n 3, 1) := by decide +kernel
theorem dL_law_1633 : decode cL_law 1633 = .ok (.invokestatic 207, 3) := by decide +kernel
theorem dL_law_1636 : decode cL_law 1636 = .ok (.istore 6, 2) := by decide +kernel
theorem dL_law_1638 : decode cL_law 1638 = .ok (.aload_n 2, 1) := by decide +kernel
theorem dL_law_1639 : decode cL_law 1639 = .ok (.aload_n 0, 1) := by decide +kernel
theorem dL_law_1640 : decode cL_law 1640 = .ok (.iload 5, 2) := by decide +kernel
theorem dL_law_1642 : decode cL_law 1642 = .ok (.iconst 1, 1) := by decide +kernel
theorem dL_law_1643 : decode cL_law 1643 = .ok (.iadd, 1) := by decide +kernel
theorem dL_law_1644 : decode cL_law 1644 = .ok (.iaload, 1) := by decide +kernel
theorem dL_law_1645 : decode cL_law 1645 = .ok (.aload_n 0, 1) := by decide +kernel
theorem dL_law_1646 : decode cL_law 1646 = .ok (.iload 5, 2) := by decide +kernel
theorem dL_law_1648 : decode cL_law 1648 = .ok (.iconst 2, 1) := by decide +kernel
theorem dL_law_1649 : decode cL_law 1649 = .ok (.iadd, 1) := by decide +kernel
theorem dL_law_1650 : decode cL_law 1650 = .ok (.iaload, 1) := by decide +kernel
theorem dL_law_1651 : decode cL_law 1651 = .ok (.i2c, 1) := by decide +kernel
theorem dL_law_1652 : decode cL_law 1652 = .ok (.invokevirtual 210, 3) := by decide +kernel
theorem dL_law_1655 : decode cL_law 1655 = .ok (.istore 7, 2) := by decide +kernel
theorem dL_law_1657 : decode cL_law 1657 = .ok (.aload_n 2, 1) := by decide +kernel
theorem dL_law_1658 : decode cL_law 1658 = .ok (.invokevirtual 140, 3) := by decide +kernel
theorem dL_law_1661 : decode cL_law 1661 = .ok (.iload 6, 2) := by decide +kernel
theorem dL_law_1663 : decode cL_law 1663 = .ok (.if_icmp .eq 5, 3) := by decide +kernel
theorem dL_law_1666 : decode cL_law 1666 = .ok (.iconst 0, 1) := by decide +kernel
theorem dL_law_1667 : decode cL_law 1667 = .ok (.ireturn, 1) := by decide +kernel
theorem dL_law_1668 : decode cL_law 1668 = .ok (.iload 6, 2) := by decide +kernel
theorem dL_law_1670 : decode cL_law 1670 = .ok (.ifCond .ne 15, 3) := by decide +kernel
theorem dL_law_1673 : decode cL_law 1673 = .ok (.aload_n 3, 1) := by decide +kernel
theorem dL_law_1674 : decode cL_law 1674 = .ok (.iconst 0, 1) := by decide +kernel
theorem dL_law_1675 : decode cL_law 1675 = .ok (.laload, 1) := by decide +kernel
theorem dL_law_1676 : decode cL_law 1676 = .ok (.iload 7, 2) := by decide +kernel
theorem dL_law_1678 : decode cL_law 1678 = .ok (.i2l, 1) := by decide +kernel
theorem dL_law_1679 : decode cL_law 1679 = .ok (.lcmp, 1) := by decide +kernel
theorem dL_law_1680 : decode cL_law 1680 = .ok (.ifCond .eq 5, 3) := by decide +kernel
theorem dL_law_1683 : decode cL_law 1683 = .ok (.iconst 0, 1) := by decide +kernel
theorem dL_law_1684 : decode cL_law 1684 = .ok (.ireturn, 1) := by decide +kernel
theorem dL_law_1685 : decode cL_law 1685 = .ok (.goto 857, 3) := by decide +kernel
theorem dL_law_1688 : decode cL_law 1688 = .ok (.aload_n 1, 1) := by decide +kernel
theorem dL_law_1689 : decode cL_law 1689 = .ok (.aload_n 0, 1) := by decide +kernel
theorem dL_law_1690 : decode cL_law 1690 = .ok (.iload 5, 2) := by decide +kernel
theorem dL_law_1692 : decode cL_law 1692 = .ok (.iconst 1, 1) := by decide +kernel
theorem dL_law_1693 : decode cL_law 1693 = .ok (.iadd, 1) := by decide +kernel
theorem dL_law_1694 : decode cL_law 1694 = .ok (.iaload, 1) := by decide +kernel
theorem dL_law_1695 : decode cL_law 1695 = .ok (.aload_n 3, 1) := by decide +kernel
theorem dL_law_1696 : decode cL_law 1696 = .ok (.invokestatic 211, 3) := by decide +kernel
theorem dL_law_1699 : decode cL_law 1699 = .ok (.istore 6, 2) := by decide +kernel
theorem dL_law_1701 : decode cL_law 1701 = .ok (.aload_n 2, 1) := by decide +kernel
theorem dL_law_1702 : decode cL_law 1702 = .ok (.aload_n 0, 1) := by decide +kernel
theorem dL_law_1703 : decode cL_law 1703 = .ok (.iload 5, 2) := by decide +kernel
theorem dL_law_1705 : decode cL_law 1705 = .ok (.iconst 1, 1) := by decide +kernel
theorem dL_law_1706 : decode cL_law 1706 = .ok (.iadd, 1) := by decide +kernel
theorem dL_law_1707 : decode cL_law 1707 = .ok (.iaload, 1) := by decide +kernel
theorem dL_law_1708 : decode cL_law 1708 = .ok (.invokevirtual 213, 3) := by decide +kernel
theorem dL_law_1711 : decode cL_law 1711 = .ok (.istore 7, 2) := by decide +kernel
theorem dL_law_1713 : decode cL_law 1713 = .ok (.aload_n 2, 1) := by decide +kernel
theorem dL_law_1714 : decode cL_law 1714 = .ok (.invokevirtual 140, 3) := by decide +kernel
theorem dL_law_1717 : decode cL_law 1717 = .ok (.iload 6, 2) := by decide +kernel
theorem dL_law_1719 : decode cL_law 1719 = .ok (.if_icmp .eq 5, 3) := by decide +kernel
theorem dL_law_1722 : decode cL_law 1722 = .ok (.iconst 0, 1) := by decide +kernel
theorem dL_law_1723 : decode cL_law 1723 = .ok (.ireturn, 1) := by decide +kernel
theorem dL_law_1724 : decode cL_law 1724 = .ok (.iload 6, 2) := by decide +kernel
theorem dL_law_1726 : decode cL_law 1726 = .ok (.ifCond .ne 15, 3) := by decide +kernel
theorem dL_law_1729 : decode cL_law 1729 = .ok (.aload_n 3, 1) := by decide +kernel
theorem dL_law_1730 : decode cL_law 1730 = .ok (.iconst 0, 1) := by decide +kernel
theorem dL_law_1731 : decode cL_law 1731 = .ok (.laload, 1) := by decide +kernel
theorem dL_law_1732 : decode cL_law 1732 = .ok (.iload 7, 2) := by decide +kernel
theorem dL_law_1734 : decode cL_law 1734 = .ok (.i2l, 1) := by decide +kernel
theorem dL_law_1735 : decode cL_law 1735 = .ok (.lcmp, 1) := by decide +kernel
theorem dL_law_1736 : decode cL_law 1736 = .ok (.ifCond .eq 5, 3) := by decide +kernel
theorem dL_law_1739 : decode cL_law 1739 = .ok (.iconst 0, 1) := by decide +kernel
theorem dL_law_1740 : decode cL_law 1740 = .ok (.ireturn, 1) := by decide +kernel
theorem dL_law_1741 : decode cL_law 1741 = .ok (.goto 801, 3) := by decide +kernel
theorem dL_law_1744 : decode cL_law 1744 = .ok (.aload_n 1, 1) := by decide +kernel
theorem dL_law_1745 : decode cL_law 1745 = .ok (.aload_n 0, 1) := by decide +kernel
theorem dL_law_1746 : decode cL_law 1746 = .ok (.iload 5, 2) := by decide +kernel
theorem dL_law_1748 : decode cL_law 1748 = .ok (.iconst 1, 1) := by decide +kernel
theorem dL_law_1749 : decode cL_law 1749 = .ok (.iadd, 1) := by decide +kernel
theorem dL_law_1750 : decode cL_law 1750 = .ok (.iaload, 1) := by decide +kernel
theorem dL_law_1751 : decode cL_law 1751 = .ok (.aload 4, 2) := by decide +kernel
theorem dL_law_1753 : decode cL_law 1753 = .ok (.invokestatic 214, 3) := by decide +kernel
theorem dL_law_1756 : decode cL_law 1756 = .ok (.istore 6, 2) := by decide +kernel
theorem dL_law_1758 : decode cL_law 1758 = .ok (.aload_n 2, 1) := by decide +kernel
theorem dL_law_1759 : decode cL_law 1759 = .ok (.aload_n 0, 1) := by decide +kernel
theorem dL_law_1760 : decode cL_law 1760 = .ok (.iload 5, 2) := by decide +kernel
theorem dL_law_1762 : decode cL_law 1762 = .ok (.iconst 1, 1) := by decide +kernel
theorem dL_law_1763 : decode cL_law 1763 = .ok (.iadd, 1) := by decide +kernel
theorem dL_law_1764 : decode cL_law 1764 = .ok (.iaload, 1) := by decide +kernel
theorem dL_law_1765 : decode cL_law 1765 = .ok (.invokevirtual 217, 3) := by decide +kernel
theorem dL_law_1768 : decode cL_law 1768 = .ok (.fstore 7, 2) := by decide +kernel
theorem dL_law_1770 : decode cL_law 1770 = .ok (.aload_n 2, 1) := by decide +kernel
theorem dL_law_1771 : decode cL_law 1771 = .ok (.invokevirtual 140, 3) := by decide +kernel
theorem dL_law_1774 : decode cL_law 1774 = .ok (.iload 6, 2) := by decide +kernel
theorem dL_law_1776 : decode cL_law 1776 = .ok (.if_icmp .eq 5, 3) := by decide +kernel
theorem dL_law_1779 : decode cL_law 1779 = .ok (.iconst 0, 1) := by decide +kernel
theorem dL_law_1780 : decode cL_law 1780 = .ok (.ireturn, 1) := by decide +kernel
theorem dL_law_1781 : decode cL_law 1781 = .ok (.iload 6, 2) := by decide +kernel
theorem dL_law_1783 : decode cL_law 1783 = .ok (.ifCond .ne 36, 3) := by decide +kernel
theorem dL_law_1786 : decode cL_law 1786 = .ok (.aload 4, 2) := by decide +kernel
theorem dL_law_1788 : decode cL_law 1788 = .ok (.iconst 0, 1) := by decide +kernel
theorem dL_law_1789 : decode cL_law 1789 = .ok (.daload, 1) := by decide +kernel
theorem dL_law_1790 : decode cL_law 1790 = .ok (.fload 7, 2) := by decide +kernel
theorem dL_law_1792 : decode cL_law 1792 = .ok (.f2d, 1) := by decide +kernel
theorem dL_law_1793 : decode cL_law 1793 = .ok (.dcmp .l, 1) := by decide +kernel
theorem dL_law_1794 : decode cL_law 1794 = .ok (.ifCond .eq 25, 3) := by decide +kernel
theorem dL_law_1797 : decode cL_law 1797 = .ok (.aload 4, 2) := by decide +kernel
theorem dL_law_1799 : decode cL_law 1799 = .ok (.iconst 0, 1) := by decide +kernel
theorem dL_law_1800 : decode cL_law 1800 = .ok (.daload, 1) := by decide +kernel
theorem dL_law_1801 : decode cL_law 1801 = .ok (.aload 4, 2) := by decide +kernel
theorem dL_law_1803 : decode cL_law 1803 = .ok (.iconst 0, 1) := by decide +kernel
theorem dL_law_1804 : decode cL_law 1804 = .ok (.daload, 1) := by decide +kernel
theorem dL_law_1805 : decode cL_law 1805 = .ok (.dcmp .l, 1) := by decide +kernel
theorem dL_law_1806 : decode cL_law 1806 = .ok (.ifCond .eq 11, 3) := by decide +kernel
theorem dL_law_1809 : decode cL_law 1809 = .ok (.fload 7, 2) := by decide +kernel
theorem dL_law_1811 : decode cL_law 1811 = .ok (.fload 7, 2) := by decide +kernel
theorem dL_law_1813 : decode cL_law 1813 = .ok (.fcmp .l, 1) := by decide +kernel
theorem dL_law_1814 : decode cL_law 1814 = .ok (.ifCond .ne 5, 3) := by decide +kernel
theorem dL_law_1817 : decode cL_law 1817 = .ok (.iconst 0, 1) := by decide +kernel
theorem dL_law_1818 : decode cL_law 1818 = .ok (.ireturn, 1) := by decide +kernel
theorem dL_law_1819 : decode cL_law 1819 = .ok (.goto 723, 3) := by decide +kernel
theorem dL_law_1822 : decode cL_law 1822 = .ok (.aload_n 1, 1) := by decide +kernel
theorem dL_law_1823 : decode cL_law 1823 = .ok (.aload_n 0, 1) := by decide +kernel
theorem dL_law_1824 : decode cL_law 1824 = .ok (.iload 5, 2) := by decide +kernel
theorem dL_law_1826 : decode cL_law 1826 = .ok (.iconst 1, 1) := by decide +kernel
theorem dL_law_1827 : decode cL_law 1827 = .ok (.iadd, 1) := by decide +kernel
theorem dL_law_1828 : decode cL_law 1828 = .ok (.iaload, 1) := by decide +kernel
theorem dL_law_1829 : decode cL_law 1829 = .ok (.aload_n 0, 1) := by decide +kernel
theorem dL_law_1830 : decode cL_law 1830 = .ok (.iload 5, 2) := by decide +kernel
theorem dL_law_1832 : decode cL_law 1832 = .ok (.iconst 2, 1) := by decide +kernel
theorem dL_law_1833 : decode cL_law 1833 = .ok (.iadd, 1) := by decide +kernel
theorem dL_law_1834 : decode cL_law 1834 = .ok (.iaload, 1) := by decide +kernel
theorem dL_law_1835 : decode cL_law 1835 = .ok (.aload_n 0, 1) := by decide +kernel
theorem dL_law_1836 : decode cL_law 1836 = .ok (.iload 5, 2) := by decide +kernel
theorem dL_law_1838 : decode cL_law 1838 = .ok (.iconst 3, 1) := by decide +kernel
theorem dL_law_1839 : decode cL_law 1839 = .ok (.iadd, 1) := by decide +kernel
theorem dL_law_1840 : decode cL_law 1840 = .ok (.iaload, 1) := by decide +kernel
theorem dL_law_1841 : decode cL_law 1841 = .ok (.aload_n 3, 1) := by decide +kernel
theorem dL_law_1842 : decode cL_law 1842 = .ok (.invokestatic 218, 3) := by decide +kernel
theorem dL_law_1845 : decode cL_law 1845 = .ok (.istore 6, 2) := by decide +kernel
theorem dL_law_1847 : decode cL_law 1847 = .ok (.aload_n 2, 1) := by decide +kernel
theorem dL_law_1848 : decode cL_law 1848 = .ok (.aload_n 0, 1) := by decide +kernel
theorem dL_law_1849 : decode cL_law 1849 = .ok (.iload 5, 2) := by decide +kernel
theorem dL_law_1851 : decode cL_law 1851 = .ok (.iconst 1, 1) := by decide +kernel
theorem dL_law_1852 : decode cL_law 1852 = .ok (.iadd, 1) := by decide +kernel
theorem dL_law_1853 : decode cL_law 1853 = .ok (.iaload, 1) := by decide +kernel
theorem dL_law_1854 : decode cL_law 1854 = .ok (.aload_n 0, 1) := by decide +kernel
theorem dL_law_1855 : decode cL_law 1855 = .ok (.iload 5, 2) := by decide +kernel
theorem dL_law_1857 : decode cL_law 1857 = .ok (.iconst 2, 1) := by decide +kernel
theorem dL_law_1858 : decode cL_law 1858 = .ok (.iadd, 1) := by decide +kernel
theorem dL_law_1859 : decode cL_law 1859 = .ok (.iaload, 1) := by decide +kernel
theorem dL_law_1860 : decode cL_law 1860 = .ok (.aload_n 0, 1) := by decide +kernel
theorem dL_law_1861 : decode cL_law 1861 = .ok (.iload 5, 2) := by decide +kernel
theorem dL_law_1863 : decode cL_law 1863 = .ok (.iconst 3, 1) := by decide +kernel
theorem dL_law_1864 : decode cL_law 1864 = .ok (.iadd, 1) := by decide +kernel
theorem dL_law_1865 : decode cL_law 1865 = .ok (.iaload, 1) := by decide +kernel
theorem dL_law_1866 : decode cL_law 1866 = .ok (.invokevirtual 220, 3) := by decide +kernel
theorem dL_law_1869 : decode cL_law 1869 = .ok (.istore 7, 2) := by decide +kernel
theorem dL_law_1871 : decode cL_law 1871 = .ok (.aload_n 2, 1) := by decide +kernel
theorem dL_law_1872 : decode cL_law 1872 = .ok (.invokevirtual 140, 3) := by decide +kernel
theorem dL_law_1875 : decode cL_law 1875 = .ok (.iload 6, 2) := by decide +kernel
theorem dL_law_1877 : decode cL_law 1877 = .ok (.if_icmp .eq 5, 3) := by decide +kernel
theorem dL_law_1880 : decode cL_law 1880 = .ok (.iconst 0, 1) := by decide +kernel
theorem dL_law_1881 : decode cL_law 1881 = .ok (.ireturn, 1) := by decide +kernel
theorem dL_law_1882 : decode cL_law 1882 = .ok (.iload 6, 2) := by decide +kernel
theorem dL_law_1884 : decode cL_law 1884 = .ok (.ifCond .ne 15, 3) := by decide +kernel
theorem dL_law_1887 : decode cL_law 1887 = .ok (.aload_n 3, 1) := by decide +kernel
theorem dL_law_1888 : decode cL_law 1888 = .ok (.iconst 0, 1) := by decide +kernel
theorem dL_law_1889 : decode cL_law 1889 = .ok (.laload, 1) := by decide +kernel
theorem dL_law_1890 : decode cL_law 1890 = .ok (.iload 7, 2) := by decide +kernel
theorem dL_law_1892 : decode cL_law 1892 = .ok (.i2l, 1) := by decide +kernel
theorem dL_law_1893 : decode cL_law 1893 = .ok (.lcmp, 1) := by decide +kernel
theorem dL_law_1894 : decode cL_law 1894 = .ok (.ifCond .eq 5, 3) := by decide +kernel
theorem dL_law_1897 : decode cL_law 1897 = .ok (.iconst 0, 1) := by decide +kernel
theorem dL_law_1898 : decode cL_law 1898 = .ok (.ireturn, 1) := by decide +kernel
theorem dL_law_1899 : decode cL_law 1899 = .ok (.goto 643, 3) := by decide +kernel
theorem dL_law_1902 : decode cL_law 1902 = .ok (.aload_n 1, 1) := by decide +kernel
theorem dL_law_1903 : decode cL_law 1903 = .ok (.aload_n 0, 1) := by decide +kernel
theorem dL_law_1904 : decode cL_law 1904 = .ok (.iload 5, 2) := by decide +kernel
theorem dL_law_1906 : decode cL_law 1906 = .ok (.iconst 1, 1) := by decide +kernel
theorem dL_law_1907 : decode cL_law 1907 = .ok (.iadd, 1) := by decide +kernel
theorem dL_law_1908 : decode cL_law 1908 = .ok (.iaload, 1) := by decide +kernel
theorem dL_law_1909 : decode cL_law 1909 = .ok (.aload_n 0, 1) := by decide +kernel
theorem dL_law_1910 : decode cL_law 1910 = .ok (.iload 5, 2) := by decide +kernel
theorem dL_law_1912 : decode cL_law 1912 = .ok (.iconst 2, 1) := by decide +kernel
theorem dL_law_1913 : decode cL_law 1913 = .ok (.iadd, 1) := by decide +kernel
theorem dL_law_1914 : decode cL_law 1914 = .ok (.iaload, 1) := by decide +kernel
theorem dL_law_1915 : decode cL_law 1915 = .ok (.aload_n 0, 1) := by decide +kernel
theorem dL_law_1916 : decode cL_law 1916 = .ok (.iload 5, 2) := by decide +kernel
theorem dL_law_1918 : decode cL_law 1918 = .ok (.iconst 3, 1) := by decide +kernel
theorem dL_law_1919 : decode cL_law 1919 = .ok (.iadd, 1) := by decide +kernel
theorem dL_law_1920 : decode cL_law 1920 = .ok (.iaload, 1) := by decide +kernel
theorem dL_law_1921 : decode cL_law 1921 = .ok (.aload_n 0, 1) := by decide +kernel
theorem dL_law_1922 : decode cL_law 1922 = .ok (.iload 5, 2) := by decide +kernel
theorem dL_law_1924 : decode cL_law 1924 = .ok (.iconst 4, 1) := by decide +kernel
theorem dL_law_1925 : decode cL_law 1925 = .ok (.iadd, 1) := by decide +kernel
theorem dL_law_1926 : decode cL_law 1926 = .ok (.iaload, 1) := by decide +kernel
theorem dL_law_1927 : decode cL_law 1927 = .ok (.ifCond .eq 7, 3) := by decide +kernel
theorem dL_law_1930 : decode cL_law 1930 = .ok (.iconst 1, 1) := by decide +kernel
theorem dL_law_1931 : decode cL_law 1931 = .ok (.goto 4, 3) := by decide +kernel
theorem dL_law_1934 : decode cL_law 1934 = .ok (.iconst 0, 1) := by decide +kernel
theorem dL_law_1935 : decode cL_law 1935 = .ok (.aload_n 3, 1) := by decide +kernel
theorem dL_law_1936 : decode cL_law 1936 = .ok (.invokestatic 221, 3) := by decide +kernel
theorem dL_law_1939 : decode cL_law 1939 = .ok (.istore 6, 2) := by decide +kernel
theorem dL_law_1941 : decode cL_law 1941 = .ok (.aload_n 2, 1) := by decide +kernel
theorem dL_law_1942 : decode cL_law 1942 = .ok (.aload_n 0, 1) := by decide +kernel
theorem dL_law_1943 : decode cL_law 1943 = .ok (.iload 5, 2) := by decide +kernel
theorem dL_law_1945 : decode cL_law 1945 = .ok (.iconst 1, 1) := by decide +kernel
theorem dL_law_1946 : decode cL_law 1946 = .ok (.iadd, 1) := by decide +kernel
theorem dL_law_1947 : decode cL_law 1947 = .ok (.iaload, 1) := by decide +kernel
theorem dL_law_1948 : decode cL_law 1948 = .ok (.aload_n 0, 1) := by decide +kernel
theorem dL_law_1949 : decode cL_law 1949 = .ok (.iload 5, 2) := by decide +kernel
theorem dL_law_1951 : decode cL_law 1951 = .ok (.iconst 2, 1) := by decide +kernel
theorem dL_law_1952 : decode cL_law 1952 = .ok (.iadd, 1) := by decide +kernel
theorem dL_law_1953 : decode cL_law 1953 = .ok (.iaload, 1) := by decide +kernel
theorem dL_law_1954 : decode cL_law 1954 = .ok (.aload_n 0, 1) := by decide +kernel
theorem dL_law_1955 : decode cL_law 1955 = .ok (.iload 5, 2) := by decide +kernel
theorem dL_law_1957 : decode cL_law 1957 = .ok (.iconst 3, 1) := by decide +kernel
theorem dL_law_1958 : decode cL_law 1958 = .ok (.iadd, 1) := by decide +kernel
theorem dL_law_1959 : decode cL_law 1959 = .ok (.iaload, 1) := by decide +kernel
theorem dL_law_1960 : decode cL_law 1960 = .ok (.aload_n 0, 1) := by decide +kernel
theorem dL_law_1961 : decode cL_law 1961 = .ok (.iload 5, 2) := by decide +kernel
theorem dL_law_1963 : decode cL_law 1963 = .ok (.iconst 4, 1) := by decide +kernel
theorem dL_law_1964 : decode cL_law 1964 = .ok (.iadd, 1) := by decide +kernel
theorem dL_law_1965 : decode cL_law 1965 = .ok (.iaload, 1) := by decide +kernel
theorem dL_law_1966 : decode cL_law 1966 = .ok (.ifCond .eq 7, 3) := by decide +kernel
theorem dL_law_1969 : decode cL_law 1969 = .ok (.iconst 1, 1) := by decide +kernel
theorem dL_law_1970 : decode cL_law 1970 = .ok (.goto 4, 3) := by decide +kernel
theorem dL_law_1973 : decode cL_law 1973 = .ok (.iconst 0, 1) := by decide +kernel
theorem dL_law_1974 : decode cL_law 1974 = .ok (.invokevirtual 224, 3) := by decide +kernel
theorem dL_law_1977 : decode cL_law 1977 = .ok (.istore 7, 2) := by decide +kernel
theorem dL_law_1979 : decode cL_law 1979 = .ok (.aload_n 2, 1) := by decide +kernel
theorem dL_law_1980 : decode cL_law 1980 = .ok (.invokevirtual 140, 3) := by decide +kernel
theorem dL_law_1983 : decode cL_law 1983 = .ok (.iload 6, 2) := by decide +kernel
theorem dL_law_1985 : decode cL_law 1985 = .ok (.if_icmp .eq 5, 3) := by decide +kernel
theorem dL_law_1988 : decode cL_law 1988 = .ok (.iconst 0, 1) := by decide +kernel
theorem dL_law_1989 : decode cL_law 1989 = .ok (.ireturn, 1) := by decide +kernel
theorem dL_law_1990 : decode cL_law 1990 = .ok (.iload 6, 2) := by decide +kernel
theorem dL_law_1992 : decode cL_law 1992 = .ok (.ifCond .ne 22, 3) := by decide +kernel
theorem dL_law_1995 : decode cL_law 1995 = .ok (.aload_n 3, 1) := by decide +kernel
theorem dL_law_1996 : decode cL_law 1996 = .ok (.iconst 0, 1) := by decide +kernel
theorem dL_law_1997 : decode cL_law 1997 = .ok (.laload, 1) := by decide +kernel
theorem dL_law_1998 : decode cL_law 1998 = .ok (.iload 7, 2) := by decide +kernel
theorem dL_law_2000 : decode cL_law 2000 = .ok (.ifCond .eq 7, 3) := by decide +kernel
theorem dL_law_2003 : decode cL_law 2003 = .ok (.lconst 1, 1) := by decide +kernel
theorem dL_law_2004 : decode cL_law 2004 = .ok (.goto 4, 3) := by decide +kernel
theorem dL_law_2007 : decode cL_law 2007 = .ok (.lconst 0, 1) := by decide +kernel
theorem dL_law_2008 : decode cL_law 2008 = .ok (.lcmp, 1) := by decide +kernel
theorem dL_law_2009 : decode cL_law 2009 = .ok (.ifCond .eq 5, 3) := by decide +kernel
theorem dL_law_2012 : decode cL_law 2012 = .ok (.iconst 0, 1) := by decide +kernel
theorem dL_law_2013 : decode cL_law 2013 = .ok (.ireturn, 1) := by decide +kernel
theorem dL_law_2014 : decode cL_law 2014 = .ok (.goto 528, 3) := by decide +kernel
theorem dL_law_2017 : decode cL_law 2017 = .ok (.aload_n 1, 1) := by decide +kernel
theorem dL_law_2018 : decode cL_law 2018 = .ok (.aload_n 0, 1) := by decide +kernel
theorem dL_law_2019 : decode cL_law 2019 = .ok (.iload 5, 2) := by decide +kernel
theorem dL_law_2021 : decode cL_law 2021 = .ok (.iconst 1, 1) := by decide +kernel
theorem dL_law_2022 : decode cL_law 2022 = .ok (.iadd, 1) := by decide +kernel
theorem dL_law_2023 : decode cL_law 2023 = .ok (.iaload, 1) := by decide +kernel
theorem dL_law_2024 : decode cL_law 2024 = .ok (.aload_n 0, 1) := by decide +kernel
theorem dL_law_2025 : decode cL_law 2025 = .ok (.iload 5, 2) := by decide +kernel
theorem dL_law_2027 : decode cL_law 2027 = .ok (.iconst 2, 1) := by decide +kernel
theorem dL_law_2028 : decode cL_law 2028 = .ok (.iadd, 1) := by decide +kernel
theorem dL_law_2029 : decode cL_law 2029 = .ok (.iaload, 1) := by decide +kernel
theorem dL_law_2030 : decode cL_law 2030 = .ok (.aload_n 3, 1) := by decide +kernel
theorem dL_law_2031 : decode cL_law 2031 = .ok (.invokestatic 225, 3) := by decide +kernel
theorem dL_law_2034 : decode cL_law 2034 = .ok (.istore 6, 2) := by decide +kernel
theorem dL_law_2036 : decode cL_law 2036 = .ok (.aload_n 2, 1) := by decide +kernel
theorem dL_law_2037 : decode cL_law 2037 = .ok (.aload_n 0, 1) := by decide +kernel
theorem dL_law_2038 : decode cL_law 2038 = .ok (.iload 5, 2) := by decide +kernel
theorem dL_law_2040 : decode cL_law 2040 = .ok (.iconst 1, 1) := by decide +kernel
theorem dL_law_2041 : decode cL_law 2041 = .ok (.iadd, 1) := by decide +kernel
theorem dL_law_2042 : decode cL_law 2042 = .ok (.iaload, 1) := by decide +kernel
theorem dL_law_2043 : decode cL_law 2043 = .ok (.aload_n 0, 1) := by decide +kernel
theorem dL_law_2044 : decode cL_law 2044 = .ok (.iload 5, 2) := by decide +kernel
theorem dL_law_2046 : decode cL_law 2046 = .ok (.iconst 2, 1) := by decide +kernel
theorem dL_law_2047 : decode cL_law 2047 = .ok (.iadd, 1) := by decide +kernel
theorem dL_law_2048 : decode cL_law 2048 = .ok (.iaload, 1) := by decide +kernel
theorem dL_law_2049 : decode cL_law 2049 = .ok (.invokevirtual 227, 3) := by decide +kernel
theorem dL_law_2052 : decode cL_law 2052 = .ok (.istore 7, 2) := by decide +kernel
theorem dL_law_2054 : decode cL_law 2054 = .ok (.aload_n 2, 1) := by decide +kernel
theorem dL_law_2055 : decode cL_law 2055 = .ok (.invokevirtual 140, 3) := by decide +kernel
theorem dL_law_2058 : decode cL_law 2058 = .ok (.iload 6, 2) := by decide +kernel
theorem dL_law_2060 : decode cL_law 2060 = .ok (.if_icmp .eq 5, 3) := by decide +kernel
theorem dL_law_2063 : decode cL_law 2063 = .ok (.iconst 0, 1) := by decide +kernel
theorem dL_law_2064 : decode cL_law 2064 = .ok (.ireturn, 1) := by decide +kernel
theorem dL_law_2065 : decode cL_law 2065 = .ok (.iload 6, 2) := by decide +kernel
theorem dL_law_2067 : decode cL_law 2067 = .ok (.ifCond .ne 15, 3) := by decide +kernel
theorem dL_law_2070 : decode cL_law 2070 = .ok (.aload_n 3, 1) := by decide +kernel
theorem dL_law_2071 : decode cL_law 2071 = .ok (.iconst 0, 1) := by decide +kernel
theorem dL_law_2072 : decode cL_law 2072 = .ok (.laload, 1) := by decide +kernel
theorem dL_law_2073 : decode cL_law 2073 = .ok (.iload 7, 2) := by decide +kernel
theorem dL_law_2075 : decode cL_law 2075 = .ok (.i2l, 1) := by decide +kernel
theorem dL_law_2076 : decode cL_law 2076 = .ok (.lcmp, 1) := by decide +kernel
theorem dL_law_2077 : decode cL_law 2077 = .ok (.ifCond .eq 5, 3) := by decide +kernel
theorem dL_law_2080 : decode cL_law 2080 = .ok (.iconst 0, 1) := by decide +kernel
theorem dL_law_2081 : decode cL_law 2081 = .ok (.ireturn, 1) := by decide +kernel
theorem dL_law_2082 : decode cL_law 2082 = .ok (.goto 460, 3) := by decide +kernel
theorem dL_law_2085 : decode cL_law 2085 = .ok (.aload_n 1, 1) := by decide +kernel
theorem dL_law_2086 : decode cL_law 2086 = .ok (.aload_n 0, 1) := by decide +kernel
theorem dL_law_2087 : decode cL_law 2087 = .ok (.iload 5, 2) := by decide +kernel
theorem dL_law_2089 : decode cL_law 2089 = .ok (.iconst 1, 1) := by decide +kernel
theorem dL_law_2090 : decode cL_law 2090 = .ok (.iadd, 1) := by decide +kernel
theorem dL_law_2091 : decode cL_law 2091 = .ok (.iaload, 1) := by decide +kernel
theorem dL_law_2092 : decode cL_law 2092 = .ok (.aload_n 3, 1) := by decide +kernel
theorem dL_law_2093 : decode cL_law 2093 = .ok (.invokestatic 228, 3) := by decide +kernel
theorem dL_law_2096 : decode cL_law 2096 = .ok (.istore 6, 2) := by decide +kernel
theorem dL_law_2098 : decode cL_law 2098 = .ok (.aload_n 2, 1) := by decide +kernel
theorem dL_law_2099 : decode cL_law 2099 = .ok (.aload_n 0, 1) := by decide +kernel
theorem dL_law_2100 : decode cL_law 2100 = .ok (.iload 5, 2) := by decide +kernel
theorem dL_law_2102 : decode cL_law 2102 = .ok (.iconst 1, 1) := by decide +kernel
theorem dL_law_2103 : decode cL_law 2103 = .ok (.iadd, 1) := by decide +kernel
theorem dL_law_2104 : decode cL_law 2104 = .ok (.iaload, 1) := by decide +kernel
theorem dL_law_2105 : decode cL_law 2105 = .ok (.invokevirtual 230, 3) := by decide +kernel
theorem dL_law_2108 : decode cL_law 2108 = .ok (.istore 7, 2) := by decide +kernel
theorem dL_law_2110 : decode cL_law 2110 = .ok (.aload_n 2, 1) := by decide +kernel
theorem dL_law_2111 : decode cL_law 2111 = .ok (.invokevirtual 140, 3) := by decide +kernel
theorem dL_law_2114 : decode cL_law 2114 = .ok (.iload 6, 2) := by decide +kernel
theorem dL_law_2116 : decode cL_law 2116 = .ok (.if_icmp .eq 5, 3) := by decide +kernel
theorem dL_law_2119 : decode cL_law 2119 = .ok (.iconst 0, 1) := by decide +kernel
theorem dL_law_2120 : decode cL_law 2120 = .ok (.ireturn, 1) := by decide +kernel
theorem dL_law_2121 : decode cL_law 2121 = .ok (.iload 6, 2) := by decide +kernel
theorem dL_law_2123 : decode cL_law 2123 = .ok (.ifCond .ne 22, 3) := by decide +kernel
theorem dL_law_2126 : decode cL_law 2126 = .ok (.aload_n 3, 1) := by decide +kernel
theorem dL_law_2127 : decode cL_law 2127 = .ok (.iconst 0, 1) := by decide +kernel
theorem dL_law_2128 : decode cL_law 2128 = .ok (.laload, 1) := by decide +kernel
theorem dL_law_2129 : decode cL_law 2129 = .ok (.iload 7, 2) := by decide +kernel
theorem dL_law_2131 : decode cL_law 2131 = .ok (.ifCond .eq 7, 3) := by decide +kernel
theorem dL_law_2134 : decode cL_law 2134 = .ok (.lconst 1, 1) := by decide +kernel
theorem dL_law_2135 : decode cL_law 2135 = .ok (.goto 4, 3) := by decide +kernel
theorem dL_law_2138 : decode cL_law 2138 = .ok (.lconst 0, 1) := by decide +kernel
theorem dL_law_2139 : decode cL_law 2139 = .ok (.lcmp, 1) := by decide +kernel
theorem dL_law_2140 : decode cL_law 2140 = .ok (.ifCond .eq 5, 3) := by decide +kernel
theorem dL_law_2143 : decode cL_law 2143 = .ok (.iconst 0, 1) := by decide +kernel
theorem dL_law_2144 : decode cL_law 2144 = .ok (.ireturn, 1) := by decide +kernel
theorem dL_law_2145 : decode cL_law 2145 = .ok (.goto 397, 3) := by decide +kernel
theorem dL_law_2148 : decode cL_law 2148 = .ok (.aload_n 1, 1) := by decide +kernel
theorem dL_law_2149 : decode cL_law 2149 = .ok (.aload_n 0, 1) := by decide +kernel
theorem dL_law_2150 : decode cL_law 2150 = .ok (.iload 5, 2) := by decide +kernel
theorem dL_law_2152 : decode cL_law 2152 = .ok (.iconst 1, 1) := by decide +kernel
theorem dL_law_2153 : decode cL_law 2153 = .ok (.iadd, 1) := by decide +kernel
theorem dL_law_2154 : decode cL_law 2154 = .ok (.iaload, 1) := by decide +kernel
theorem dL_law_2155 : decode cL_law 2155 = .ok (.aload_n 3, 1) := by decide +kernel
theorem dL_law_2156 : decode cL_law 2156 = .ok (.invokestatic 231, 3) := by decide +kernel
theorem dL_law_2159 : decode cL_law 2159 = .ok (.istore 6, 2) := by decide +kernel
theorem dL_law_2161 : decode cL_law 2161 = .ok (.aload_n 2, 1) := by decide +kernel
theorem dL_law_2162 : decode cL_law 2162 = .ok (.aload_n 0, 1) := by decide +kernel
theorem dL_law_2163 : decode cL_law 2163 = .ok (.iload 5, 2) := by decide +kernel
theorem dL_law_2165 : decode cL_law 2165 = .ok (.iconst 1, 1) := by decide +kernel
theorem dL_law_2166 : decode cL_law 2166 = .ok (.iadd, 1) := by decide +kernel
theorem dL_law_2167 : decode cL_law 2167 = .ok (.iaload, 1) := by decide +kernel
theorem dL_law_2168 : decode cL_law 2168 = .ok (.invokevirtual 233, 3) := by decide +kernel
theorem dL_law_2171 : decode cL_law 2171 = .ok (.istore 7, 2) := by decide +kernel
theorem dL_law_2173 : decode cL_law 2173 = .ok (.aload_n 2, 1) := by decide +kernel
theorem dL_law_2174 : decode cL_law 2174 = .ok (.invokevirtual 140, 3) := by decide +kernel
theorem dL_law_2177 : decode cL_law 2177 = .ok (.iload 6, 2) := by decide +kernel
theorem dL_law_2179 : decode cL_law 2179 = .ok (.if_icmp .eq 5, 3) := by decide +kernel
theorem dL_law_2182 : decode cL_law 2182 = .ok (.iconst 0, 1) := by decide +kernel
theorem dL_law_2183 : decode cL_law 2183 = .ok (.ireturn, 1) := by decide +kernel
theorem dL_law_2184 : decode cL_law 2184 = .ok (.iload 6, 2) := by decide +kernel
theorem dL_law_2186 : decode cL_law 2186 = .ok (.ifCond .ne 15, 3) := by decide +kernel
theorem dL_law_2189 : decode cL_law 2189 = .ok (.aload_n 3, 1) := by decide +kernel
theorem dL_law_2190 : decode cL_law 2190 = .ok (.iconst 0, 1) := by decide +kernel
theorem dL_law_2191 : decode cL_law 2191 = .ok (.laload, 1) := by decide +kernel
theorem dL_law_2192 : decode cL_law 2192 = .ok (.iload 7, 2) := by decide +kernel
theorem dL_law_2194 : decode cL_law 2194 = .ok (.i2l, 1) := by decide +kernel
theorem dL_law_2195 : decode cL_law 2195 = .ok (.lcmp, 1) := by decide +kernel
theorem dL_law_2196 : decode cL_law 2196 = .ok (.ifCond .eq 5, 3) := by decide +kernel
theorem dL_law_2199 : decode cL_law 2199 = .ok (.iconst 0, 1) := by decide +kernel
theorem dL_law_2200 : decode cL_law 2200 = .ok (.ireturn, 1) := by decide +kernel
theorem dL_law_2201 : decode cL_law 2201 = .ok (.goto 341, 3) := by decide +kernel
theorem dL_law_2204 : decode cL_law 2204 = .ok (.aload_n 1, 1) := by decide +kernel
theorem dL_law_2205 : decode cL_law 2205 = .ok (.aload_n 0, 1) := by decide +kernel
theorem dL_law_2206 : decode cL_law 2206 = .ok (.iload 5, 2) := by decide +kernel
theorem dL_law_2208 : decode cL_law 2208 = .ok (.iconst 1, 1) := by decide +kernel
theorem dL_law_2209 : decode cL_law 2209 = .ok (.iadd, 1) := by decide +kernel
theorem dL_law_2210 : decode cL_law 2210 = .ok (.iaload, 1) := by decide +kernel
theorem dL_law_2211 : decode cL_law 2211 = .ok (.aload_n 3, 1) := by decide +kernel
theorem dL_law_2212 : decode cL_law 2212 = .ok (.invokestatic 234, 3) := by decide +kernel
theorem dL_law_2215 : decode cL_law 2215 = .ok (.istore 6, 2) := by decide +kernel
theorem dL_law_2217 : decode cL_law 2217 = .ok (.aload_n 2, 1) := by decide +kernel
theorem dL_law_2218 : decode cL_law 2218 = .ok (.aload_n 0, 1) := by decide +kernel
theorem dL_law_2219 : decode cL_law 2219 = .ok (.iload 5, 2) := by decide +kernel
theorem dL_law_2221 : decode cL_law 2221 = .ok (.iconst 1, 1) := by decide +kernel
theorem dL_law_2222 : decode cL_law 2222 = .ok (.iadd, 1) := by decide +kernel
theorem dL_law_2223 : decode cL_law 2223 = .ok (.iaload, 1) := by decide +kernel
theorem dL_law_2224 : decode cL_law 2224 = .ok (.invokevirtual 236, 3) := by decide +kernel
theorem dL_law_2227 : decode cL_law 2227 = .ok (.istore 7, 2) := by decide +kernel
theorem dL_law_2229 : decode cL_law 2229 = .ok (.aload_n 2, 1) := by decide +kernel
theorem dL_law_2230 : decode cL_law 2230 = .ok (.invokevirtual 140, 3) := by decide +kernel
theorem dL_law_2233 : decode cL_law 2233 = .ok (.iload 6, 2) := by decide +kernel
theorem dL_law_2235 : decode cL_law 2235 = .ok (.if_icmp .eq 5, 3) := by decide +kernel
theorem dL_law_2238 : decode cL_law 2238 = .ok (.iconst 0, 1) := by decide +kernel
theorem dL_law_2239 : decode cL_law 2239 = .ok (.ireturn, 1) := by decide +kernel
theorem dL_law_2240 : decode cL_law 2240 = .ok (.iload 6, 2) := by decide +kernel
theorem dL_law_2242 : decode cL_law 2242 = .ok (.ifCond .ne 15, 3) := by decide +kernel
theorem dL_law_2245 : decode cL_law 2245 = .ok (.aload_n 3, 1) := by decide +kernel
theorem dL_law_2246 : decode cL_law 2246 = .ok (.iconst 0, 1) := by decide +kernel
theorem dL_law_2247 : decode cL_law 2247 = .ok (.laload, 1) := by decide +kernel
theorem dL_law_2248 : decode cL_law 2248 = .ok (.iload 7, 2) := by decide +kernel
theorem dL_law_2250 : decode cL_law 2250 = .ok (.i2l, 1) := by decide +kernel
theorem dL_law_2251 : decode cL_law 2251 = .ok (.lcmp, 1) := by decide +kernel
theorem dL_law_2252 : decode cL_law 2252 = .ok (.ifCond .eq 5, 3) := by decide +kernel
theorem dL_law_2255 : decode cL_law 2255 = .ok (.iconst 0, 1) := by decide +kernel
theorem dL_law_2256 : decode cL_law 2256 = .ok (.ireturn, 1) := by decide +kernel
theorem dL_law_2257 : decode cL_law 2257 = .ok (.goto 285, 3) := by decide +kernel
theorem dL_law_2260 : decode cL_law 2260 = .ok (.aload_n 1, 1) := by decide +kernel
theorem dL_law_2261 : decode cL_law 2261 = .ok (.aload_n 0, 1) := by decide +kernel
theorem dL_law_2262 : decode cL_law 2262 = .ok (.iload 5, 2) := by decide +kernel
theorem dL_law_2264 : decode cL_law 2264 = .ok (.iconst 1, 1) := by decide +kernel
theorem dL_law_2265 : decode cL_law 2265 = .ok (.iadd, 1) := by decide +kernel
theorem dL_law_2266 : decode cL_law 2266 = .ok (.iaload, 1) := by decide +kernel
theorem dL_law_2267 : decode cL_law 2267 = .ok (.aload_n 3, 1) := by decide +kernel
theorem dL_law_2268 : decode cL_law 2268 = .ok (.invokestatic 237, 3) := by decide +kernel
theorem dL_law_2271 : decode cL_law 2271 = .ok (.istore 6, 2) := by decide +kernel
theorem dL_law_2273 : decode cL_law 2273 = .ok (.aload_n 2, 1) := by decide +kernel
theorem dL_law_2274 : decode cL_law 2274 = .ok (.aload_n 0, 1) := by decide +kernel
theorem dL_law_2275 : decode cL_law 2275 = .ok (.iload 5, 2) := by decide +kernel
theorem dL_law_2277 : decode cL_law 2277 = .ok (.iconst 1, 1) := by decide +kernel
theorem dL_law_2278 : decode cL_law 2278 = .ok (.iadd, 1) := by decide +kernel
theorem dL_law_2279 : decode cL_law 2279 = .ok (.iaload, 1) := by decide +kernel
theorem dL_law_2280 : decode cL_law 2280 = .ok (.invokevirtual 239, 3) := by decide +kernel
theorem dL_law_2283 : decode cL_law 2283 = .ok (.istore 7, 2) := by decide +kernel
theorem dL_law_2285 : decode cL_law 2285 = .ok (.aload_n 2, 1) := by decide +kernel
theorem dL_law_2286 : decode cL_law 2286 = .ok (.invokevirtual 140, 3) := by decide +kernel
theorem dL_law_2289 : decode cL_law 2289 = .ok (.iload 6, 2) := by decide +kernel
theorem dL_law_2291 : decode cL_law 2291 = .ok (.if_icmp .eq 5, 3) := by decide +kernel
theorem dL_law_2294 : decode cL_law 2294 = .ok (.iconst 0, 1) := by decide +kernel
theorem dL_law_2295 : decode cL_law 2295 = .ok (.ireturn, 1) := by decide +kernel
theorem dL_law_2296 : decode cL_law 2296 = .ok (.iload 6, 2) := by decide +kernel
theorem dL_law_2298 : decode cL_law 2298 = .ok (.ifCond .ne 15, 3) := by decide +kernel
theorem dL_law_2301 : decode cL_law 2301 = .ok (.aload_n 3, 1) := by decide +kernel
theorem dL_law_2302 : decode cL_law 2302 = .ok (.iconst 0, 1) := by decide +kernel
theorem dL_law_2303 : decode cL_law 2303 = .ok (.laload, 1) := by decide +kernel
theorem dL_law_2304 : decode cL_law 2304 = .ok (.iload 7, 2) := by decide +kernel
theorem dL_law_2306 : decode cL_law 2306 = .ok (.i2l, 1) := by decide +kernel
theorem dL_law_2307 : decode cL_law 2307 = .ok (.lcmp, 1) := by decide +kernel
theorem dL_law_2308 : decode cL_law 2308 = .ok (.ifCond .eq 5, 3) := by decide +kernel
theorem dL_law_2311 : decode cL_law 2311 = .ok (.iconst 0, 1) := by decide +kernel
theorem dL_law_2312 : decode cL_law 2312 = .ok (.ireturn, 1) := by decide +kernel
theorem dL_law_2313 : decode cL_law 2313 = .ok (.goto 229, 3) := by decide +kernel
theorem dL_law_2316 : decode cL_law 2316 = .ok (.aload_n 1, 1) := by decide +kernel
theorem dL_law_2317 : decode cL_law 2317 = .ok (.aload_n 0, 1) := by decide +kernel
theorem dL_law_2318 : decode cL_law 2318 = .ok (.iload 5, 2) := by decide +kernel
theorem dL_law_2320 : decode cL_law 2320 = .ok (.iconst 1, 1) := by decide +kernel
theorem dL_law_2321 : decode cL_law 2321 = .ok (.iadd, 1) := by decide +kernel
theorem dL_law_2322 : decode cL_law 2322 = .ok (.iaload, 1) := by decide +kernel
theorem dL_law_2323 : decode cL_law 2323 = .ok (.aload_n 0, 1) := by decide +kernel
theorem dL_law_2324 : decode cL_law 2324 = .ok (.iload 5, 2) := by decide +kernel
theorem dL_law_2326 : decode cL_law 2326 = .ok (.iconst 2, 1) := by decide +kernel
theorem dL_law_2327 : decode cL_law 2327 = .ok (.iadd, 1) := by decide +kernel
theorem dL_law_2328 : decode cL_law 2328 = .ok (.iaload, 1) := by decide +kernel
theorem dL_law_2329 : decode cL_law 2329 = .ok (.aload_n 0, 1) := by decide +kernel
theorem dL_law_2330 : decode cL_law 2330 = .ok (.iload 5, 2) := by decide +kernel
theorem dL_law_2332 : decode cL_law 2332 = .ok (.iconst 3, 1) := by decide +kernel
theorem dL_law_2333 : decode cL_law 2333 = .ok (.iadd, 1) := by decide +kernel
theorem dL_law_2334 : decode cL_law 2334 = .ok (.iaload, 1) := by decide +kernel
theorem dL_law_2335 : decode cL_law 2335 = .ok (.aload_n 0, 1) := by decide +kernel
theorem dL_law_2336 : decode cL_law 2336 = .ok (.iload 5, 2) := by decide +kernel
theorem dL_law_2338 : decode cL_law 2338 = .ok (.iconst 4, 1) := by decide +kernel
theorem dL_law_2339 : decode cL_law 2339 = .ok (.iadd, 1) := by decide +kernel
theorem dL_law_2340 : decode cL_law 2340 = .ok (.iaload, 1) := by decide +kernel
theorem dL_law_2341 : decode cL_law 2341 = .ok (.aload_n 3, 1) := by decide +kernel
theorem dL_law_2342 : decode cL_law 2342 = .ok (.invokestatic 240, 3) := by decide +kernel
theorem dL_law_2345 : decode cL_law 2345 = .ok (.istore 6, 2) := by decide +kernel
theorem dL_law_2347 : decode cL_law 2347 = .ok (.aload_n 2, 1) := by decide +kernel
theorem dL_law_2348 : decode cL_law 2348 = .ok (.aload_n 0, 1) := by decide +kernel
theorem dL_law_2349 : decode cL_law 2349 = .ok (.iload 5, 2) := by decide +kernel
theorem dL_law_2351 : decode cL_law 2351 = .ok (.iconst 1, 1) := by decide +kernel
theorem dL_law_2352 : decode cL_law 2352 = .ok (.iadd, 1) := by decide +kernel
theorem dL_law_2353 : decode cL_law 2353 = .ok (.iaload, 1) := by decide +kernel
theorem dL_law_2354 : decode cL_law 2354 = .ok (.aload_n 0, 1) := by decide +kernel
theorem dL_law_2355 : decode cL_law 2355 = .ok (.iload 5, 2) := by decide +kernel
theorem dL_law_2357 : decode cL_law 2357 = .ok (.iconst 2, 1) := by decide +kernel
theorem dL_law_2358 : decode cL_law 2358 = .ok (.iadd, 1) := by decide +kernel
theorem dL_law_2359 : decode cL_law 2359 = .ok (.iaload, 1) := by decide +kernel
theorem dL_law_2360 : decode cL_law 2360 = .ok (.aload_n 0, 1) := by decide +kernel
theorem dL_law_2361 : decode cL_law 2361 = .ok (.iload 5, 2) := by decide +kernel
theorem dL_law_2363 : decode cL_law 2363 = .ok (.iconst 3, 1) := by decide +kernel
theorem dL_law_2364 : decode cL_law 2364 = .ok (.iadd, 1) := by decide +kernel
theorem dL_law_2365 : decode cL_law 2365 = .ok (.iaload, 1) := by decide +kernel
theorem dL_law_2366 : decode cL_law 2366 = .ok (.aload_n 0, 1) := by decide +kernel
theorem dL_law_2367 : decode cL_law 2367 = .ok (.iload 5, 2) := by decide +kernel
theorem dL_law_2369 : decode cL_law 2369 = .ok (.iconst 4, 1) := by decide +kernel
theorem dL_law_2370 : decode cL_law 2370 = .ok (.iadd, 1) := by decide +kernel
theorem dL_law_2371 : decode cL_law 2371 = .ok (.iaload, 1) := by decide +kernel
theorem dL_law_2372 : decode cL_law 2372 = .ok (.invokevirtual 242, 3) := by decide +kernel
theorem dL_law_2375 : decode cL_law 2375 = .ok (.istore 7, 2) := by decide +kernel
theorem dL_law_2377 : decode cL_law 2377 = .ok (.aload_n 2, 1) := by decide +kernel
theorem dL_law_2378 : decode cL_law 2378 = .ok (.invokevirtual 140, 3) := by decide +kernel
theorem dL_law_2381 : decode cL_law 2381 = .ok (.iload 6, 2) := by decide +kernel
theorem dL_law_2383 : decode cL_law 2383 = .ok (.if_icmp .eq 5, 3) := by decide +kernel
theorem dL_law_2386 : decode cL_law 2386 = .ok (.iconst 0, 1) := by decide +kernel
theorem dL_law_2387 : decode cL_law 2387 = .ok (.ireturn, 1) := by decide +kernel
theorem dL_law_2388 : decode cL_law 2388 = .ok (.iload 6, 2) := by decide +kernel
theorem dL_law_2390 : decode cL_law 2390 = .ok (.ifCond .ne 15, 3) := by decide +kernel
theorem dL_law_2393 : decode cL_law 2393 = .ok (.aload_n 3, 1) := by decide +kernel
theorem dL_law_2394 : decode cL_law 2394 = .ok (.iconst 0, 1) := by decide +kernel
theorem dL_law_2395 : decode cL_law 2395 = .ok (.laload, 1) := by decide +kernel
theorem dL_law_2396 : decode cL_law 2396 = .ok (.iload 7, 2) := by decide +kernel
theorem dL_law_2398 : decode cL_law 2398 = .ok (.i2l, 1) := by decide +kernel
theorem dL_law_2399 : decode cL_law 2399 = .ok (.lcmp, 1) := by decide +kernel
theorem dL_law_2400 : decode cL_law 2400 = .ok (.ifCond .eq 5, 3) := by decide +kernel
theorem dL_law_2403 : decode cL_law 2403 = .ok (.iconst 0, 1) := by decide +kernel
theorem dL_law_2404 : decode cL_law 2404 = .ok (.ireturn, 1) := by decide +kernel
theorem dL_law_2405 : decode cL_law 2405 = .ok (.goto 137, 3) := by decide +kernel
theorem dL_law_2408 : decode cL_law 2408 = .ok (.aload_n 1, 1) := by decide +kernel
theorem dL_law_2409 : decode cL_law 2409 = .ok (.aload_n 0, 1) := by decide +kernel
theorem dL_law_2410 : decode cL_law 2410 = .ok (.iload 5, 2) := by decide +kernel
theorem dL_law_2412 : decode cL_law 2412 = .ok (.iconst 1, 1) := by decide +kernel
theorem dL_law_2413 : decode cL_law 2413 = .ok (.iadd, 1) := by decide +kernel
theorem dL_law_2414 : decode cL_law 2414 = .ok (.iaload, 1) := by decide +kernel
theorem dL_law_2415 : decode cL_law 2415 = .ok (.aload_n 3, 1) := by decide +kernel
theorem dL_law_2416 : decode cL_law 2416 = .ok (.invokestatic 243, 3) := by decide +kernel
theorem dL_law_2419 : decode cL_law 2419 = .ok (.istore 6, 2) := by decide +kernel
theorem dL_law_2421 : decode cL_law 2421 = .ok (.aload_n 2, 1) := by decide +kernel
theorem dL_law_2422 : decode cL_law 2422 = .ok (.aload_n 0, 1) := by decide +kernel
theorem dL_law_2423 : decode cL_law 2423 = .ok (.iload 5, 2) := by decide +kernel
theorem dL_law_2425 : decode cL_law 2425 = .ok (.iconst 1, 1) := by decide +kernel
theorem dL_law_2426 : decode cL_law 2426 = .ok (.iadd, 1) := by decide +kernel
theorem dL_law_2427 : decode cL_law 2427 = .ok (.iaload, 1) := by decide +kernel
theorem dL_law_2428 : decode cL_law 2428 = .ok (.invokevirtual 245, 3) := by decide +kernel
theorem dL_law_2431 : decode cL_law 2431 = .ok (.istore 7, 2) := by decide +kernel
theorem dL_law_2433 : decode cL_law 2433 = .ok (.aload_n 2, 1) := by decide +kernel
theorem dL_law_2434 : decode cL_law 2434 = .ok (.invokevirtual 140, 3) := by decide +kernel
theorem dL_law_2437 : decode cL_law 2437 = .ok (.iload 6, 2) := by decide +kernel
theorem dL_law_2439 : decode cL_law 2439 = .ok (.if_icmp .eq 5, 3) := by decide +kernel
theorem dL_law_2442 : decode cL_law 2442 = .ok (.iconst 0, 1) := by decide +kernel
theorem dL_law_2443 : decode cL_law 2443 = .ok (.ireturn, 1) := by decide +kernel
theorem dL_law_2444 : decode cL_law 2444 = .ok (.iload 6, 2) := by decide +kernel
theorem dL_law_2446 : decode cL_law 2446 = .ok (.ifCond .ne 15, 3) := by decide +kernel
theorem dL_law_2449 : decode cL_law 2449 = .ok (.aload_n 3, 1) := by decide +kernel
theorem dL_law_2450 : decode cL_law 2450 = .ok (.iconst 0, 1) := by decide +kernel
theorem dL_law_2451 : decode cL_law 2451 = .ok (.laload, 1) := by decide +kernel
theorem dL_law_2452 : decode cL_law 2452 = .ok (.iload 7, 2) := by decide +kernel
theorem dL_law_2454 : decode cL_law 2454 = .ok (.i2l, 1) := by decide +kernel
theorem dL_law_2455 : decode cL_law 2455 = .ok (.lcmp, 1) := by decide +kernel
theorem dL_law_2456 : decode cL_law 2456 = .ok (.ifCond .eq 5, 3) := by decide +kernel
theorem dL_law_2459 : decode cL_law 2459 = .ok (.iconst 0, 1) := by decide +kernel
theorem dL_law_2460 : decode cL_law 2460 = .ok (.ireturn, 1) := by decide +kernel
theorem dL_law_2461 : decode cL_law 2461 = .ok (.goto 81, 3) := by decide +kernel
theorem dL_law_2464 : decode cL_law 2464 = .ok (.aload_n 1, 1) := by decide +kernel
theorem dL_law_2465 : decode cL_law 2465 = .ok (.aload 4, 2) := by decide +kernel
theorem dL_law_2467 : decode cL_law 2467 = .ok (.invokestatic 246, 3) := by decide +kernel
theorem dL_law_2470 : decode cL_law 2470 = .ok (.istore 6, 2) := by decide +kernel
theorem dL_law_2472 : decode cL_law 2472 = .ok (.aload_n 2, 1) := by decide +kernel
theorem dL_law_2473 : decode cL_law 2473 = .ok (.invokevirtual 249, 3) := by decide +kernel
theorem dL_law_2476 : decode cL_law 2476 = .ok (.dstore 7, 2) := by decide +kernel
theorem dL_law_2478 : decode cL_law 2478 = .ok (.aload_n 2, 1) := by decide +kernel
theorem dL_law_2479 : decode cL_law 2479 = .ok (.invokevirtual 140, 3) := by decide +kernel
theorem dL_law_2482 : decode cL_law 2482 = .ok (.iload 6, 2) := by decide +kernel
theorem dL_law_2484 : decode cL_law 2484 = .ok (.if_icmp .eq 5, 3) := by decide +kernel
theorem dL_law_2487 : decode cL_law 2487 = .ok (.iconst 0, 1) := by decide +kernel
theorem dL_law_2488 : decode cL_law 2488 = .ok (.ireturn, 1) := by decide +kernel
theorem dL_law_2489 : decode cL_law 2489 = .ok (.iload 6, 2) := by decide +kernel
theorem dL_law_2491 : decode cL_law 2491 = .ok (.ifCond .ne 35, 3) := by decide +kernel
theorem dL_law_2494 : decode cL_law 2494 = .ok (.aload 4, 2) := by decide +kernel
theorem dL_law_2496 : decode cL_law 2496 = .ok (.iconst 0, 1) := by decide +kernel
theorem dL_law_2497 : decode cL_law 2497 = .ok (.daload, 1) := by decide +kernel
theorem dL_law_2498 : decode cL_law 2498 = .ok (.dload 7, 2) := by decide +kernel
theorem dL_law_2500 : decode cL_law 2500 = .ok (.dcmp .l, 1) := by decide +kernel
theorem dL_law_2501 : decode cL_law 2501 = .ok (.ifCond .eq 25, 3) := by decide +kernel
theorem dL_law_2504 : decode cL_law 2504 = .ok (.aload 4, 2) := by decide +kernel
theorem dL_law_2506 : decode cL_law 2506 = .ok (.iconst 0, 1) := by decide +kernel
theorem dL_law_2507 : decode cL_law 2507 = .ok (.daload, 1) := by decide +kernel
theorem dL_law_2508 : decode cL_law 2508 = .ok (.aload 4, 2) := by decide +kernel
theorem dL_law_2510 : decode cL_law 2510 = .ok (.iconst 0, 1) := by decide +kernel
theorem dL_law_2511 : decode cL_law 2511 = .ok (.daload, 1) := by decide +kernel
theorem dL_law_2512 : decode cL_law 2512 = .ok (.dcmp .l, 1) := by decide +kernel
theorem dL_law_2513 : decode cL_law 2513 = .ok (.ifCond .eq 11, 3) := by decide +kernel
theorem dL_law_2516 : decode cL_law 2516 = .ok (.dload 7, 2) := by decide +kernel
theorem dL_law_2518 : decode cL_law 2518 = .ok (.dload 7, 2) := by decide +kernel
theorem dL_law_2520 : decode cL_law 2520 = .ok (.dcmp .l, 1) := by decide +kernel
theorem dL_law_2521 : decode cL_law 2521 = .ok (.ifCond .ne 5, 3) := by decide +kernel
theorem dL_law_2524 : decode cL_law 2524 = .ok (.iconst 0, 1) := by decide +kernel
theorem dL_law_2525 : decode cL_law 2525 = .ok (.ireturn, 1) := by decide +kernel
theorem dL_law_2526 : decode cL_law 2526 = .ok (.goto 16, 3) := by decide +kernel
theorem dL_law_2529 : decode cL_law 2529 = .ok (.aload_n 1, 1) := by decide +kernel
theorem dL_law_2530 : decode cL_law 2530 = .ok (.invokevirtual 250, 3) := by decide +kernel
theorem dL_law_2533 : decode cL_law 2533 = .ok (.aload_n 2, 1) := by decide +kernel
theorem dL_law_2534 : decode cL_law 2534 = .ok (.invokevirtual 254, 3) := by decide +kernel
theorem dL_law_2537 : decode cL_law 2537 = .ok (.if_icmp .eq 5, 3) := by decide +kernel
theorem dL_law_2540 : decode cL_law 2540 = .ok (.iconst 0, 1) := by decide +kernel
theorem dL_law_2541 : decode cL_law 2541 = .ok (.ireturn, 1) := by decide +kernel
theorem dL_law_2542 : decode cL_law 2542 = .ok (.iinc 5 8, 3) := by decide +kernel
theorem dL_law_2545 : decode cL_law 2545 = .ok (.goto (-2517), 3) := by decide +kernel
theorem dL_law_2548 : decode cL_law 2548 = .ok (.iconst 1, 1) := by decide +kernel
theorem dL_law_2549 : decode cL_law 2549 = .ok (.ireturn, 1) := by decide +kernel
