theorem dX12_parseMask_112 : decode cX12_parseMask 112 = .ok (.getfield 26, 3) := by decide +kernel
theorem dX12_parseMask_115 : decode cX12_parseMask 115 = .ok (.bipush 45, 2) := by decide +kernel
theorem dX12_parseMask_117 : decode cX12_parseMask 117 = .ok (.iload_n 1, 1) := by decide +kernel
theorem dX12_parseMask_118 : decode cX12_parseMask 118 = .ok (.iadd, 1) := by decide +kernel
theorem dX12_parseMask_119 : decode cX12_parseMask 119 = .ok (.invokestatic 309, 3) := by decide +kernel
theorem dX12_parseMask_122 : decode cX12_parseMask 122 = .ok (.iload_n 2, 1) := by decide +kernel
theorem dX12_parseMask_123 : decode cX12_parseMask 123 = .ok (.iastore, 1) := by decide +kernel
theorem dX12_parseMask_124 : decode cX12_parseMask 124 = .ok (.return_, 1) := by decide +kernel
theorem dX12_parseWindow_0 : decode cX12_parseWindow 0 = .ok (.aload_n 0, 1) := by decide +kernel
theorem dX12_parseWindow_1 : decode cX12_parseWindow 1 = .ok (.getfield 119, 3) := by decide +kernel
theorem dX12_parseWindow_4 : decode cX12_parseWindow 4 = .ok (.iconst 2, 1) := by decide +kernel
theorem dX12_parseWindow_5 : decode cX12_parseWindow 5 = .ok (.if_icmp .ne 34, 3) := by decide +kernel
theorem dX12_parseWindow_8 : decode cX12_parseWindow 8 = .ok (.aload_n 0, 1) := by decide +kernel
theorem dX12_parseWindow_9 : decode cX12_parseWindow 9 = .ok (.getfield 125, 3) := by decide +kernel
theorem dX12_parseWindow_12 : decode cX12_parseWindow 12 = .ok (.iconst 3, 1) := by decide +kernel
theorem dX12_parseWindow_13 : decode cX12_parseWindow 13 = .ok (.if_icmp .ge 26, 3) := by decide +kernel
theorem dX12_parseWindow_16 : decode cX12_parseWindow 16 = .ok (.aload_n 0, 1) := by decide +kernel
theorem dX12_parseWindow_17 : decode cX12_parseWindow 17 = .ok (.getfield 26, 3) := by decide +kernel
theorem dX12_parseWindow_20 : decode cX12_parseWindow 20 = .ok (.bipush 48, 2) := by decide +kernel
theorem dX12_parseWindow_22 : decode cX12_parseWindow 22 = .ok (.aload_n 0, 1) := by decide +kernel
theorem dX12_parseWindow_23 : decode cX12_parseWindow 23 = .ok (.getfield 125, 3) := by decide +kernel
theorem dX12_parseWindow_26 : decode cX12_parseWindow 26 = .ok (.iadd, 1) := by decide +kernel
theorem dX12_parseWindow_27 : decode cX12_parseWindow 27 = .ok (.invokestatic 309, 3) := by decide +kernel
theorem dX12_parseWindow_30 : decode cX12_parseWindow 30 = .ok (.iaload, 1) := by decide +kernel
theorem dX12_parseWindow_31 : decode cX12_parseWindow 31 = .ok (.iconst 1, 1) := by decide +kernel
theorem dX12_parseWindow_32 : decode cX12_parseWindow 32 = .ok (.if_icmp .ne 7, 3) := by decide +kernel
theorem dX12_parseWindow_35 : decode cX12_parseWindow 35 = .ok (.iconst 1, 1) := by decide +kernel
theorem dX12_parseWindow_36 : decode cX12_parseWindow 36 = .ok (.goto 4, 3) := by decide +kernel
theorem dX12_parseWindow_39 : decode cX12_parseWindow 39 = .ok (.iconst 0, 1) := by decide +kernel
theorem dX12_parseWindow_40 : decode cX12_parseWindow 40 = .ok (.istore_n 1, 1) := by decide +kernel
theorem dX12_parseWindow_41 : decode cX12_parseWindow 41 = .ok (.aload_n 0, 1) := by decide +kernel
theorem dX12_parseWindow_42 : decode cX12_parseWindow 42 = .ok (.iconst 2, 1) := by decide +kernel
theorem dX12_parseWindow_43 : decode cX12_parseWindow 43 = .ok (.iload_n 1, 1) := by decide +kernel
theorem dX12_parseWindow_44 : decode cX12_parseWindow 44 = .ok (.invokevirtual 305, 3) := by decide +kernel
theorem dX12_parseWindow_47 : decode cX12_parseWindow 47 = .ok (.istore_n 2, 1) := by decide +kernel
theorem dX12_parseWindow_48 : decode cX12_parseWindow 48 = .ok (.aload_n 0, 1) := by decide +kernel
theorem dX12_parseWindow_49 : decode cX12_parseWindow 49 = .ok (.invokevirtual 279, 3) := by decide +kernel
theorem dX12_parseWindow_52 : decode cX12_parseWindow 52 = .ok (.ifCond .ne 4, 3) := by decide +kernel
theorem dX12_parseWindow_55 : decode cX12_parseWindow 55 = .ok (.return_, 1) := by decide +kernel
theorem dX12_parseWindow_56 : decode cX12_parseWindow 56 = .ok (.aload_n 0, 1) := by decide +kernel
theorem dX12_parseWindow_57 : decode cX12_parseWindow 57 = .ok (.getfield 26, 3) := by decide +kernel
theorem dX12_parseWindow_60 : decode cX12_parseWindow 60 = .ok (.bipush 48, 2) := by decide +kernel
theorem dX12_parseWindow_62 : decode cX12_parseWindow 62 = .ok (.iload_n 2, 1) := by decide +kernel
theorem dX12_parseWindow_63 : decode cX12_parseWindow 63 = .ok (.iadd, 1) := by decide +kernel
theorem dX12_parseWindow_64 : decode cX12_parseWindow 64 = .ok (.invokestatic 309, 3) := by decide +kernel
theorem dX12_parseWindow_67 : decode cX12_parseWindow 67 = .ok (.iconst 1, 1) := by decide +kernel
theorem dX12_parseWindow_68 : decode cX12_parseWindow 68 = .ok (.iastore, 1) := by decide +kernel
theorem dX12_parseWindow_69 : decode cX12_parseWindow 69 = .ok (.aload_n 0, 1) := by decide +kernel
theorem dX12_parseWindow_70 : decode cX12_parseWindow 70 = .ok (.bipush 15, 2) := by decide +kernel
theorem dX12_parseWindow_72 : decode cX12_parseWindow 72 = .ok (.invokevirtual 315, 3) := by decide +kernel
theorem dX12_parseWindow_75 : decode cX12_parseWindow 75 = .ok (.aload_n 0, 1) := by decide +kernel
theorem dX12_parseWindow_76 : decode cX12_parseWindow 76 = .ok (.iconst 0, 1) := by decide +kernel
theorem dX12_parseWindow_77 : decode cX12_parseWindow 77 = .ok (.ldc 247, 2) := by decide +kernel
theorem dX12_parseWindow_79 : decode cX12_parseWindow 79 = .ok (.invokevirtual 298, 3) := by decide +kernel
theorem dX12_parseWindow_82 : decode cX12_parseWindow 82 = .ok (.istore_n 3, 1) := by decide +kernel
theorem dX12_parseWindow_83 : decode cX12_parseWindow 83 = .ok (.aload_n 0, 1) := by decide +kernel
theorem dX12_parseWindow_84 : decode cX12_parseWindow 84 = .ok (.bipush 16, 2) := by decide +kernel
theorem dX12_parseWindow_86 : decode cX12_parseWindow 86 = .ok (.invokevirtual 315, 3) := by decide +kernel
theorem dX12_parseWindow_89 : decode cX12_parseWindow 89 = .ok (.aload_n 0, 1) := by decide +kernel
theorem dX12_parseWindow_90 : decode cX12_parseWindow 90 = .ok (.iload_n 3, 1) := by decide +kernel
theorem dX12_parseWindow_91 : decode cX12_parseWindow 91 = .ok (.ldc 247, 2) := by decide +kernel
theorem dX12_parseWindow_93 : decode cX12_parseWindow 93 = .ok (.invokevirtual 298, 3) := by decide +kernel
theorem dX12_parseWindow_96 : decode cX12_parseWindow 96 = .ok (.istore 4, 2) := by decide +kernel
theorem dX12_parseWindow_98 : decode cX12_parseWindow 98 = .ok (.aload_n 0, 1) := by decide +kernel
theorem dX12_parseWindow_99 : decode cX12_parseWindow 99 = .ok (.getfield 29, 3) := by decide +kernel
theorem dX12_parseWindow_102 : decode cX12_parseWindow 102 = .ok (.sipush 1888, 3) := by decide +kernel
theorem dX12_parseWindow_105 : decode cX12_parseWindow 105 = .ok (.iload_n 2, 1) := by decide +kernel
theorem dX12_parseWindow_106 : decode cX12_parseWindow 106 = .ok (.iconst 0, 1) := by decide +kernel
theorem dX12_parseWindow_107 : decode cX12_parseWindow 107 = .ok (.invokestatic 187, 3) := by decide +kernel
theorem dX12_parseWindow_110 : decode cX12_parseWindow 110 = .ok (.iadd, 1) := by decide +kernel
theorem dX12_parseWindow_111 : decode cX12_parseWindow 111 = .ok (.iload_n 3, 1) := by decide +kernel
theorem dX12_parseWindow_112 : decode cX12_parseWindow 112 = .ok (.iastore, 1) := by decide +kernel
theorem dX12_parseWindow_113 : decode cX12_parseWindow 113 = .ok (.aload_n 0, 1) := by decide +kernel
theorem dX12_parseWindow_114 : decode cX12_parseWindow 114 = .ok (.getfield 29, 3) := by decide +kernel
theorem dX12_parseWindow_117 : decode cX12_parseWindow 117 = .ok (.sipush 1888, 3) := by decide +kernel
theorem dX12_parseWindow_120 : decode cX12_parseWindow 120 = .ok (.iload_n 2, 1) := by decide +kernel
theorem dX12_parseWindow_121 : decode cX12_parseWindow 121 = .ok (.iconst 1, 1) := by decide +kernel
theorem dX12_parseWindow_122 : decode cX12_parseWindow 122 = .ok (.invokestatic 187, 3) := by decide +kernel
theorem dX12_parseWindow_125 : decode cX12_parseWindow 125 = .ok (.iadd, 1) := by decide +kernel
theorem dX12_parseWindow_126 : decode cX12_parseWindow 126 = .ok (.iload 4, 2) := by decide +kernel
theorem dX12_parseWindow_128 : decode cX12_parseWindow 128 = .ok (.iastore, 1) := by decide +kernel
theorem dX12_parseWindow_129 : decode cX12_parseWindow 129 = .ok (.aload_n 0, 1) := by decide +kernel
theorem dX12_parseWindow_130 : decode cX12_parseWindow 130 = .ok (.bipush 17, 2) := by decide +kernel
theorem dX12_parseWindow_132 : decode cX12_parseWindow 132 = .ok (.invokevirtual 315, 3) := by decide +kernel
theorem dX12_parseWindow_135 : decode cX12_parseWindow 135 = .ok (.aload_n 0, 1) := by decide +kernel
theorem dX12_parseWindow_136 : decode cX12_parseWindow 136 = .ok (.getfield 26, 3) := by decide +kernel
theorem dX12_parseWindow_139 : decode cX12_parseWindow 139 = .ok (.bipush 42, 2) := by decide +kernel
theorem dX12_parseWindow_141 : decode cX12_parseWindow 141 = .ok (.iload_n 2, 1) := by decide +kernel
theorem dX12_parseWindow_142 : decode cX12_parseWindow 142 = .ok (.iadd, 1) := by decide +kernel
theorem dX12_parseWindow_143 : decode cX12_parseWindow 143 = .ok (.invokestatic 309, 3) := by decide +kernel
theorem dX12_parseWindow_146 : decode cX12_parseWindow 146 = .ok (.aload_n 0, 1) := by decide +kernel
theorem dX12_parseWindow_147 : decode cX12_parseWindow 147 = .ok (.iconst 1, 1) := by decide +kernel
theorem dX12_parseWindow_148 : decode cX12_parseWindow 148 = .ok (.bipush 15, 2) := by decide +kernel
theorem dX12_parseWindow_150 : decode cX12_parseWindow 150 = .ok (.invokevirtual 298, 3) := by decide +kernel
theorem dX12_parseWindow_153 : decode cX12_parseWindow 153 = .ok (.iastore, 1) := by decide +kernel
theorem dX12_parseWindow_154 : decode cX12_parseWindow 154 = .ok (.aload_n 0, 1) := by decide +kernel
theorem dX12_parseWindow_155 : decode cX12_parseWindow 155 = .ok (.bipush 18, 2) := by decide +kernel
theorem dX12_parseWindow_157 : decode cX12_parseWindow 157 = .ok (.invokevirtual 315, 3) := by decide +kernel
theorem dX12_parseWindow_160 : decode cX12_parseWindow 160 = .ok (.aload_n 0, 1) := by decide +kernel
theorem dX12_parseWindow_161 : decode cX12_parseWindow 161 = .ok (.iload_n 2, 1) := by decide +kernel
theorem dX12_parseWindow_162 : decode cX12_parseWindow 162 = .ok (.invokevirtual 318, 3) := by decide +kernel
theorem dX12_parseWindow_165 : decode cX12_parseWindow 165 = .ok (.return_, 1) := by decide +kernel
theorem dX12_parseTrigger_0 : decode cX12_parseTrigger 0 = .ok (.aload_n 0, 1) := by decide +kernel
theorem dX12_parseTrigger_1 : decode cX12_parseTrigger 1 = .ok (.iconst 3, 1) := by decide +kernel
theorem dX12_parseTrigger_2 : decode cX12_parseTrigger 2 = .ok (.aload_n 0, 1) := by decide +kernel
theorem dX12_parseTrigger_3 : decode cX12_parseTrigger 3 = .ok (.aload_n 0, 1) := by decide +kernel
theorem dX12_parseTrigger_4 : decode cX12_parseTrigger 4 = .ok (.getfield 146, 3) := by decide +kernel
theorem dX12_parseTrigger_7 : decode cX12_parseTrigger 7 = .ok (.invokevirtual 301, 3) := by decide +kernel
theorem dX12_parseTrigger_10 : decode cX12_parseTrigger 10 = .ok (.invokevirtual 305, 3) := by decide +kernel
theorem dX12_parseTrigger_13 : decode cX12_parseTrigger 13 = .ok (.istore_n 1, 1) := by decide +kernel
theorem dX12_parseTrigger_14 : decode cX12_parseTrigger 14 = .ok (.aload_n 0, 1) := by decide +kernel
theorem dX12_parseTrigger_15 : decode cX12_parseTrigger 15 = .ok (.invokevirtual 279, 3) := by decide +kernel
theorem dX12_parseTrigger_18 : decode cX12_parseTrigger 18 = .ok (.ifCond .ne 4, 3) := by decide +kernel
theorem dX12_parseTrigger_21 : decode cX12_parseTrigger 21 = .ok (.return_, 1) := by decide +kernel
theorem dX12_parseTrigger_22 : decode cX12_parseTrigger 22 = .ok (.aload_n 0, 1) := by decide +kernel
theorem dX12_parseTrigger_23 : decode cX12_parseTrigger 23 = .ok (.getfield 146, 3) := by decide +kernel
theorem dX12_parseTrigger_26 : decode cX12_parseTrigger 26 = .ok (.iload_n 1, 1) := by decide +kernel
theorem dX12_parseTrigger_27 : decode cX12_parseTrigger 27 = .ok (.iconst 1, 1) := by decide +kernel
theorem dX12_parseTrigger_28 : decode cX12_parseTrigger 28 = .ok (.bastore, 1) := by decide +kernel
theorem dX12_parseTrigger_29 : decode cX12_parseTrigger 29 = .ok (.aload_n 0, 1) := by decide +kernel
theorem dX12_parseTrigger_30 : decode cX12_parseTrigger 30 = .ok (.bipush 6, 2) := by decide +kernel
theorem dX12_parseTrigger_32 : decode cX12_parseTrigger 32 = .ok (.invokevirtual 283, 3) := by decide +kernel
theorem dX12_parseTrigger_35 : decode cX12_parseTrigger 35 = .ok (.ifCond .ne 17, 3) := by decide +kernel
theorem dX12_parseTrigger_38 : decode cX12_parseTrigger 38 = .ok (.aload_n 0, 1) := by decide +kernel
theorem dX12_parseTrigger_39 : decode cX12_parseTrigger 39 = .ok (.bipush 7, 2) := by decide +kernel
theorem dX12_parseTrigger_41 : decode cX12_parseTrigger 41 = .ok (.invokevirtual 283, 3) := by decide +kernel
theorem dX12_parseTrigger_44 : decode cX12_parseTrigger 44 = .ok (.ifCond .ne 8, 3) := by decide +kernel
theorem dX12_parseTrigger_47 : decode cX12_parseTrigger 47 = .ok (.aload_n 0, 1) := by decide +kernel
theorem dX12_parseTrigger_48 : decode cX12_parseTrigger 48 = .ok (.iconst 1, 1) := by decide +kernel
theorem dX12_parseTrigger_49 : decode cX12_parseTrigger 49 = .ok (.invokevirtual 292, 3) := by decide +kernel
theorem dX12_parseTrigger_52 : decode cX12_parseTrigger 52 = .ok (.aload_n 0, 1) := by decide +kernel
theorem dX12_parseTrigger_53 : decode cX12_parseTrigger 53 = .ok (.getfield 26, 3) := by decide +kernel
theorem dX12_parseTrigger_56 : decode cX12_parseTrigger 56 = .ok (.bipush 30, 2) := by decide +kernel
theorem dX12_parseTrigger_58 : decode cX12_parseTrigger 58 = .ok (.iload_n 1, 1) := by decide +kernel
theorem dX12_parseTrigger_59 : decode cX12_parseTrigger 59 = .ok (.iadd, 1) := by decide +kernel
theorem dX12_parseTrigger_60 : decode cX12_parseTrigger 60 = .ok (.invokestatic 309, 3) := by decide +kernel
theorem dX12_parseTrigger_63 : decode cX12_parseTrigger 63 = .ok (.aload_n 0, 1) := by decide +kernel
theorem dX12_parseTrigger_64 : decode cX12_parseTrigger 64 = .ok (.bipush 7, 2) := by decide +kernel
theorem dX12_parseTrigger_66 : decode cX12_parseTrigger 66 = .ok (.invokevirtual 283, 3) := by decide +kernel
theorem dX12_parseTrigger_69 : decode cX12_parseTrigger 69 = .ok (.ifCond .eq 7, 3) := by decide +kernel
theorem dX12_parseTrigger_72 : decode cX12_parseTrigger 72 = .ok (.iconst 2, 1) := by decide +kernel
theorem dX12_parseTrigger_73 : decode cX12_parseTrigger 73 = .ok (.goto 4, 3) := by decide +kernel
theorem dX12_parseTrigger_76 : decode cX12_parseTrigger 76 = .ok (.iconst 1, 1) := by decide +kernel
theorem dX12_parseTrigger_77 : decode cX12_parseTrigger 77 = .ok (.iastore, 1) := by decide +kernel
theorem dX12_parseTrigger_78 : decode cX12_parseTrigger 78 = .ok (.aload_n 0, 1) := by decide +kernel
theorem dX12_parseTrigger_79 : decode cX12_parseTrigger 79 = .ok (.invokevirtual 279, 3) := by decide +kernel
theorem dX12_parseTrigger_82 : decode cX12_parseTrigger 82 = .ok (.ifCond .eq 7, 3) := by decide +kernel
theorem dX12_parseTrigger_85 : decode cX12_parseTrigger 85 = .ok (.aload_n 0, 1) := by decide +kernel
theorem dX12_parseTrigger_86 : decode cX12_parseTrigger 86 = .ok (.invokevirtual 286, 3) := by decide +kernel
theorem dX12_parseTrigger_89 : decode cX12_parseTrigger 89 = .ok (.aload_n 0, 1) := by decide +kernel
theorem dX12_parseTrigger_90 : decode cX12_parseTrigger 90 = .ok (.bipush 20, 2) := by decide +kernel
theorem dX12_parseTrigger_92 : decode cX12_parseTrigger 92 = .ok (.invokevirtual 289, 3) := by decide +kernel
theorem dX12_parseTrigger_95 : decode cX12_parseTrigger 95 = .ok (.ifCond .ne 4, 3) := by decide +kernel
theorem dX12_parseTrigger_98 : decode cX12_parseTrigger 98 = .ok (.return_, 1) := by decide +kernel
theorem dX12_parseTrigger_99 : decode cX12_parseTrigger 99 = .ok (.aload_n 0, 1) := by decide +kernel
theorem dX12_parseTrigger_100 : decode cX12_parseTrigger 100 = .ok (.getfield 26, 3) := by decide +kernel
theorem dX12_parseTrigger_103 : decode cX12_parseTrigger 103 = .ok (.bipush 34, 2) := by decide +kernel
theorem dX12_parseTrigger_105 : decode cX12_parseTrigger 105 = .ok (.iload_n 1, 1) := by decide +kernel
theorem dX12_parseTrigger_106 : decode cX12_parseTrigger 106 = .ok (.iadd, 1) := by decide +kernel
theorem dX12_parseTrigger_107 : decode cX12_parseTrigger 107 = .ok (.invokestatic 309, 3) := by decide +kernel
theorem dX12_parseTrigger_110 : decode cX12_parseTrigger 110 = .ok (.aload_n 0, 1) := by decide +kernel
theorem dX12_parseTrigger_111 : decode cX12_parseTrigger 111 = .ok (.iconst 1, 1) := by decide +kernel
theorem dX12_parseTrigger_112 : decode cX12_parseTrigger 112 = .ok (.sipush 9999, 3) := by decide +kernel
theorem dX12_parseTrigger_115 : decode cX12_parseTrigger 115 = .ok (.invokevirtual 298, 3) := by decide +kernel
theorem dX12_parseTrigger_118 : decode cX12_parseTrigger 118 = .ok (.iastore, 1) := by decide +kernel
theorem dX12_parseTrigger_119 : decode cX12_parseTrigger 119 = .ok (.aload_n 0, 1) := by decide +kernel
theorem dX12_parseTrigger_120 : decode cX12_parseTrigger 120 = .ok (.bipush 21, 2) := by decide +kernel
theorem dX12_parseTrigger_122 : decode cX12_parseTrigger 122 = .ok (.invokevirtual 289, 3) := by decide +kernel
theorem dX12_parseTrigger_125 : decode cX12_parseTrigger 125 = .ok (.ifCond .eq 23, 3) := by decide +kernel
theorem dX12_parseTrigger_128 : decode cX12_parseTrigger 128 = .ok (.aload_n 0, 1) := by decide +kernel
theorem dX12_parseTrigger_129 : decode cX12_parseTrigger 129 = .ok (.getfield 26, 3) := by decide +kernel
theorem dX12_parseTrigger_132 : decode cX12_parseTrigger 132 = .ok (.bipush 38, 2) := by decide +kernel
theorem dX12_parseTrigger_134 : decode cX12_parseTrigger 134 = .ok (.iload_n 1, 1) := by decide +kernel
theorem dX12_parseTrigger_135 : decode cX12_parseTrigger 135 = .ok (.iadd, 1) := by decide +kernel
theorem dX12_parseTrigger_136 : decode cX12_parseTrigger 136 = .ok (.invokestatic 309, 3) := by decide +kernel
theorem dX12_parseTrigger_139 : decode cX12_parseTrigger 139 = .ok (.aload_n 0, 1) := by decide +kernel
theorem dX12_parseTrigger_140 : decode cX12_parseTrigger 140 = .ok (.iconst 0, 1) := by decide +kernel
theorem dX12_parseTrigger_141 : decode cX12_parseTrigger 141 = .ok (.sipush 9999, 3) := by decide +kernel
theorem dX12_parseTrigger_144 : decode cX12_parseTrigger 144 = .ok (.invokevirtual 298, 3) := by decide +kernel
theorem dX12_parseTrigger_147 : decode cX12_parseTrigger 147 = .ok (.iastore, 1) := by decide +kernel
theorem dX12_parseTrigger_148 : decode cX12_parseTrigger 148 = .ok (.return_, 1) := by decide +kernel
theorem dX12_isStatement_0 : decode cX12_isStatement 0 = .ok (.iload_n 0, 1) := by decide +kernel
theorem dX12_isStatement_1 : decode cX12_isStatement 1 = .ok (.ifCond .eq 38, 3) := by decide +kernel
theorem dX12_isStatement_4 : decode cX12_isStatement 4 = .ok (.iload_n 0, 1) := by decide +kernel
theorem dX12_isStatement_5 : decode cX12_isStatement 5 = .ok (.bipush 6, 2) := by decide +kernel
theorem dX12_isStatement_7 : decode cX12_isStatement 7 = .ok (.bipush 11, 2) := by decide +kernel
theorem dX12_isStatement_9 : decode cX12_isStatement 9 = .ok (.invokestatic 22, 3) := by decide +kernel
theorem dX12_isStatement_12 : decode cX12_isStatement 12 = .ok (.ifCond .ne 27, 3) := by decide +kernel
theorem dX12_isStatement_15 : decode cX12_isStatement 15 = .ok (.iload_n 0, 1) := by decide +kernel
theorem dX12_isStatement_16 : decode cX12_isStatement 16 = .ok (.bipush 14, 2) := by decide +kernel
theorem dX12_isStatement_18 : decode cX12_isStatement 18 = .ok (.if_icmp .eq 21, 3) := by decide +kernel
theorem dX12_isStatement_21 : decode cX12_isStatement 21 = .ok (.iload_n 0, 1) := by decide +kernel
theorem dX12_isStatement_22 : decode cX12_isStatement 22 = .ok (.bipush 19, 2) := by decide +kernel
theorem dX12_isStatement_24 : decode cX12_isStatement 24 = .ok (.if_icmp .eq 15, 3) := by decide +kernel
theorem dX12_isStatement_27 : decode cX12_isStatement 27 = .ok (.iload_n 0, 1) := by decide +kernel
theorem dX12_isStatement_28 : decode cX12_isStatement 28 = .ok (.bipush 22, 2) := by decide +kernel
theorem dX12_isStatement_30 : decode cX12_isStatement 30 = .ok (.if_icmp .eq 9, 3) := by decide +kernel
theorem dX12_isStatement_33 : decode cX12_isStatement 33 = .ok (.iload_n 0, 1) := by decide +kernel
theorem dX12_isStatement_34 : decode cX12_isStatement 34 = .ok (.bipush 24, 2) := by decide +kernel
theorem dX12_isStatement_36 : decode cX12_isStatement 36 = .ok (.if_icmp .ne 7, 3) := by decide +kernel
theorem dX12_isStatement_39 : decode cX12_isStatement 39 = .ok (.iconst 1, 1) := by decide +kernel
theorem dX12_isStatement_40 : decode cX12_isStatement 40 = .ok (.goto 4, 3) := by decide +kernel
theorem dX12_isStatement_43 : decode cX12_isStatement 43 = .ok (.iconst 0, 1) := by decide +kernel
theorem dX12_isStatement_44 : decode cX12_isStatement 44 = .ok (.ireturn, 1) := by decide +kernel
theorem dX12_isManyTimes_0 : decode cX12_isManyTimes 0 = .ok (.iload_n 0, 1) := by decide +kernel
theorem dX12_isManyTimes_1 : decode cX12_isManyTimes 1 = .ok (.ifCond .eq 15, 3) := by decide +kernel
theorem dX12_isManyTimes_4 : decode cX12_isManyTimes 4 = .ok (.iload_n 0, 1) := by decide +kernel
theorem dX12_isManyTimes_5 : decode cX12_isManyTimes 5 = .ok (.bipush 14, 2) := by decide +kernel
theorem dX12_isManyTimes_7 : decode cX12_isManyTimes 7 = .ok (.if_icmp .eq 9, 3) := by decide +kernel
theorem dX12_isManyTimes_10 : decode cX12_isManyTimes 10 = .ok (.iload_n 0, 1) := by decide +kernel
theorem dX12_isManyTimes_11 : decode cX12_isManyTimes 11 = .ok (.bipush 19, 2) := by decide +kernel
theorem dX12_isManyTimes_13 : decode cX12_isManyTimes 13 = .ok (.if_icmp .ne 7, 3) := by decide +kernel
theorem dX12_isManyTimes_16 : decode cX12_isManyTimes 16 = .ok (.iconst 1, 1) := by decide +kernel
theorem dX12_isManyTimes_17 : decode cX12_isManyTimes 17 = .ok (.goto 4, 3) := by decide +kernel
theorem dX12_isManyTimes_20 : decode cX12_isManyTimes 20 = .ok (.iconst 0, 1) := by decide +kernel
theorem dX12_isManyTimes_21 : decode cX12_isManyTimes 21 = .ok (.ireturn, 1) := by decide +kernel
theorem dX12_parseBehind_0 : decode cX12_parseBehind 0 = .ok (.iload_n 1, 1) := by decide +kernel
theorem dX12_parseBehind_1 : decode cX12_parseBehind 1 = .ok (.tableswitch 245 0 22 #[107, 245, 245, 245, 245, 245, 114, 124, 133, 152, 166, 180, 245, 245, 187, 245, 245, 245, 245, 194, 245, 245, 201], 107) := by decide +kernel
theorem dX12_parseBehind_108 : decode cX12_parseBehind 108 = .ok (.aload_n 0, 1) := by decide +kernel
theorem dX12_parseBehind_109 : decode cX12_parseBehind 109 = .ok (.invokevirtual 321, 3) := by decide +kernel
theorem dX12_parseBehind_112 : decode cX12_parseBehind 112 = .ok (.goto 150, 3) := by decide +kernel
theorem dX12_parseBehind_115 : decode cX12_parseBehind 115 = .ok (.aload_n 0, 1) := by decide +kernel
theorem dX12_parseBehind_116 : decode cX12_parseBehind 116 = .ok (.iconst 0, 1) := by decide +kernel
theorem dX12_parseBehind_117 : decode cX12_parseBehind 117 = .ok (.bipush 8, 2) := by decide +kernel
theorem dX12_parseBehind_119 : decode cX12_parseBehind 119 = .ok (.invokevirtual 324, 3) := by decide +kernel
theorem dX12_parseBehind_122 : decode cX12_parseBehind 122 = .ok (.goto 140, 3) := by decide +kernel
theorem dX12_parseBehind_125 : decode cX12_parseBehind 125 = .ok (.aload_n 0, 1) := by decide +kernel
theorem dX12_parseBehind_126 : decode cX12_parseBehind 126 = .ok (.iconst 1, 1) := by decide +kernel
theorem dX12_parseBehind_127 : decode cX12_parseBehind 127 = .ok (.iconst 4, 1) := by decide +kernel
theorem dX12_parseBehind_128 : decode cX12_parseBehind 128 = .ok (.invokevirtual 324, 3) := by decide +kernel
theorem dX12_parseBehind_131 : decode cX12_parseBehind 131 = .ok (.goto 131, 3) := by decide +kernel
theorem dX12_parseBehind_134 : decode cX12_parseBehind 134 = .ok (.aload_n 0, 1) := by decide +kernel
theorem dX12_parseBehind_135 : decode cX12_parseBehind 135 = .ok (.getfield 26, 3) := by decide +kernel
theorem dX12_parseBehind_138 : decode cX12_parseBehind 138 = .ok (.iconst 5, 1) := by decide +kernel
theorem dX12_parseBehind_139 : decode cX12_parseBehind 139 = .ok (.invokestatic 309, 3) := by decide +kernel
theorem dX12_parseBehind_142 : decode cX12_parseBehind 142 = .ok (.aload_n 0, 1) := by decide +kernel
theorem dX12_parseBehind_143 : decode cX12_parseBehind 143 = .ok (.iconst 1, 1) := by decide +kernel
theorem dX12_parseBehind_144 : decode cX12_parseBehind 144 = .ok (.bipush 8, 2) := by decide +kernel
theorem dX12_parseBehind_146 : decode cX12_parseBehind 146 = .ok (.invokevirtual 298, 3) := by decide +kernel
theorem dX12_parseBehind_149 : decode cX12_parseBehind 149 = .ok (.iastore, 1) := by decide +kernel
theorem dX12_parseBehind_150 : decode cX12_parseBehind 150 = .ok (.goto 112, 3) := by decide +kernel
theorem dX12_parseBehind_153 : decode cX12_parseBehind 153 = .ok (.aload_n 0, 1) := by decide +kernel
theorem dX12_parseBehind_154 : decode cX12_parseBehind 154 = .ok (.getfield 26, 3) := by decide +kernel
theorem dX12_parseBehind_157 : decode cX12_parseBehind 157 = .ok (.bipush 6, 2) := by decide +kernel
theorem dX12_parseBehind_159 : decode cX12_parseBehind 159 = .ok (.invokestatic 309, 3) := by decide +kernel
theorem dX12_parseBehind_162 : decode cX12_parseBehind 162 = .ok (.iconst 1, 1) := by decide +kernel
theorem dX12_parseBehind_163 : decode cX12_parseBehind 163 = .ok (.iastore, 1) := by decide +kernel
theorem dX12_parseBehind_164 : decode cX12_parseBehind 164 = .ok (.goto 98, 3) := by decide +kernel
theorem dX12_parseBehind_167 : decode cX12_parseBehind 167 = .ok (.aload_n 0, 1) := by decide +kernel
theorem dX12_parseBehind_168 : decode cX12_parseBehind 168 = .ok (.getfield 26, 3) := by decide +kernel
theorem dX12_parseBehind_171 : decode cX12_parseBehind 171 = .ok (.bipush 7, 2) := by decide +kernel
theorem dX12_parseBehind_173 : decode cX12_parseBehind 173 = .ok (.invokestatic 309, 3) := by decide +kernel
theorem dX12_parseBehind_176 : decode cX12_parseBehind 176 = .ok (.iconst 1, 1) := by decide +kernel
theorem dX12_parseBehind_177 : decode cX12_parseBehind 177 = .ok (.iastore, 1) := by decide +kernel
theorem dX12_parseBehind_178 : decode cX12_parseBehind 178 = .ok (.goto 84, 3) := by decide +kernel
theorem dX12_parseBehind_181 : decode cX12_parseBehind 181 = .ok (.aload_n 0, 1) := by decide +kernel
theorem dX12_parseBehind_182 : decode cX12_parseBehind 182 = .ok (.invokevirtual 327, 3) := by decide +kernel
theorem dX12_parseBehind_185 : decode cX12_parseBehind 185 = .ok (.goto 77, 3) := by decide +kernel
theorem dX12_parseBehind_188 : decode cX12_parseBehind 188 = .ok (.aload_n 0, 1) := by decide +kernel
theorem dX12_parseBehind_189 : decode cX12_parseBehind 189 = .ok (.invokevirtual 330, 3) := by decide +kernel
theorem dX12_parseBehind_192 : decode cX12_parseBehind 192 = .ok (.goto 70, 3) := by decide +kernel
theorem dX12_parseBehind_195 : decode cX12_parseBehind 195 = .ok (.aload_n 0, 1) := by decide +kernel
theorem dX12_parseBehind_196 : decode cX12_parseBehind 196 = .ok (.invokevirtual 333, 3) := by decide +kernel
theorem dX12_parseBehind_199 : decode cX12_parseBehind 199 = .ok (.goto 63, 3) := by decide +kernel
theorem dX12_parseBehind_202 : decode cX12_parseBehind 202 = .ok (.aload_n 0, 1) := by decide +kernel
theorem dX12_parseBehind_203 : decode cX12_parseBehind 203 = .ok (.getfield 26, 3) := by decide +kernel
theorem dX12_parseBehind_206 : decode cX12_parseBehind 206 = .ok (.bipush 8, 2) := by decide +kernel
theorem dX12_parseBehind_208 : decode cX12_parseBehind 208 = .ok (.invokestatic 309, 3) := by decide +kernel
theorem dX12_parseBehind_211 : decode cX12_parseBehind 211 = .ok (.aload_n 0, 1) := by decide +kernel
theorem dX12_parseBehind_212 : decode cX12_parseBehind 212 = .ok (.iconst 1, 1) := by decide +kernel
theorem dX12_parseBehind_213 : decode cX12_parseBehind 213 = .ok (.bipush 16, 2) := by decide +kernel
theorem dX12_parseBehind_215 : decode cX12_parseBehind 215 = .ok (.invokevirtual 298, 3) := by decide +kernel
theorem dX12_parseBehind_218 : decode cX12_parseBehind 218 = .ok (.iastore, 1) := by decide +kernel
theorem dX12_parseBehind_219 : decode cX12_parseBehind 219 = .ok (.aload_n 0, 1) := by decide +kernel
theorem dX12_parseBehind_220 : decode cX12_parseBehind 220 = .ok (.getfield 26, 3) := by decide +kernel
theorem dX12_parseBehind_223 : decode cX12_parseBehind 223 = .ok (.bipush 9, 2) := by decide +kernel
theorem dX12_parseBehind_225 : decode cX12_parseBehind 225 = .ok (.invokestatic 309, 3) := by decide +kernel
theorem dX12_parseBehind_228 : decode cX12_parseBehind 228 = .ok (.aload_n 0, 1) := by decide +kernel
theorem dX12_parseBehind_229 : decode cX12_parseBehind 229 = .ok (.bipush 23, 2) := by decide +kernel
theorem dX12_parseBehind_231 : decode cX12_parseBehind 231 = .ok (.invokevirtual 289, 3) := by decide +kernel
theorem dX12_parseBehind_234 : decode cX12_parseBehind 234 = .ok (.ifCond .eq 7, 3) := by decide +kernel
theorem dX12_parseBehind_237 : decode cX12_parseBehind 237 = .ok (.iconst 1, 1) := by decide +kernel
theorem dX12_parseBehind_238 : decode cX12_parseBehind 238 = .ok (.goto 4, 3) := by decide +kernel
theorem dX12_parseBehind_241 : decode cX12_parseBehind 241 = .ok (.iconst 0, 1) := by decide +kernel
theorem dX12_parseBehind_242 : decode cX12_parseBehind 242 = .ok (.iastore, 1) := by decide +kernel
theorem dX12_parseBehind_243 : decode cX12_parseBehind 243 = .ok (.goto 19, 3) := by decide +kernel
theorem dX12_parseBehind_246 : decode cX12_parseBehind 246 = .ok (.aload_n 0, 1) := by decide +kernel
theorem dX12_parseBehind_247 : decode cX12_parseBehind 247 = .ok (.getfield 29, 3) := by decide +kernel
theorem dX12_parseBehind_250 : decode cX12_parseBehind 250 = .ok (.sipush 1898, 3) := by decide +kernel
theorem dX12_parseBehind_253 : decode cX12_parseBehind 253 = .ok (.aload_n 0, 1) := by decide +kernel
theorem dX12_parseBehind_254 : decode cX12_parseBehind 254 = .ok (.iconst 0, 1) := by decide +kernel
theorem dX12_parseBehind_255 : decode cX12_parseBehind 255 = .ok (.sipush 999, 3) := by decide +kernel
theorem dX12_parseBehind_258 : decode cX12_parseBehind 258 = .ok (.invokevirtual 298, 3) := by decide +kernel
theorem dX12_parseBehind_261 : decode cX12_parseBehind 261 = .ok (.iastore, 1) := by decide +kernel
theorem dX12_parseBehind_262 : decode cX12_parseBehind 262 = .ok (.return_, 1) := by decide +kernel
theorem dX12_parseStatement_0 : decode cX12_parseStatement 0 = .ok (.aload_n 0, 1) := by decide +kernel
theorem dX12_parseStatement_1 : decode cX12_parseStatement 1 = .ok (.getfield 119, 3) := by decide +kernel
theorem dX12_parseStatement_4 : decode cX12_parseStatement 4 = .ok (.iconst 1, 1) := by decide +kernel
theorem dX12_parseStatement_5 : decode cX12_parseStatement 5 = .ok (.if_icmp .ne 13, 3) := by decide +kernel
theorem dX12_parseStatement_8 : decode cX12_parseStatement 8 = .ok (.aload_n 0, 1) := by decide +kernel
theorem dX12_parseStatement_9 : decode cX12_parseStatement 9 = .ok (.getfield 131, 3) := by decide +kernel
theorem dX12_parseStatement_12 : decode cX12_parseStatement 12 = .ok (.invokestatic 336, 3) := by decide +kernel
theorem dX12_parseStatement_15 : decode cX12_parseStatement 15 = .ok (.ifCond .ne 9, 3) := by decide +kernel
theorem dX12_parseStatement_18 : decode cX12_parseStatement 18 = .ok (.aload_n 0, 1) := by decide +kernel
theorem dX12_parseStatement_19 : decode cX12_parseStatement 19 = .ok (.iconst 1, 1) := by decide +kernel
theorem dX12_parseStatement_20 : decode cX12_parseStatement 20 = .ok (.invokevirtual 292, 3) := by decide +kernel
theorem dX12_parseStatement_23 : decode cX12_parseStatement 23 = .ok (.return_, 1) := by decide +kernel
theorem dX12_parseStatement_24 : decode cX12_parseStatement 24 = .ok (.aload_n 0, 1) := by decide +kernel
theorem dX12_parseStatement_25 : decode cX12_parseStatement 25 = .ok (.getfield 131, 3) := by decide +kernel
theorem dX12_parseStatement_28 : decode cX12_parseStatement 28 = .ok (.istore_n 1, 1) := by decide +kernel
theorem dX12_parseStatement_29 : decode cX12_parseStatement 29 = .ok (.aload_n 0, 1) := by decide +kernel
theorem dX12_parseStatement_30 : decode cX12_parseStatement 30 = .ok (.getfield 140, 3) := by decide +kernel
theorem dX12_parseStatement_33 : decode cX12_parseStatement 33 = .ok (.iload_n 1, 1) := by decide +kernel
theorem dX12_parseStatement_34 : decode cX12_parseStatement 34 = .ok (.baload, 1) := by decide +kernel
theorem dX12_parseStatement_35 : decode cX12_parseStatement 35 = .ok (.ifCond .eq 15, 3) := by decide +kernel
theorem dX12_parseStatement_38 : decode cX12_parseStatement 38 = .ok (.iload_n 1, 1) := by decide +kernel
theorem dX12_parseStatement_39 : decode cX12_parseStatement 39 = .ok (.invokestatic 339, 3) := by decide +kernel
theorem dX12_parseStatement_42 : decode cX12_parseStatement 42 = .ok (.ifCond .ne 8, 3) := by decide +kernel
theorem dX12_parseStatement_45 : decode cX12_parseStatement 45 = .ok (.aload_n 0, 1) := by decide +kernel
theorem dX12_parseStatement_46 : decode cX12_parseStatement 46 = .ok (.iconst 3, 1) := by decide +kernel
theorem dX12_parseStatement_47 : decode cX12_parseStatement 47 = .ok (.invokevirtual 292, 3) := by decide +kernel
theorem dX12_parseStatement_50 : decode cX12_parseStatement 50 = .ok (.aload_n 0, 1) := by decide +kernel
theorem dX12_parseStatement_51 : decode cX12_parseStatement 51 = .ok (.getfield 140, 3) := by decide +kernel
theorem dX12_parseStatement_54 : decode cX12_parseStatement 54 = .ok (.iload_n 1, 1) := by decide +kernel
theorem dX12_parseStatement_55 : decode cX12_parseStatement 55 = .ok (.iconst 1, 1) := by decide +kernel
theorem dX12_parseStatement_56 : decode cX12_parseStatement 56 = .ok (.bastore, 1) := by decide +kernel
theorem dX12_parseStatement_57 : decode cX12_parseStatement 57 = .ok (.aload_n 0, 1) := by decide +kernel
theorem dX12_parseStatement_58 : decode cX12_parseStatement 58 = .ok (.invokevirtual 279, 3) := by decide +kernel
theorem dX12_parseStatement_61 : decode cX12_parseStatement 61 = .ok (.ifCond .ne 4, 3) := by decide +kernel
theorem dX12_parseStatement_64 : decode cX12_parseStatement 64 = .ok (.return_, 1) := by decide +kernel
theorem dX12_parseStatement_65 : decode cX12_parseStatement 65 = .ok (.aload_n 0, 1) := by decide +kernel
theorem dX12_parseStatement_66 : decode cX12_parseStatement 66 = .ok (.invokevirtual 286, 3) := by decide +kernel
theorem dX12_parseStatement_69 : decode cX12_parseStatement 69 = .ok (.aload_n 0, 1) := by decide +kernel
theorem dX12_parseStatement_70 : decode cX12_parseStatement 70 = .ok (.iload_n 1, 1) := by decide +kernel
theorem dX12_parseStatement_71 : decode cX12_parseStatement 71 = .ok (.invokevirtual 342, 3) := by decide +kernel
theorem dX12_parseStatement_74 : decode cX12_parseStatement 74 = .ok (.aload_n 0, 1) := by decide +kernel
theorem dX12_parseStatement_75 : decode cX12_parseStatement 75 = .ok (.invokevirtual 279, 3) := by decide +kernel
theorem dX12_parseStatement_78 : decode cX12_parseStatement 78 = .ok (.ifCond .ne 4, 3) := by decide +kernel
theorem dX12_parseStatement_81 : decode cX12_parseStatement 81 = .ok (.return_, 1) := by decide +kernel
theorem dX12_parseStatement_82 : decode cX12_parseStatement 82 = .ok (.aload_n 0, 1) := by decide +kernel
theorem dX12_parseStatement_83 : decode cX12_parseStatement 83 = .ok (.bipush 59, 2) := by decide +kernel
theorem dX12_parseStatement_85 : decode cX12_parseStatement 85 = .ok (.invokevirtual 295, 3) := by decide +kernel
theorem dX12_parseStatement_88 : decode cX12_parseStatement 88 = .ok (.ifCond .eq 10, 3) := by decide +kernel
theorem dX12_parseStatement_91 : decode cX12_parseStatement 91 = .ok (.aload_n 0, 1) := by decide +kernel
theorem dX12_parseStatement_92 : decode cX12_parseStatement 92 = .ok (.invokevirtual 286, 3) := by decide +kernel
theorem dX12_parseStatement_95 : decode cX12_parseStatement 95 = .ok (.goto 8, 3) := by decide +kernel
theorem dX12_parseStatement_98 : decode cX12_parseStatement 98 = .ok (.aload_n 0, 1) := by decide +kernel
theorem dX12_parseStatement_99 : decode cX12_parseStatement 99 = .ok (.iconst 1, 1) := by decide +kernel
theorem dX12_parseStatement_100 : decode cX12_parseStatement 100 = .ok (.invokevirtual 292, 3) := by decide +kernel
theorem dX12_parseStatement_103 : decode cX12_parseStatement 103 = .ok (.return_, 1) := by decide +kernel
theorem dX12_setup_0 : decode cX12_setup 0 = .ok (.aload_n 0, 1) := by decide +kernel
theorem dX12_setup_1 : decode cX12_setup 1 = .ok (.iconst 0, 1) := by decide +kernel
theorem dX12_setup_2 : decode cX12_setup 2 = .ok (.putfield 1, 3) := by decide +kernel
theorem dX12_setup_5 : decode cX12_setup 5 = .ok (.aload_n 0, 1) := by decide +kernel
theorem dX12_setup_6 : decode cX12_setup 6 = .ok (.iconst 0, 1) := by decide +kernel
theorem dX12_setup_7 : decode cX12_setup 7 = .ok (.putfield 134, 3) := by decide +kernel
theorem dX12_setup_10 : decode cX12_setup 10 = .ok (.aload_n 0, 1) := by decide +kernel
theorem dX12_setup_11 : decode cX12_setup 11 = .ok (.iconst (-1), 1) := by decide +kernel
theorem dX12_setup_12 : decode cX12_setup 12 = .ok (.putfield 137, 3) := by decide +kernel
theorem dX12_setup_15 : decode cX12_setup 15 = .ok (.aload_n 0, 1) := by decide +kernel
theorem dX12_setup_16 : decode cX12_setup 16 = .ok (.aload_n 0, 1) := by decide +kernel
theorem dX12_setup_17 : decode cX12_setup 17 = .ok (.getfield 11, 3) := by decide +kernel
theorem dX12_setup_20 : decode cX12_setup 20 = .ok (.putfield 113, 3) := by decide +kernel
theorem dX12_setup_23 : decode cX12_setup 23 = .ok (.aload_n 0, 1) := by decide +kernel
theorem dX12_setup_24 : decode cX12_setup 24 = .ok (.iconst 0, 1) := by decide +kernel
theorem dX12_setup_25 : decode cX12_setup 25 = .ok (.putfield 11, 3) := by decide +kernel
theorem dX12_setup_28 : decode cX12_setup 28 = .ok (.aload_n 0, 1) := by decide +kernel
theorem dX12_setup_29 : decode cX12_setup 29 = .ok (.iconst 0, 1) := by decide +kernel
theorem dX12_setup_30 : decode cX12_setup 30 = .ok (.putfield 116, 3) := by decide +kernel
theorem dX12_setup_33 : decode cX12_setup 33 = .ok (.aload_n 0, 1) := by decide +kernel
theorem dX12_setup_34 : decode cX12_setup 34 = .ok (.invokevirtual 286, 3) := by decide +kernel
theorem dX12_setup_37 : decode cX12_setup 37 = .ok (.iconst 0, 1) := by decide +kernel
theorem dX12_setup_38 : decode cX12_setup 38 = .ok (.istore_n 1, 1) := by decide +kernel
theorem dX12_setup_39 : decode cX12_setup 39 = .ok (.iload_n 1, 1) := by decide +kernel
theorem dX12_setup_40 : decode cX12_setup 40 = .ok (.bipush 25, 2) := by decide +kernel
theorem dX12_setup_42 : decode cX12_setup 42 = .ok (.if_icmp .ge 16, 3) := by decide +kernel
theorem dX12_setup_45 : decode cX12_setup 45 = .ok (.aload_n 0, 1) := by decide +kernel
theorem dX12_setup_46 : decode cX12_setup 46 = .ok (.getfield 140, 3) := by decide +kernel
theorem dX12_setup_49 : decode cX12_setup 49 = .ok (.iload_n 1, 1) := by decide +kernel
theorem dX12_setup_50 : decode cX12_setup 50 = .ok (.iconst 0, 1) := by decide +kernel
theorem dX12_setup_51 : decode cX12_setup 51 = .ok (.bastore, 1) := by decide +kernel
theorem dX12_setup_52 : decode cX12_setup 52 = .ok (.iinc 1 1, 3) := by decide +kernel
theorem dX12_setup_55 : decode cX12_setup 55 = .ok (.goto (-16), 3) := by decide +kernel
theorem dX12_setup_58 : decode cX12_setup 58 = .ok (.iconst 0, 1) := by decide +kernel
theorem dX12_setup_59 : decode cX12_setup 59 = .ok (.istore_n 1, 1) := by decide +kernel
theorem dX12_setup_60 : decode cX12_setup 60 = .ok (.iload_n 1, 1) := by decide +kernel
theorem dX12_setup_61 : decode cX12_setup 61 = .ok (.bipush 8, 2) := by decide +kernel
theorem dX12_setup_63 : decode cX12_setup 63 = .ok (.if_icmp .ge 16, 3) := by decide +kernel
theorem dX12_setup_66 : decode cX12_setup 66 = .ok (.aload_n 0, 1) := by decide +kernel
theorem dX12_setup_67 : decode cX12_setup 67 = .ok (.getfield 143, 3) := by decide +kernel
theorem dX12_setup_70 : decode cX12_setup 70 = .ok (.iload_n 1, 1) := by decide +kernel
theorem dX12_setup_71 : decode cX12_setup 71 = .ok (.iconst 0, 1) := by decide +kernel
theorem dX12_setup_72 : decode cX12_setup 72 = .ok (.bastore, 1) := by decide +kernel
theorem dX12_setup_73 : decode cX12_setup 73 = .ok (.iinc 1 1, 3) := by decide +kernel
theorem dX12_setup_76 : decode cX12_setup 76 = .ok (.goto (-16), 3) := by decide +kernel
theorem dX12_setup_79 : decode cX12_setup 79 = .ok (.iconst 0, 1) := by decide +kernel
theorem dX12_setup_80 : decode cX12_setup 80 = .ok (.istore_n 1, 1) := by decide +kernel
theorem dX12_setup_81 : decode cX12_setup 81 = .ok (.iload_n 1, 1) := by decide +kernel
theorem dX12_setup_82 : decode cX12_setup 82 = .ok (.iconst 4, 1) := by decide +kernel
theorem dX12_setup_83 : decode cX12_setup 83 = .ok (.if_icmp .ge 16, 3) := by decide +kernel
theorem dX12_setup_86 : decode cX12_setup 86 = .ok (.aload_n 0, 1) := by decide +kernel
theorem dX12_setup_87 : decode cX12_setup 87 = .ok (.getfield 146, 3) := by decide +kernel
theorem dX12_setup_90 : decode cX12_setup 90 = .ok (.iload_n 1, 1) := by decide +kernel
theorem dX12_setup_91 : decode cX12_setup 91 = .ok (.iconst 0, 1) := by decide +kernel
theorem dX12_setup_92 : decode cX12_setup 92 = .ok (.bastore, 1) := by decide +kernel
theorem dX12_setup_93 : decode cX12_setup 93 = .ok (.iinc 1 1, 3) := by decide +kernel
theorem dX12_setup_96 : decode cX12_setup 96 = .ok (.goto (-15), 3) := by decide +kernel
theorem dX12_setup_99 : decode cX12_setup 99 = .ok (.aload_n 0, 1) := by decide +kernel
theorem dX12_setup_100 : decode cX12_setup 100 = .ok (.bipush 52, 2) := by decide +kernel
theorem dX12_setup_102 : decode cX12_setup 102 = .ok (.invokevirtual 149, 3) := by decide +kernel
theorem dX12_setup_105 : decode cX12_setup 105 = .ok (.aload_n 0, 1) := by decide +kernel
theorem dX12_setup_106 : decode cX12_setup 106 = .ok (.iconst 4, 1) := by decide +kernel
theorem dX12_setup_107 : decode cX12_setup 107 = .ok (.invokevirtual 152, 3) := by decide +kernel
theorem dX12_setup_110 : decode cX12_setup 110 = .ok (.iconst 0, 1) := by decide +kernel
theorem dX12_setup_111 : decode cX12_setup 111 = .ok (.istore_n 1, 1) := by decide +kernel
theorem dX12_setup_112 : decode cX12_setup 112 = .ok (.aload_n 0, 1) := by decide +kernel
theorem dX12_setup_113 : decode cX12_setup 113 = .ok (.invokevirtual 279, 3) := by decide +kernel
theorem dX12_setup_116 : decode cX12_setup 116 = .ok (.ifCond .eq 20, 3) := by decide +kernel
theorem dX12_setup_119 : decode cX12_setup 119 = .ok (.aload_n 0, 1) := by decide +kernel
theorem dX12_setup_120 : decode cX12_setup 120 = .ok (.getfield 119, 3) := by decide +kernel
theorem dX12_setup_123 : decode cX12_setup 123 = .ok (.ifCond .eq 13, 3) := by decide +kernel
theorem dX12_setup_126 : decode cX12_setup 126 = .ok (.aload_n 0, 1) := by decide +kernel
theorem dX12_setup_127 : decode cX12_setup 127 = .ok (.invokevirtual 345, 3) := by decide +kernel
theorem dX12_setup_130 : decode cX12_setup 130 = .ok (.iinc 1 1, 3) := by decide +kernel
theorem dX12_setup_133 : decode cX12_setup 133 = .ok (.goto (-21), 3) := by decide +kernel
theorem dX12_setup_136 : decode cX12_setup 136 = .ok (.aload_n 0, 1) := by decide +kernel
theorem dX12_setup_137 : decode cX12_setup 137 = .ok (.invokevirtual 279, 3) := by decide +kernel
theorem dX12_setup_140 : decode cX12_setup 140 = .ok (.ifCond .ne 5, 3) := by decide +kernel
theorem dX12_setup_143 : decode cX12_setup 143 = .ok (.iconst (-1), 1) := by decide +kernel
theorem dX12_setup_144 : decode cX12_setup 144 = .ok (.ireturn, 1) := by decide +kernel
theorem dX12_setup_145 : decode cX12_setup 145 = .ok (.iconst 0, 1) := by decide +kernel
theorem dX12_setup_146 : decode cX12_setup 146 = .ok (.istore_n 2, 1) := by decide +kernel
theorem dX12_setup_147 : decode cX12_setup 147 = .ok (.iload_n 2, 1) := by decide +kernel
theorem dX12_setup_148 : decode cX12_setup 148 = .ok (.bipush 52, 2) := by decide +kernel
theorem dX12_setup_150 : decode cX12_setup 150 = .ok (.if_icmp .ge 24, 3) := by decide +kernel
theorem dX12_setup_153 : decode cX12_setup 153 = .ok (.aload_n 0, 1) := by decide +kernel
theorem dX12_setup_154 : decode cX12_setup 154 = .ok (.getfield 26, 3) := by decide +kernel
theorem dX12_setup_157 : decode cX12_setup 157 = .ok (.iload_n 2, 1) := by decide +kernel
theorem dX12_setup_158 : decode cX12_setup 158 = .ok (.aload_n 0, 1) := by decide +kernel
theorem dX12_setup_159 : decode cX12_setup 159 = .ok (.getfield 26, 3) := by decide +kernel
theorem dX12_setup_162 : decode cX12_setup 162 = .ok (.bipush 52, 2) := by decide +kernel
theorem dX12_setup_164 : decode cX12_setup 164 = .ok (.iload_n 2, 1) := by decide +kernel
theorem dX12_setup_165 : decode cX12_setup 165 = .ok (.iadd, 1) := by decide +kernel
theorem dX12_setup_166 : decode cX12_setup 166 = .ok (.iaload, 1) := by decide +kernel
theorem dX12_setup_167 : decode cX12_setup 167 = .ok (.iastore, 1) := by decide +kernel
theorem dX12_setup_168 : decode cX12_setup 168 = .ok (.iinc 2 1, 3) := by decide +kernel
theorem dX12_setup_171 : decode cX12_setup 171 = .ok (.goto (-24), 3) := by decide +kernel
theorem dX12_setup_174 : decode cX12_setup 174 = .ok (.aload_n 0, 1) := by decide +kernel
theorem dX12_setup_175 : decode cX12_setup 175 = .ok (.iconst 4, 1) := by decide +kernel
theorem dX12_setup_176 : decode cX12_setup 176 = .ok (.iconst 0, 1) := by decide +kernel
theorem dX12_setup_177 : decode cX12_setup 177 = .ok (.invokevirtual 248, 3) := by decide +kernel
theorem dX12_setup_180 : decode cX12_setup 180 = .ok (.aload_n 0, 1) := by decide +kernel
theorem dX12_setup_181 : decode cX12_setup 181 = .ok (.getfield 56, 3) := by decide +kernel
theorem dX12_setup_184 : decode cX12_setup 184 = .ok (.iconst 0, 1) := by decide +kernel
theorem dX12_setup_185 : decode cX12_setup 185 = .ok (.iconst 0, 1) := by decide +kernel
theorem dX12_setup_186 : decode cX12_setup 186 = .ok (.bastore, 1) := by decide +kernel
theorem dX12_setup_187 : decode cX12_setup 187 = .ok (.aload_n 0, 1) := by decide +kernel
theorem dX12_setup_188 : decode cX12_setup 188 = .ok (.getfield 56, 3) := by decide +kernel
theorem dX12_setup_191 : decode cX12_setup 191 = .ok (.iconst 1, 1) := by decide +kernel
theorem dX12_setup_192 : decode cX12_setup 192 = .ok (.iconst 0, 1) := by decide +kernel
theorem dX12_setup_193 : decode cX12_setup 193 = .ok (.bastore, 1) := by decide +kernel
theorem dX12_setup_194 : decode cX12_setup 194 = .ok (.iload_n 1, 1) := by decide +kernel
theorem dX12_setup_195 : decode cX12_setup 195 = .ok (.ireturn, 1) := by decide +kernel
theorem dL_append_0 : decode cL_append 0 = .ok (.aload 6, 2) := by decide +kernel
theorem dL_append_2 : decode cL_append 2 = .ok (.iconst 0, 1) := by decide +kernel
theorem dL_append_3 : decode cL_append 3 = .ok (.aload_n 0, 1) := by decide +kernel
theorem dL_append_4 : decode cL_append 4 = .ok (.iload_n 1, 1) := by decide +kernel
theorem dL_append_5 : decode cL_append 5 = .ok (.iload_n 2, 1) := by decide +kernel
theorem dL_append_6 : decode cL_append 6 = .ok (.iload_n 3, 1) := by decide +kernel
theorem dL_append_7 : decode cL_append 7 = .ok (.iload 4, 2) := by decide +kernel
theorem dL_append_9 : decode cL_append 9 = .ok (.iload 5, 2) := by decide +kernel
theorem dL_append_11 : decode cL_append 11 = .ok (.invokevirtual 7, 3) := by decide +kernel
theorem dL_append_14 : decode cL_append 14 = .ok (.i2l, 1) := by decide +kernel
theorem dL_append_15 : decode cL_append 15 = .ok (.lastore, 1) := by decide +kernel
theorem dL_append_16 : decode cL_append 16 = .ok (.goto 7, 3) := by decide +kernel
theorem dL_append_19 : decode cL_append 19 = .ok (.astore 7, 2) := by decide +kernel
theorem dL_append_21 : decode cL_append 21 = .ok (.iconst 1, 1) := by decide +kernel
theorem dL_append_22 : decode cL_append 22 = .ok (.ireturn, 1) := by decide +kernel
theorem dL_append_23 : decode cL_append 23 = .ok (.iconst 0, 1) := by decide +kernel
theorem dL_append_24 : decode cL_append 24 = .ok (.ireturn, 1) := by decide +kernel
theorem dL_truncate_0 : decode cL_truncate 0 = .ok (.aload_n 2, 1) := by decide +kernel
theorem dL_truncate_1 : decode cL_truncate 1 = .ok (.iconst 0, 1) := by decide +kernel
theorem dL_truncate_2 : decode cL_truncate 2 = .ok (.aload_n 0, 1) := by decide +kernel
theorem dL_truncate_3 : decode cL_truncate 3 = .ok (.iload_n 1, 1) := by decide +kernel
theorem dL_truncate_4 : decode cL_truncate 4 = .ok (.invokevirtual 15, 3) := by decide +kernel
theorem dL_truncate_7 : decode cL_truncate 7 = .ok (.i2l, 1) := by decide +kernel
theorem dL_truncate_8 : decode cL_truncate 8 = .ok (.lastore, 1) := by decide +kernel
theorem dL_truncate_9 : decode cL_truncate 9 = .ok (.goto 6, 3) := by decide +kernel
theorem dL_truncate_12 : decode cL_truncate 12 = .ok (.astore_n 3, 1) := by decide +kernel
theorem dL_truncate_13 : decode cL_truncate 13 = .ok (.iconst 1, 1) := by decide +kernel
theorem dL_truncate_14 : decode cL_truncate 14 = .ok (.ireturn, 1) := by decide +kernel
theorem dL_truncate_15 : decode cL_truncate 15 = .ok (.iconst 0, 1) := by decide +kernel
theorem dL_truncate_16 : decode cL_truncate 16 = .ok (.ireturn, 1) := by decide +kernel
theorem dL_run_0 : decode cL_run 0 = .ok (.aload_n 2, 1) := by decide +kernel
theorem dL_run_1 : decode cL_run 1 = .ok (.iconst 0, 1) := by decide +kernel
theorem dL_run_2 : decode cL_run 2 = .ok (.aload_n 0, 1) := by decide +kernel
theorem dL_run_3 : decode cL_run 3 = .ok (.iload_n 1, 1) := by decide +kernel
theorem dL_run_4 : decode cL_run 4 = .ok (.invokevirtual 21, 3) := by decide +kernel
theorem dL_run_7 : decode cL_run 7 = .ok (.i2l, 1) := by decide +kernel
theorem dL_run_8 : decode cL_run 8 = .ok (.lastore, 1) := by decide +kernel
theorem dL_run_9 : decode cL_run 9 = .ok (.goto 6, 3) := by decide +kernel
theorem dL_run_12 : decode cL_run 12 = .ok (.astore_n 3, 1) := by decide +kernel
theorem dL_run_13 : decode cL_run 13 = .ok (.iconst 1, 1) := by decide +kernel
theorem dL_run_14 : decode cL_run 14 = .ok (.ireturn, 1) := by decide +kernel
theorem dL_run_15 : decode cL_run 15 = .ok (.iconst 0, 1) := by decide +kernel
theorem dL_run_16 : decode cL_run 16 = .ok (.ireturn, 1) := by decide +kernel
theorem dL_fire_0 : decode cL_fire 0 = .ok (.aload_n 2, 1) := by decide +kernel
theorem dL_fire_1 : decode cL_fire 1 = .ok (.iconst 0, 1) := by decide +kernel
theorem dL_fire_2 : decode cL_fire 2 = .ok (.aload_n 0, 1) := by decide +kernel
theorem dL_fire_3 : decode cL_fire 3 = .ok (.iload_n 1, 1) := by decide +kernel
theorem dL_fire_4 : decode cL_fire 4 = .ok (.invokevirtual 24, 3) := by decide +kernel
theorem dL_fire_7 : decode cL_fire 7 = .ok (.i2l, 1) := by decide +kernel
theorem dL_fire_8 : decode cL_fire 8 = .ok (.lastore, 1) := by decide +kernel
theorem dL_fire_9 : decode cL_fire 9 = .ok (.goto 6, 3) := by decide +kernel
theorem dL_fire_12 : decode cL_fire 12 = .ok (.astore_n 3, 1) := by decide +kernel
theorem dL_fire_13 : decode cL_fire 13 = .ok (.iconst 1, 1) := by decide +kernel
theorem dL_fire_14 : decode cL_fire 14 = .ok (.ireturn, 1) := by decide +kernel
theorem dL_fire_15 : decode cL_fire 15 = .ok (.iconst 0, 1) := by decide +kernel
theorem dL_fire_16 : decode cL_fire 16 = .ok (.ireturn, 1) := by decide +kernel
theorem dL_take_0 : decode cL_take 0 = .ok (.aload_n 1, 1) := by decide +kernel
theorem dL_take_1 : decode cL_take 1 = .ok (.iconst 0, 1) := by decide +kernel
theorem dL_take_2 : decode cL_take 2 = .ok (.aload_n 0, 1) := by decide +kernel
theorem dL_take_3 : decode cL_take 3 = .ok (.invokevirtual 29, 3) := by decide +kernel
theorem dL_take_6 : decode cL_take 6 = .ok (.i2l, 1) := by decide +kernel
theorem dL_take_7 : decode cL_take 7 = .ok (.lastore, 1) := by decide +kernel
theorem dL_take_8 : decode cL_take 8 = .ok (.goto 6, 3) := by decide +kernel
theorem dL_take_11 : decode cL_take 11 = .ok (.astore_n 2, 1) := by decide +kernel
theorem dL_take_12 : decode cL_take 12 = .ok (.iconst 1, 1) := by decide +kernel
theorem dL_take_13 : decode cL_take 13 = .ok (.ireturn, 1) := by decide +kernel
theorem dL_take_14 : decode cL_take 14 = .ok (.iconst 0, 1) := by decide +kernel
theorem dL_take_15 : decode cL_take 15 = .ok (.ireturn, 1) := by decide +kernel
theorem dL_acknowledge_0 : decode cL_acknowledge 0 = .ok (.aload_n 2, 1) := by decide +kernel
theorem dL_acknowledge_1 : decode cL_acknowledge 1 = .ok (.iconst 0, 1) := by decide +kernel
theorem dL_acknowledge_2 : decode cL_acknowledge 2 = .ok (.aload_n 0, 1) := by decide +kernel
theorem dL_acknowledge_3 : decode cL_acknowledge 3 = .ok (.iload_n 1, 1) := by decide +kernel
theorem dL_acknowledge_4 : decode cL_acknowledge 4 = .ok (.invokevirtual 35, 3) := by decide +kernel
theorem dL_acknowledge_7 : decode cL_acknowledge 7 = .ok (.i2l, 1) := by decide +kernel
theorem dL_acknowledge_8 : decode cL_acknowledge 8 = .ok (.lastore, 1) := by decide +kernel
theorem dL_acknowledge_9 : decode cL_acknowledge 9 = .ok (.goto 6, 3) := by decide +kernel
theorem dL_acknowledge_12 : decode cL_acknowledge 12 = .ok (.astore_n 3, 1) := by decide +kernel
theorem dL_acknowledge_13 : decode cL_acknowledge 13 = .ok (.iconst 1, 1) := by decide +kernel
theorem dL_acknowledge_14 : decode cL_acknowledge 14 = .ok (.ireturn, 1) := by decide +kernel
theorem dL_acknowledge_15 : decode cL_acknowledge 15 = .ok (.iconst 0, 1) := by decide +kernel
theorem dL_acknowledge_16 : decode cL_acknowledge 16 = .ok (.ireturn, 1) := by decide +kernel
theorem dL_setSignal_0 : decode cL_setSignal 0 = .ok (.aload 5, 2) := by decide +kernel
theorem dL_setSignal_2 : decode cL_setSignal 2 = .ok (.iconst 0, 1) := by decide +kernel
theorem dL_setSignal_3 : decode cL_setSignal 3 = .ok (.aload_n 0, 1) := by decide +kernel
theorem dL_setSignal_4 : decode cL_setSignal 4 = .ok (.iload_n 1, 1) := by decide +kernel
theorem dL_setSignal_5 : decode cL_setSignal 5 = .ok (.iload_n 2, 1) := by decide +kernel
theorem dL_setSignal_6 : decode cL_setSignal 6 = .ok (.iload_n 3, 1) := by decide +kernel
theorem dL_setSignal_7 : decode cL_setSignal 7 = .ok (.iload 4, 2) := by decide +kernel
theorem dL_setSignal_9 : decode cL_setSignal 9 = .ok (.invokevirtual 38, 3) := by decide +kernel
theorem dL_setSignal_12 : decode cL_setSignal 12 = .ok (.i2l, 1) := by decide +kernel
theorem dL_setSignal_13 : decode cL_setSignal 13 = .ok (.lastore, 1) := by decide +kernel
theorem dL_setSignal_14 : decode cL_setSignal 14 = .ok (.goto 11, 3) := by decide +kernel
theorem dL_setSignal_17 : decode cL_setSignal 17 = .ok (.astore 6, 2) := by decide +kernel
theorem dL_setSignal_19 : decode cL_setSignal 19 = .ok (.iconst 1, 1) := by decide +kernel
theorem dL_setSignal_20 : decode cL_setSignal 20 = .ok (.ireturn, 1) := by decide +kernel
theorem dL_setSignal_21 : decode cL_setSignal 21 = .ok (.astore 6, 2) := by decide +kernel
theorem dL_setSignal_23 : decode cL_setSignal 23 = .ok (.iconst 2, 1) := by decide +kernel
theorem dL_setSignal_24 : decode cL_setSignal 24 = .ok (.ireturn, 1) := by decide +kernel
theorem dL_setSignal_25 : decode cL_setSignal 25 = .ok (.iconst 0, 1) := by decide +kernel
theorem dL_setSignal_26 : decode cL_setSignal 26 = .ok (.ireturn, 1) := by decide +kernel
theorem dL_setSample_0 : decode cL_setSample 0 = .ok (.aload_n 3, 1) := by decide +kernel
theorem dL_setSample_1 : decode cL_setSample 1 = .ok (.iconst 0, 1) := by decide +kernel
theorem dL_setSample_2 : decode cL_setSample 2 = .ok (.aload_n 0, 1) := by decide +kernel
theorem dL_setSample_3 : decode cL_setSample 3 = .ok (.iload_n 1, 1) := by decide +kernel
theorem dL_setSample_4 : decode cL_setSample 4 = .ok (.iload_n 2, 1) := by decide +kernel
theorem dL_setSample_5 : decode cL_setSample 5 = .ok (.invokevirtual 42, 3) := by decide +kernel
theorem dL_setSample_8 : decode cL_setSample 8 = .ok (.i2l, 1) := by decide +kernel
theorem dL_setSample_9 : decode cL_setSample 9 = .ok (.lastore, 1) := by decide +kernel
theorem dL_setSample_10 : decode cL_setSample 10 = .ok (.goto 11, 3) := by decide +kernel
theorem dL_setSample_13 : decode cL_setSample 13 = .ok (.astore 4, 2) := by decide +kernel
theorem dL_setSample_15 : decode cL_setSample 15 = .ok (.iconst 1, 1) := by decide +kernel
theorem dL_setSample_16 : decode cL_setSample 16 = .ok (.ireturn, 1) := by decide +kernel
theorem dL_setSample_17 : decode cL_setSample 17 = .ok (.astore 4, 2) := by decide +kernel
theorem dL_setSample_19 : decode cL_setSample 19 = .ok (.iconst 2, 1) := by decide +kernel
theorem dL_setSample_20 : decode cL_setSample 20 = .ok (.ireturn, 1) := by decide +kernel
theorem dL_setSample_21 : decode cL_setSample 21 = .ok (.iconst 0, 1) := by decide +kernel
theorem dL_setSample_22 : decode cL_setSample 22 = .ok (.ireturn, 1) := by decide +kernel
theorem dL_setWindow_0 : decode cL_setWindow 0 = .ok (.aload 4, 2) := by decide +kernel
theorem dL_setWindow_2 : decode cL_setWindow 2 = .ok (.iconst 0, 1) := by decide +kernel
theorem dL_setWindow_3 : decode cL_setWindow 3 = .ok (.aload_n 0, 1) := by decide +kernel
theorem dL_setWindow_4 : decode cL_setWindow 4 = .ok (.iload_n 1, 1) := by decide +kernel
theorem dL_setWindow_5 : decode cL_setWindow 5 = .ok (.iload_n 2, 1) := by decide +kernel
theorem dL_setWindow_6 : decode cL_setWindow 6 = .ok (.iload_n 3, 1) := by decide +kernel
theorem dL_setWindow_7 : decode cL_setWindow 7 = .ok (.invokevirtual 46, 3) := by decide +kernel
theorem dL_setWindow_10 : decode cL_setWindow 10 = .ok (.i2l, 1) := by decide +kernel
theorem dL_setWindow_11 : decode cL_setWindow 11 = .ok (.lastore, 1) := by decide +kernel
theorem dL_setWindow_12 : decode cL_setWindow 12 = .ok (.goto 11, 3) := by decide +kernel
theorem dL_setWindow_15 : decode cL_setWindow 15 = .ok (.astore 5, 2) := by decide +kernel
theorem dL_setWindow_17 : decode cL_setWindow 17 = .ok (.iconst 1, 1) := by decide +kernel
theorem dL_setWindow_18 : decode cL_setWindow 18 = .ok (.ireturn, 1) := by decide +kernel
theorem dL_setWindow_19 : decode cL_setWindow 19 = .ok (.astore 5, 2) := by decide +kernel
theorem dL_setWindow_21 : decode cL_setWindow 21 = .ok (.iconst 2, 1) := by decide +kernel
theorem dL_setWindow_22 : decode cL_setWindow 22 = .ok (.ireturn, 1) := by decide +kernel
theorem dL_setWindow_23 : decode cL_setWindow 23 = .ok (.iconst 0, 1) := by decide +kernel
theorem dL_setWindow_24 : decode cL_setWindow 24 = .ok (.ireturn, 1) := by decide +kernel
theorem dL_setPace_0 : decode cL_setPace 0 = .ok (.aload_n 2, 1) := by decide +kernel
theorem dL_setPace_1 : decode cL_setPace 1 = .ok (.iconst 0, 1) := by decide +kernel
theorem dL_setPace_2 : decode cL_setPace 2 = .ok (.aload_n 0, 1) := by decide +kernel
theorem dL_setPace_3 : decode cL_setPace 3 = .ok (.iload_n 1, 1) := by decide +kernel
theorem dL_setPace_4 : decode cL_setPace 4 = .ok (.invokevirtual 50, 3) := by decide +kernel
theorem dL_setPace_7 : decode cL_setPace 7 = .ok (.i2l, 1) := by decide +kernel
theorem dL_setPace_8 : decode cL_setPace 8 = .ok (.lastore, 1) := by decide +kernel
theorem dL_setPace_9 : decode cL_setPace 9 = .ok (.goto 6, 3) := by decide +kernel
theorem dL_setPace_12 : decode cL_setPace 12 = .ok (.astore_n 3, 1) := by decide +kernel
theorem dL_setPace_13 : decode cL_setPace 13 = .ok (.iconst 1, 1) := by decide +kernel
theorem dL_setPace_14 : decode cL_setPace 14 = .ok (.ireturn, 1) := by decide +kernel
theorem dL_setPace_15 : decode cL_setPace 15 = .ok (.iconst 0, 1) := by decide +kernel
theorem dL_setPace_16 : decode cL_setPace 16 = .ok (.ireturn, 1) := by decide +kernel
theorem dL_state_0 : decode cL_state 0 = .ok (.aload_n 2, 1) := by decide +kernel
theorem dL_state_1 : decode cL_state 1 = .ok (.iconst 0, 1) := by decide +kernel
theorem dL_state_2 : decode cL_state 2 = .ok (.aload_n 0, 1) := by decide +kernel
theorem dL_state_3 : decode cL_state 3 = .ok (.iload_n 1, 1) := by decide +kernel
theorem dL_state_4 : decode cL_state 4 = .ok (.invokevirtual 53, 3) := by decide +kernel
theorem dL_state_7 : decode cL_state 7 = .ok (.i2l, 1) := by decide +kernel
theorem dL_state_8 : decode cL_state 8 = .ok (.lastore, 1) := by decide +kernel
theorem dL_state_9 : decode cL_state 9 = .ok (.goto 6, 3) := by decide +kernel
theorem dL_state_12 : decode cL_state 12 = .ok (.astore_n 3, 1) := by decide +kernel
theorem dL_state_13 : decode cL_state 13 = .ok (.iconst 1, 1) := by decide +kernel
theorem dL_state_14 : decode cL_state 14 = .ok (.ireturn, 1) := by decide +kernel
theorem dL_state_15 : decode cL_state 15 = .ok (.iconst 0, 1) := by decide +kernel
theorem dL_state_16 : decode cL_state 16 = .ok (.ireturn, 1) := by decide +kernel
theorem dL_sequence_0 : decode cL_sequence 0 = .ok (.aload_n 3, 1) := by decide +kernel
theorem dL_sequence_1 : decode cL_sequence 1 = .ok (.iconst 0, 1) := by decide +kernel
theorem dL_sequence_2 : decode cL_sequence 2 = .ok (.aload_n 0, 1) := by decide +kernel
theorem dL_sequence_3 : decode cL_sequence 3 = .ok (.iload_n 1, 1) := by decide +kernel
theorem dL_sequence_4 : decode cL_sequence 4 = .ok (.iload_n 2, 1) := by decide +kernel
theorem dL_sequence_5 : decode cL_sequence 5 = .ok (.invokevirtual 56, 3) := by decide +kernel
theorem dL_sequence_8 : decode cL_sequence 8 = .ok (.i2l, 1) := by decide +kernel
theorem dL_sequence_9 : decode cL_sequence 9 = .ok (.lastore, 1) := by decide +kernel
theorem dL_sequence_10 : decode cL_sequence 10 = .ok (.goto 7, 3) := by decide +kernel
theorem dL_sequence_13 : decode cL_sequence 13 = .ok (.astore 4, 2) := by decide +kernel
theorem dL_sequence_15 : decode cL_sequence 15 = .ok (.iconst 1, 1) := by decide +kernel
theorem dL_sequence_16 : decode cL_sequence 16 = .ok (.ireturn, 1) := by decide +kernel
theorem dL_sequence_17 : decode cL_sequence 17 = .ok (.iconst 0, 1) := by decide +kernel
theorem dL_sequence_18 : decode cL_sequence 18 = .ok (.ireturn, 1) := by decide +kernel
theorem dL_entry_0 : decode cL_entry 0 = .ok (.aload_n 3, 1) := by decide +kernel
theorem dL_entry_1 : decode cL_entry 1 = .ok (.iconst 0, 1) := by decide +kernel
theorem dL_entry_2 : decode cL_entry 2 = .ok (.aload_n 0, 1) := by decide +kernel
theorem dL_entry_3 : decode cL_entry 3 = .ok (.iload_n 1, 1) := by decide +kernel
theorem dL_entry_4 : decode cL_entry 4 = .ok (.iload_n 2, 1) := by decide +kernel
theorem dL_entry_5 : decode cL_entry 5 = .ok (.invokevirtual 60, 3) := by decide +kernel
theorem dL_entry_8 : decode cL_entry 8 = .ok (.i2l, 1) := by decide +kernel
theorem dL_entry_9 : decode cL_entry 9 = .ok (.lastore, 1) := by decide +kernel
theorem dL_entry_10 : decode cL_entry 10 = .ok (.goto 7, 3) := by decide +kernel
theorem dL_entry_13 : decode cL_entry 13 = .ok (.astore 4, 2) := by decide +kernel
theorem dL_entry_15 : decode cL_entry 15 = .ok (.iconst 1, 1) := by decide +kernel
theorem dL_entry_16 : decode cL_entry 16 = .ok (.ireturn, 1) := by decide +kernel
theorem dL_entry_17 : decode cL_entry 17 = .ok (.iconst 0, 1) := by decide +kernel
theorem dL_entry_18 : decode cL_entry 18 = .ok (.ireturn, 1) := by decide +kernel
theorem dL_channel_0 : decode cL_channel 0 = .ok (.aload_n 3, 1) := by decide +kernel
theorem dL_channel_1 : decode cL_channel 1 = .ok (.iconst 0, 1) := by decide +kernel
theorem dL_channel_2 : decode cL_channel 2 = .ok (.aload_n 0, 1) := by decide +kernel
theorem dL_channel_3 : decode cL_channel 3 = .ok (.iload_n 1, 1) := by decide +kernel
theorem dL_channel_4 : decode cL_channel 4 = .ok (.iload_n 2, 1) := by decide +kernel
theorem dL_channel_5 : decode cL_channel 5 = .ok (.invokevirtual 63, 3) := by decide +kernel
theorem dL_channel_8 : decode cL_channel 8 = .ok (.i2l, 1) := by decide +kernel
theorem dL_channel_9 : decode cL_channel 9 = .ok (.lastore, 1) := by decide +kernel
theorem dL_channel_10 : decode cL_channel 10 = .ok (.goto 11, 3) := by decide +kernel
theorem dL_channel_13 : decode cL_channel 13 = .ok (.astore 4, 2) := by decide +kernel
theorem dL_channel_15 : decode cL_channel 15 = .ok (.iconst 1, 1) := by decide +kernel
theorem dL_channel_16 : decode cL_channel 16 = .ok (.ireturn, 1) := by decide +kernel
theorem dL_channel_17 : decode cL_channel 17 = .ok (.astore 4, 2) := by decide +kernel
theorem dL_channel_19 : decode cL_channel 19 = .ok (.iconst 2, 1) := by decide +kernel
theorem dL_channel_20 : decode cL_channel 20 = .ok (.ireturn, 1) := by decide +kernel
theorem dL_channel_21 : decode cL_channel 21 = .ok (.iconst 0, 1) := by decide +kernel
theorem dL_channel_22 : decode cL_channel 22 = .ok (.ireturn, 1) := by decide +kernel
theorem dL_sum_0 : decode cL_sum 0 = .ok (.aload_n 2, 1) := by decide +kernel
theorem dL_sum_1 : decode cL_sum 1 = .ok (.iconst 0, 1) := by decide +kernel
theorem dL_sum_2 : decode cL_sum 2 = .ok (.aload_n 0, 1) := by decide +kernel
theorem dL_sum_3 : decode cL_sum 3 = .ok (.iload_n 1, 1) := by decide +kernel
theorem dL_sum_4 : decode cL_sum 4 = .ok (.invokevirtual 66, 3) := by decide +kernel
theorem dL_sum_7 : decode cL_sum 7 = .ok (.lastore, 1) := by decide +kernel
theorem dL_sum_8 : decode cL_sum 8 = .ok (.goto 6, 3) := by decide +kernel
theorem dL_sum_11 : decode cL_sum 11 = .ok (.astore_n 3, 1) := by decide +kernel
theorem dL_sum_12 : decode cL_sum 12 = .ok (.iconst 1, 1) := by decide +kernel
theorem dL_sum_13 : decode cL_sum 13 = .ok (.ireturn, 1) := by decide +kernel
theorem dL_sum_14 : decode cL_sum 14 = .ok (.iconst 0, 1) := by decide +kernel
theorem dL_sum_15 : decode cL_sum 15 = .ok (.ireturn, 1) := by decide +kernel
theorem dL_mean_0 : decode cL_mean 0 = .ok (.aload_n 2, 1) := by decide +kernel
theorem dL_mean_1 : decode cL_mean 1 = .ok (.iconst 0, 1) := by decide +kernel
theorem dL_mean_2 : decode cL_mean 2 = .ok (.aload_n 0, 1) := by decide +kernel
theorem dL_mean_3 : decode cL_mean 3 = .ok (.iload_n 1, 1) := by decide +kernel
theorem dL_mean_4 : decode cL_mean 4 = .ok (.invokevirtual 70, 3) := by decide +kernel
theorem dL_mean_7 : decode cL_mean 7 = .ok (.dastore, 1) := by decide +kernel
theorem dL_mean_8 : decode cL_mean 8 = .ok (.goto 9, 3) := by decide +kernel
theorem dL_mean_11 : decode cL_mean 11 = .ok (.astore_n 3, 1) := by decide +kernel
theorem dL_mean_12 : decode cL_mean 12 = .ok (.iconst 1, 1) := by decide +kernel
theorem dL_mean_13 : decode cL_mean 13 = .ok (.ireturn, 1) := by decide +kernel
theorem dL_mean_14 : decode cL_mean 14 = .ok (.astore_n 3, 1) := by decide +kernel
theorem dL_mean_15 : decode cL_mean 15 = .ok (.iconst 2, 1) := by decide +kernel
theorem dL_mean_16 : decode cL_mean 16 = .ok (.ireturn, 1) := by decide +kernel
theorem dL_mean_17 : decode cL_mean 17 = .ok (.iconst 0, 1) := by decide +kernel
theorem dL_mean_18 : decode cL_mean 18 = .ok (.ireturn, 1) := by decide +kernel
theorem dL_trigger_0 : decode cL_trigger 0 = .ok (.aload_n 3, 1) := by decide +kernel
theorem dL_trigger_1 : decode cL_trigger 1 = .ok (.iconst 0, 1) := by decide +kernel
theorem dL_trigger_2 : decode cL_trigger 2 = .ok (.aload_n 0, 1) := by decide +kernel
theorem dL_trigger_3 : decode cL_trigger 3 = .ok (.iload_n 1, 1) := by decide +kernel
theorem dL_trigger_4 : decode cL_trigger 4 = .ok (.iload_n 2, 1) := by decide +kernel
theorem dL_trigger_5 : decode cL_trigger 5 = .ok (.invokevirtual 74, 3) := by decide +kernel
theorem dL_trigger_8 : decode cL_trigger 8 = .ok (.i2l, 1) := by decide +kernel
theorem dL_trigger_9 : decode cL_trigger 9 = .ok (.lastore, 1) := by decide +kernel
theorem dL_trigger_10 : decode cL_trigger 10 = .ok (.goto 11, 3) := by decide +kernel
theorem dL_trigger_13 : decode cL_trigger 13 = .ok (.astore 4, 2) := by decide +kernel
theorem dL_trigger_15 : decode cL_trigger 15 = .ok (.iconst 1, 1) := by decide +kernel
theorem dL_trigger_16 : decode cL_trigger 16 = .ok (.ireturn, 1) := by decide +kernel
theorem dL_trigger_17 : decode cL_trigger 17 = .ok (.astore 4, 2) := by decide +kernel
theorem dL_trigger_19 : decode cL_trigger 19 = .ok (.iconst 2, 1) := by decide +kernel
theorem dL_trigger_20 : decode cL_trigger 20 = .ok (.ireturn, 1) := by decide +kernel
theorem dL_trigger_21 : decode cL_trigger 21 = .ok (.iconst 0, 1) := by decide +kernel
theorem dL_trigger_22 : decode cL_trigger 22 = .ok (.ireturn, 1) := by decide +kernel
theorem dL_window_0 : decode cL_window 0 = .ok (.aload_n 3, 1) := by decide +kernel
theorem dL_window_1 : decode cL_window 1 = .ok (.iconst 0, 1) := by decide +kernel
theorem dL_window_2 : decode cL_window 2 = .ok (.aload_n 0, 1) := by decide +kernel
theorem dL_window_3 : decode cL_window 3 = .ok (.iload_n 1, 1) := by decide +kernel
theorem dL_window_4 : decode cL_window 4 = .ok (.iload_n 2, 1) := by decide +kernel
theorem dL_window_5 : decode cL_window 5 = .ok (.invokevirtual 77, 3) := by decide +kernel
theorem dL_window_8 : decode cL_window 8 = .ok (.i2l, 1) := by decide +kernel
theorem dL_window_9 : decode cL_window 9 = .ok (.lastore, 1) := by decide +kernel
theorem dL_window_10 : decode cL_window 10 = .ok (.goto 11, 3) := by decide +kernel
theorem dL_window_13 : decode cL_window 13 = .ok (.astore 4, 2) := by decide +kernel
theorem dL_window_15 : decode cL_window 15 = .ok (.iconst 1, 1) := by decide +kernel
theorem dL_window_16 : decode cL_window 16 = .ok (.ireturn, 1) := by decide +kernel
theorem dL_window_17 : decode cL_window 17 = .ok (.astore 4, 2) := by decide +kernel
theorem dL_window_19 : decode cL_window 19 = .ok (.iconst 2, 1) := by decide +kernel
theorem dL_window_20 : decode cL_window 20 = .ok (.ireturn, 1) := by decide +kernel
theorem dL_window_21 : decode cL_window 21 = .ok (.iconst 0, 1) := by decide +kernel
theorem dL_window_22 : decode cL_window 22 = .ok (.ireturn, 1) := by decide +kernel
theorem dL_signal_0 : decode cL_signal 0 = .ok (.aload_n 3, 1) := by decide +kernel
theorem dL_signal_1 : decode cL_signal 1 = .ok (.iconst 0, 1) := by decide +kernel
theorem dL_signal_2 : decode cL_signal 2 = .ok (.aload_n 0, 1) := by decide +kernel
theorem dL_signal_3 : decode cL_signal 3 = .ok (.iload_n 1, 1) := by decide +kernel
theorem dL_signal_4 : decode cL_signal 4 = .ok (.iload_n 2, 1) := by decide +kernel
theorem dL_signal_5 : decode cL_signal 5 = .ok (.invokevirtual 80, 3) := by decide +kernel
theorem dL_signal_8 : decode cL_signal 8 = .ok (.i2l, 1) := by decide +kernel
theorem dL_signal_9 : decode cL_signal 9 = .ok (.lastore, 1) := by decide +kernel
theorem dL_signal_10 : decode cL_signal 10 = .ok (.goto 11, 3) := by decide +kernel
theorem dL_signal_13 : decode cL_signal 13 = .ok (.astore 4, 2) := by decide +kernel
theorem dL_signal_15 : decode cL_signal 15 = .ok (.iconst 1, 1) := by decide +kernel
theorem dL_signal_16 : decode cL_signal 16 = .ok (.ireturn, 1) := by decide +kernel
theorem dL_signal_17 : decode cL_signal 17 = .ok (.astore 4, 2) := by decide +kernel
theorem dL_signal_19 : decode cL_signal 19 = .ok (.iconst 2, 1) := by decide +kernel
theorem dL_signal_20 : decode cL_signal 20 = .ok (.ireturn, 1) := by decide +kernel
theorem dL_signal_21 : decode cL_signal 21 = .ok (.iconst 0, 1) := by decide +kernel
theorem dL_signal_22 : decode cL_signal 22 = .ok (.ireturn, 1) := by decide +kernel
theorem dL_queued_0 : decode cL_queued 0 = .ok (.aload_n 3, 1) := by decide +kernel
theorem dL_queued_1 : decode cL_queued 1 = .ok (.iconst 0, 1) := by decide +kernel
theorem dL_queued_2 : decode cL_queued 2 = .ok (.aload_n 0, 1) := by decide +kernel
theorem dL_queued_3 : decode cL_queued 3 = .ok (.iload_n 1, 1) := by decide +kernel
theorem dL_queued_4 : decode cL_queued 4 = .ok (.iload_n 2, 1) := by decide +kernel
theorem dL_queued_5 : decode cL_queued 5 = .ok (.invokevirtual 83, 3) := by decide +kernel
theorem dL_queued_8 : decode cL_queued 8 = .ok (.i2l, 1) := by decide +kernel
theorem dL_queued_9 : decode cL_queued 9 = .ok (.lastore, 1) := by decide +kernel
theorem dL_queued_10 : decode cL_queued 10 = .ok (.goto 11, 3) := by decide +kernel
theorem dL_queued_13 : decode cL_queued 13 = .ok (.astore 4, 2) := by decide +kernel
theorem dL_queued_15 : decode cL_queued 15 = .ok (.iconst 1, 1) := by decide +kernel
theorem dL_queued_16 : decode cL_queued 16 = .ok (.ireturn, 1) := by decide +kernel
theorem dL_queued_17 : decode cL_queued 17 = .ok (.astore 4, 2) := by decide +kernel
theorem dL_queued_19 : decode cL_queued 19 = .ok (.iconst 2, 1) := by decide +kernel
theorem dL_queued_20 : decode cL_queued 20 = .ok (.ireturn, 1) := by decide +kernel
theorem dL_queued_21 : decode cL_queued 21 = .ok (.iconst 0, 1) := by decide +kernel
theorem dL_queued_22 : decode cL_queued 22 = .ok (.ireturn, 1) := by decide +kernel
theorem dL_stored_0 : decode cL_stored 0 = .ok (.aload_n 3, 1) := by decide +kernel
theorem dL_stored_1 : decode cL_stored 1 = .ok (.iconst 0, 1) := by decide +kernel
theorem dL_stored_2 : decode cL_stored 2 = .ok (.aload_n 0, 1) := by decide +kernel
theorem dL_stored_3 : decode cL_stored 3 = .ok (.iload_n 1, 1) := by decide +kernel
theorem dL_stored_4 : decode cL_stored 4 = .ok (.iload_n 2, 1) := by decide +kernel
theorem dL_stored_5 : decode cL_stored 5 = .ok (.invokevirtual 86, 3) := by decide +kernel
theorem dL_stored_8 : decode cL_stored 8 = .ok (.i2l, 1) := by decide +kernel
theorem dL_stored_9 : decode cL_stored 9 = .ok (.lastore, 1) := by decide +kernel
theorem dL_stored_10 : decode cL_stored 10 = .ok (.goto 11, 3) := by decide +kernel
theorem dL_stored_13 : decode cL_stored 13 = .ok (.astore 4, 2) := by decide +kernel
theorem dL_stored_15 : decode cL_stored 15 = .ok (.iconst 1, 1) := by decide +kernel
theorem dL_stored_16 : decode cL_stored 16 = .ok (.ireturn, 1) := by decide +kernel
theorem dL_stored_17 : decode cL_stored 17 = .ok (.astore 4, 2) := by decide +kernel
theorem dL_stored_19 : decode cL_stored 19 = .ok (.iconst 2, 1) := by decide +kernel
theorem dL_stored_20 : decode cL_stored 20 = .ok (.ireturn, 1) := by decide +kernel
theorem dL_stored_21 : decode cL_stored 21 = .ok (.iconst 0, 1) := by decide +kernel
theorem dL_stored_22 : decode cL_stored 22 = .ok (.ireturn, 1) := by decide +kernel
theorem dL_injected_0 : decode cL_injected 0 = .ok (.aload_n 3, 1) := by decide +kernel
theorem dL_injected_1 : decode cL_injected 1 = .ok (.iconst 0, 1) := by decide +kernel
theorem dL_injected_2 : decode cL_injected 2 = .ok (.aload_n 0, 1) := by decide +kernel
theorem dL_injected_3 : decode cL_injected 3 = .ok (.iload_n 1, 1) := by decide +kernel
theorem dL_injected_4 : decode cL_injected 4 = .ok (.iload_n 2, 1) := by decide +kernel
theorem dL_injected_5 : decode cL_injected 5 = .ok (.invokevirtual 89, 3) := by decide +kernel
theorem dL_injected_8 : decode cL_injected 8 = .ok (.i2l, 1) := by decide +kernel
theorem dL_injected_9 : decode cL_injected 9 = .ok (.lastore, 1) := by decide +kernel
theorem dL_injected_10 : decode cL_injected 10 = .ok (.goto 15, 3) := by decide +kernel
theorem dL_injected_13 : decode cL_injected 13 = .ok (.astore 4, 2) := by decide +kernel
theorem dL_injected_15 : decode cL_injected 15 = .ok (.iconst 1, 1) := by decide +kernel
theorem dL_injected_16 : decode cL_injected 16 = .ok (.ireturn, 1) := by decide +kernel
theorem dL_injected_17 : decode cL_injected 17 = .ok (.astore 4, 2) := by decide +kernel
theorem dL_injected_19 : decode cL_injected 19 = .ok (.iconst 2, 1) := by decide +kernel
theorem dL_injected_20 : decode cL_injected 20 = .ok (.ireturn, 1) := by decide +kernel
theorem dL_injected_21 : decode cL_injected 21 = .ok (.astore 4, 2) := by decide +kernel
theorem dL_injected_23 : decode cL_injected 23 = .ok (.iconst 3, 1) := by decide +kernel
theorem dL_injected_24 : decode cL_injected 24 = .ok (.ireturn, 1) := by decide +kernel
theorem dL_injected_25 : decode cL_injected 25 = .ok (.iconst 0, 1) := by decide +kernel
theorem dL_injected_26 : decode cL_injected 26 = .ok (.ireturn, 1) := by decide +kernel
theorem dL_latency_0 : decode cL_latency 0 = .ok (.aload_n 2, 1) := by decide +kernel
theorem dL_latency_1 : decode cL_latency 1 = .ok (.iconst 0, 1) := by decide +kernel
theorem dL_latency_2 : decode cL_latency 2 = .ok (.aload_n 0, 1) := by decide +kernel
theorem dL_latency_3 : decode cL_latency 3 = .ok (.iload_n 1, 1) := by decide +kernel
theorem dL_latency_4 : decode cL_latency 4 = .ok (.invokevirtual 92, 3) := by decide +kernel
theorem dL_latency_7 : decode cL_latency 7 = .ok (.dastore, 1) := by decide +kernel
theorem dL_latency_8 : decode cL_latency 8 = .ok (.goto 6, 3) := by decide +kernel
theorem dL_latency_11 : decode cL_latency 11 = .ok (.astore_n 3, 1) := by decide +kernel
theorem dL_latency_12 : decode cL_latency 12 = .ok (.iconst 1, 1) := by decide +kernel
theorem dL_latency_13 : decode cL_latency 13 = .ok (.ireturn, 1) := by decide +kernel
theorem dL_latency_14 : decode cL_latency 14 = .ok (.iconst 0, 1) := by decide +kernel
theorem dL_latency_15 : decode cL_latency 15 = .ok (.ireturn, 1) := by decide +kernel
theorem dL_nextResult_0 : decode cL_nextResult 0 = .ok (.aload_n 2, 1) := by decide +kernel
theorem dL_nextResult_1 : decode cL_nextResult 1 = .ok (.iconst 0, 1) := by decide +kernel
theorem dL_nextResult_2 : decode cL_nextResult 2 = .ok (.aload_n 0, 1) := by decide +kernel
theorem dL_nextResult_3 : decode cL_nextResult 3 = .ok (.iload_n 1, 1) := by decide +kernel
theorem dL_nextResult_4 : decode cL_nextResult 4 = .ok (.invokevirtual 96, 3) := by decide +kernel
theorem dL_nextResult_7 : decode cL_nextResult 7 = .ok (.i2l, 1) := by decide +kernel
theorem dL_nextResult_8 : decode cL_nextResult 8 = .ok (.lastore, 1) := by decide +kernel
theorem dL_nextResult_9 : decode cL_nextResult 9 = .ok (.goto 6, 3) := by decide +kernel
theorem dL_nextResult_12 : decode cL_nextResult 12 = .ok (.astore_n 3, 1) := by decide +kernel
theorem dL_nextResult_13 : decode cL_nextResult 13 = .ok (.iconst 1, 1) := by decide +kernel
theorem dL_nextResult_14 : decode cL_nextResult 14 = .ok (.ireturn, 1) := by decide +kernel
theorem dL_nextResult_15 : decode cL_nextResult 15 = .ok (.iconst 0, 1) := by decide +kernel
theorem dL_nextResult_16 : decode cL_nextResult 16 = .ok (.ireturn, 1) := by decide +kernel
theorem dL_whenRaised_0 : decode cL_whenRaised 0 = .ok (.aload_n 3, 1) := by decide +kernel
theorem dL_whenRaised_1 : decode cL_whenRaised 1 = .ok (.iconst 0, 1) := by decide +kernel
theorem dL_whenRaised_2 : decode cL_whenRaised 2 = .ok (.aload_n 0, 1) := by decide +kernel
theorem dL_whenRaised_3 : decode cL_whenRaised 3 = .ok (.iload_n 1, 1) := by decide +kernel
theorem dL_whenRaised_4 : decode cL_whenRaised 4 = .ok (.iload_n 2, 1) := by decide +kernel
theorem dL_whenRaised_5 : decode cL_whenRaised 5 = .ok (.invokevirtual 99, 3) := by decide +kernel
theorem dL_whenRaised_8 : decode cL_whenRaised 8 = .ok (.i2l, 1) := by decide +kernel
theorem dL_whenRaised_9 : decode cL_whenRaised 9 = .ok (.lastore, 1) := by decide +kernel
theorem dL_whenRaised_10 : decode cL_whenRaised 10 = .ok (.goto 11, 3) := by decide +kernel
theorem dL_whenRaised_13 : decode cL_whenRaised 13 = .ok (.astore 4, 2) := by decide +kernel
theorem dL_whenRaised_15 : decode cL_whenRaised 15 = .ok (.iconst 1, 1) := by decide +kernel
theorem dL_whenRaised_16 : decode cL_whenRaised 16 = .ok (.ireturn, 1) := by decide +kernel
theorem dL_whenRaised_17 : decode cL_whenRaised 17 = .ok (.astore 4, 2) := by decide +kernel
theorem dL_whenRaised_19 : decode cL_whenRaised 19 = .ok (.iconst 2, 1) := by decide +kernel
theorem dL_whenRaised_20 : decode cL_whenRaised 20 = .ok (.ireturn, 1) := by decide +kernel
theorem dL_whenRaised_21 : decode cL_whenRaised 21 = .ok (.iconst 0, 1) := by decide +kernel
theorem dL_whenRaised_22 : decode cL_whenRaised 22 = .ok (.ireturn, 1) := by decide +kernel
theorem dL_overrunsWith_0 : decode cL_overrunsWith 0 = .ok (.aload_n 3, 1) := by decide +kernel
theorem dL_overrunsWith_1 : decode cL_overrunsWith 1 = .ok (.iconst 0, 1) := by decide +kernel
theorem dL_overrunsWith_2 : decode cL_overrunsWith 2 = .ok (.aload_n 0, 1) := by decide +kernel
theorem dL_overrunsWith_3 : decode cL_overrunsWith 3 = .ok (.iload_n 1, 1) := by decide +kernel
theorem dL_overrunsWith_4 : decode cL_overrunsWith 4 = .ok (.iload_n 2, 1) := by decide +kernel
theorem dL_overrunsWith_5 : decode cL_overrunsWith 5 = .ok (.invokevirtual 102, 3) := by decide +kernel
theorem dL_overrunsWith_8 : decode cL_overrunsWith 8 = .ok (.i2l, 1) := by decide +kernel
theorem dL_overrunsWith_9 : decode cL_overrunsWith 9 = .ok (.lastore, 1) := by decide +kernel
theorem dL_overrunsWith_10 : decode cL_overrunsWith 10 = .ok (.goto 7, 3) := by decide +kernel
theorem dL_overrunsWith_13 : decode cL_overrunsWith 13 = .ok (.astore 4, 2) := by decide +kernel
theorem dL_overrunsWith_15 : decode cL_overrunsWith 15 = .ok (.iconst 1, 1) := by decide +kernel
theorem dL_overrunsWith_16 : decode cL_overrunsWith 16 = .ok (.ireturn, 1) := by decide +kernel
theorem dL_overrunsWith_17 : decode cL_overrunsWith 17 = .ok (.iconst 0, 1) := by decide +kernel
theorem dL_overrunsWith_18 : decode cL_overrunsWith 18 = .ok (.ireturn, 1) := by decide +kernel
theorem dL_slowestPace_0 : decode cL_slowestPace 0 = .ok (.aload_n 2, 1) := by decide +kernel
theorem dL_slowestPace_1 : decode cL_slowestPace 1 = .ok (.iconst 0, 1) := by decide +kernel
theorem dL_slowestPace_2 : decode cL_slowestPace 2 = .ok (.aload_n 0, 1) := by decide +kernel
theorem dL_slowestPace_3 : decode cL_slowestPace 3 = .ok (.iload_n 1, 1) := by decide +kernel
theorem dL_slowestPace_4 : decode cL_slowestPace 4 = .ok (.invokevirtual 105, 3) := by decide +kernel
theorem dL_slowestPace_7 : decode cL_slowestPace 7 = .ok (.i2l, 1) := by decide +kernel
theorem dL_slowestPace_8 : decode cL_slowestPace 8 = .ok (.lastore, 1) := by decide +kernel
theorem dL_slowestPace_9 : decode cL_slowestPace 9 = .ok (.goto 6, 3) := by decide +kernel
theorem dL_slowestPace_12 : decode cL_slowestPace 12 = .ok (.astore_n 3, 1) := by decide +kernel
theorem dL_slowestPace_13 : decode cL_slowestPace 13 = .ok (.iconst 1, 1) := by decide +kernel
theorem dL_slowestPace_14 : decode cL_slowestPace 14 = .ok (.ireturn, 1) := by decide +kernel
theorem dL_slowestPace_15 : decode cL_slowestPace 15 = .ok (.iconst 0, 1) := by decide +kernel
theorem dL_slowestPace_16 : decode cL_slowestPace 16 = .ok (.ireturn, 1) := by decide +kernel
theorem dL_save_0 : decode cL_save 0 = .ok (.aload_n 2, 1) := by decide +kernel
theorem dL_save_1 : decode cL_save 1 = .ok (.iconst 0, 1) := by decide +kernel
theorem dL_save_2 : decode cL_save 2 = .ok (.aload_n 0, 1) := by decide +kernel
theorem dL_save_3 : decode cL_save 3 = .ok (.iload_n 1, 1) := by decide +kernel
theorem dL_save_4 : decode cL_save 4 = .ok (.invokevirtual 108, 3) := by decide +kernel
theorem dL_save_7 : decode cL_save 7 = .ok (.i2l, 1) := by decide +kernel
theorem dL_save_8 : decode cL_save 8 = .ok (.lastore, 1) := by decide +kernel
theorem dL_save_9 : decode cL_save 9 = .ok (.goto 6, 3) := by decide +kernel
theorem dL_save_12 : decode cL_save 12 = .ok (.astore_n 3, 1) := by decide +kernel
theorem dL_save_13 : decode cL_save 13 = .ok (.iconst 1, 1) := by decide +kernel
theorem dL_save_14 : decode cL_save 14 = .ok (.ireturn, 1) := by decide +kernel
theorem dL_save_15 : decode cL_save 15 = .ok (.iconst 0, 1) := by decide +kernel
theorem dL_save_16 : decode cL_save 16 = .ok (.ireturn, 1) := by decide +kernel
theorem dL_restore_0 : decode cL_restore 0 = .ok (.aload_n 2, 1) := by decide +kernel
theorem dL_restore_1 : decode cL_restore 1 = .ok (.iconst 0, 1) := by decide +kernel
theorem dL_restore_2 : decode cL_restore 2 = .ok (.aload_n 0, 1) := by decide +kernel
theorem dL_restore_3 : decode cL_restore 3 = .ok (.iload_n 1, 1) := by decide +kernel
theorem dL_restore_4 : decode cL_restore 4 = .ok (.invokevirtual 111, 3) := by decide +kernel
theorem dL_restore_7 : decode cL_restore 7 = .ok (.i2l, 1) := by decide +kernel
theorem dL_restore_8 : decode cL_restore 8 = .ok (.lastore, 1) := by decide +kernel
theorem dL_restore_9 : decode cL_restore 9 = .ok (.goto 9, 3) := by decide +kernel
theorem dL_restore_12 : decode cL_restore 12 = .ok (.astore_n 3, 1) := by decide +kernel
theorem dL_restore_13 : decode cL_restore 13 = .ok (.iconst 1, 1) := by decide +kernel
theorem dL_restore_14 : decode cL_restore 14 = .ok (.ireturn, 1) := by decide +kernel
theorem dL_restore_15 : decode cL_restore 15 = .ok (.astore_n 3, 1) := by decide +kernel
theorem dL_restore_16 : decode cL_restore 16 = .ok (.iconst 2, 1) := by decide +kernel
theorem dL_restore_17 : decode cL_restore 17 = .ok (.ireturn, 1) := by decide +kernel
theorem dL_restore_18 : decode cL_restore 18 = .ok (.iconst 0, 1) := by decide +kernel
theorem dL_restore_19 : decode cL_restore 19 = .ok (.ireturn, 1) := by decide +kernel
theorem dL_law_0 : decode cL_law 0 = .ok (.new 8, 3) := by decide +kernel
theorem dL_law_3 : decode cL_law 3 = .ok (.dup, 1) := by decide +kernel
theorem dL_law_4 : decode cL_law 4 = .ok (.invokespecial 114, 3) := by decide +kernel
theorem dL_law_7 : decode cL_law 7 = .ok (.astore_n 1, 1) := by decide +kernel
theorem dL_law_8 : decode cL_law 8 = .ok (.new 115, 3) := by decide +kernel
theorem dL_law_11 : decode cL_law 11 = .ok (.dup, 1) := by decide +kernel
theorem dL_law_12 : decode cL_law 12 = .ok (.invokespecial 117, 3) := by decide +kernel
theorem dL_law_15 : decode cL_law 15 = .ok (.astore_n 2, 1) := by decide +kernel
theorem dL_law_16 : decode cL_law 16 = .ok (.iconst 1, 1) := by decide +kernel
theorem dL_law_17 : decode cL_law 17 = .ok (.newarray .long, 2) := by decide +kernel
theorem dL_law_19 : decode cL_law 19 = .ok (.astore_n 3, 1) := by decide +kernel
theorem dL_law_20 : decode cL_law 20 = .ok (.iconst 1, 1) := by decide +kernel
theorem dL_law_21 : decode cL_law 21 = .ok (.newarray .double, 2) := by decide +kernel
theorem dL_law_23 : decode cL_law 23 = .ok (.astore 4, 2) := by decide +kernel
theorem dL_law_25 : decode cL_law 25 = .ok (.iconst 0, 1) := by decide +kernel
theorem dL_law_26 : decode cL_law 26 = .ok (.istore 5, 2) := by decide +kernel
theorem dL_law_28 : decode cL_law 28 = .ok (.iload 5, 2) := by decide +kernel
theorem dL_law_30 : decode cL_law 30 = .ok (.aload_n 0, 1) := by decide +kernel
theorem dL_law_31 : decode cL_law 31 = .ok (.arraylength, 1) := by decide +kernel
theorem dL_law_32 : decode cL_law 32 = .ok (.bipush 6, 2) := by decide +kernel
theorem dL_law_34 : decode cL_law 34 = .ok (.isub, 1) := by decide +kernel
theorem dL_law_35 : decode cL_law 35 = .ok (.if_icmp .gt 2230, 3) := by decide +kernel
theorem dL_law_38 : decode cL_law 38 = .ok (.aload_n 0, 1) := by decide +kernel
theorem dL_law_39 : decode cL_law 39 = .ok (.iload 5, 2) := by decide +kernel
theorem dL_law_41 : decode cL_law 41 = .ok (.iaload, 1) := by decide +kernel
theorem dL_law_42 : decode cL_law 42 = .ok (.bipush 63, 2) := by decide +kernel
theorem dL_law_44 : decode cL_law 44 = .ok (.iand, 1) := by decide +kernel
theorem dL_law_45 : decode cL_law 45 = .ok (.tableswitch 2214 0 34 #[155, 259, 315, 328, 341, 354, 410, 466, 479, 523, 579, 671, 739, 819, 875, 931, 1015, 1099, 1167, 1222, 1299, 1367, 1435, 1503, 1571, 1639, 1652, 1720, 1813, 1869, 1937, 2005, 2061, 2102, 2158], 155) := by decide +kernel
theorem dL_law_200 : decode cL_law 200 = .ok (.aload_n 1, 1) := by decide +kernel
theorem dL_law_201 : decode cL_law 201 = .ok (.aload_n 0, 1) := by decide +kernel
theorem dL_law_202 : decode cL_law 202 = .ok (.iload 5, 2) := by decide +kernel
theorem dL_law_204 : decode cL_law 204 = .ok (.iconst 1, 1) := by decide +kernel
theorem dL_law_205 : decode cL_law 205 = .ok (.iadd, 1) := by decide +kernel
theorem dL_law_206 : decode cL_law 206 = .ok (.iaload, 1) := by decide +kernel
theorem dL_law_207 : decode cL_law 207 = .ok (.aload_n 0, 1) := by decide +kernel
theorem dL_law_208 : decode cL_law 208 = .ok (.iload 5, 2) := by decide +kernel
theorem dL_law_210 : decode cL_law 210 = .ok (.iconst 2, 1) := by decide +kernel
theorem dL_law_211 : decode cL_law 211 = .ok (.iadd, 1) := by decide +kernel
theorem dL_law_212 : decode cL_law 212 = .ok (.iaload, 1) := by decide +kernel
theorem dL_law_213 : decode cL_law 213 = .ok (.aload_n 0, 1) := by decide +kernel
theorem dL_law_214 : decode cL_law 214 = .ok (.iload 5, 2) := by decide +kernel
theorem dL_law_216 : decode cL_law 216 = .ok (.iconst 3, 1) := by decide +kernel
theorem dL_law_217 : decode cL_law 217 = .ok (.iadd, 1) := by decide +kernel
theorem dL_law_218 : decode cL_law 218 = .ok (.iaload, 1) := by decide +kernel
theorem dL_law_219 : decode cL_law 219 = .ok (.aload_n 0, 1) := by decide +kernel
theorem dL_law_220 : decode cL_law 220 = .ok (.iload 5, 2) := by decide +kernel
theorem dL_law_222 : decode cL_law 222 = .ok (.iconst 4, 1) := by decide +kernel
theorem dL_law_223 : decode cL_law 223 = .ok (.iadd, 1) := by decide +kernel
theorem dL_law_224 : decode cL_law 224 = .ok (.iaload, 1) := by decide +kernel
theorem dL_law_225 : decode cL_law 225 = .ok (.aload_n 0, 1) := by decide +kernel
theorem dL_law_226 : decode cL_law 226 = .ok (.iload 5, 2) := by decide +kernel
theorem dL_law_228 : decode cL_law 228 = .ok (.iconst 5, 1) := by decide +kernel
theorem dL_law_229 : decode cL_law 229 = .ok (.iadd, 1) := by decide +kernel
theorem dL_law_230 : decode cL_law 230 = .ok (.iaload, 1) := by decide +kernel
theorem dL_law_231 : decode cL_law 231 = .ok (.aload_n 3, 1) := by decide +kernel
theorem dL_law_232 : decode cL_law 232 = .ok (.invokestatic 118, 3) := by decide +kernel
theorem dL_law_235 : decode cL_law 235 = .ok (.istore 6, 2) := by decide +kernel
theorem dL_law_237 : decode cL_law 237 = .ok (.aload_n 2, 1) := by decide +kernel
theorem dL_law_238 : decode cL_law 238 = .ok (.aload_n 0, 1) := by decide +kernel
theorem dL_law_239 : decode cL_law 239 = .ok (.iload 5, 2) := by decide +kernel
theorem dL_law_241 : decode cL_law 241 = .ok (.iconst 1, 1) := by decide +kernel
theorem dL_law_242 : decode cL_law 242 = .ok (.iadd, 1) := by decide +kernel
theorem dL_law_243 : decode cL_law 243 = .ok (.iaload, 1) := by decide +kernel
theorem dL_law_244 : decode cL_law 244 = .ok (.aload_n 0, 1) := by decide +kernel
theorem dL_law_245 : decode cL_law 245 = .ok (.iload 5, 2) := by decide +kernel
theorem dL_law_247 : decode cL_law 247 = .ok (.iconst 2, 1) := by decide +kernel
theorem dL_law_248 : decode cL_law 248 = .ok (.iadd, 1) := by decide +kernel
theorem dL_law_249 : decode cL_law 249 = .ok (.iaload, 1) := by decide +kernel
theorem dL_law_250 : decode cL_law 250 = .ok (.aload_n 0, 1) := by decide +kernel
theorem dL_law_251 : decode cL_law 251 = .ok (.iload 5, 2) := by decide +kernel
theorem dL_law_253 : decode cL_law 253 = .ok (.iconst 3, 1) := by decide +kernel
theorem dL_law_254 : decode cL_law 254 = .ok (.iadd, 1) := by decide +kernel
theorem dL_law_255 : decode cL_law 255 = .ok (.iaload, 1) := by decide +kernel
theorem dL_law_256 : decode cL_law 256 = .ok (.aload_n 0, 1) := by decide +kernel
theorem dL_law_257 : decode cL_law 257 = .ok (.iload 5, 2) := by decide +kernel
theorem dL_law_259 : decode cL_law 259 = .ok (.iconst 4, 1) := by decide +kernel
theorem dL_law_260 : decode cL_law 260 = .ok (.iadd, 1) := by decide +kernel
theorem dL_law_261 : decode cL_law 261 = .ok (.iaload, 1) := by decide +kernel
theorem dL_law_262 : decode cL_law 262 = .ok (.aload_n 0, 1) := by decide +kernel
theorem dL_law_263 : decode cL_law 263 = .ok (.iload 5, 2) := by decide +kernel
theorem dL_law_265 : decode cL_law 265 = .ok (.iconst 5, 1) := by decide +kernel
theorem dL_law_266 : decode cL_law 266 = .ok (.iadd, 1) := by decide +kernel
theorem dL_law_267 : decode cL_law 267 = .ok (.iaload, 1) := by decide +kernel
theorem dL_law_268 : decode cL_law 268 = .ok (.invokevirtual 123, 3) := by decide +kernel
theorem dL_law_271 : decode cL_law 271 = .ok (.istore 7, 2) := by decide +kernel
theorem dL_law_273 : decode cL_law 273 = .ok (.aload_n 2, 1) := by decide +kernel
theorem dL_law_274 : decode cL_law 274 = .ok (.invokevirtual 124, 3) := by decide +kernel
theorem dL_law_277 : decode cL_law 277 = .ok (.iload 6, 2) := by decide +kernel
theorem dL_law_279 : decode cL_law 279 = .ok (.if_icmp .eq 5, 3) := by decide +kernel
theorem dL_law_282 : decode cL_law 282 = .ok (.iconst 0, 1) := by decide +kernel
theorem dL_law_283 : decode cL_law 283 = .ok (.ireturn, 1) := by decide +kernel
theorem dL_law_284 : decode cL_law 284 = .ok (.iload 6, 2) := by decide +kernel
theorem dL_law_286 : decode cL_law 286 = .ok (.ifCond .ne 15, 3) := by decide +kernel
theorem dL_law_289 : decode cL_law 289 = .ok (.aload_n 3, 1) := by decide +kernel
theorem dL_law_290 : decode cL_law 290 = .ok (.iconst 0, 1) := by decide +kernel
theorem dL_law_291 : decode cL_law 291 = .ok (.laload, 1) := by decide +kernel
theorem dL_law_292 : decode cL_law 292 = .ok (.iload 7, 2) := by decide +kernel
theorem dL_law_294 : decode cL_law 294 = .ok (.i2l, 1) := by decide +kernel
theorem dL_law_295 : decode cL_law 295 = .ok (.lcmp, 1) := by decide +kernel
theorem dL_law_296 : decode cL_law 296 = .ok (.ifCond .eq 5, 3) := by decide +kernel
theorem dL_law_299 : decode cL_law 299 = .ok (.iconst 0, 1) := by decide +kernel
theorem dL_law_300 : decode cL_law 300 = .ok (.ireturn, 1) := by decide +kernel
theorem dL_law_301 : decode cL_law 301 = .ok (.goto 1958, 3) := by decide +kernel
theorem dL_law_304 : decode cL_law 304 = .ok (.aload_n 1, 1) := by decide +kernel
theorem dL_law_305 : decode cL_law 305 = .ok (.aload_n 0, 1) := by decide +kernel
theorem dL_law_306 : decode cL_law 306 = .ok (.iload 5, 2) := by decide +kernel
theorem dL_law_308 : decode cL_law 308 = .ok (.iconst 1, 1) := by decide +kernel
theorem dL_law_309 : decode cL_law 309 = .ok (.iadd, 1) := by decide +kernel
theorem dL_law_310 : decode cL_law 310 = .ok (.iaload, 1) := by decide +kernel
theorem dL_law_311 : decode cL_law 311 = .ok (.aload_n 3, 1) := by decide +kernel
theorem dL_law_312 : decode cL_law 312 = .ok (.invokestatic 127, 3) := by decide +kernel
theorem dL_law_315 : decode cL_law 315 = .ok (.istore 6, 2) := by decide +kernel
theorem dL_law_317 : decode cL_law 317 = .ok (.aload_n 2, 1) := by decide +kernel
theorem dL_law_318 : decode cL_law 318 = .ok (.aload_n 0, 1) := by decide +kernel
theorem dL_law_319 : decode cL_law 319 = .ok (.iload 5, 2) := by decide +kernel
theorem dL_law_321 : decode cL_law 321 = .ok (.iconst 1, 1) := by decide +kernel
theorem dL_law_322 : decode cL_law 322 = .ok (.iadd, 1) := by decide +kernel
theorem dL_law_323 : decode cL_law 323 = .ok (.iaload, 1) := by decide +kernel
theorem dL_law_324 : decode cL_law 324 = .ok (.invokevirtual 130, 3) := by decide +kernel
theorem dL_law_327 : decode cL_law 327 = .ok (.istore 7, 2) := by decide +kernel
theorem dL_law_329 : decode cL_law 329 = .ok (.aload_n 2, 1) := by decide +kernel
theorem dL_law_330 : decode cL_law 330 = .ok (.invokevirtual 124, 3) := by decide +kernel
theorem dL_law_333 : decode cL_law 333 = .ok (.iload 6, 2) := by decide +kernel
theorem dL_law_335 : decode cL_law 335 = .ok (.if_icmp .eq 5, 3) := by decide +kernel
theorem dL_law_338 : decode cL_law 338 = .ok (.iconst 0, 1) := by decide +kernel
theorem dL_law_339 : decode cL_law 339 = .ok (.ireturn, 1) := by decide +kernel
theorem dL_law_340 : decode cL_law 340 = .ok (.iload 6, 2) := by decide +kernel
theorem dL_law_342 : decode cL_law 342 = .ok (.ifCond .ne 15, 3) := by decide +kernel
theorem dL_law_345 : decode cL_law 345 = .ok (.aload_n 3, 1) := by decide +kernel
theorem dL_law_346 : decode cL_law 346 = .ok (.iconst 0, 1) := by decide +kernel
theorem dL_law_347 : decode cL_law 347 = .ok (.laload, 1) := by decide +kernel
theorem dL_law_348 : decode cL_law 348 = .ok (.iload 7, 2) := by decide +kernel
theorem dL_law_350 : decode cL_law 350 = .ok (.i2l, 1) := by decide +kernel
theorem dL_law_351 : decode cL_law 351 = .ok (.lcmp, 1) := by decide +kernel
theorem dL_law_352 : decode cL_law 352 = .ok (.ifCond .eq 5, 3) := by decide +kernel
theorem dL_law_355 : decode cL_law 355 = .ok (.iconst 0, 1) := by decide +kernel
theorem dL_law_356 : decode cL_law 356 = .ok (.ireturn, 1) := by decide +kernel
theorem dL_law_357 : decode cL_law 357 = .ok (.goto 1902, 3) := by decide +kernel
theorem dL_law_360 : decode cL_law 360 = .ok (.aload_n 1, 1) := by decide +kernel
theorem dL_law_361 : decode cL_law 361 = .ok (.invokevirtual 131, 3) := by decide +kernel
theorem dL_law_364 : decode cL_law 364 = .ok (.aload_n 2, 1) := by decide +kernel
theorem dL_law_365 : decode cL_law 365 = .ok (.invokevirtual 134, 3) := by decide +kernel
theorem dL_law_368 : decode cL_law 368 = .ok (.if_icmp .eq 1891, 3) := by decide +kernel
theorem dL_law_371 : decode cL_law 371 = .ok (.iconst 0, 1) := by decide +kernel
theorem dL_law_372 : decode cL_law 372 = .ok (.ireturn, 1) := by decide +kernel
theorem dL_law_373 : decode cL_law 373 = .ok (.aload_n 1, 1) := by decide +kernel
theorem dL_law_374 : decode cL_law 374 = .ok (.invokevirtual 135, 3) := by decide +kernel
theorem dL_law_377 : decode cL_law 377 = .ok (.aload_n 2, 1) := by decide +kernel
theorem dL_law_378 : decode cL_law 378 = .ok (.invokevirtual 138, 3) := by decide +kernel
theorem dL_law_381 : decode cL_law 381 = .ok (.if_icmp .eq 1878, 3) := by decide +kernel
theorem dL_law_384 : decode cL_law 384 = .ok (.iconst 0, 1) := by decide +kernel
theorem dL_law_385 : decode cL_law 385 = .ok (.ireturn, 1) := by decide +kernel
theorem dL_law_386 : decode cL_law 386 = .ok (.aload_n 1, 1) := by decide +kernel
theorem dL_law_387 : decode cL_law 387 = .ok (.invokevirtual 139, 3) := by decide +kernel
theorem dL_law_390 : decode cL_law 390 = .ok (.aload_n 2, 1) := by decide +kernel
theorem dL_law_391 : decode cL_law 391 = .ok (.invokevirtual 142, 3) := by decide +kernel
theorem dL_law_394 : decode cL_law 394 = .ok (.if_icmp .eq 1865, 3) := by decide +kernel
theorem dL_law_397 : decode cL_law 397 = .ok (.iconst 0, 1) := by decide +kernel
theorem dL_law_398 : decode cL_law 398 = .ok (.ireturn, 1) := by decide +kernel
theorem dL_law_399 : decode cL_law 399 = .ok (.aload_n 1, 1) := by decide +kernel
theorem dL_law_400 : decode cL_law 400 = .ok (.aload_n 0, 1) := by decide +kernel
theorem dL_law_401 : decode cL_law 401 = .ok (.iload 5, 2) := by decide +kernel
theorem dL_law_403 : decode cL_law 403 = .ok (.iconst 1, 1) := by decide +kernel
theorem dL_law_404 : decode cL_law 404 = .ok (.iadd, 1) := by decide +kernel
theorem dL_law_405 : decode cL_law 405 = .ok (.iaload, 1) := by decide +kernel
theorem dL_law_406 : decode cL_law 406 = .ok (.aload_n 3, 1) := by decide +kernel
theorem dL_law_407 : decode cL_law 407 = .ok (.invokestatic 143, 3) := by decide +kernel
theorem dL_law_410 : decode cL_law 410 = .ok (.istore 6, 2) := by decide +kernel
theorem dL_law_412 : decode cL_law 412 = .ok (.aload_n 2, 1) := by decide +kernel
theorem dL_law_413 : decode cL_law 413 = .ok (.aload_n 0, 1) := by decide +kernel
theorem dL_law_414 : decode cL_law 414 = .ok (.iload 5, 2) := by decide +kernel
theorem dL_law_416 : decode cL_law 416 = .ok (.iconst 1, 1) := by decide +kernel
theorem dL_law_417 : decode cL_law 417 = .ok (.iadd, 1) := by decide +kernel
theorem dL_law_418 : decode cL_law 418 = .ok (.iaload, 1) := by decide +kernel
theorem dL_law_419 : decode cL_law 419 = .ok (.invokevirtual 145, 3) := by decide +kernel
theorem dL_law_422 : decode cL_law 422 = .ok (.istore 7, 2) := by decide +kernel
theorem dL_law_424 : decode cL_law 424 = .ok (.aload_n 2, 1) := by decide +kernel
theorem dL_law_425 : decode cL_law 425 = .ok (.invokevirtual 124, 3) := by decide +kernel
theorem dL_law_428 : decode cL_law 428 = .ok (.iload 6, 2) := by decide +kernel
theorem dL_law_430 : decode cL_law 430 = .ok (.if_icmp .eq 5, 3) := by decide +kernel
theorem dL_law_433 : decode cL_law 433 = .ok (.iconst 0, 1) := by decide +kernel
theorem dL_law_434 : decode cL_law 434 = .ok (.ireturn, 1) := by decide +kernel
theorem dL_law_435 : decode cL_law 435 = .ok (.iload 6, 2) := by decide +kernel
theorem dL_law_437 : decode cL_law 437 = .ok (.ifCond .ne 15, 3) := by decide +kernel
theorem dL_law_440 : decode cL_law 440 = .ok (.aload_n 3, 1) := by decide +kernel
theorem dL_law_441 : decode cL_law 441 = .ok (.iconst 0, 1) := by decide +kernel
theorem dL_law_442 : decode cL_law 442 = .ok (.laload, 1) := by decide +kernel
theorem dL_law_443 : decode cL_law 443 = .ok (.iload 7, 2) := by decide +kernel
theorem dL_law_445 : decode cL_law 445 = .ok (.i2l, 1) := by decide +kernel
theorem dL_law_446 : decode cL_law 446 = .ok (.lcmp, 1) := by decide +kernel
theorem dL_law_447 : decode cL_law 447 = .ok (.ifCond .eq 5, 3) := by decide +kernel
theorem dL_law_450 : decode cL_law 450 = .ok (.iconst 0, 1) := by decide +kernel
theorem dL_law_451 : decode cL_law 451 = .ok (.ireturn, 1) := by decide +kernel
theorem dL_law_452 : decode cL_law 452 = .ok (.goto 1807, 3) := by decide +kernel
theorem dL_law_455 : decode cL_law 455 = .ok (.aload_n 1, 1) := by decide +kernel
theorem dL_law_456 : decode cL_law 456 = .ok (.aload_n 0, 1) := by decide +kernel
theorem dL_law_457 : decode cL_law 457 = .ok (.iload 5, 2) := by decide +kernel
theorem dL_law_459 : decode cL_law 459 = .ok (.iconst 1, 1) := by decide +kernel
theorem dL_law_460 : decode cL_law 460 = .ok (.iadd, 1) := by decide +kernel
theorem dL_law_461 : decode cL_law 461 = .ok (.iaload, 1) := by decide +kernel
theorem dL_law_462 : decode cL_law 462 = .ok (.aload_n 3, 1) := by decide +kernel
theorem dL_law_463 : decode cL_law 463 = .ok (.invokestatic 146, 3) := by decide +kernel
theorem dL_law_466 : decode cL_law 466 = .ok (.istore 6, 2) := by decide +kernel
theorem dL_law_468 : decode cL_law 468 = .ok (.aload_n 2, 1) := by decide +kernel
theorem dL_law_469 : decode cL_law 469 = .ok (.aload_n 0, 1) := by decide +kernel
theorem dL_law_470 : decode cL_law 470 = .ok (.iload 5, 2) := by decide +kernel
theorem dL_law_472 : decode cL_law 472 = .ok (.iconst 1, 1) := by decide +kernel
theorem dL_law_473 : decode cL_law 473 = .ok (.iadd, 1) := by decide +kernel
theorem dL_law_474 : decode cL_law 474 = .ok (.iaload, 1) := by decide +kernel
theorem dL_law_475 : decode cL_law 475 = .ok (.invokevirtual 148, 3) := by decide +kernel
theorem dL_law_478 : decode cL_law 478 = .ok (.istore 7, 2) := by decide +kernel
theorem dL_law_480 : decode cL_law 480 = .ok (.aload_n 2, 1) := by decide +kernel
theorem dL_law_481 : decode cL_law 481 = .ok (.invokevirtual 124, 3) := by decide +kernel
theorem dL_law_484 : decode cL_law 484 = .ok (.iload 6, 2) := by decide +kernel
theorem dL_law_486 : decode cL_law 486 = .ok (.if_icmp .eq 5, 3) := by decide +kernel
theorem dL_law_489 : decode cL_law 489 = .ok (.iconst 0, 1) := by decide +kernel
theorem dL_law_490 : decode cL_law 490 = .ok (.ireturn, 1) := by decide +kernel
theorem dL_law_491 : decode cL_law 491 = .ok (.iload 6, 2) := by decide +kernel
theorem dL_law_493 : decode cL_law 493 = .ok (.ifCond .ne 15, 3) := by decide +kernel
theorem dL_law_496 : decode cL_law 496 = .ok (.aload_n 3, 1) := by decide +kernel
theorem dL_law_497 : decode cL_law 497 = .ok (.iconst 0, 1) := by decide +kernel
theorem dL_law_498 : decode cL_law 498 = .ok (.laload, 1) := by decide +kernel
theorem dL_law_499 : decode cL_law 499 = .ok (.iload 7, 2) := by decide +kernel
theorem dL_law_501 : decode cL_law 501 = .ok (.i2l, 1) := by decide +kernel
theorem dL_law_502 : decode cL_law 502 = .ok (.lcmp, 1) := by decide +kernel
theorem dL_law_503 : decode cL_law 503 = .ok (.ifCond .eq 5, 3) := by decide +kernel
theorem dL_law_506 : decode cL_law 506 = .ok (.iconst 0, 1) := by decide +kernel
theorem dL_law_507 : decode cL_law 507 = .ok (.ireturn, 1) := by decide +kernel
theorem dL_law_508 : decode cL_law 508 = .ok (.goto 1751, 3) := by decide +kernel
theorem dL_law_511 : decode cL_law 511 = .ok (.aload_n 1, 1) := by decide +kernel
theorem dL_law_512 : decode cL_law 512 = .ok (.invokevirtual 149, 3) := by decide +kernel
theorem dL_law_515 : decode cL_law 515 = .ok (.aload_n 2, 1) := by decide +kernel
theorem dL_law_516 : decode cL_law 516 = .ok (.invokevirtual 152, 3) := by decide +kernel
theorem dL_law_519 : decode cL_law 519 = .ok (.if_icmp .eq 1740, 3) := by decide +kernel
theorem dL_law_522 : decode cL_law 522 = .ok (.iconst 0, 1) := by decide +kernel
theorem dL_law_523 : decode cL_law 523 = .ok (.ireturn, 1) := by decide +kernel
theorem dL_law_524 : decode cL_law 524 = .ok (.aload_n 1, 1) := by decide +kernel
theorem dL_law_525 : decode cL_law 525 = .ok (.aload_n 3, 1) := by decide +kernel
theorem dL_law_526 : decode cL_law 526 = .ok (.invokestatic 153, 3) := by decide +kernel
theorem dL_law_529 : decode cL_law 529 = .ok (.istore 6, 2) := by decide +kernel
theorem dL_law_531 : decode cL_law 531 = .ok (.aload_n 2, 1) := by decide +kernel
theorem dL_law_532 : decode cL_law 532 = .ok (.invokevirtual 156, 3) := by decide +kernel
theorem dL_law_535 : decode cL_law 535 = .ok (.istore 7, 2) := by decide +kernel
theorem dL_law_537 : decode cL_law 537 = .ok (.aload_n 2, 1) := by decide +kernel
theorem dL_law_538 : decode cL_law 538 = .ok (.invokevirtual 124, 3) := by decide +kernel
theorem dL_law_541 : decode cL_law 541 = .ok (.iload 6, 2) := by decide +kernel
theorem dL_law_543 : decode cL_law 543 = .ok (.if_icmp .eq 5, 3) := by decide +kernel
theorem dL_law_546 : decode cL_law 546 = .ok (.iconst 0, 1) := by decide +kernel
theorem dL_law_547 : decode cL_law 547 = .ok (.ireturn, 1) := by decide +kernel
theorem dL_law_548 : decode cL_law 548 = .ok (.iload 6, 2) := by decide +kernel
theorem dL_law_550 : decode cL_law 550 = .ok (.ifCond .ne 15, 3) := by decide +kernel
theorem dL_law_553 : decode cL_law 553 = .ok (.aload_n 3, 1) := by decide +kernel
theorem dL_law_554 : decode cL_law 554 = .ok (.iconst 0, 1) := by decide +kernel
theorem dL_law_555 : decode cL_law 555 = .ok (.laload, 1) := by decide +kernel
theorem dL_law_556 : decode cL_law 556 = .ok (.iload 7, 2) := by decide +kernel
theorem dL_law_558 : decode cL_law 558 = .ok (.i2l, 1) := by decide +kernel
theorem dL_law_559 : decode cL_law 559 = .ok (.lcmp, 1) := by decide +kernel
theorem dL_law_560 : decode cL_law 560 = .ok (.ifCond .eq 5, 3) := by decide +kernel
theorem dL_law_563 : decode cL_law 563 = .ok (.iconst 0, 1) := by decide +kernel
theorem dL_law_564 : decode cL_law 564 = .ok (.ireturn, 1) := by decide +kernel
theorem dL_law_565 : decode cL_law 565 = .ok (.goto 1694, 3) := by decide +kernel
theorem dL_law_568 : decode cL_law 568 = .ok (.aload_n 1, 1) := by decide +kernel
theorem dL_law_569 : decode cL_law 569 = .ok (.aload_n 0, 1) := by decide +kernel
theorem dL_law_570 : decode cL_law 570 = .ok (.iload 5, 2) := by decide +kernel
theorem dL_law_572 : decode cL_law 572 = .ok (.iconst 1, 1) := by decide +kernel
theorem dL_law_573 : decode cL_law 573 = .ok (.iadd, 1) := by decide +kernel
theorem dL_law_574 : decode cL_law 574 = .ok (.iaload, 1) := by decide +kernel
theorem dL_law_575 : decode cL_law 575 = .ok (.aload_n 3, 1) := by decide +kernel
theorem dL_law_576 : decode cL_law 576 = .ok (.invokestatic 157, 3) := by decide +kernel
theorem dL_law_579 : decode cL_law 579 = .ok (.istore 6, 2) := by decide +kernel
theorem dL_law_581 : decode cL_law 581 = .ok (.aload_n 2, 1) := by decide +kernel
theorem dL_law_582 : decode cL_law 582 = .ok (.aload_n 0, 1) := by decide +kernel
theorem dL_law_583 : decode cL_law 583 = .ok (.iload 5, 2) := by decide +kernel
theorem dL_law_585 : decode cL_law 585 = .ok (.iconst 1, 1) := by decide +kernel
theorem dL_law_586 : decode cL_law 586 = .ok (.iadd, 1) := by decide +kernel
theorem dL_law_587 : decode cL_law 587 = .ok (.iaload, 1) := by decide +kernel
theorem dL_law_588 : decode cL_law 588 = .ok (.invokevirtual 159, 3) := by decide +kernel
theorem dL_law_591 : decode cL_law 591 = .ok (.istore 7, 2) := by decide +kernel
theorem dL_law_593 : decode cL_law 593 = .ok (.aload_n 2, 1) := by decide +kernel
theorem dL_law_594 : decode cL_law 594 = .ok (.invokevirtual 124, 3) := by decide +kernel
theorem dL_law_597 : decode cL_law 597 = .ok (.iload 6, 2) := by decide +kernel
theorem dL_law_599 : decode cL_law 599 = .ok (.if_icmp .eq 5, 3) := by decide +kernel
theorem dL_law_602 : decode cL_law 602 = .ok (.iconst 0, 1) := by decide +kernel
theorem dL_law_603 : decode cL_law 603 = .ok (.ireturn, 1) := by decide +kernel
theorem dL_law_604 : decode cL_law 604 = .ok (.iload 6, 2) := by decide +kernel
theorem dL_law_606 : decode cL_law 606 = .ok (.ifCond .ne 15, 3) := by decide +kernel
theorem dL_law_609 : decode cL_law 609 = .ok (.aload_n 3, 1) := by decide +kernel
theorem dL_law_610 : decode cL_law 610 = .ok (.iconst 0, 1) := by decide +kernel
theorem dL_law_611 : decode cL_law 611 = .ok (.laload, 1) := by decide +kernel
theorem dL_law_612 : decode cL_law 612 = .ok (.iload 7, 2) := by decide +kernel
theorem dL_law_614 : decode cL_law 614 = .ok (.i2l, 1) := by decide +kernel
theorem dL_law_615 : decode cL_law 615 = .ok (.lcmp, 1) := by decide +kernel
theorem dL_law_616 : decode cL_law 616 = .ok (.ifCond .eq 5, 3) := by decide +kernel
theorem dL_law_619 : decode cL_law 619 = .ok (.iconst 0, 1) := by decide +kernel
theorem dL_law_620 : decode cL_law 620 = .ok (.ireturn, 1) := by decide +kernel
theorem dL_law_621 : decode cL_law 621 = .ok (.goto 1638, 3) := by decide +kernel
theorem dL_law_624 : decode cL_law 624 = .ok (.aload_n 1, 1) := by decide +kernel
theorem dL_law_625 : decode cL_law 625 = .ok (.aload_n 0, 1) := by decide +kernel
theorem dL_law_626 : decode cL_law 626 = .ok (.iload 5, 2) := by decide +kernel
theorem dL_law_628 : decode cL_law 628 = .ok (.iconst 1, 1) := by decide +kernel
theorem dL_law_629 : decode cL_law 629 = .ok (.iadd, 1) := by decide +kernel
theorem dL_law_630 : decode cL_law 630 = .ok (.iaload, 1) := by decide +kernel
theorem dL_law_631 : decode cL_law 631 = .ok (.aload_n 0, 1) := by decide +kernel
theorem dL_law_632 : decode cL_law 632 = .ok (.iload 5, 2) := by decide +kernel
theorem dL_law_634 : decode cL_law 634 = .ok (.iconst 2, 1) := by decide +kernel
theorem dL_law_635 : decode cL_law 635 = .ok (.iadd, 1) := by decide +kernel
theorem dL_law_636 : decode cL_law 636 = .ok (.iaload, 1) := by decide +kernel
theorem dL_law_637 : decode cL_law 637 = .ok (.aload_n 0, 1) := by decide +kernel
theorem dL_law_638 : decode cL_law 638 = .ok (.iload 5, 2) := by decide +kernel
theorem dL_law_640 : decode cL_law 640 = .ok (.iconst 3, 1) := by decide +kernel
theorem dL_law_641 : decode cL_law 641 = .ok (.iadd, 1) := by decide +kernel
theorem dL_law_642 : decode cL_law 642 = .ok (.iaload, 1) := by decide +kernel
theorem dL_law_643 : decode cL_law 643 = .ok (.aload_n 0, 1) := by decide +kernel
theorem dL_law_644 : decode cL_law 644 = .ok (.iload 5, 2) := by decide +kernel
theorem dL_law_646 : decode cL_law 646 = .ok (.iconst 4, 1) := by decide +kernel
theorem dL_law_647 : decode cL_law 647 = .ok (.iadd, 1) := by decide +kernel
theorem dL_law_648 : decode cL_law 648 = .ok (.iaload, 1) := by decide +kernel
theorem dL_law_649 : decode cL_law 649 = .ok (.aload_n 3, 1) := by decide +kernel
theorem dL_law_650 : decode cL_law 650 = .ok (.invokestatic 160, 3) := by decide +kernel
theorem dL_law_653 : decode cL_law 653 = .ok (.istore 6, 2) := by decide +kernel
theorem dL_law_655 : decode cL_law 655 = .ok (.aload_n 2, 1) := by decide +kernel
theorem dL_law_656 : decode cL_law 656 = .ok (.aload_n 0, 1) := by decide +kernel
theorem dL_law_657 : decode cL_law 657 = .ok (.iload 5, 2) := by decide +kernel
theorem dL_law_659 : decode cL_law 659 = .ok (.iconst 1, 1) := by decide +kernel
theorem dL_law_660 : decode cL_law 660 = .ok (.iadd, 1) := by decide +kernel
theorem dL_law_661 : decode cL_law 661 = .ok (.iaload, 1) := by decide +kernel
theorem dL_law_662 : decode cL_law 662 = .ok (.aload_n 0, 1) := by decide +kernel
theorem dL_law_663 : decode cL_law 663 = .ok (.iload 5, 2) := by decide +kernel
theorem dL_law_665 : decode cL_law 665 = .ok (.iconst 2, 1) := by decide +kernel
theorem dL_law_666 : decode cL_law 666 = .ok (.iadd, 1) := by decide +kernel
theorem dL_law_667 : decode cL_law 667 = .ok (.iaload, 1) := by decide +kernel
theorem dL_law_668 : decode cL_law 668 = .ok (.aload_n 0, 1) := by decide +kernel
theorem dL_law_669 : decode cL_law 669 = .ok (.iload 5, 2) := by decide +kernel
theorem dL_law_671 : decode cL_law 671 = .ok (.iconst 3, 1) := by decide +kernel
theorem dL_law_672 : decode cL_law 672 = .ok (.iadd, 1) := by decide +kernel
theorem dL_law_673 : decode cL_law 673 = .ok (.iaload, 1) := by decide +kernel
theorem dL_law_674 : decode cL_law 674 = .ok (.aload_n 0, 1) := by decide +kernel
theorem dL_law_675 : decode cL_law 675 = .ok (.iload 5, 2) := by decide +kernel
theorem dL_law_677 : decode cL_law 677 = .ok (.iconst 4, 1) := by decide +kernel
theorem dL_law_678 : decode cL_law 678 = .ok (.iadd, 1) := by decide +kernel
theorem dL_law_679 : decode cL_law 679 = .ok (.iaload, 1) := by decide +kernel
theorem dL_law_680 : decode cL_law 680 = .ok (.invokevirtual 163, 3) := by decide +kernel
theorem dL_law_683 : decode cL_law 683 = .ok (.istore 7, 2) := by decide +kernel
theorem dL_law_685 : decode cL_law 685 = .ok (.aload_n 2, 1) := by decide +kernel
theorem dL_law_686 : decode cL_law 686 = .ok (.invokevirtual 124, 3) := by decide +kernel
theorem dL_law_689 : decode cL_law 689 = .ok (.iload 6, 2) := by decide +kernel
theorem dL_law_691 : decode cL_law 691 = .ok (.if_icmp .eq 5, 3) := by decide +kernel
theorem dL_law_694 : decode cL_law 694 = .ok (.iconst 0, 1) := by decide +kernel
theorem dL_law_695 : decode cL_law 695 = .ok (.ireturn, 1) := by decide +kernel
theorem dL_law_696 : decode cL_law 696 = .ok (.iload 6, 2) := by decide +kernel
theorem dL_law_698 : decode cL_law 698 = .ok (.ifCond .ne 15, 3) := by decide +kernel
theorem dL_law_701 : decode cL_law 701 = .ok (.aload_n 3, 1) := by decide +kernel
theorem dL_law_702 : decode cL_law 702 = .ok (.iconst 0, 1) := by decide +kernel
theorem dL_law_703 : decode cL_law 703 = .ok (.laload, 1) := by decide +kernel
theorem dL_law_704 : decode cL_law 704 = .ok (.iload 7, 2) := by decide +kernel
theorem dL_law_706 : decode cL_law 706 = .ok (.i2l, 1) := by decide +kernel
theorem dL_law_707 : decode cL_law 707 = .ok (.lcmp, 1) := by decide +kernel
theorem dL_law_708 : decode cL_law 708 = .ok (.ifCond .eq 5, 3) := by decide +kernel
theorem dL_law_711 : decode cL_law 711 = .ok (.iconst 0, 1) := by decide +kernel
theorem dL_law_712 : decode cL_law 712 = .ok (.ireturn, 1) := by decide +kernel
theorem dL_law_713 : decode cL_law 713 = .ok (.goto 1546, 3) := by decide +kernel
theorem dL_law_716 : decode cL_law 716 = .ok (.aload_n 1, 1) := by decide +kernel
theorem dL_law_717 : decode cL_law 717 = .ok (.aload_n 0, 1) := by decide +kernel
theorem dL_law_718 : decode cL_law 718 = .ok (.iload 5, 2) := by decide +kernel
theorem dL_law_720 : decode cL_law 720 = .ok (.iconst 1, 1) := by decide +kernel
theorem dL_law_721 : decode cL_law 721 = .ok (.iadd, 1) := by decide +kernel
theorem dL_law_722 : decode cL_law 722 = .ok (.iaload, 1) := by decide +kernel
theorem dL_law_723 : decode cL_law 723 = .ok (.aload_n 0, 1) := by decide +kernel
theorem dL_law_724 : decode cL_law 724 = .ok (.iload 5, 2) := by decide +kernel
theorem dL_law_726 : decode cL_law 726 = .ok (.iconst 2, 1) := by decide +kernel
theorem dL_law_727 : decode cL_law 727 = .ok (.iadd, 1) := by decide +kernel
theorem dL_law_728 : decode cL_law 728 = .ok (.iaload, 1) := by decide +kernel
theorem dL_law_729 : decode cL_law 729 = .ok (.aload_n 3, 1) := by decide +kernel
theorem dL_law_730 : decode cL_law 730 = .ok (.invokestatic 164, 3) := by decide +kernel
theorem dL_law_733 : decode cL_law 733 = .ok (.istore 6, 2) := by decide +kernel
theorem dL_law_735 : decode cL_law 735 = .ok (.aload_n 2, 1) := by decide +kernel
theorem dL_law_736 : decode cL_law 736 = .ok (.aload_n 0, 1) := by decide +kernel
theorem dL_law_737 : decode cL_law 737 = .ok (.iload 5, 2) := by decide +kernel
theorem dL_law_739 : decode cL_law 739 = .ok (.iconst 1, 1) := by decide +kernel
theorem dL_law_740 : decode cL_law 740 = .ok (.iadd, 1) := by decide +kernel
theorem dL_law_741 : decode cL_law 741 = .ok (.iaload, 1) := by decide +kernel
theorem dL_law_742 : decode cL_law 742 = .ok (.aload_n 0, 1) := by decide +kernel
theorem dL_law_743 : decode cL_law 743 = .ok (.iload 5, 2) := by decide +kernel
theorem dL_law_745 : decode cL_law 745 = .ok (.iconst 2, 1) := by decide +kernel
theorem dL_law_746 : decode cL_law 746 = .ok (.iadd, 1) := by decide +kernel
theorem dL_law_747 : decode cL_law 747 = .ok (.iaload, 1) := by decide +kernel
theorem dL_law_748 : decode cL_law 748 = .ok (.invokevirtual 167, 3) := by decide +kernel
theorem dL_law_751 : decode cL_law 751 = .ok (.istore 7, 2) := by decide +kernel
theorem dL_law_753 : decode cL_law 753 = .ok (.aload_n 2, 1) := by decide +kernel
theorem dL_law_754 : decode cL_law 754 = .ok (.invokevirtual 124, 3) := by decide +kernel
theorem dL_law_757 : decode cL_law 757 = .ok (.iload 6, 2) := by decide +kernel
theorem dL_law_759 : decode cL_law 759 = .ok (.if_icmp .eq 5, 3) := by decide +kernel
theorem dL_law_762 : decode cL_law 762 = .ok (.iconst 0, 1) := by decide +kernel
theorem dL_law_763 : decode cL_law 763 = .ok (.ireturn, 1) := by decide +kernel
theorem dL_law_764 : decode cL_law 764 = .ok (.iload 6, 2) := by decide +kernel
theorem dL_law_766 : decode cL_law 766 = .ok (.ifCond .ne 15, 3) := by decide +kernel
theorem dL_law_769 : decode cL_law 769 = .ok (.aload_n 3, 1) := by decide +kernel
theorem dL_law_770 : decode cL_law 770 = .ok (.iconst 0, 1) := by decide +kernel
theorem dL_law_771 : decode cL_law 771 = .ok (.laload, 1) := by decide +kernel
theorem dL_law_772 : decode cL_law 772 = .ok (.iload 7, 2) := by decide +kernel
theorem dL_law_774 : decode cL_law 774 = .ok (.i2l, 1) := by decide +kernel
theorem dL_law_775 : decode cL_law 775 = .ok (.lcmp, 1) := by decide +kernel
theorem dL_law_776 : decode cL_law 776 = .ok (.ifCond .eq 5, 3) := by decide +kernel
theorem dL_law_779 : decode cL_law 779 = .ok (.iconst 0, 1) := by decide +kernel
theorem dL_law_780 : decode cL_law 780 = .ok (.ireturn, 1) := by decide +kernel
theorem dL_law_781 : decode cL_law 781 = .ok (.goto 1478, 3) := by decide +kernel
theorem dL_law_784 : decode cL_law 784 = .ok (.aload_n 1, 1) := by decide +kernel
theorem dL_law_785 : decode cL_law 785 = .ok (.aload_n 0, 1) := by decide +kernel
theorem dL_law_786 : decode cL_law 786 = .ok (.iload 5, 2) := by decide +kernel
theorem dL_law_788 : decode cL_law 788 = .ok (.iconst 1, 1) := by decide +kernel
theorem dL_law_789 : decode cL_law 789 = .ok (.iadd, 1) := by decide +kernel
theorem dL_law_790 : decode cL_law 790 = .ok (.iaload, 1) := by decide +kernel
theorem dL_law_791 : decode cL_law 791 = .ok (.aload_n 0, 1) := by decide +kernel
theorem dL_law_792 : decode cL_law 792 = .ok (.iload 5, 2) := by decide +kernel
theorem dL_law_794 : decode cL_law 794 = .ok (.iconst 2, 1) := by decide +kernel
theorem dL_law_795 : decode cL_law 795 = .ok (.iadd, 1) := by decide +kernel
theorem dL_law_796 : decode cL_law 796 = .ok (.iaload, 1) := by decide +kernel
theorem dL_law_797 : decode cL_law 797 = .ok (.aload_n 0, 1) := by decide +kernel
theorem dL_law_798 : decode cL_law 798 = .ok (.iload 5, 2) := by decide +kernel
theorem dL_law_800 : decode cL_law 800 = .ok (.iconst 3, 1) := by decide +kernel
theorem dL_law_801 : decode cL_law 801 = .ok (.iadd, 1) := by decide +kernel
theorem dL_law_802 : decode cL_law 802 = .ok (.iaload, 1) := by decide +kernel
theorem dL_law_803 : decode cL_law 803 = .ok (.aload_n 3, 1) := by decide +kernel
theorem dL_law_804 : decode cL_law 804 = .ok (.invokestatic 168, 3) := by decide +kernel
theorem dL_law_807 : decode cL_law 807 = .ok (.istore 6, 2) := by decide +kernel
theorem dL_law_809 : decode cL_law 809 = .ok (.aload_n 2, 1) := by decide +kernel
theorem dL_law_810 : decode cL_law 810 = .ok (.aload_n 0, 1) := by decide +kernel
theorem dL_law_811 : decode cL_law 811 = .ok (.iload 5, 2) := by decide +kernel
theorem dL_law_813 : decode cL_law 813 = .ok (.iconst 1, 1) := by decide +kernel
theorem dL_law_814 : decode cL_law 814 = .ok (.iadd, 1) := by decide +kernel
theorem dL_law_815 : decode cL_law 815 = .ok (.iaload, 1) := by decide +kernel
theorem dL_law_816 : decode cL_law 816 = .ok (.aload_n 0, 1) := by decide +kernel
theorem dL_law_817 : decode cL_law 817 = .ok (.iload 5, 2) := by decide +kernel
theorem dL_law_819 : decode cL_law 819 = .ok (.iconst 2, 1) := by decide +kernel
theorem dL_law_820 : decode cL_law 820 = .ok (.iadd, 1) := by decide +kernel
theorem dL_law_821 : decode cL_law 821 = .ok (.iaload, 1) := by decide +kernel
theorem dL_law_822 : decode cL_law 822 = .ok (.aload_n 0, 1) := by decide +kernel
theorem dL_law_823 : decode cL_law 823 = .ok (.iload 5, 2) := by decide +kernel
theorem dL_law_825 : decode cL_law 825 = .ok (.iconst 3, 1) := by decide +kernel
theorem dL_law_826 : decode cL_law 826 = .ok (.iadd, 1) := by decide +kernel
theorem dL_law_827 : decode cL_law 827 = .ok (.iaload, 1) := by decide +kernel
theorem dL_law_828 : decode cL_law 828 = .ok (.invokevirtual 171, 3) := by decide +kernel
theorem dL_law_831 : decode cL_law 831 = .ok (.istore 7, 2) := by decide +kernel
theorem dL_law_833 : decode cL_law 833 = .ok (.aload_n 2, 1) := by decide +kernel
theorem dL_law_834 : decode cL_law 834 = .ok (.invokevirtual 124, 3) := by decide +kernel
theorem dL_law_837 : decode cL_law 837 = .ok (.iload 6, 2) := by decide +kernel
theorem dL_law_839 : decode cL_law 839 = .ok (.if_icmp .eq 5, 3) := by decide +kernel
theorem dL_law_842 : decode cL_law 842 = .ok (.iconst 0, 1) := by decide +kernel
theorem dL_law_843 : decode cL_law 843 = .ok (.ireturn, 1) := by decide +kernel
theorem dL_law_844 : decode cL_law 844 = .ok (.iload 6, 2) := by decide +kernel
theorem dL_law_846 : decode cL_law 846 = .ok (.ifCond .ne 15, 3) := by decide +kernel
theorem dL_law_849 : decode cL_law 849 = .ok (.aload_n 3, 1) := by decide +kernel
theorem dL_law_850 : decode cL_law 850 = .ok (.iconst 0, 1) := by decide +kernel
theorem dL_law_851 : decode cL_law 851 = .ok (.laload, 1) := by decide +kernel
theorem dL_law_852 : decode cL_law 852 = .ok (.iload 7, 2) := by decide +kernel
theorem dL_law_854 : decode cL_law 854 = .ok (.i2l, 1) := by decide +kernel
theorem dL_law_855 : decode cL_law 855 = .ok (.lcmp, 1) := by decide +kernel
theorem dL_law_856 : decode cL_law 856 = .ok (.ifCond .eq 5, 3) := by decide +kernel
theorem dL_law_859 : decode cL_law 859 = .ok (.iconst 0, 1) := by decide +kernel
theorem dL_law_860 : decode cL_law 860 = .ok (.ireturn, 1) := by decide +kernel
theorem dL_law_861 : decode cL_law 861 = .ok (.goto 1398, 3) := by decide +kernel
theorem dL_law_864 : decode cL_law 864 = .ok (.aload_n 1, 1) := by decide +kernel
theorem dL_law_865 : decode cL_law 865 = .ok (.aload_n 0, 1) := by decide +kernel
theorem dL_law_866 : decode cL_law 866 = .ok (.iload 5, 2) := by decide +kernel
theorem dL_law_868 : decode cL_law 868 = .ok (.iconst 1, 1) := by decide +kernel
theorem dL_law_869 : decode cL_law 869 = .ok (.iadd, 1) := by decide +kernel
theorem dL_law_870 : decode cL_law 870 = .ok (.iaload, 1) := by decide +kernel
theorem dL_law_871 : decode cL_law 871 = .ok (.aload_n 3, 1) := by decide +kernel
theorem dL_law_872 : decode cL_law 872 = .ok (.invokestatic 172, 3) := by decide +kernel
theorem dL_law_875 : decode cL_law 875 = .ok (.istore 6, 2) := by decide +kernel
theorem dL_law_877 : decode cL_law 877 = .ok (.aload_n 2, 1) := by decide +kernel
theorem dL_law_878 : decode cL_law 878 = .ok (.aload_n 0, 1) := by decide +kernel
theorem dL_law_879 : decode cL_law 879 = .ok (.iload 5, 2) := by decide +kernel
theorem dL_law_881 : decode cL_law 881 = .ok (.iconst 1, 1) := by decide +kernel
theorem dL_law_882 : decode cL_law 882 = .ok (.iadd, 1) := by decide +kernel
theorem dL_law_883 : decode cL_law 883 = .ok (.iaload, 1) := by decide +kernel
theorem dL_law_884 : decode cL_law 884 = .ok (.invokevirtual 174, 3) := by decide +kernel
theorem dL_law_887 : decode cL_law 887 = .ok (.istore 7, 2) := by decide +kernel
theorem dL_law_889 : decode cL_law 889 = .ok (.aload_n 2, 1) := by decide +kernel
theorem dL_law_890 : decode cL_law 890 = .ok (.invokevirtual 124, 3) := by decide +kernel
theorem dL_law_893 : decode cL_law 893 = .ok (.iload 6, 2) := by decide +kernel
theorem dL_law_895 : decode cL_law 895 = .ok (.if_icmp .eq 5, 3) := by decide +kernel
theorem dL_law_898 : decode cL_law 898 = .ok (.iconst 0, 1) := by decide +kernel
theorem dL_law_899 : decode cL_law 899 = .ok (.ireturn, 1) := by decide +kernel
theorem dL_law_900 : decode cL_law 900 = .ok (.iload 6, 2) := by decide +kernel
theorem dL_law_902 : decode cL_law 902 = .ok (.ifCond .ne 15, 3) := by decide +kernel
theorem dL_law_905 : decode cL_law 905 = .ok (.aload_n 3, 1) := by decide +kernel
theorem dL_law_906 : decode cL_law 906 = .ok (.iconst 0, 1) := by decide +kernel
theorem dL_law_907 : decode cL_law 907 = .ok (.laload, 1) := by decide +kernel
theorem dL_law_908 : decode cL_law 908 = .ok (.iload 7, 2) := by decide +kernel
theorem dL_law_910 : decode cL_law 910 = .ok (.i2l, 1) := by decide +kernel
theorem dL_law_911 : decode cL_law 911 = .ok (.lcmp, 1) := by decide +kernel
theorem dL_law_912 : decode cL_law 912 = .ok (.ifCond .eq 5, 3) := by decide +kernel
theorem dL_law_915 : decode cL_law 915 = .ok (.iconst 0, 1) := by decide +kernel
theorem dL_law_916 : decode cL_law 916 = .ok (.ireturn, 1) := by decide +kernel
theorem dL_law_917 : decode cL_law 917 = .ok (.goto 1342, 3) := by decide +kernel
theorem dL_law_920 : decode cL_law 920 = .ok (.aload_n 1, 1) := by decide +kernel
theorem dL_law_921 : decode cL_law 921 = .ok (.aload_n 0, 1) := by decide +kernel
theorem dL_law_922 : decode cL_law 922 = .ok (.iload 5, 2) := by decide +kernel
theorem dL_law_924 : decode cL_law 924 = .ok (.iconst 1, 1) := by decide +kernel
theorem dL_law_925 : decode cL_law 925 = .ok (.iadd, 1) := by decide +kernel
theorem dL_law_926 : decode cL_law 926 = .ok (.iaload, 1) := by decide +kernel
theorem dL_law_927 : decode cL_law 927 = .ok (.aload_n 3, 1) := by decide +kernel
theorem dL_law_928 : decode cL_law 928 = .ok (.invokestatic 175, 3) := by decide +kernel
theorem dL_law_931 : decode cL_law 931 = .ok (.istore 6, 2) := by decide +kernel
theorem dL_law_933 : decode cL_law 933 = .ok (.aload_n 2, 1) := by decide +kernel
theorem dL_law_934 : decode cL_law 934 = .ok (.aload_n 0, 1) := by decide +kernel
theorem dL_law_935 : decode cL_law 935 = .ok (.iload 5, 2) := by decide +kernel
theorem dL_law_937 : decode cL_law 937 = .ok (.iconst 1, 1) := by decide +kernel
theorem dL_law_938 : decode cL_law 938 = .ok (.iadd, 1) := by decide +kernel
theorem dL_law_939 : decode cL_law 939 = .ok (.iaload, 1) := by decide +kernel
theorem dL_law_940 : decode cL_law 940 = .ok (.invokevirtual 177, 3) := by decide +kernel
theorem dL_law_943 : decode cL_law 943 = .ok (.istore 7, 2) := by decide +kernel
theorem dL_law_945 : decode cL_law 945 = .ok (.aload_n 2, 1) := by decide +kernel
theorem dL_law_946 : decode cL_law 946 = .ok (.invokevirtual 124, 3) := by decide +kernel
theorem dL_law_949 : decode cL_law 949 = .ok (.iload 6, 2) := by decide +kernel
theorem dL_law_951 : decode cL_law 951 = .ok (.if_icmp .eq 5, 3) := by decide +kernel
theorem dL_law_954 : decode cL_law 954 = .ok (.iconst 0, 1) := by decide +kernel
theorem dL_law_955 : decode cL_law 955 = .ok (.ireturn, 1) := by decide +kernel
theorem dL_law_956 : decode cL_law 956 = .ok (.iload 6, 2) := by decide +kernel
theorem dL_law_958 : decode cL_law 958 = .ok (.ifCond .ne 15, 3) := by decide +kernel
theorem dL_law_961 : decode cL_law 961 = .ok (.aload_n 3, 1) := by decide +kernel
theorem dL_law_962 : decode cL_law 962 = .ok (.iconst 0, 1) := by decide +kernel
theorem dL_law_963 : decode cL_law 963 = .ok (.laload, 1) := by decide +kernel
theorem dL_law_964 : decode cL_law 964 = .ok (.iload 7, 2) := by decide +kernel
theorem dL_law_966 : decode cL_law 966 = .ok (.i2l, 1) := by decide +kernel
theorem dL_law_967 : decode cL_law 967 = .ok (.lcmp, 1) := by decide +kernel
theorem dL_law_968 : decode cL_law 968 = .ok (.ifCond .eq 5, 3) := by decide +kernel
theorem dL_law_971 : decode cL_law 971 = .ok (.iconst 0, 1) := by decide +kernel
theorem dL_law_972 : decode cL_law 972 = .ok (.ireturn, 1) := by decide +kernel
theorem dL_law_973 : decode cL_law 973 = .ok (.goto 1286, 3) := by decide +kernel
theorem dL_law_976 : decode cL_law 976 = .ok (.aload_n 1, 1) := by decide +kernel
theorem dL_law_977 : decode cL_law 977 = .ok (.aload_n 0, 1) := by decide +kernel
theorem dL_law_978 : decode cL_law 978 = .ok (.iload 5, 2) := by decide +kernel
theorem dL_law_980 : decode cL_law 980 = .ok (.iconst 1, 1) := by decide +kernel
theorem dL_law_981 : decode cL_law 981 = .ok (.iadd, 1) := by decide +kernel
theorem dL_law_982 : decode cL_law 982 = .ok (.iaload, 1) := by decide +kernel
theorem dL_law_983 : decode cL_law 983 = .ok (.ifCond .eq 7, 3) := by decide +kernel
theorem dL_law_986 : decode cL_law 986 = .ok (.iconst 1, 1) := by decide +kernel
theorem dL_law_987 : decode cL_law 987 = .ok (.goto 4, 3) := by decide +kernel
theorem dL_law_990 : decode cL_law 990 = .ok (.iconst 0, 1) := by decide +kernel
theorem dL_law_991 : decode cL_law 991 = .ok (.aload_n 0, 1) := by decide +kernel
theorem dL_law_992 : decode cL_law 992 = .ok (.iload 5, 2) := by decide +kernel
theorem dL_law_994 : decode cL_law 994 = .ok (.iconst 2, 1) := by decide +kernel
theorem dL_law_995 : decode cL_law 995 = .ok (.iadd, 1) := by decide +kernel
theorem dL_law_996 : decode cL_law 996 = .ok (.iaload, 1) := by decide +kernel
theorem dL_law_997 : decode cL_law 997 = .ok (.aload_n 3, 1) := by decide +kernel
theorem dL_law_998 : decode cL_law 998 = .ok (.invokestatic 178, 3) := by decide +kernel
theorem dL_law_1001 : decode cL_law 1001 = .ok (.istore 6, 2) := by decide +kernel
theorem dL_law_1003 : decode cL_law 1003 = .ok (.aload_n 2, 1) := by decide +kernel
theorem dL_law_1004 : decode cL_law 1004 = .ok (.aload_n 0, 1) := by decide +kernel
theorem dL_law_1005 : decode cL_law 1005 = .ok (.iload 5, 2) := by decide +kernel
theorem dL_law_1007 : decode cL_law 1007 = .ok (.iconst 1, 1) := by decide +kernel
theorem dL_law_1008 : decode cL_law 1008 = .ok (.iadd, 1) := by decide +kernel
theorem dL_law_1009 : decode cL_law 1009 = .ok (.iaload, 1) := by decide +kernel
theorem dL_law_1010 : decode cL_law 1010 = .ok (.ifCond .eq 7, 3) := by decide +kernel
theorem dL_law_1013 : decode cL_law 1013 = .ok (.iconst 1, 1) := by decide +kernel
theorem dL_law_1014 : decode cL_law 1014 = .ok (.goto 4, 3) := by decide +kernel
theorem dL_law_1017 : decode cL_law 1017 = .ok (.iconst 0, 1) := by decide +kernel
theorem dL_law_1018 : decode cL_law 1018 = .ok (.aload_n 0, 1) := by decide +kernel
theorem dL_law_1019 : decode cL_law 1019 = .ok (.iload 5, 2) := by decide +kernel
theorem dL_law_1021 : decode cL_law 1021 = .ok (.iconst 2, 1) := by decide +kernel
theorem dL_law_1022 : decode cL_law 1022 = .ok (.iadd, 1) := by decide +kernel
theorem dL_law_1023 : decode cL_law 1023 = .ok (.iaload, 1) := by decide +kernel
theorem dL_law_1024 : decode cL_law 1024 = .ok (.invokevirtual 181, 3) := by decide +kernel
theorem dL_law_1027 : decode cL_law 1027 = .ok (.istore 7, 2) := by decide +kernel
theorem dL_law_1029 : decode cL_law 1029 = .ok (.aload_n 2, 1) := by decide +kernel
theorem dL_law_1030 : decode cL_law 1030 = .ok (.invokevirtual 124, 3) := by decide +kernel
theorem dL_law_1033 : decode cL_law 1033 = .ok (.iload 6, 2) := by decide +kernel
theorem dL_law_1035 : decode cL_law 1035 = .ok (.if_icmp .eq 5, 3) := by decide +kernel
theorem dL_law_1038 : decode cL_law 1038 = .ok (.iconst 0, 1) := by decide +kernel
theorem dL_law_1039 : decode cL_law 1039 = .ok (.ireturn, 1) := by decide +kernel
theorem dL_law_1040 : decode cL_law 1040 = .ok (.iload 6, 2) := by decide +kernel
theorem dL_law_1042 : decode cL_law 1042 = .ok (.ifCond .ne 15, 3) := by decide +kernel
theorem dL_law_1045 : decode cL_law 1045 = .ok (.aload_n 3, 1) := by decide +kernel
theorem dL_law_1046 : decode cL_law 1046 = .ok (.iconst 0, 1) := by decide +kernel
theorem dL_law_1047 : decode cL_law 1047 = .ok (.laload, 1) := by decide +kernel
theorem dL_law_1048 : decode cL_law 1048 = .ok (.iload 7, 2) := by decide +kernel
theorem dL_law_1050 : decode cL_law 1050 = .ok (.i2l, 1) := by decide +kernel
theorem dL_law_1051 : decode cL_law 1051 = .ok (.lcmp, 1) := by decide +kernel
theorem dL_law_1052 : decode cL_law 1052 = .ok (.ifCond .eq 5, 3) := by decide +kernel
theorem dL_law_1055 : decode cL_law 1055 = .ok (.iconst 0, 1) := by decide +kernel
theorem dL_law_1056 : decode cL_law 1056 = .ok (.ireturn, 1) := by decide +kernel
theorem dL_law_1057 : decode cL_law 1057 = .ok (.goto 1202, 3) := by decide +kernel
theorem dL_law_1060 : decode cL_law 1060 = .ok (.aload_n 1, 1) := by decide +kernel
theorem dL_law_1061 : decode cL_law 1061 = .ok (.aload_n 0, 1) := by decide +kernel
theorem dL_law_1062 : decode cL_law 1062 = .ok (.iload 5, 2) := by decide +kernel
theorem dL_law_1064 : decode cL_law 1064 = .ok (.iconst 1, 1) := by decide +kernel
theorem dL_law_1065 : decode cL_law 1065 = .ok (.iadd, 1) := by decide +kernel
theorem dL_law_1066 : decode cL_law 1066 = .ok (.iaload, 1) := by decide +kernel
theorem dL_law_1067 : decode cL_law 1067 = .ok (.ifCond .eq 7, 3) := by decide +kernel
theorem dL_law_1070 : decode cL_law 1070 = .ok (.iconst 1, 1) := by decide +kernel
theorem dL_law_1071 : decode cL_law 1071 = .ok (.goto 4, 3) := by decide +kernel
theorem dL_law_1074 : decode cL_law 1074 = .ok (.iconst 0, 1) := by decide +kernel
theorem dL_law_1075 : decode cL_law 1075 = .ok (.aload_n 0, 1) := by decide +kernel
theorem dL_law_1076 : decode cL_law 1076 = .ok (.iload 5, 2) := by decide +kernel
theorem dL_law_1078 : decode cL_law 1078 = .ok (.iconst 2, 1) := by decide +kernel
theorem dL_law_1079 : decode cL_law 1079 = .ok (.iadd, 1) := by decide +kernel
theorem dL_law_1080 : decode cL_law 1080 = .ok (.iaload, 1) := by decide +kernel
theorem dL_law_1081 : decode cL_law 1081 = .ok (.aload_n 3, 1) := by decide +kernel
theorem dL_law_1082 : decode cL_law 1082 = .ok (.invokestatic 182, 3) := by decide +kernel
theorem dL_law_1085 : decode cL_law 1085 = .ok (.istore 6, 2) := by decide +kernel
theorem dL_law_1087 : decode cL_law 1087 = .ok (.aload_n 2, 1) := by decide +kernel
theorem dL_law_1088 : decode cL_law 1088 = .ok (.aload_n 0, 1) := by decide +kernel
theorem dL_law_1089 : decode cL_law 1089 = .ok (.iload 5, 2) := by decide +kernel
theorem dL_law_1091 : decode cL_law 1091 = .ok (.iconst 1, 1) := by decide +kernel
theorem dL_law_1092 : decode cL_law 1092 = .ok (.iadd, 1) := by decide +kernel
theorem dL_law_1093 : decode cL_law 1093 = .ok (.iaload, 1) := by decide +kernel
theorem dL_law_1094 : decode cL_law 1094 = .ok (.ifCond .eq 7, 3) := by decide +kernel
theorem dL_law_1097 : decode cL_law 1097 = .ok (.iconst 1, 1) := by decide +kernel
theorem dL_law_1098 : decode cL_law 1098 = .ok (.goto 4, 3) := by decide +kernel
theorem dL_law_1101 : decode cL_law 1101 = .ok (.iconst 0, 1) := by decide +kernel
theorem dL_law_1102 : decode cL_law 1102 = .ok (.aload_n 0, 1) := by decide +kernel
theorem dL_law_1103 : decode cL_law 1103 = .ok (.iload 5, 2) := by decide +kernel
theorem dL_law_1105 : decode cL_law 1105 = .ok (.iconst 2, 1) := by decide +kernel
theorem dL_law_1106 : decode cL_law 1106 = .ok (.iadd, 1) := by decide +kernel
theorem dL_law_1107 : decode cL_law 1107 = .ok (.iaload, 1) := by decide +kernel
theorem dL_law_1108 : decode cL_law 1108 = .ok (.invokevirtual 184, 3) := by decide +kernel
theorem dL_law_1111 : decode cL_law 1111 = .ok (.istore 7, 2) := by decide +kernel
theorem dL_law_1113 : decode cL_law 1113 = .ok (.aload_n 2, 1) := by decide +kernel
theorem dL_law_1114 : decode cL_law 1114 = .ok (.invokevirtual 124, 3) := by decide +kernel
theorem dL_law_1117 : decode cL_law 1117 = .ok (.iload 6, 2) := by decide +kernel
theorem dL_law_1119 : decode cL_law 1119 = .ok (.if_icmp .eq 5, 3) := by decide +kernel
theorem dL_law_1122 : decode cL_law 1122 = .ok (.iconst 0, 1) := by decide +kernel
theorem dL_law_1123 : decode cL_law 1123 = .ok (.ireturn, 1) := by decide +kernel
theorem dL_law_1124 : decode cL_law 1124 = .ok (.iload 6, 2) := by decide +kernel
theorem dL_law_1126 : decode cL_law 1126 = .ok (.ifCond .ne 15, 3) := by decide +kernel
theorem dL_law_1129 : decode cL_law 1129 = .ok (.aload_n 3, 1) := by decide +kernel
theorem dL_law_1130 : decode cL_law 1130 = .ok (.iconst 0, 1) := by decide +kernel
theorem dL_law_1131 : decode cL_law 1131 = .ok (.laload, 1) := by decide +kernel
theorem dL_law_1132 : decode cL_law 1132 = .ok (.iload 7, 2) := by decide +kernel
theorem dL_law_1134 : decode cL_law 1134 = .ok (.i2l, 1) := by decide +kernel
theorem dL_law_1135 : decode cL_law 1135 = .ok (.lcmp, 1) := by decide +kernel
theorem dL_law_1136 : decode cL_law 1136 = .ok (.ifCond .eq 5, 3) := by decide +kernel
theorem dL_law_1139 : decode cL_law 1139 = .ok (.iconst 0, 1) := by decide +kernel
theorem dL_law_1140 : decode cL_law 1140 = .ok (.ireturn, 1) := by decide +kernel
theorem dL_law_1141 : decode cL_law 1141 = .ok (.goto 1118, 3) := by decide +kernel
theorem dL_law_1144 : decode cL_law 1144 = .ok (.aload_n 1, 1) := by decide +kernel
theorem dL_law_1145 : decode cL_law 1145 = .ok (.aload_n 0, 1) := by decide +kernel
theorem dL_law_1146 : decode cL_law 1146 = .ok (.iload 5, 2) := by decide +kernel
theorem dL_law_1148 : decode cL_law 1148 = .ok (.iconst 1, 1) := by decide +kernel
theorem dL_law_1149 : decode cL_law 1149 = .ok (.iadd, 1) := by decide +kernel
theorem dL_law_1150 : decode cL_law 1150 = .ok (.iaload, 1) := by decide +kernel
theorem dL_law_1151 : decode cL_law 1151 = .ok (.aload_n 0, 1) := by decide +kernel
theorem dL_law_1152 : decode cL_law 1152 = .ok (.iload 5, 2) := by decide +kernel
theorem dL_law_1154 : decode cL_law 1154 = .ok (.iconst 2, 1) := by decide +kernel
theorem dL_law_1155 : decode cL_law 1155 = .ok (.iadd, 1) := by decide +kernel
theorem dL_law_1156 : decode cL_law 1156 = .ok (.iaload, 1) := by decide +kernel
theorem dL_law_1157 : decode cL_law 1157 = .ok (.aload_n 3, 1) := by decide +kernel
theorem dL_law_1158 : decode cL_law 1158 = .ok (.invokestatic 185, 3) := by decide +kernel
theorem dL_law_1161 : decode cL_law 1161 = .ok (.istore 6, 2) := by decide +kernel
theorem dL_law_1163 : decode cL_law 1163 = .ok (.aload_n 2, 1) := by decide +kernel
theorem dL_law_1164 : decode cL_law 1164 = .ok (.aload_n 0, 1) := by decide +kernel
theorem dL_law_1165 : decode cL_law 1165 = .ok (.iload 5, 2) := by decide +kernel
theorem dL_law_1167 : decode cL_law 1167 = .ok (.iconst 1, 1) := by decide +kernel
theorem dL_law_1168 : decode cL_law 1168 = .ok (.iadd, 1) := by decide +kernel
theorem dL_law_1169 : decode cL_law 1169 = .ok (.iaload, 1) := by decide +kernel
theorem dL_law_1170 : decode cL_law 1170 = .ok (.aload_n 0, 1) := by decide +kernel
theorem dL_law_1171 : decode cL_law 1171 = .ok (.iload 5, 2) := by decide +kernel
theorem dL_law_1173 : decode cL_law 1173 = .ok (.iconst 2, 1) := by decide +kernel
theorem dL_law_1174 : decode cL_law 1174 = .ok (.iadd, 1) := by decide +kernel
theorem dL_law_1175 : decode cL_law 1175 = .ok (.iaload, 1) := by decide +kernel
theorem dL_law_1176 : decode cL_law 1176 = .ok (.invokevirtual 187, 3) := by decide +kernel
theorem dL_law_1179 : decode cL_law 1179 = .ok (.istore 7, 2) := by decide +kernel
theorem dL_law_1181 : decode cL_law 1181 = .ok (.aload_n 2, 1) := by decide +kernel
theorem dL_law_1182 : decode cL_law 1182 = .ok (.invokevirtual 124, 3) := by decide +kernel
theorem dL_law_1185 : decode cL_law 1185 = .ok (.iload 6, 2) := by decide +kernel
theorem dL_law_1187 : decode cL_law 1187 = .ok (.if_icmp .eq 5, 3) := by decide +kernel
theorem dL_law_1190 : decode cL_law 1190 = .ok (.iconst 0, 1) := by decide +kernel
theorem dL_law_1191 : decode cL_law 1191 = .ok (.ireturn, 1) := by decide +kernel
theorem dL_law_1192 : decode cL_law 1192 = .ok (.iload 6, 2) := by decide +kernel
theorem dL_law_1194 : decode cL_law 1194 = .ok (.ifCond .ne 15, 3) := by decide +kernel
theorem dL_law_1197 : decode cL_law 1197 = .ok (.aload_n 3, 1) := by decide +kernel
theorem dL_law_1198 : decode cL_law 1198 = .ok (.iconst 0, 1) := by decide +kernel
theorem dL_law_1199 : decode cL_law 1199 = .ok (.laload, 1) := by decide +kernel
theorem dL_law_1200 : decode cL_law 1200 = .ok (.iload 7, 2) := by decide +kernel
theorem dL_law_1202 : decode cL_law 1202 = .ok (.i2l, 1) := by decide +kernel
theorem dL_law_1203 : decode cL_law 1203 = .ok (.lcmp, 1) := by decide +kernel
theorem dL_law_1204 : decode cL_law 1204 = .ok (.ifCond .eq 5, 3) := by decide +kernel
theorem dL_law_1207 : decode cL_law 1207 = .ok (.iconst 0, 1) := by decide +kernel
theorem dL_law_1208 : decode cL_law 1208 = .ok (.ireturn, 1) := by decide +kernel
theorem dL_law_1209 : decode cL_law 1209 = .ok (.goto 1050, 3) := by decide +kernel
theorem dL_law_1212 : decode cL_law 1212 = .ok (.aload_n 1, 1) := by decide +kernel
theorem dL_law_1213 : decode cL_law 1213 = .ok (.aload_n 0, 1) := by decide +kernel
theorem dL_law_1214 : decode cL_law 1214 = .ok (.iload 5, 2) := by decide +kernel
theorem dL_law_1216 : decode cL_law 1216 = .ok (.iconst 1, 1) := by decide +kernel
theorem dL_law_1217 : decode cL_law 1217 = .ok (.iadd, 1) := by decide +kernel
theorem dL_law_1218 : decode cL_law 1218 = .ok (.iaload, 1) := by decide +kernel
theorem dL_law_1219 : decode cL_law 1219 = .ok (.aload_n 3, 1) := by decide +kernel
theorem dL_law_1220 : decode cL_law 1220 = .ok (.invokestatic 188, 3) := by decide +kernel
theorem dL_law_1223 : decode cL_law 1223 = .ok (.istore 6, 2) := by decide +kernel
theorem dL_law_1225 : decode cL_law 1225 = .ok (.aload_n 2, 1) := by decide +kernel
theorem dL_law_1226 : decode cL_law 1226 = .ok (.aload_n 0, 1) := by decide +kernel
theorem dL_law_1227 : decode cL_law 1227 = .ok (.iload 5, 2) := by decide +kernel
theorem dL_law_1229 : decode cL_law 1229 = .ok (.iconst 1, 1) := by decide +kernel
theorem dL_law_1230 : decode cL_law 1230 = .ok (.iadd, 1) := by decide +kernel
theorem dL_law_1231 : decode cL_law 1231 = .ok (.iaload, 1) := by decide +kernel
theorem dL_law_1232 : decode cL_law 1232 = .ok (.invokevirtual 190, 3) := by decide +kernel
theorem dL_law_1235 : decode cL_law 1235 = .ok (.lstore 7, 2) := by decide +kernel
theorem dL_law_1237 : decode cL_law 1237 = .ok (.aload_n 2, 1) := by decide +kernel
theorem dL_law_1238 : decode cL_law 1238 = .ok (.invokevirtual 124, 3) := by decide +kernel
theorem dL_law_1241 : decode cL_law 1241 = .ok (.iload 6, 2) := by decide +kernel
theorem dL_law_1243 : decode cL_law 1243 = .ok (.if_icmp .eq 5, 3) := by decide +kernel
theorem dL_law_1246 : decode cL_law 1246 = .ok (.iconst 0, 1) := by decide +kernel
theorem dL_law_1247 : decode cL_law 1247 = .ok (.ireturn, 1) := by decide +kernel
theorem dL_law_1248 : decode cL_law 1248 = .ok (.iload 6, 2) := by decide +kernel
theorem dL_law_1250 : decode cL_law 1250 = .ok (.ifCond .ne 14, 3) := by decide +kernel
theorem dL_law_1253 : decode cL_law 1253 = .ok (.aload_n 3, 1) := by decide +kernel
theorem dL_law_1254 : decode cL_law 1254 = .ok (.iconst 0, 1) := by decide +kernel
theorem dL_law_1255 : decode cL_law 1255 = .ok (.laload, 1) := by decide +kernel
theorem dL_law_1256 : decode cL_law 1256 = .ok (.lload 7, 2) := by decide +kernel
theorem dL_law_1258 : decode cL_law 1258 = .ok (.lcmp, 1) := by decide +kernel
theorem dL_law_1259 : decode cL_law 1259 = .ok (.ifCond .eq 5, 3) := by decide +kernel
theorem dL_law_1262 : decode cL_law 1262 = .ok (.iconst 0, 1) := by decide +kernel
theorem dL_law_1263 : decode cL_law 1263 = .ok (.ireturn, 1) := by decide +kernel
theorem dL_law_1264 : decode cL_law 1264 = .ok (.goto 995, 3) := by decide +kernel
theorem dL_law_1267 : decode cL_law 1267 = .ok (.aload_n 1, 1) := by decide +kernel
theorem dL_law_1268 : decode cL_law 1268 = .ok (.aload_n 0, 1) := by decide +kernel
theorem dL_law_1269 : decode cL_law 1269 = .ok (.iload 5, 2) := by decide +kernel
theorem dL_law_1271 : decode cL_law 1271 = .ok (.iconst 1, 1) := by decide +kernel
theorem dL_law_1272 : decode cL_law 1272 = .ok (.iadd, 1) := by decide +kernel
theorem dL_law_1273 : decode cL_law 1273 = .ok (.iaload, 1) := by decide +kernel
theorem dL_law_1274 : decode cL_law 1274 = .ok (.aload 4, 2) := by decide +kernel
theorem dL_law_1276 : decode cL_law 1276 = .ok (.invokestatic 191, 3) := by decide +kernel
theorem dL_law_1279 : decode cL_law 1279 = .ok (.istore 6, 2) := by decide +kernel
theorem dL_law_1281 : decode cL_law 1281 = .ok (.aload_n 2, 1) := by decide +kernel
theorem dL_law_1282 : decode cL_law 1282 = .ok (.aload_n 0, 1) := by decide +kernel
theorem dL_law_1283 : decode cL_law 1283 = .ok (.iload 5, 2) := by decide +kernel
theorem dL_law_1285 : decode cL_law 1285 = .ok (.iconst 1, 1) := by decide +kernel
theorem dL_law_1286 : decode cL_law 1286 = .ok (.iadd, 1) := by decide +kernel
theorem dL_law_1287 : decode cL_law 1287 = .ok (.iaload, 1) := by decide +kernel
theorem dL_law_1288 : decode cL_law 1288 = .ok (.invokevirtual 194, 3) := by decide +kernel
theorem dL_law_1291 : decode cL_law 1291 = .ok (.dstore 7, 2) := by decide +kernel
theorem dL_law_1293 : decode cL_law 1293 = .ok (.aload_n 2, 1) := by decide +kernel
theorem dL_law_1294 : decode cL_law 1294 = .ok (.invokevirtual 124, 3) := by decide +kernel
theorem dL_law_1297 : decode cL_law 1297 = .ok (.iload 6, 2) := by decide +kernel
theorem dL_law_1299 : decode cL_law 1299 = .ok (.if_icmp .eq 5, 3) := by decide +kernel
theorem dL_law_1302 : decode cL_law 1302 = .ok (.iconst 0, 1) := by decide +kernel
theorem dL_law_1303 : decode cL_law 1303 = .ok (.ireturn, 1) := by decide +kernel
theorem dL_law_1304 : decode cL_law 1304 = .ok (.iload 6, 2) := by decide +kernel
theorem dL_law_1306 : decode cL_law 1306 = .ok (.ifCond .ne 35, 3) := by decide +kernel
theorem dL_law_1309 : decode cL_law 1309 = .ok (.aload 4, 2) := by decide +kernel
theorem dL_law_1311 : decode cL_law 1311 = .ok (.iconst 0, 1) := by decide +kernel
theorem dL_law_1312 : decode cL_law 1312 = .ok (.daload, 1) := by decide +kernel
theorem dL_law_1313 : decode cL_law 1313 = .ok (.dload 7, 2) := by decide +kernel
theorem dL_law_1315 : decode cL_law 1315 = .ok (.dcmp .l, 1) := by decide +kernel
theorem dL_law_1316 : decode cL_law 1316 = .ok (.ifCond .eq 25, 3) := by decide +kernel
theorem dL_law_1319 : decode cL_law 1319 = .ok (.aload 4, 2) := by decide +kernel
theorem dL_law_1321 : decode cL_law 1321 = .ok (.iconst 0, 1) := by decide +kernel
theorem dL_law_1322 : decode cL_law 1322 = .ok (.daload, 1) := by decide +kernel
theorem dL_law_1323 : decode cL_law 1323 = .ok (.aload 4, 2) := by decide +kernel
theorem dL_law_1325 : decode cL_law 1325 = .ok (.iconst 0, 1) := by decide +kernel
theorem dL_law_1326 : decode cL_law 1326 = .ok (.daload, 1) := by decide +kernel
theorem dL_law_1327 : decode cL_law 1327 = .ok (.dcmp .l, 1) := by decide +kernel
theorem dL_law_1328 : decode cL_law 1328 = .ok (.ifCond .eq 11, 3) := by decide +kernel
theorem dL_law_1331 : decode cL_law 1331 = .ok (.dload 7, 2) := by decide +kernel
theorem dL_law_1333 : decode cL_law 1333 = .ok (.dload 7, 2) := by decide +kernel
theorem dL_law_1335 : decode cL_law 1335 = .ok (.dcmp .l, 1) := by decide +kernel
theorem dL_law_1336 : decode cL_law 1336 = .ok (.ifCond .ne 5, 3) := by decide +kernel
theorem dL_law_1339 : decode cL_law 1339 = .ok (.iconst 0, 1) := by decide +kernel
theorem dL_law_1340 : decode cL_law 1340 = .ok (.ireturn, 1) := by decide +kernel
theorem dL_law_1341 : decode cL_law 1341 = .ok (.goto 918, 3) := by decide +kernel
theorem dL_law_1344 : decode cL_law 1344 = .ok (.aload_n 1, 1) := by decide +kernel
theorem dL_law_1345 : decode cL_law 1345 = .ok (.aload_n 0, 1) := by decide +kernel
theorem dL_law_1346 : decode cL_law 1346 = .ok (.iload 5, 2) := by decide +kernel
theorem dL_law_1348 : decode cL_law 1348 = .ok (.iconst 1, 1) := by decide +kernel
theorem dL_law_1349 : decode cL_law 1349 = .ok (.iadd, 1) := by decide +kernel
theorem dL_law_1350 : decode cL_law 1350 = .ok (.iaload, 1) := by decide +kernel
theorem dL_law_1351 : decode cL_law 1351 = .ok (.aload_n 0, 1) := by decide +kernel
theorem dL_law_1352 : decode cL_law 1352 = .ok (.iload 5, 2) := by decide +kernel
theorem dL_law_1354 : decode cL_law 1354 = .ok (.iconst 2, 1) := by decide +kernel
theorem dL_law_1355 : decode cL_law 1355 = .ok (.iadd, 1) := by decide +kernel
theorem dL_law_1356 : decode cL_law 1356 = .ok (.iaload, 1) := by decide +kernel
theorem dL_law_1357 : decode cL_law 1357 = .ok (.aload_n 3, 1) := by decide +kernel
theorem dL_law_1358 : decode cL_law 1358 = .ok (.invokestatic 195, 3) := by decide +kernel
theorem dL_law_1361 : decode cL_law 1361 = .ok (.istore 6, 2) := by decide +kernel
theorem dL_law_1363 : decode cL_law 1363 = .ok (.aload_n 2, 1) := by decide +kernel
theorem dL_law_1364 : decode cL_law 1364 = .ok (.aload_n 0, 1) := by decide +kernel
theorem dL_law_1365 : decode cL_law 1365 = .ok (.iload 5, 2) := by decide +kernel
theorem dL_law_1367 : decode cL_law 1367 = .ok (.iconst 1, 1) := by decide +kernel
theorem dL_law_1368 : decode cL_law 1368 = .ok (.iadd, 1) := by decide +kernel
theorem dL_law_1369 : decode cL_law 1369 = .ok (.iaload, 1) := by decide +kernel
theorem dL_law_1370 : decode cL_law 1370 = .ok (.aload_n 0, 1) := by decide +kernel
theorem dL_law_1371 : decode cL_law 1371 = .ok (.iload 5, 2) := by decide +kernel
theorem dL_law_1373 : decode cL_law 1373 = .ok (.iconst 2, 1) := by decide +kernel
theorem dL_law_1374 : decode cL_law 1374 = .ok (.iadd, 1) := by decide +kernel
theorem dL_law_1375 : decode cL_law 1375 = .ok (.iaload, 1) := by decide +kernel
theorem dL_law_1376 : decode cL_law 1376 = .ok (.invokevirtual 197, 3) := by decide +kernel
theorem dL_law_1379 : decode cL_law 1379 = .ok (.istore 7, 2) := by decide +kernel
theorem dL_law_1381 : decode cL_law 1381 = .ok (.aload_n 2, 1) := by decide +kernel
theorem dL_law_1382 : decode cL_law 1382 = .ok (.invokevirtual 124, 3) := by decide +kernel
theorem dL_law_1385 : decode cL_law 1385 = .ok (.iload 6, 2) := by decide +kernel
theorem dL_law_1387 : decode cL_law 1387 = .ok (.if_icmp .eq 5, 3) := by decide +kernel
theorem dL_law_1390 : decode cL_law 1390 = .ok (.iconst 0, 1) := by decide +kernel
theorem dL_law_1391 : decode cL_law 1391 = .ok (.ireturn, 1) := by decide +kernel
theorem dL_law_1392 : decode cL_law 1392 = .ok (.iload 6, 2) := by decide +kernel
theorem dL_law_1394 : decode cL_law 1394 = .ok (.ifCond .ne 15, 3) := by decide +kernel
theorem dL_law_1397 : decode cL_law 1397 = .ok (.aload_n 3, 1) := by decide +kernel
theorem dL_law_1398 : decode cL_law 1398 = .ok (.iconst 0, 1) := by decide +kernel
theorem dL_law_1399 : decode cL_law 1399 = .ok (.laload, 1) := by decide +kernel
theorem dL_law_1400 : decode cL_law 1400 = .ok (.iload 7, 2) := by decide +kernel
theorem dL_law_1402 : decode cL_law 1402 = .ok (.i2l, 1) := by decide +kernel
theorem dL_law_1403 : decode cL_law 1403 = .ok (.lcmp, 1) := by decide +kernel
theorem dL_law_1404 : decode cL_law 1404 = .ok (.ifCond .eq 5, 3) := by decide +kernel
theorem dL_law_1407 : decode cL_law 1407 = .ok (.iconst 0, 1) := by decide +kernel
theorem dL_law_1408 : decode cL_law 1408 = .ok (.ireturn, 1) := by decide +kernel
theorem dL_law_1409 : decode cL_law 1409 = .ok (.goto 850, 3) := by decide +kernel
theorem dL_law_1412 : decode cL_law 1412 = .ok (.aload_n 1, 1) := by decide +kernel
theorem dL_law_1413 : decode cL_law 1413 = .ok (.aload_n 0, 1) := by decide +kernel
theorem dL_law_1414 : decode cL_law 1414 = .ok (.iload 5, 2) := by decide +kernel
theorem dL_law_1416 : decode cL_law 1416 = .ok (.iconst 1, 1) := by decide +kernel
theorem dL_law_1417 : decode cL_law 1417 = .ok (.iadd, 1) := by decide +kernel
theorem dL_law_1418 : decode cL_law 1418 = .ok (.iaload, 1) := by decide +kernel
theorem dL_law_1419 : decode cL_law 1419 = .ok (.aload_n 0, 1) := by decide +kernel
theorem dL_law_1420 : decode cL_law 1420 = .ok (.iload 5, 2) := by decide +kernel
theorem dL_law_1422 : decode cL_law 1422 = .ok (.iconst 2, 1) := by decide +kernel
theorem dL_law_1423 : decode cL_law 1423 = .ok (.iadd, 1) := by decide +kernel
theorem dL_law_1424 : decode cL_law 1424 = .ok (.iaload, 1) := by decide +kernel
theorem dL_law_1425 : decode cL_law 1425 = .ok (.aload_n 3, 1) := by decide +kernel
theorem dL_law_1426 : decode cL_law 1426 = .ok (.invokestatic 198, 3) := by decide +kernel
theorem dL_law_1429 : decode cL_law 1429 = .ok (.istore 6, 2) := by decide +kernel
theorem dL_law_1431 : decode cL_law 1431 = .ok (.aload_n 2, 1) := by decide +kernel
theorem dL_law_1432 : decode cL_law 1432 = .ok (.aload_n 0, 1) := by decide +kernel
theorem dL_law_1433 : decode cL_law 1433 = .ok (.iload 5, 2) := by decide +kernel
theorem dL_law_1435 : decode cL_law 1435 = .ok (.iconst 1, 1) := by decide +kernel
theorem dL_law_1436 : decode cL_law 1436 = .ok (.iadd, 1) := by decide +kernel
theorem dL_law_1437 : decode cL_law 1437 = .ok (.iaload, 1) := by decide +kernel
theorem dL_law_1438 : decode cL_law 1438 = .ok (.aload_n 0, 1) := by decide +kernel
theorem dL_law_1439 : decode cL_law 1439 = .ok (.iload 5, 2) := by decide +kernel
theorem dL_law_1441 : decode cL_law 1441 = .ok (.iconst 2, 1) := by decide +kernel
theorem dL_law_1442 : decode cL_law 1442 = .ok (.iadd, 1) := by decide +kernel
theorem dL_law_1443 : decode cL_law 1443 = .ok (.iaload, 1) := by decide +kernel
theorem dL_law_1444 : decode cL_law 1444 = .ok (.invokevirtual 200, 3) := by decide +kernel
theorem dL_law_1447 : decode cL_law 1447 = .ok (.istore 7, 2) := by decide +kernel
theorem dL_law_1449 : decode cL_law 1449 = .ok (.aload_n 2, 1) := by decide +kernel
theorem dL_law_1450 : decode cL_law 1450 = .ok (.invokevirtual 124, 3) := by decide +kernel
theorem dL_law_1453 : decode cL_law 1453 = .ok (.iload 6, 2) := by decide +kernel
theorem dL_law_1455 : decode cL_law 1455 = .ok (.if_icmp .eq 5, 3) := by decide +kernel
theorem dL_law_1458 : decode cL_law 1458 = .ok (.iconst 0, 1) := by decide +kernel
theorem dL_law_1459 : decode cL_law 1459 = .ok (.ireturn, 1) := by decide +kernel
theorem dL_law_1460 : decode cL_law 1460 = .ok (.iload 6, 2) := by decide +kernel
theorem dL_law_1462 : decode cL_law 1462 = .ok (.ifCond .ne 15, 3) := by decide +kernel
theorem dL_law_1465 : decode cL_law 1465 = .ok (.aload_n 3, 1) := by decide +kernel
theorem dL_law_1466 : decode cL_law 1466 = .ok (.iconst 0, 1) := by decide +kernel
theorem dL_law_1467 : decode cL_law 1467 = .ok (.laload, 1) := by decide +kernel
theorem dL_law_1468 : decode cL_law 1468 = .ok (.iload 7, 2) := by decide +kernel
theorem dL_law_1470 : decode cL_law 1470 = .ok (.i2l, 1) := by decide +kernel
theorem dL_law_1471 : decode cL_law 1471 = .ok (.lcmp, 1) := by decide +kernel
theorem dL_law_1472 : decode cL_law 1472 = .ok (.ifCond .eq 5, 3) := by decide +kernel
theorem dL_law_1475 : decode cL_law 1475 = .ok (.iconst 0, 1) := by decide +kernel
theorem dL_law_1476 : decode cL_law 1476 = .ok (.ireturn, 1) := by decide +kernel
theorem dL_law_1477 : decode cL_law 1477 = .ok (.goto 782, 3) := by decide +kernel
theorem dL_law_1480 : decode cL_law 1480 = .ok (.aload_n 1, 1) := by decide +kernel
theorem dL_law_1481 : decode cL_law 1481 = .ok (.aload_n 0, 1) := by decide +kernel
theorem dL_law_1482 : decode cL_law 1482 = .ok (.iload 5, 2) := by decide +kernel
theorem dL_law_1484 : decode cL_law 1484 = .ok (.iconst 1, 1) := by decide +kernel
theorem dL_law_1485 : decode cL_law 1485 = .ok (.iadd, 1) := by decide +kernel
theorem dL_law_1486 : decode cL_law 1486 = .ok (.iaload, 1) := by decide +kernel
theorem dL_law_1487 : decode cL_law 1487 = .ok (.aload_n 0, 1) := by decide +kernel
theorem dL_law_1488 : decode cL_law 1488 = .ok (.iload 5, 2) := by decide +kernel
theorem dL_law_1490 : decode cL_law 1490 = .ok (.iconst 2, 1) := by decide +kernel
theorem dL_law_1491 : decode cL_law 1491 = .ok (.iadd, 1) := by decide +kernel
theorem dL_law_1492 : decode cL_law 1492 = .ok (.iaload, 1) := by decide +kernel
theorem dL_law_1493 : decode cL_law 1493 = .ok (.aload_n 3, 1) := by decide +kernel
theorem dL_law_1494 : decode cL_law 1494 = .ok (.invokestatic 201, 3) := by decide +kernel
theorem dL_law_1497 : decode cL_law 1497 = .ok (.istore 6, 2) := by decide +kernel
theorem dL_law_1499 : decode cL_law 1499 = .ok (.aload_n 2, 1) := by decide +kernel
theorem dL_law_1500 : decode cL_law 1500 = .ok (.aload_n 0, 1) := by decide +kernel
theorem dL_law_1501 : decode cL_law 1501 = .ok (.iload 5, 2) := by decide +kernel
theorem dL_law_1503 : decode cL_law 1503 = .ok (.iconst 1, 1) := by decide +kernel
theorem dL_law_1504 : decode cL_law 1504 = .ok (.iadd, 1) := by decide +kernel
theorem dL_law_1505 : decode cL_law 1505 = .ok (.iaload, 1) := by decide +kernel
theorem dL_law_1506 : decode cL_law 1506 = .ok (.aload_n 0, 1) := by decide +kernel
theorem dL_law_1507 : decode cL_law 1507 = .ok (.iload 5, 2) := by decide +kernel
theorem dL_law_1509 : decode cL_law 1509 = .ok (.iconst 2, 1) := by decide +kernel
theorem dL_law_1510 : decode cL_law 1510 = .ok (.iadd, 1) := by decide +kernel
theorem dL_law_1511 : decode cL_law 1511 = .ok (.iaload, 1) := by decide +kernel
theorem dL_law_1512 : decode cL_law 1512 = .ok (.invokevirtual 203, 3) := by decide +kernel
theorem dL_law_1515 : decode cL_law 1515 = .ok (.istore 7, 2) := by decide +kernel
theorem dL_law_1517 : decode cL_law 1517 = .ok (.aload_n 2, 1) := by decide +kernel
theorem dL_law_1518 : decode cL_law 1518 = .ok (.invokevirtual 124, 3) := by decide +kernel
theorem dL_law_1521 : decode cL_law 1521 = .ok (.iload 6, 2) := by decide +kernel
theorem dL_law_1523 : decode cL_law 1523 = .ok (.if_icmp .eq 5, 3) := by decide +kernel
theorem dL_law_1526 : decode cL_law 1526 = .ok (.iconst 0, 1) := by decide +kernel
theorem dL_law_1527 : decode cL_law 1527 = .ok (.ireturn, 1) := by decide +kernel
theorem dL_law_1528 : decode cL_law 1528 = .ok (.iload 6, 2) := by decide +kernel
theorem dL_law_1530 : decode cL_law 1530 = .ok (.ifCond .ne 15, 3) := by decide +kernel
theorem dL_law_1533 : decode cL_law 1533 = .ok (.aload_n 3, 1) := by decide +kernel
theorem dL_law_1534 : decode cL_law 1534 = .ok (.iconst 0, 1) := by decide +kernel
theorem dL_law_1535 : decode cL_law 1535 = .ok (.laload, 1) := by decide +kernel
theorem dL_law_1536 : decode cL_law 1536 = .ok (.iload 7, 2) := by decide +kernel
theorem dL_law_1538 : decode cL_law 1538 = .ok (.i2l, 1) := by decide +kernel
theorem dL_law_1539 : decode cL_law 1539 = .ok (.lcmp, 1) := by decide +kernel
theorem dL_law_1540 : decode cL_law 1540 = .ok (.ifCond .eq 5, 3) := by decide +kernel
theorem dL_law_1543 : decode cL_law 1543 = .ok (.iconst 0, 1) := by decide +kernel
theorem dL_law_1544 : decode cL_law 1544 = .ok (.ireturn, 1) := by decide +kernel
theorem dL_law_1545 : decode cL_law 1545 = .ok (.goto 714, 3) := by decide +kernel
theorem dL_law_1548 : decode cL_law 1548 = .ok (.aload_n 1, 1) := by decide +kernel
theorem dL_law_1549 : decode cL_law 1549 = .ok (.aload_n 0, 1) := by decide +kernel
theorem dL_law_1550 : decode cL_law 1550 = .ok (.iload 5, 2) := by decide +kernel
theorem dL_law_1552 : decode cL_law 1552 = .ok (.iconst 1, 1) := by decide +kernel
theorem dL_law_1553 : decode cL_law 1553 = .ok (.iadd, 1) := by decide +kernel
theorem dL_law_1554 : decode cL_law 1554 = .ok (.iaload, 1) := by decide +kernel
theorem dL_law_1555 : decode cL_law 1555 = .ok (.aload_n 0, 1) := by decide +kernel
theorem dL_law_1556 : decode cL_law 1556 = .ok (.iload 5, 2) := by decide +kernel
theorem dL_law_1558 : decode cL_law 1558 = .ok (.iconst 2, 1) := by decide +kernel
theorem dL_law_1559 : decode cL_law 1559 = .ok (.iadd, 1) := by decide +kernel
theorem dL_law_1560 : decode cL_law 1560 = .ok (.iaload, 1) := by decide +kernel
theorem dL_law_1561 : decode cL_law 1561 = .ok (.aload_n 3, 1) := by decide +kernel
theorem dL_law_1562 : decode cL_law 1562 = .ok (.invokestatic 204, 3) := by decide +kernel
theorem dL_law_1565 : decode cL_law 1565 = .ok (.istore 6, 2) := by decide +kernel
theorem dL_law_1567 : decode cL_law 1567 = .ok (.aload_n 2, 1) := by decide +kernel
theorem dL_law_1568 : decode cL_law 1568 = .ok (.aload_n 0, 1) := by decide +kernel
theorem dL_law_1569 : decode cL_law 1569 = .ok (.iload 5, 2) := by decide +kernel
theorem dL_law_1571 : decode cL_law 1571 = .ok (.iconst 1, 1) := by decide +kernel
theorem dL_law_1572 : decode cL_law 1572 = .ok (.iadd, 1) := by decide +kernel
theorem dL_law_1573 : decode cL_law 1573 = .ok (.iaload, 1) := by decide +kernel
theorem dL_law_1574 : decode cL_law 1574 = .ok (.aload_n 0, 1) := by decide +kernel
theorem dL_law_1575 : decode cL_law 1575 = .ok (.iload 5, 2) := by decide +kernel
theorem dL_law_1577 : decode cL_law 1577 = .ok (.iconst 2, 1) := by decide +kernel
theorem dL_law_1578 : decode cL_law 1578 = .ok (.iadd, 1) := by decide +kernel
theorem dL_law_1579 : decode cL_law 1579 = .ok (.iaload, 1) := by decide +kernel
theorem dL_law_1580 : decode cL_law 1580 = .ok (.invokevirtual 206, 3) := by decide +kernel
theorem dL_law_1583 : decode cL_law 1583 = .ok (.istore 7, 2) := by decide +kernel
theorem dL_law_1585 : decode cL_law 1585 = .ok (.aload_n 2, 1) := by decide +kernel
theorem dL_law_1586 : decode cL_law 1586 = .ok (.invokevirtual 124, 3) := by decide +kernel
theorem dL_law_1589 : decode cL_law 1589 = .ok (.iload 6, 2) := by decide +kernel
theorem dL_law_1591 : decode cL_law 1591 = .ok (.if_icmp .eq 5, 3) := by decide +kernel
theorem dL_law_1594 : decode cL_law 1594 = .ok (.iconst 0, 1) := by decide +kernel
theorem dL_law_1595 : decode cL_law 1595 = .ok (.ireturn, 1) := by decide +kernel
theorem dL_law_1596 : decode cL_law 1596 = .ok (.iload 6, 2) := by decide +kernel
theorem dL_law_1598 : decode cL_law 1598 = .ok (.ifCond .ne 15, 3) := by decide +kernel
theorem dL_law_1601 : decode cL_law 1601 = .ok (.aload_n 3, 1) := by decide +kernel
theorem dL_law_1602 : decode cL_law 1602 = .ok (.iconst 0, 1) := by decide +kernel
theorem dL_law_1603 : decode cL_law 1603 = .ok (.laload, 1) := by decide +kernel
theorem dL_law_1604 : decode cL_law 1604 = .ok (.iload 7, 2) := by decide +kernel
theorem dL_law_1606 : decode cL_law 1606 = .ok (.i2l, 1) := by decide +kernel
theorem dL_law_1607 : decode cL_law 1607 = .ok (.lcmp, 1) := by decide +kernel
theorem dL_law_1608 : decode cL_law 1608 = .ok (.ifCond .eq 5, 3) := by decide +kernel
theorem dL_law_1611 : decode cL_law 1611 = .ok (.iconst 0, 1) := by decide +kernel
theorem dL_law_1612 : decode cL_law 1612 = .ok (.ireturn, 1) := by decide +kernel
theorem dL_law_1613 : decode cL_law 1613 = .ok (.goto 646, 3) := by decide +kernel
theorem dL_law_1616 : decode cL_law 1616 = .ok (.aload_n 1, 1) := by decide +kernel
theorem dL_law_1617 : decode cL_law 1617 = .ok (.aload_n 0, 1) := by decide +kernel
theorem dL_law_1618 : decode cL_law 1618 = .ok (.iload 5, 2) := by decide +kernel
theorem dL_law_1620 : decode cL_law 1620 = .ok (.iconst 1, 1) := by decide +kernel
theorem dL_law_1621 : decode cL_law 1621 = .ok (.iadd, 1) := by decide +kernel
theorem dL_law_1622 : decode cL_law 1622 = .ok (.iaload, 1) := by decide +kernel
theorem dL_law_1623 : decode cL_law 1623 = .ok (.aload_n 0, 1) := by decide +kernel
theorem dL_law_1624 : decode cL_law 1624 = .ok (.iload 5, 2) := by decide +kernel
theorem dL_law_1626 : decode cL_law 1626 = .ok (.iconst 2, 1) := by decide +kernel
theorem dL_law_1627 : decode cL_law 1627 = .ok (.iadd, 1) := by decide +kernel
theorem dL_law_1628 : decode cL_law 1628 = .ok (.iaload, 1) := by decide +kernel
theorem dL_law_1629 : decode cL_law 1629 = .ok (.aload_n 3, 1) := by decide +kernel
theorem dL_law_1630 : decode cL_law 1630 = .ok (.invokestatic 207, 3) := by decide +kernel
theorem dL_law_1633 : decode cL_law 1633 = .ok (.istore 6, 2) := by decide +kernel
theorem dL_law_1635 : decode cL_law 1635 = .ok (.aload_n 2, 1) := by decide +kernel
theorem dL_law_1636 : decode cL_law 1636 = .ok (.aload_n 0, 1) := by decide +kernel
theorem dL_law_1637 : decode cL_law 1637 = .ok (.iload 5, 2) := by decide +kernel
theorem dL_law_1639 : decode cL_law 1639 = .ok (.iconst 1, 1) := by decide +kernel
theorem dL_law_1640 : decode cL_law 1640 = .ok (.iadd, 1) := by decide +kernel
theorem dL_law_1641 : decode cL_law 1641 = .ok (.iaload, 1) := by decide +kernel
theorem dL_law_1642 : decode cL_law 1642 = .ok (.aload_n 0, 1) := by decide +kernel
theorem dL_law_1643 : decode cL_law 1643 = .ok (.iload 5, 2) := by decide +kernel
theorem dL_law_1645 : decode cL_law 1645 = .ok (.iconst 2, 1) := by decide +kernel
theorem dL_law_1646 : decode cL_law 1646 = .ok (.iadd, 1) := by decide +kernel
theorem dL_law_1647 : decode cL_law 1647 = .ok (.iaload, 1) := by decide +kernel
theorem dL_law_1648 : decode cL_law 1648 = .ok (.invokevirtual 209, 3) := by decide +kernel
theorem dL_law_1651 : decode cL_law 1651 = .ok (.istore 7, 2) := by decide +kernel
theorem dL_law_1653 : decode cL_law 1653 = .ok (.aload_n 2, 1) := by decide +kernel
theorem dL_law_1654 : decode cL_law 1654 = .ok (.invokevirtual 124, 3) := by decide +kernel
theorem dL_law_1657 : decode cL_law 1657 = .ok (.iload 6, 2) := by decide +kernel
theorem dL_law_1659 : decode cL_law 1659 = .ok (.if_icmp .eq 5, 3) := by decide +kernel
theorem dL_law_1662 : decode cL_law 1662 = .ok (.iconst 0, 1) := by decide +kernel
theorem dL_law_1663 : decode cL_law 1663 = .ok (.ireturn, 1) := by decide +kernel
theorem dL_law_1664 : decode cL_law 1664 = .ok (.iload 6, 2) := by decide +kernel
theorem dL_law_1666 : decode cL_law 1666 = .ok (.ifCond .ne 15, 3) := by decide +kernel
theorem dL_law_1669 : decode cL_law 1669 = .ok (.aload_n 3, 1) := by decide +kernel
theorem dL_law_1670 : decode cL_law 1670 = .ok (.iconst 0, 1) := by decide +kernel
theorem dL_law_1671 : decode cL_law 1671 = .ok (.laload, 1) := by decide +kernel
theorem dL_law_1672 : decode cL_law 1672 = .ok (.iload 7, 2) := by decide +kernel
theorem dL_law_1674 : decode cL_law 1674 = .ok (.i2l, 1) := by decide +kernel
theorem dL_law_1675 : decode cL_law 1675 = .ok (.lcmp, 1) := by decide +kernel
theorem dL_law_1676 : decode cL_law 1676 = .ok (.ifCond .eq 5, 3) := by decide +kernel
theorem dL_law_1679 : decode cL_law 1679 = .ok (.iconst 0, 1) := by decide +kernel
theorem dL_law_1680 : decode cL_law 1680 = .ok (.ireturn, 1) := by decide +kernel
theorem dL_law_1681 : decode cL_law 1681 = .ok (.goto 578, 3) := by decide +kernel
theorem dL_law_1684 : decode cL_law 1684 = .ok (.aload_n 1, 1) := by decide +kernel
theorem dL_law_1685 : decode cL_law 1685 = .ok (.invokevirtual 210, 3) := by decide +kernel
theorem dL_law_1688 : decode cL_law 1688 = .ok (.aload_n 2, 1) := by decide +kernel
theorem dL_law_1689 : decode cL_law 1689 = .ok (.invokevirtual 213, 3) := by decide +kernel
theorem dL_law_1692 : decode cL_law 1692 = .ok (.if_icmp .eq 567, 3) := by decide +kernel
theorem dL_law_1695 : decode cL_law 1695 = .ok (.iconst 0, 1) := by decide +kernel
theorem dL_law_1696 : decode cL_law 1696 = .ok (.ireturn, 1) := by decide +kernel
theorem dL_law_1697 : decode cL_law 1697 = .ok (.aload_n 1, 1) := by decide +kernel
theorem dL_law_1698 : decode cL_law 1698 = .ok (.aload_n 0, 1) := by decide +kernel
theorem dL_law_1699 : decode cL_law 1699 = .ok (.iload 5, 2) := by decide +kernel
theorem dL_law_1701 : decode cL_law 1701 = .ok (.iconst 1, 1) := by decide +kernel
theorem dL_law_1702 : decode cL_law 1702 = .ok (.iadd, 1) := by decide +kernel
theorem dL_law_1703 : decode cL_law 1703 = .ok (.iaload, 1) := by decide +kernel
theorem dL_law_1704 : decode cL_law 1704 = .ok (.aload_n 0, 1) := by decide +kernel
theorem dL_law_1705 : decode cL_law 1705 = .ok (.iload 5, 2) := by decide +kernel
theorem dL_law_1707 : decode cL_law 1707 = .ok (.iconst 2, 1) := by decide +kernel
theorem dL_law_1708 : decode cL_law 1708 = .ok (.iadd, 1) := by decide +kernel
theorem dL_law_1709 : decode cL_law 1709 = .ok (.iaload, 1) := by decide +kernel
theorem dL_law_1710 : decode cL_law 1710 = .ok (.aload_n 3, 1) := by decide +kernel
theorem dL_law_1711 : decode cL_law 1711 = .ok (.invokestatic 214, 3) := by decide +kernel
theorem dL_law_1714 : decode cL_law 1714 = .ok (.istore 6, 2) := by decide +kernel
theorem dL_law_1716 : decode cL_law 1716 = .ok (.aload_n 2, 1) := by decide +kernel
theorem dL_law_1717 : decode cL_law 1717 = .ok (.aload_n 0, 1) := by decide +kernel
theorem dL_law_1718 : decode cL_law 1718 = .ok (.iload 5, 2) := by decide +kernel
theorem dL_law_1720 : decode cL_law 1720 = .ok (.iconst 1, 1) := by decide +kernel
theorem dL_law_1721 : decode cL_law 1721 = .ok (.iadd, 1) := by decide +kernel
theorem dL_law_1722 : decode cL_law 1722 = .ok (.iaload, 1) := by decide +kernel
theorem dL_law_1723 : decode cL_law 1723 = .ok (.aload_n 0, 1) := by decide +kernel
theorem dL_law_1724 : decode cL_law 1724 = .ok (.iload 5, 2) := by decide +kernel
theorem dL_law_1726 : decode cL_law 1726 = .ok (.iconst 2, 1) := by decide +kernel
theorem dL_law_1727 : decode cL_law 1727 = .ok (.iadd, 1) := by decide +kernel
theorem dL_law_1728 : decode cL_law 1728 = .ok (.iaload, 1) := by decide +kernel
theorem dL_law_1729 : decode cL_law 1729 = .ok (.invokevirtual 216, 3) := by decide +kernel
theorem dL_law_1732 : decode cL_law 1732 = .ok (.istore 7, 2) := by decide +kernel
theorem dL_law_1734 : decode cL_law 1734 = .ok (.aload_n 2, 1) := by decide +kernel
theorem dL_law_1735 : decode cL_law 1735 = .ok (.invokevirtual 124, 3) := by decide +kernel
theorem dL_law_1738 : decode cL_law 1738 = .ok (.iload 6, 2) := by decide +kernel
theorem dL_law_1740 : decode cL_law 1740 = .ok (.if_icmp .eq 5, 3) := by decide +kernel
theorem dL_law_1743 : decode cL_law 1743 = .ok (.iconst 0, 1) := by decide +kernel
theorem dL_law_1744 : decode cL_law 1744 = .ok (.ireturn, 1) := by decide +kernel
theorem dL_law_1745 : decode cL_law 1745 = .ok (.iload 6, 2) := by decide +kernel
theorem dL_law_1747 : decode cL_law 1747 = .ok (.ifCond .ne 15, 3) := by decide +kernel
theorem dL_law_1750 : decode cL_law 1750 = .ok (.aload_n 3, 1) := by decide +kernel
theorem dL_law_1751 : decode cL_law 1751 = .ok (.iconst 0, 1) := by decide +kernel
theorem dL_law_1752 : decode cL_law 1752 = .ok (.laload, 1) := by decide +kernel
theorem dL_law_1753 : decode cL_law 1753 = .ok (.iload 7, 2) := by decide +kernel
theorem dL_law_1755 : decode cL_law 1755 = .ok (.i2l, 1) := by decide +kernel
theorem dL_law_1756 : decode cL_law 1756 = .ok (.lcmp, 1) := by decide +kernel
theorem dL_law_1757 : decode cL_law 1757 = .ok (.ifCond .eq 5, 3) := by decide +kernel
theorem dL_law_1760 : decode cL_law 1760 = .ok (.iconst 0, 1) := by decide +kernel
theorem dL_law_1761 : decode cL_law 1761 = .ok (.ireturn, 1) := by decide +kernel
theorem dL_law_1762 : decode cL_law 1762 = .ok (.goto 497, 3) := by decide +kernel
theorem dL_law_1765 : decode cL_law 1765 = .ok (.aload_n 1, 1) := by decide +kernel
theorem dL_law_1766 : decode cL_law 1766 = .ok (.aload_n 0, 1) := by decide +kernel
theorem dL_law_1767 : decode cL_law 1767 = .ok (.iload 5, 2) := by decide +kernel
theorem dL_law_1769 : decode cL_law 1769 = .ok (.iconst 1, 1) := by decide +kernel
theorem dL_law_1770 : decode cL_law 1770 = .ok (.iadd, 1) := by decide +kernel
theorem dL_law_1771 : decode cL_law 1771 = .ok (.iaload, 1) := by decide +kernel
theorem dL_law_1772 : decode cL_law 1772 = .ok (.ifCond .eq 7, 3) := by decide +kernel
theorem dL_law_1775 : decode cL_law 1775 = .ok (.iconst 1, 1) := by decide +kernel
theorem dL_law_1776 : decode cL_law 1776 = .ok (.goto 4, 3) := by decide +kernel
theorem dL_law_1779 : decode cL_law 1779 = .ok (.iconst 0, 1) := by decide +kernel
theorem dL_law_1780 : decode cL_law 1780 = .ok (.aload 4, 2) := by decide +kernel
theorem dL_law_1782 : decode cL_law 1782 = .ok (.invokestatic 217, 3) := by decide +kernel
theorem dL_law_1785 : decode cL_law 1785 = .ok (.istore 6, 2) := by decide +kernel
theorem dL_law_1787 : decode cL_law 1787 = .ok (.aload_n 2, 1) := by decide +kernel
theorem dL_law_1788 : decode cL_law 1788 = .ok (.aload_n 0, 1) := by decide +kernel
theorem dL_law_1789 : decode cL_law 1789 = .ok (.iload 5, 2) := by decide +kernel
theorem dL_law_1791 : decode cL_law 1791 = .ok (.iconst 1, 1) := by decide +kernel
theorem dL_law_1792 : decode cL_law 1792 = .ok (.iadd, 1) := by decide +kernel
theorem dL_law_1793 : decode cL_law 1793 = .ok (.iaload, 1) := by decide +kernel
theorem dL_law_1794 : decode cL_law 1794 = .ok (.ifCond .eq 7, 3) := by decide +kernel
theorem dL_law_1797 : decode cL_law 1797 = .ok (.iconst 1, 1) := by decide +kernel
theorem dL_law_1798 : decode cL_law 1798 = .ok (.goto 4, 3) := by decide +kernel
theorem dL_law_1801 : decode cL_law 1801 = .ok (.iconst 0, 1) := by decide +kernel
theorem dL_law_1802 : decode cL_law 1802 = .ok (.invokevirtual 220, 3) := by decide +kernel
theorem dL_law_1805 : decode cL_law 1805 = .ok (.dstore 7, 2) := by decide +kernel
theorem dL_law_1807 : decode cL_law 1807 = .ok (.aload_n 2, 1) := by decide +kernel
theorem dL_law_1808 : decode cL_law 1808 = .ok (.invokevirtual 124, 3) := by decide +kernel
theorem dL_law_1811 : decode cL_law 1811 = .ok (.iload 6, 2) := by decide +kernel
theorem dL_law_1813 : decode cL_law 1813 = .ok (.if_icmp .eq 5, 3) := by decide +kernel
theorem dL_law_1816 : decode cL_law 1816 = .ok (.iconst 0, 1) := by decide +kernel
theorem dL_law_1817 : decode cL_law 1817 = .ok (.ireturn, 1) := by decide +kernel
theorem dL_law_1818 : decode cL_law 1818 = .ok (.iload 6, 2) := by decide +kernel
theorem dL_law_1820 : decode cL_law 1820 = .ok (.ifCond .ne 35, 3) := by decide +kernel
theorem dL_law_1823 : decode cL_law 1823 = .ok (.aload 4, 2) := by decide +kernel
theorem dL_law_1825 : decode cL_law 1825 = .ok (.iconst 0, 1) := by decide +kernel
theorem dL_law_1826 : decode cL_law 1826 = .ok (.daload, 1) := by decide +kernel
theorem dL_law_1827 : decode cL_law 1827 = .ok (.dload 7, 2) := by decide +kernel
theorem dL_law_1829 : decode cL_law 1829 = .ok (.dcmp .l, 1) := by decide +kernel
theorem dL_law_1830 : decode cL_law 1830 = .ok (.ifCond .eq 25, 3) := by decide +kernel
theorem dL_law_1833 : decode cL_law 1833 = .ok (.aload 4, 2) := by decide +kernel
theorem dL_law_1835 : decode cL_law 1835 = .ok (.iconst 0, 1) := by decide +kernel
theorem dL_law_1836 : decode cL_law 1836 = .ok (.daload, 1) := by decide +kernel
theorem dL_law_1837 : decode cL_law 1837 = .ok (.aload 4, 2) := by decide +kernel
theorem dL_law_1839 : decode cL_law 1839 = .ok (.iconst 0, 1) := by decide +kernel
theorem dL_law_1840 : decode cL_law 1840 = .ok (.daload, 1) := by decide +kernel
theorem dL_law_1841 : decode cL_law 1841 = .ok (.dcmp .l, 1) := by decide +kernel
theorem dL_law_1842 : decode cL_law 1842 = .ok (.ifCond .eq 11, 3) := by decide +kernel
theorem dL_law_1845 : decode cL_law 1845 = .ok (.dload 7, 2) := by decide +kernel
theorem dL_law_1847 : decode cL_law 1847 = .ok (.dload 7, 2) := by decide +kernel
theorem dL_law_1849 : decode cL_law 1849 = .ok (.dcmp .l, 1) := by decide +kernel
theorem dL_law_1850 : decode cL_law 1850 = .ok (.ifCond .ne 5, 3) := by decide +kernel
theorem dL_law_1853 : decode cL_law 1853 = .ok (.iconst 0, 1) := by decide +kernel
theorem dL_law_1854 : decode cL_law 1854 = .ok (.ireturn, 1) := by decide +kernel
theorem dL_law_1855 : decode cL_law 1855 = .ok (.goto 404, 3) := by decide +kernel
theorem dL_law_1858 : decode cL_law 1858 = .ok (.aload_n 1, 1) := by decide +kernel
theorem dL_law_1859 : decode cL_law 1859 = .ok (.aload_n 0, 1) := by decide +kernel
theorem dL_law_1860 : decode cL_law 1860 = .ok (.iload 5, 2) := by decide +kernel
theorem dL_law_1862 : decode cL_law 1862 = .ok (.iconst 1, 1) := by decide +kernel
theorem dL_law_1863 : decode cL_law 1863 = .ok (.iadd, 1) := by decide +kernel
theorem dL_law_1864 : decode cL_law 1864 = .ok (.iaload, 1) := by decide +kernel
theorem dL_law_1865 : decode cL_law 1865 = .ok (.aload_n 3, 1) := by decide +kernel
theorem dL_law_1866 : decode cL_law 1866 = .ok (.invokestatic 221, 3) := by decide +kernel
theorem dL_law_1869 : decode cL_law 1869 = .ok (.istore 6, 2) := by decide +kernel
theorem dL_law_1871 : decode cL_law 1871 = .ok (.aload_n 2, 1) := by decide +kernel
theorem dL_law_1872 : decode cL_law 1872 = .ok (.aload_n 0, 1) := by decide +kernel
theorem dL_law_1873 : decode cL_law 1873 = .ok (.iload 5, 2) := by decide +kernel
theorem dL_law_1875 : decode cL_law 1875 = .ok (.iconst 1, 1) := by decide +kernel
theorem dL_law_1876 : decode cL_law 1876 = .ok (.iadd, 1) := by decide +kernel
theorem dL_law_1877 : decode cL_law 1877 = .ok (.iaload, 1) := by decide +kernel
theorem dL_law_1878 : decode cL_law 1878 = .ok (.invokevirtual 223, 3) := by decide +kernel
theorem dL_law_1881 : decode cL_law 1881 = .ok (.istore 7, 2) := by decide +kernel
theorem dL_law_1883 : decode cL_law 1883 = .ok (.aload_n 2, 1) := by decide +kernel
theorem dL_law_1884 : decode cL_law 1884 = .ok (.invokevirtual 124, 3) := by decide +kernel
theorem dL_law_1887 : decode cL_law 1887 = .ok (.iload 6, 2) := by decide +kernel
theorem dL_law_1889 : decode cL_law 1889 = .ok (.if_icmp .eq 5, 3) := by decide +kernel
theorem dL_law_1892 : decode cL_law 1892 = .ok (.iconst 0, 1) := by decide +kernel
theorem dL_law_1893 : decode cL_law 1893 = .ok (.ireturn, 1) := by decide +kernel
theorem dL_law_1894 : decode cL_law 1894 = .ok (.iload 6, 2) := by decide +kernel
theorem dL_law_1896 : decode cL_law 1896 = .ok (.ifCond .ne 15, 3) := by decide +kernel
theorem dL_law_1899 : decode cL_law 1899 = .ok (.aload_n 3, 1) := by decide +kernel
theorem dL_law_1900 : decode cL_law 1900 = .ok (.iconst 0, 1) := by decide +kernel
theorem dL_law_1901 : decode cL_law 1901 = .ok (.laload, 1) := by decide +kernel
theorem dL_law_1902 : decode cL_law 1902 = .ok (.iload 7, 2) := by decide +kernel
theorem dL_law_1904 : decode cL_law 1904 = .ok (.i2l, 1) := by decide +kernel
theorem dL_law_1905 : decode cL_law 1905 = .ok (.lcmp, 1) := by decide +kernel
theorem dL_law_1906 : decode cL_law 1906 = .ok (.ifCond .eq 5, 3) := by decide +kernel
theorem dL_law_1909 : decode cL_law 1909 = .ok (.iconst 0, 1) := by decide +kernel
theorem dL_law_1910 : decode cL_law 1910 = .ok (.ireturn, 1) := by decide +kernel
theorem dL_law_1911 : decode cL_law 1911 = .ok (.goto 348, 3) := by decide +kernel
theorem dL_law_1914 : decode cL_law 1914 = .ok (.aload_n 1, 1) := by decide +kernel
theorem dL_law_1915 : decode cL_law 1915 = .ok (.aload_n 0, 1) := by decide +kernel
theorem dL_law_1916 : decode cL_law 1916 = .ok (.iload 5, 2) := by decide +kernel
theorem dL_law_1918 : decode cL_law 1918 = .ok (.iconst 1, 1) := by decide +kernel
theorem dL_law_1919 : decode cL_law 1919 = .ok (.iadd, 1) := by decide +kernel
theorem dL_law_1920 : decode cL_law 1920 = .ok (.iaload, 1) := by decide +kernel
theorem dL_law_1921 : decode cL_law 1921 = .ok (.aload_n 0, 1) := by decide +kernel
theorem dL_law_1922 : decode cL_law 1922 = .ok (.iload 5, 2) := by decide +kernel
theorem dL_law_1924 : decode cL_law 1924 = .ok (.iconst 2, 1) := by decide +kernel
theorem dL_law_1925 : decode cL_law 1925 = .ok (.iadd, 1) := by decide +kernel
theorem dL_law_1926 : decode cL_law 1926 = .ok (.iaload, 1) := by decide +kernel
theorem dL_law_1927 : decode cL_law 1927 = .ok (.aload_n 3, 1) := by decide +kernel
theorem dL_law_1928 : decode cL_law 1928 = .ok (.invokestatic 224, 3) := by decide +kernel
theorem dL_law_1931 : decode cL_law 1931 = .ok (.istore 6, 2) := by decide +kernel
theorem dL_law_1933 : decode cL_law 1933 = .ok (.aload_n 2, 1) := by decide +kernel
theorem dL_law_1934 : decode cL_law 1934 = .ok (.aload_n 0, 1) := by decide +kernel
theorem dL_law_1935 : decode cL_law 1935 = .ok (.iload 5, 2) := by decide +kernel
theorem dL_law_1937 : decode cL_law 1937 = .ok (.iconst 1, 1) := by decide +kernel
theorem dL_law_1938 : decode cL_law 1938 = .ok (.iadd, 1) := by decide +kernel
theorem dL_law_1939 : decode cL_law 1939 = .ok (.iaload, 1) := by decide +kernel
theorem dL_law_1940 : decode cL_law 1940 = .ok (.aload_n 0, 1) := by decide +kernel
theorem dL_law_1941 : decode cL_law 1941 = .ok (.iload 5, 2) := by decide +kernel
theorem dL_law_1943 : decode cL_law 1943 = .ok (.iconst 2, 1) := by decide +kernel
theorem dL_law_1944 : decode cL_law 1944 = .ok (.iadd, 1) := by decide +kernel
theorem dL_law_1945 : decode cL_law 1945 = .ok (.iaload, 1) := by decide +kernel
theorem dL_law_1946 : decode cL_law 1946 = .ok (.invokevirtual 226, 3) := by decide +kernel
theorem dL_law_1949 : decode cL_law 1949 = .ok (.istore 7, 2) := by decide +kernel
theorem dL_law_1951 : decode cL_law 1951 = .ok (.aload_n 2, 1) := by decide +kernel
theorem dL_law_1952 : decode cL_law 1952 = .ok (.invokevirtual 124, 3) := by decide +kernel
theorem dL_law_1955 : decode cL_law 1955 = .ok (.iload 6, 2) := by decide +kernel
theorem dL_law_1957 : decode cL_law 1957 = .ok (.if_icmp .eq 5, 3) := by decide +kernel
theorem dL_law_1960 : decode cL_law 1960 = .ok (.iconst 0, 1) := by decide +kernel
theorem dL_law_1961 : decode cL_law 1961 = .ok (.ireturn, 1) := by decide +kernel
theorem dL_law_1962 : decode cL_law 1962 = .ok (.iload 6, 2) := by decide +kernel
theorem dL_law_1964 : decode cL_law 1964 = .ok (.ifCond .ne 15, 3) := by decide +kernel
theorem dL_law_1967 : decode cL_law 1967 = .ok (.aload_n 3, 1) := by decide +kernel
theorem dL_law_1968 : decode cL_law 1968 = .ok (.iconst 0, 1) := by decide +kernel
theorem dL_law_1969 : decode cL_law 1969 = .ok (.laload, 1) := by decide +kernel
theorem dL_law_1970 : decode cL_law 1970 = .ok (.iload 7, 2) := by decide +kernel
theorem dL_law_1972 : decode cL_law 1972 = .ok (.i2l, 1) := by decide +kernel
theorem dL_law_1973 : decode cL_law 1973 = .ok (.lcmp, 1) := by decide +kernel
theorem dL_law_1974 : decode cL_law 1974 = .ok (.ifCond .eq 5, 3) := by decide +kernel
theorem dL_law_1977 : decode cL_law 1977 = .ok (.iconst 0, 1) := by decide +kernel
theorem dL_law_1978 : decode cL_law 1978 = .ok (.ireturn, 1) := by decide +kernel
theorem dL_law_1979 : decode cL_law 1979 = .ok (.goto 280, 3) := by decide +kernel
theorem dL_law_1982 : decode cL_law 1982 = .ok (.aload_n 1, 1) := by decide +kernel
theorem dL_law_1983 : decode cL_law 1983 = .ok (.aload_n 0, 1) := by decide +kernel
theorem dL_law_1984 : decode cL_law 1984 = .ok (.iload 5, 2) := by decide +kernel
theorem dL_law_1986 : decode cL_law 1986 = .ok (.iconst 1, 1) := by decide +kernel
theorem dL_law_1987 : decode cL_law 1987 = .ok (.iadd, 1) := by decide +kernel
theorem dL_law_1988 : decode cL_law 1988 = .ok (.iaload, 1) := by decide +kernel
theorem dL_law_1989 : decode cL_law 1989 = .ok (.aload_n 0, 1) := by decide +kernel
theorem dL_law_1990 : decode cL_law 1990 = .ok (.iload 5, 2) := by decide +kernel
theorem dL_law_1992 : decode cL_law 1992 = .ok (.iconst 2, 1) := by decide +kernel
theorem dL_law_1993 : decode cL_law 1993 = .ok (.iadd, 1) := by decide +kernel
theorem dL_law_1994 : decode cL_law 1994 = .ok (.iaload, 1) := by decide +kernel
theorem dL_law_1995 : decode cL_law 1995 = .ok (.aload_n 3, 1) := by decide +kernel
theorem dL_law_1996 : decode cL_law 1996 = .ok (.invokestatic 227, 3) := by decide +kernel
theorem dL_law_1999 : decode cL_law 1999 = .ok (.istore 6, 2) := by decide +kernel
theorem dL_law_2001 : decode cL_law 2001 = .ok (.aload_n 2, 1) := by decide +kernel
theorem dL_law_2002 : decode cL_law 2002 = .ok (.aload_n 0, 1) := by decide +kernel
theorem dL_law_2003 : decode cL_law 2003 = .ok (.iload 5, 2) := by decide +kernel
theorem dL_law_2005 : decode cL_law 2005 = .ok (.iconst 1, 1) := by decide +kernel
theorem dL_law_2006 : decode cL_law 2006 = .ok (.iadd, 1) := by decide +kernel
theorem dL_law_2007 : decode cL_law 2007 = .ok (.iaload, 1) := by decide +kernel
theorem dL_law_2008 : decode cL_law 2008 = .ok (.aload_n 0, 1) := by decide +kernel
theorem dL_law_2009 : decode cL_law 2009 = .ok (.iload 5, 2) := by decide +kernel
theorem dL_law_2011 : decode cL_law 2011 = .ok (.iconst 2, 1) := by decide +kernel
theorem dL_law_2012 : decode cL_law 2012 = .ok (.iadd, 1) := by decide +kernel
theorem dL_law_2013 : decode cL_law 2013 = .ok (.iaload, 1) := by decide +kernel
theorem dL_law_2014 : decode cL_law 2014 = .ok (.invokevirtual 229, 3) := by decide +kernel
theorem dL_law_2017 : decode cL_law 2017 = .ok (.istore 7, 2) := by decide +kernel
theorem dL_law_2019 : decode cL_law 2019 = .ok (.aload_n 2, 1) := by decide +kernel
theorem dL_law_2020 : decode cL_law 2020 = .ok (.invokevirtual 124, 3) := by decide +kernel
theorem dL_law_2023 : decode cL_law 2023 = .ok (.iload 6, 2) := by decide +kernel
theorem dL_law_2025 : decode cL_law 2025 = .ok (.if_icmp .eq 5, 3) := by decide +kernel
theorem dL_law_2028 : decode cL_law 2028 = .ok (.iconst 0, 1) := by decide +kernel
theorem dL_law_2029 : decode cL_law 2029 = .ok (.ireturn, 1) := by decide +kernel
theorem dL_law_2030 : decode cL_law 2030 = .ok (.iload 6, 2) := by decide +kernel
theorem dL_law_2032 : decode cL_law 2032 = .ok (.ifCond .ne 15, 3) := by decide +kernel
theorem dL_law_2035 : decode cL_law 2035 = .ok (.aload_n 3, 1) := by decide +kernel
theorem dL_law_2036 : decode cL_law 2036 = .ok (.iconst 0, 1) := by decide +kernel
theorem dL_law_2037 : decode cL_law 2037 = .ok (.laload, 1) := by decide +kernel
theorem dL_law_2038 : decode cL_law 2038 = .ok (.iload 7, 2) := by decide +kernel
theorem dL_law_2040 : decode cL_law 2040 = .ok (.i2l, 1) := by decide +kernel
theorem dL_law_2041 : decode cL_law 2041 = .ok (.lcmp, 1) := by decide +kernel
theorem dL_law_2042 : decode cL_law 2042 = .ok (.ifCond .eq 5, 3) := by decide +kernel
theorem dL_law_2045 : decode cL_law 2045 = .ok (.iconst 0, 1) := by decide +kernel
theorem dL_law_2046 : decode cL_law 2046 = .ok (.ireturn, 1) := by decide +kernel
theorem dL_law_2047 : decode cL_law 2047 = .ok (.goto 212, 3) := by decide +kernel
theorem dL_law_2050 : decode cL_law 2050 = .ok (.aload_n 1, 1) := by decide +kernel
theorem dL_law_2051 : decode cL_law 2051 = .ok (.aload_n 0, 1) := by decide +kernel
theorem dL_law_2052 : decode cL_law 2052 = .ok (.iload 5, 2) := by decide +kernel
theorem dL_law_2054 : decode cL_law 2054 = .ok (.iconst 1, 1) := by decide +kernel
theorem dL_law_2055 : decode cL_law 2055 = .ok (.iadd, 1) := by decide +kernel
theorem dL_law_2056 : decode cL_law 2056 = .ok (.iaload, 1) := by decide +kernel
theorem dL_law_2057 : decode cL_law 2057 = .ok (.aload_n 3, 1) := by decide +kernel
theorem dL_law_2058 : decode cL_law 2058 = .ok (.invokestatic 230, 3) := by decide +kernel
theorem dL_law_2061 : decode cL_law 2061 = .ok (.istore 6, 2) := by decide +kernel
theorem dL_law_2063 : decode cL_law 2063 = .ok (.aload_n 2, 1) := by decide +kernel
theorem dL_law_2064 : decode cL_law 2064 = .ok (.aload_n 0, 1) := by decide +kernel
theorem dL_law_2065 : decode cL_law 2065 = .ok (.iload 5, 2) := by decide +kernel
theorem dL_law_2067 : decode cL_law 2067 = .ok (.iconst 1, 1) := by decide +kernel
theorem dL_law_2068 : decode cL_law 2068 = .ok (.iadd, 1) := by decide +kernel
theorem dL_law_2069 : decode cL_law 2069 = .ok (.iaload, 1) := by decide +kernel
theorem dL_law_2070 : decode cL_law 2070 = .ok (.invokevirtual 232, 3) := by decide +kernel
theorem dL_law_2073 : decode cL_law 2073 = .ok (.istore 7, 2) := by decide +kernel
theorem dL_law_2075 : decode cL_law 2075 = .ok (.aload_n 2, 1) := by decide +kernel
theorem dL_law_2076 : decode cL_law 2076 = .ok (.invokevirtual 124, 3) := by decide +kernel
theorem dL_law_2079 : decode cL_law 2079 = .ok (.iload 6, 2) := by decide +kernel
theorem dL_law_2081 : decode cL_law 2081 = .ok (.if_icmp .eq 5, 3) := by decide +kernel
theorem dL_law_2084 : decode cL_law 2084 = .ok (.iconst 0, 1) := by decide +kernel
theorem dL_law_2085 : decode cL_law 2085 = .ok (.ireturn, 1) := by decide +kernel
theorem dL_law_2086 : decode cL_law 2086 = .ok (.iload 6, 2) := by decide +kernel
theorem dL_law_2088 : decode cL_law 2088 = .ok (.ifCond .ne 15, 3) := by decide +kernel
theorem dL_law_2091 : decode cL_law 2091 = .ok (.aload_n 3, 1) := by decide +kernel
theorem dL_law_2092 : decode cL_law 2092 = .ok (.iconst 0, 1) := by decide +kernel
theorem dL_law_2093 : decode cL_law 2093 = .ok (.laload, 1) := by decide +kernel
theorem dL_law_2094 : decode cL_law 2094 = .ok (.iload 7, 2) := by decide +kernel
theorem dL_law_2096 : decode cL_law 2096 = .ok (.i2l, 1) := by decide +kernel
theorem dL_law_2097 : decode cL_law 2097 = .ok (.lcmp, 1) := by decide +kernel
theorem dL_law_2098 : decode cL_law 2098 = .ok (.ifCond .eq 5, 3) := by decide +kernel
theorem dL_law_2101 : decode cL_law 2101 = .ok (.iconst 0, 1) := by decide +kernel
theorem dL_law_2102 : decode cL_law 2102 = .ok (.ireturn, 1) := by decide +kernel
theorem dL_law_2103 : decode cL_law 2103 = .ok (.goto 156, 3) := by decide +kernel
theorem dL_law_2106 : decode cL_law 2106 = .ok (.aload_n 1, 1) := by decide +kernel
theorem dL_law_2107 : decode cL_law 2107 = .ok (.aload_n 0, 1) := by decide +kernel
theorem dL_law_2108 : decode cL_law 2108 = .ok (.iload 5, 2) := by decide +kernel
theorem dL_law_2110 : decode cL_law 2110 = .ok (.iconst 1, 1) := by decide +kernel
theorem dL_law_2111 : decode cL_law 2111 = .ok (.iadd, 1) := by decide +kernel
theorem dL_law_2112 : decode cL_law 2112 = .ok (.iaload, 1) := by decide +kernel
theorem dL_law_2113 : decode cL_law 2113 = .ok (.ifCond .eq 7, 3) := by decide +kernel
theorem dL_law_2116 : decode cL_law 2116 = .ok (.iconst 1, 1) := by decide +kernel
theorem dL_law_2117 : decode cL_law 2117 = .ok (.goto 4, 3) := by decide +kernel
theorem dL_law_2120 : decode cL_law 2120 = .ok (.iconst 0, 1) := by decide +kernel
theorem dL_law_2121 : decode cL_law 2121 = .ok (.invokevirtual 233, 3) := by decide +kernel
theorem dL_law_2124 : decode cL_law 2124 = .ok (.aload_n 2, 1) := by decide +kernel
theorem dL_law_2125 : decode cL_law 2125 = .ok (.aload_n 0, 1) := by decide +kernel
theorem dL_law_2126 : decode cL_law 2126 = .ok (.iload 5, 2) := by decide +kernel
theorem dL_law_2128 : decode cL_law 2128 = .ok (.iconst 1, 1) := by decide +kernel
theorem dL_law_2129 : decode cL_law 2129 = .ok (.iadd, 1) := by decide +kernel
theorem dL_law_2130 : decode cL_law 2130 = .ok (.iaload, 1) := by decide +kernel
theorem dL_law_2131 : decode cL_law 2131 = .ok (.ifCond .eq 7, 3) := by decide +kernel
theorem dL_law_2134 : decode cL_law 2134 = .ok (.iconst 1, 1) := by decide +kernel
theorem dL_law_2135 : decode cL_law 2135 = .ok (.goto 4, 3) := by decide +kernel
theorem dL_law_2138 : decode cL_law 2138 = .ok (.iconst 0, 1) := by decide +kernel
theorem dL_law_2139 : decode cL_law 2139 = .ok (.invokevirtual 237, 3) := by decide +kernel
theorem dL_law_2142 : decode cL_law 2142 = .ok (.if_icmp .eq 117, 3) := by decide +kernel
theorem dL_law_2145 : decode cL_law 2145 = .ok (.iconst 0, 1) := by decide +kernel
theorem dL_law_2146 : decode cL_law 2146 = .ok (.ireturn, 1) := by decide +kernel
theorem dL_law_2147 : decode cL_law 2147 = .ok (.aload_n 1, 1) := by decide +kernel
theorem dL_law_2148 : decode cL_law 2148 = .ok (.aload_n 0, 1) := by decide +kernel
theorem dL_law_2149 : decode cL_law 2149 = .ok (.iload 5, 2) := by decide +kernel
theorem dL_law_2151 : decode cL_law 2151 = .ok (.iconst 1, 1) := by decide +kernel
theorem dL_law_2152 : decode cL_law 2152 = .ok (.iadd, 1) := by decide +kernel
theorem dL_law_2153 : decode cL_law 2153 = .ok (.iaload, 1) := by decide +kernel
theorem dL_law_2154 : decode cL_law 2154 = .ok (.aload_n 3, 1) := by decide +kernel
theorem dL_law_2155 : decode cL_law 2155 = .ok (.invokestatic 238, 3) := by decide +kernel
theorem dL_law_2158 : decode cL_law 2158 = .ok (.istore 6, 2) := by decide +kernel
theorem dL_law_2160 : decode cL_law 2160 = .ok (.aload_n 2, 1) := by decide +kernel
theorem dL_law_2161 : decode cL_law 2161 = .ok (.aload_n 0, 1) := by decide +kernel
theorem dL_law_2162 : decode cL_law 2162 = .ok (.iload 5, 2) := by decide +kernel
theorem dL_law_2164 : decode cL_law 2164 = .ok (.iconst 1, 1) := by decide +kernel
theorem dL_law_2165 : decode cL_law 2165 = .ok (.iadd, 1) := by decide +kernel
theorem dL_law_2166 : decode cL_law 2166 = .ok (.iaload, 1) := by decide +kernel
theorem dL_law_2167 : decode cL_law 2167 = .ok (.invokevirtual 240, 3) := by decide +kernel
theorem dL_law_2170 : decode cL_law 2170 = .ok (.istore 7, 2) := by decide +kernel
theorem dL_law_2172 : decode cL_law 2172 = .ok (.aload_n 2, 1) := by decide +kernel
theorem dL_law_2173 : decode cL_law 2173 = .ok (.invokevirtual 124, 3) := by decide +kernel
theorem dL_law_2176 : decode cL_law 2176 = .ok (.iload 6, 2) := by decide +kernel
theorem dL_law_2178 : decode cL_law 2178 = .ok (.if_icmp .eq 5, 3) := by decide +kernel
theorem dL_law_2181 : decode cL_law 2181 = .ok (.iconst 0, 1) := by decide +kernel
theorem dL_law_2182 : decode cL_law 2182 = .ok (.ireturn, 1) := by decide +kernel
theorem dL_law_2183 : decode cL_law 2183 = .ok (.iload 6, 2) := by decide +kernel
theorem dL_law_2185 : decode cL_law 2185 = .ok (.ifCond .ne 15, 3) := by decide +kernel
theorem dL_law_2188 : decode cL_law 2188 = .ok (.aload_n 3, 1) := by decide +kernel
theorem dL_law_2189 : decode cL_law 2189 = .ok (.iconst 0, 1) := by decide +kernel
theorem dL_law_2190 : decode cL_law 2190 = .ok (.laload, 1) := by decide +kernel
theorem dL_law_2191 : decode cL_law 2191 = .ok (.iload 7, 2) := by decide +kernel
theorem dL_law_2193 : decode cL_law 2193 = .ok (.i2l, 1) := by decide +kernel
theorem dL_law_2194 : decode cL_law 2194 = .ok (.lcmp, 1) := by decide +kernel
theorem dL_law_2195 : decode cL_law 2195 = .ok (.ifCond .eq 5, 3) := by decide +kernel
theorem dL_law_2198 : decode cL_law 2198 = .ok (.iconst 0, 1) := by decide +kernel
theorem dL_law_2199 : decode cL_law 2199 = .ok (.ireturn, 1) := by decide +kernel
theorem dL_law_2200 : decode cL_law 2200 = .ok (.goto 59, 3) := by decide +kernel
theorem dL_law_2203 : decode cL_law 2203 = .ok (.aload_n 1, 1) := by decide +kernel
theorem dL_law_2204 : decode cL_law 2204 = .ok (.aload_n 0, 1) := by decide +kernel
theorem dL_law_2205 : decode cL_law 2205 = .ok (.iload 5, 2) := by decide +kernel
theorem dL_law_2207 : decode cL_law 2207 = .ok (.iconst 1, 1) := by decide +kernel
theorem dL_law_2208 : decode cL_law 2208 = .ok (.iadd, 1) := by decide +kernel
theorem dL_law_2209 : decode cL_law 2209 = .ok (.iaload, 1) := by decide +kernel
theorem dL_law_2210 : decode cL_law 2210 = .ok (.aload_n 3, 1) := by decide +kernel
theorem dL_law_2211 : decode cL_law 2211 = .ok (.invokestatic 241, 3) := by decide +kernel
theorem dL_law_2214 : decode cL_law 2214 = .ok (.istore 6, 2) := by decide +kernel
theorem dL_law_2216 : decode cL_law 2216 = .ok (.aload_n 2, 1) := by decide +kernel
theorem dL_law_2217 : decode cL_law 2217 = .ok (.aload_n 0, 1) := by decide +kernel
theorem dL_law_2218 : decode cL_law 2218 = .ok (.iload 5, 2) := by decide +kernel
theorem dL_law_2220 : decode cL_law 2220 = .ok (.iconst 1, 1) := by decide +kernel
theorem dL_law_2221 : decode cL_law 2221 = .ok (.iadd, 1) := by decide +kernel
theorem dL_law_2222 : decode cL_law 2222 = .ok (.iaload, 1) := by decide +kernel
theorem dL_law_2223 : decode cL_law 2223 = .ok (.invokevirtual 243, 3) := by decide +kernel
theorem dL_law_2226 : decode cL_law 2226 = .ok (.istore 7, 2) := by decide +kernel
theorem dL_law_2228 : decode cL_law 2228 = .ok (.aload_n 2, 1) := by decide +kernel
theorem dL_law_2229 : decode cL_law 2229 = .ok (.invokevirtual 124, 3) := by decide +kernel
theorem dL_law_2232 : decode cL_law 2232 = .ok (.iload 6, 2) := by decide +kernel
theorem dL_law_2234 : decode cL_law 2234 = .ok (.if_icmp .eq 5, 3) := by decide +kernel
theorem dL_law_2237 : decode cL_law 2237 = .ok (.iconst 0, 1) := by decide +kernel
theorem dL_law_2238 : decode cL_law 2238 = .ok (.ireturn, 1) := by decide +kernel
theorem dL_law_2239 : decode cL_law 2239 = .ok (.iload 6, 2) := by decide +kernel
theorem dL_law_2241 : decode cL_law 2241 = .ok (.ifCond .ne 15, 3) := by decide +kernel
theorem dL_law_2244 : decode cL_law 2244 = .ok (.aload_n 3, 1) := by decide +kernel
theorem dL_law_2245 : decode cL_law 2245 = .ok (.iconst 0, 1) := by decide +kernel
theorem dL_law_2246 : decode cL_law 2246 = .ok (.laload, 1) := by decide +kernel
theorem dL_law_2247 : decode cL_law 2247 = .ok (.iload 7, 2) := by decide +kernel
theorem dL_law_2249 : decode cL_law 2249 = .ok (.i2l, 1) := by decide +kernel
theorem dL_law_2250 : decode cL_law 2250 = .ok (.lcmp, 1) := by decide +kernel
theorem dL_law_2251 : decode cL_law 2251 = .ok (.ifCond .eq 5, 3) := by decide +kernel
theorem dL_law_2254 : decode cL_law 2254 = .ok (.iconst 0, 1) := by decide +kernel
theorem dL_law_2255 : decode cL_law 2255 = .ok (.ireturn, 1) := by decide +kernel
theorem dL_law_2256 : decode cL_law 2256 = .ok (.goto 3, 3) := by decide +kernel
theorem dL_law_2259 : decode cL_law 2259 = .ok (.iinc 5 6, 3) := by decide +kernel
theorem dL_law_2262 : decode cL_law 2262 = .ok (.goto (-2234), 3) := by decide +kernel
theorem dL_law_2265 : decode cL_law 2265 = .ok (.iconst 1, 1) := by decide +kernel
theorem dL_law_2266 : decode cL_law 2266 = .ok (.ireturn, 1) := by decide +kernel
