theorem dX0_init_0 : decode cX0_init 0 = .ok (.aload_n 0, 1) := by decide +kernel
theorem dX0_init_1 : decode cX0_init 1 = .ok (.invokespecial 3, 3) := by decide +kernel
theorem dX0_init_4 : decode cX0_init 4 = .ok (.aload_n 0, 1) := by decide +kernel
theorem dX0_init_5 : decode cX0_init 5 = .ok (.aload_n 1, 1) := by decide +kernel
theorem dX0_init_6 : decode cX0_init 6 = .ok (.putfield 9, 3) := by decide +kernel
theorem dX0_init_9 : decode cX0_init 9 = .ok (.aload_n 0, 1) := by decide +kernel
theorem dX0_init_10 : decode cX0_init 10 = .ok (.aload_n 2, 1) := by decide +kernel
theorem dX0_init_11 : decode cX0_init 11 = .ok (.putfield 15, 3) := by decide +kernel
theorem dX0_init_14 : decode cX0_init 14 = .ok (.return_, 1) := by decide +kernel
theorem dX0_firstNode_0 : decode cX0_firstNode 0 = .ok (.aload_n 0, 1) := by decide +kernel
theorem dX0_firstNode_1 : decode cX0_firstNode 1 = .ok (.iconst 0, 1) := by decide +kernel
theorem dX0_firstNode_2 : decode cX0_firstNode 2 = .ok (.iconst 0, 1) := by decide +kernel
theorem dX0_firstNode_3 : decode cX0_firstNode 3 = .ok (.invokevirtual 19, 3) := by decide +kernel
theorem dX0_firstNode_6 : decode cX0_firstNode 6 = .ok (.ireturn, 1) := by decide +kernel
theorem dX0_isEnd_0 : decode cX0_isEnd 0 = .ok (.iload_n 1, 1) := by decide +kernel
theorem dX0_isEnd_1 : decode cX0_isEnd 1 = .ok (.invokestatic 23, 3) := by decide +kernel
theorem dX0_isEnd_4 : decode cX0_isEnd 4 = .ok (.bipush 40, 2) := by decide +kernel
theorem dX0_isEnd_6 : decode cX0_isEnd 6 = .ok (.if_icmp .lt 7, 3) := by decide +kernel
theorem dX0_isEnd_9 : decode cX0_isEnd 9 = .ok (.iconst 1, 1) := by decide +kernel
theorem dX0_isEnd_10 : decode cX0_isEnd 10 = .ok (.goto 4, 3) := by decide +kernel
theorem dX0_isEnd_13 : decode cX0_isEnd 13 = .ok (.iconst 0, 1) := by decide +kernel
theorem dX0_isEnd_14 : decode cX0_isEnd 14 = .ok (.ireturn, 1) := by decide +kernel
theorem dX0_faultAt_0 : decode cX0_faultAt 0 = .ok (.iload_n 1, 1) := by decide +kernel
theorem dX0_faultAt_1 : decode cX0_faultAt 1 = .ok (.invokestatic 23, 3) := by decide +kernel
theorem dX0_faultAt_4 : decode cX0_faultAt 4 = .ok (.istore_n 2, 1) := by decide +kernel
theorem dX0_faultAt_5 : decode cX0_faultAt 5 = .ok (.iload_n 1, 1) := by decide +kernel
theorem dX0_faultAt_6 : decode cX0_faultAt 6 = .ok (.invokestatic 27, 3) := by decide +kernel
theorem dX0_faultAt_9 : decode cX0_faultAt 9 = .ok (.istore_n 3, 1) := by decide +kernel
theorem dX0_faultAt_10 : decode cX0_faultAt 10 = .ok (.aload_n 0, 1) := by decide +kernel
theorem dX0_faultAt_11 : decode cX0_faultAt 11 = .ok (.getfield 15, 3) := by decide +kernel
theorem dX0_faultAt_14 : decode cX0_faultAt 14 = .ok (.getfield 30, 3) := by decide +kernel
theorem dX0_faultAt_17 : decode cX0_faultAt 17 = .ok (.iload_n 2, 1) := by decide +kernel
theorem dX0_faultAt_18 : decode cX0_faultAt 18 = .ok (.iaload, 1) := by decide +kernel
theorem dX0_faultAt_19 : decode cX0_faultAt 19 = .ok (.istore 4, 2) := by decide +kernel
theorem dX0_faultAt_21 : decode cX0_faultAt 21 = .ok (.aload_n 0, 1) := by decide +kernel
theorem dX0_faultAt_22 : decode cX0_faultAt 22 = .ok (.getfield 15, 3) := by decide +kernel
theorem dX0_faultAt_25 : decode cX0_faultAt 25 = .ok (.getfield 36, 3) := by decide +kernel
theorem dX0_faultAt_28 : decode cX0_faultAt 28 = .ok (.iload_n 2, 1) := by decide +kernel
theorem dX0_faultAt_29 : decode cX0_faultAt 29 = .ok (.iaload, 1) := by decide +kernel
theorem dX0_faultAt_30 : decode cX0_faultAt 30 = .ok (.tableswitch 106 0 3 #[30, 49, 68, 87], 30) := by decide +kernel
theorem dX0_faultAt_60 : decode cX0_faultAt 60 = .ok (.aload_n 0, 1) := by decide +kernel
theorem dX0_faultAt_61 : decode cX0_faultAt 61 = .ok (.getfield 9, 3) := by decide +kernel
theorem dX0_faultAt_64 : decode cX0_faultAt 64 = .ok (.iload_n 3, 1) := by decide +kernel
theorem dX0_faultAt_65 : decode cX0_faultAt 65 = .ok (.iload 4, 2) := by decide +kernel
theorem dX0_faultAt_67 : decode cX0_faultAt 67 = .ok (.invokevirtual 39, 3) := by decide +kernel
theorem dX0_faultAt_70 : decode cX0_faultAt 70 = .ok (.ifCond .eq 7, 3) := by decide +kernel
theorem dX0_faultAt_73 : decode cX0_faultAt 73 = .ok (.iconst (-1), 1) := by decide +kernel
theorem dX0_faultAt_74 : decode cX0_faultAt 74 = .ok (.goto 4, 3) := by decide +kernel
theorem dX0_faultAt_77 : decode cX0_faultAt 77 = .ok (.iconst 2, 1) := by decide +kernel
theorem dX0_faultAt_78 : decode cX0_faultAt 78 = .ok (.ireturn, 1) := by decide +kernel
theorem dX0_faultAt_79 : decode cX0_faultAt 79 = .ok (.aload_n 0, 1) := by decide +kernel
theorem dX0_faultAt_80 : decode cX0_faultAt 80 = .ok (.getfield 9, 3) := by decide +kernel
theorem dX0_faultAt_83 : decode cX0_faultAt 83 = .ok (.iload_n 3, 1) := by decide +kernel
theorem dX0_faultAt_84 : decode cX0_faultAt 84 = .ok (.iload 4, 2) := by decide +kernel
theorem dX0_faultAt_86 : decode cX0_faultAt 86 = .ok (.invokevirtual 45, 3) := by decide +kernel
theorem dX0_faultAt_89 : decode cX0_faultAt 89 = .ok (.ifCond .eq 7, 3) := by decide +kernel
theorem dX0_faultAt_92 : decode cX0_faultAt 92 = .ok (.iconst (-1), 1) := by decide +kernel
theorem dX0_faultAt_93 : decode cX0_faultAt 93 = .ok (.goto 4, 3) := by decide +kernel
theorem dX0_faultAt_96 : decode cX0_faultAt 96 = .ok (.iconst 3, 1) := by decide +kernel
theorem dX0_faultAt_97 : decode cX0_faultAt 97 = .ok (.ireturn, 1) := by decide +kernel
theorem dX0_faultAt_98 : decode cX0_faultAt 98 = .ok (.aload_n 0, 1) := by decide +kernel
theorem dX0_faultAt_99 : decode cX0_faultAt 99 = .ok (.getfield 9, 3) := by decide +kernel
theorem dX0_faultAt_102 : decode cX0_faultAt 102 = .ok (.iload_n 3, 1) := by decide +kernel
theorem dX0_faultAt_103 : decode cX0_faultAt 103 = .ok (.iload 4, 2) := by decide +kernel
theorem dX0_faultAt_105 : decode cX0_faultAt 105 = .ok (.invokevirtual 48, 3) := by decide +kernel
theorem dX0_faultAt_108 : decode cX0_faultAt 108 = .ok (.ifCond .eq 7, 3) := by decide +kernel
theorem dX0_faultAt_111 : decode cX0_faultAt 111 = .ok (.iconst (-1), 1) := by decide +kernel
theorem dX0_faultAt_112 : decode cX0_faultAt 112 = .ok (.goto 4, 3) := by decide +kernel
theorem dX0_faultAt_115 : decode cX0_faultAt 115 = .ok (.iconst 4, 1) := by decide +kernel
theorem dX0_faultAt_116 : decode cX0_faultAt 116 = .ok (.ireturn, 1) := by decide +kernel
theorem dX0_faultAt_117 : decode cX0_faultAt 117 = .ok (.aload_n 0, 1) := by decide +kernel
theorem dX0_faultAt_118 : decode cX0_faultAt 118 = .ok (.getfield 9, 3) := by decide +kernel
theorem dX0_faultAt_121 : decode cX0_faultAt 121 = .ok (.iload_n 3, 1) := by decide +kernel
theorem dX0_faultAt_122 : decode cX0_faultAt 122 = .ok (.iload 4, 2) := by decide +kernel
theorem dX0_faultAt_124 : decode cX0_faultAt 124 = .ok (.invokevirtual 51, 3) := by decide +kernel
theorem dX0_faultAt_127 : decode cX0_faultAt 127 = .ok (.ifCond .eq 7, 3) := by decide +kernel
theorem dX0_faultAt_130 : decode cX0_faultAt 130 = .ok (.iconst (-1), 1) := by decide +kernel
theorem dX0_faultAt_131 : decode cX0_faultAt 131 = .ok (.goto 4, 3) := by decide +kernel
theorem dX0_faultAt_134 : decode cX0_faultAt 134 = .ok (.iconst 3, 1) := by decide +kernel
theorem dX0_faultAt_135 : decode cX0_faultAt 135 = .ok (.ireturn, 1) := by decide +kernel
theorem dX0_faultAt_136 : decode cX0_faultAt 136 = .ok (.iconst (-1), 1) := by decide +kernel
theorem dX0_faultAt_137 : decode cX0_faultAt 137 = .ok (.ireturn, 1) := by decide +kernel
theorem dX0_hasTwoChoices_0 : decode cX0_hasTwoChoices 0 = .ok (.iload_n 1, 1) := by decide +kernel
theorem dX0_hasTwoChoices_1 : decode cX0_hasTwoChoices 1 = .ok (.invokestatic 23, 3) := by decide +kernel
theorem dX0_hasTwoChoices_4 : decode cX0_hasTwoChoices 4 = .ok (.istore_n 3, 1) := by decide +kernel
theorem dX0_hasTwoChoices_5 : decode cX0_hasTwoChoices 5 = .ok (.aload_n 0, 1) := by decide +kernel
theorem dX0_hasTwoChoices_6 : decode cX0_hasTwoChoices 6 = .ok (.getfield 15, 3) := by decide +kernel
theorem dX0_hasTwoChoices_9 : decode cX0_hasTwoChoices 9 = .ok (.getfield 36, 3) := by decide +kernel
theorem dX0_hasTwoChoices_12 : decode cX0_hasTwoChoices 12 = .ok (.iload_n 3, 1) := by decide +kernel
theorem dX0_hasTwoChoices_13 : decode cX0_hasTwoChoices 13 = .ok (.iaload, 1) := by decide +kernel
theorem dX0_hasTwoChoices_14 : decode cX0_hasTwoChoices 14 = .ok (.istore 4, 2) := by decide +kernel
theorem dX0_hasTwoChoices_16 : decode cX0_hasTwoChoices 16 = .ok (.iload 4, 2) := by decide +kernel
theorem dX0_hasTwoChoices_18 : decode cX0_hasTwoChoices 18 = .ok (.iconst 4, 1) := by decide +kernel
theorem dX0_hasTwoChoices_19 : decode cX0_hasTwoChoices 19 = .ok (.if_icmp .ne 5, 3) := by decide +kernel
theorem dX0_hasTwoChoices_22 : decode cX0_hasTwoChoices 22 = .ok (.iconst 1, 1) := by decide +kernel
theorem dX0_hasTwoChoices_23 : decode cX0_hasTwoChoices 23 = .ok (.ireturn, 1) := by decide +kernel
theorem dX0_hasTwoChoices_24 : decode cX0_hasTwoChoices 24 = .ok (.iload 4, 2) := by decide +kernel
theorem dX0_hasTwoChoices_26 : decode cX0_hasTwoChoices 26 = .ok (.invokestatic 54, 3) := by decide +kernel
theorem dX0_hasTwoChoices_29 : decode cX0_hasTwoChoices 29 = .ok (.ifCond .eq 24, 3) := by decide +kernel
theorem dX0_hasTwoChoices_32 : decode cX0_hasTwoChoices 32 = .ok (.aload_n 0, 1) := by decide +kernel
theorem dX0_hasTwoChoices_33 : decode cX0_hasTwoChoices 33 = .ok (.getfield 15, 3) := by decide +kernel
theorem dX0_hasTwoChoices_36 : decode cX0_hasTwoChoices 36 = .ok (.getfield 58, 3) := by decide +kernel
theorem dX0_hasTwoChoices_39 : decode cX0_hasTwoChoices 39 = .ok (.iload_n 3, 1) := by decide +kernel
theorem dX0_hasTwoChoices_40 : decode cX0_hasTwoChoices 40 = .ok (.baload, 1) := by decide +kernel
theorem dX0_hasTwoChoices_41 : decode cX0_hasTwoChoices 41 = .ok (.ifCond .eq 12, 3) := by decide +kernel
theorem dX0_hasTwoChoices_44 : decode cX0_hasTwoChoices 44 = .ok (.iload_n 2, 1) := by decide +kernel
theorem dX0_hasTwoChoices_45 : decode cX0_hasTwoChoices 45 = .ok (.iconst (-1), 1) := by decide +kernel
theorem dX0_hasTwoChoices_46 : decode cX0_hasTwoChoices 46 = .ok (.if_icmp .ne 7, 3) := by decide +kernel
theorem dX0_hasTwoChoices_49 : decode cX0_hasTwoChoices 49 = .ok (.iconst 1, 1) := by decide +kernel
theorem dX0_hasTwoChoices_50 : decode cX0_hasTwoChoices 50 = .ok (.goto 4, 3) := by decide +kernel
theorem dX0_hasTwoChoices_53 : decode cX0_hasTwoChoices 53 = .ok (.iconst 0, 1) := by decide +kernel
theorem dX0_hasTwoChoices_54 : decode cX0_hasTwoChoices 54 = .ok (.ireturn, 1) := by decide +kernel
theorem dX0_follow_0 : decode cX0_follow 0 = .ok (.iload_n 1, 1) := by decide +kernel
theorem dX0_follow_1 : decode cX0_follow 1 = .ok (.invokestatic 23, 3) := by decide +kernel
theorem dX0_follow_4 : decode cX0_follow 4 = .ok (.istore 4, 2) := by decide +kernel
theorem dX0_follow_6 : decode cX0_follow 6 = .ok (.iload_n 1, 1) := by decide +kernel
theorem dX0_follow_7 : decode cX0_follow 7 = .ok (.invokestatic 27, 3) := by decide +kernel
theorem dX0_follow_10 : decode cX0_follow 10 = .ok (.istore 5, 2) := by decide +kernel
theorem dX0_follow_12 : decode cX0_follow 12 = .ok (.aload_n 0, 1) := by decide +kernel
theorem dX0_follow_13 : decode cX0_follow 13 = .ok (.getfield 15, 3) := by decide +kernel
theorem dX0_follow_16 : decode cX0_follow 16 = .ok (.getfield 62, 3) := by decide +kernel
theorem dX0_follow_19 : decode cX0_follow 19 = .ok (.iload 4, 2) := by decide +kernel
theorem dX0_follow_21 : decode cX0_follow 21 = .ok (.iaload, 1) := by decide +kernel
theorem dX0_follow_22 : decode cX0_follow 22 = .ok (.istore 6, 2) := by decide +kernel
theorem dX0_follow_24 : decode cX0_follow 24 = .ok (.aload_n 0, 1) := by decide +kernel
theorem dX0_follow_25 : decode cX0_follow 25 = .ok (.getfield 15, 3) := by decide +kernel
theorem dX0_follow_28 : decode cX0_follow 28 = .ok (.getfield 36, 3) := by decide +kernel
theorem dX0_follow_31 : decode cX0_follow 31 = .ok (.iload 4, 2) := by decide +kernel
theorem dX0_follow_33 : decode cX0_follow 33 = .ok (.iaload, 1) := by decide +kernel
theorem dX0_follow_34 : decode cX0_follow 34 = .ok (.tableswitch 118 4 8 #[34, 54, 63, 71, 80], 34) := by decide +kernel
theorem dX0_follow_68 : decode cX0_follow 68 = .ok (.aload_n 0, 1) := by decide +kernel
theorem dX0_follow_69 : decode cX0_follow 69 = .ok (.iload_n 3, 1) := by decide +kernel
theorem dX0_follow_70 : decode cX0_follow 70 = .ok (.ifCond .ne 10, 3) := by decide +kernel
theorem dX0_follow_73 : decode cX0_follow 73 = .ok (.iload 4, 2) := by decide +kernel
theorem dX0_follow_75 : decode cX0_follow 75 = .ok (.iconst 1, 1) := by decide +kernel
theorem dX0_follow_76 : decode cX0_follow 76 = .ok (.iadd, 1) := by decide +kernel
theorem dX0_follow_77 : decode cX0_follow 77 = .ok (.goto 5, 3) := by decide +kernel
theorem dX0_follow_80 : decode cX0_follow 80 = .ok (.iload 6, 2) := by decide +kernel
theorem dX0_follow_82 : decode cX0_follow 82 = .ok (.iload 5, 2) := by decide +kernel
theorem dX0_follow_84 : decode cX0_follow 84 = .ok (.invokevirtual 19, 3) := by decide +kernel
theorem dX0_follow_87 : decode cX0_follow 87 = .ok (.ireturn, 1) := by decide +kernel
theorem dX0_follow_88 : decode cX0_follow 88 = .ok (.aload_n 0, 1) := by decide +kernel
theorem dX0_follow_89 : decode cX0_follow 89 = .ok (.iload 6, 2) := by decide +kernel
theorem dX0_follow_91 : decode cX0_follow 91 = .ok (.iload 5, 2) := by decide +kernel
theorem dX0_follow_93 : decode cX0_follow 93 = .ok (.invokevirtual 19, 3) := by decide +kernel
theorem dX0_follow_96 : decode cX0_follow 96 = .ok (.ireturn, 1) := by decide +kernel
theorem dX0_follow_97 : decode cX0_follow 97 = .ok (.bipush 40, 2) := by decide +kernel
theorem dX0_follow_99 : decode cX0_follow 99 = .ok (.iload 5, 2) := by decide +kernel
theorem dX0_follow_101 : decode cX0_follow 101 = .ok (.invokestatic 65, 3) := by decide +kernel
theorem dX0_follow_104 : decode cX0_follow 104 = .ok (.ireturn, 1) := by decide +kernel
theorem dX0_follow_105 : decode cX0_follow 105 = .ok (.aload_n 0, 1) := by decide +kernel
theorem dX0_follow_106 : decode cX0_follow 106 = .ok (.iload 4, 2) := by decide +kernel
theorem dX0_follow_108 : decode cX0_follow 108 = .ok (.iload 5, 2) := by decide +kernel
theorem dX0_follow_110 : decode cX0_follow 110 = .ok (.invokevirtual 68, 3) := by decide +kernel
theorem dX0_follow_113 : decode cX0_follow 113 = .ok (.ireturn, 1) := by decide +kernel
theorem dX0_follow_114 : decode cX0_follow 114 = .ok (.aload_n 0, 1) := by decide +kernel
theorem dX0_follow_115 : decode cX0_follow 115 = .ok (.aload_n 0, 1) := by decide +kernel
theorem dX0_follow_116 : decode cX0_follow 116 = .ok (.getfield 9, 3) := by decide +kernel
theorem dX0_follow_119 : decode cX0_follow 119 = .ok (.iload 5, 2) := by decide +kernel
theorem dX0_follow_121 : decode cX0_follow 121 = .ok (.aload_n 0, 1) := by decide +kernel
theorem dX0_follow_122 : decode cX0_follow 122 = .ok (.getfield 15, 3) := by decide +kernel
theorem dX0_follow_125 : decode cX0_follow 125 = .ok (.getfield 30, 3) := by decide +kernel
theorem dX0_follow_128 : decode cX0_follow 128 = .ok (.iload 4, 2) := by decide +kernel
theorem dX0_follow_130 : decode cX0_follow 130 = .ok (.iaload, 1) := by decide +kernel
theorem dX0_follow_131 : decode cX0_follow 131 = .ok (.invokevirtual 71, 3) := by decide +kernel
theorem dX0_follow_134 : decode cX0_follow 134 = .ok (.ifCond .eq 8, 3) := by decide +kernel
theorem dX0_follow_137 : decode cX0_follow 137 = .ok (.iload 6, 2) := by decide +kernel
theorem dX0_follow_139 : decode cX0_follow 139 = .ok (.goto 7, 3) := by decide +kernel
theorem dX0_follow_142 : decode cX0_follow 142 = .ok (.iload 4, 2) := by decide +kernel
theorem dX0_follow_144 : decode cX0_follow 144 = .ok (.iconst 1, 1) := by decide +kernel
theorem dX0_follow_145 : decode cX0_follow 145 = .ok (.iadd, 1) := by decide +kernel
theorem dX0_follow_146 : decode cX0_follow 146 = .ok (.iload 5, 2) := by decide +kernel
theorem dX0_follow_148 : decode cX0_follow 148 = .ok (.invokevirtual 19, 3) := by decide +kernel
theorem dX0_follow_151 : decode cX0_follow 151 = .ok (.ireturn, 1) := by decide +kernel
theorem dX0_follow_152 : decode cX0_follow 152 = .ok (.iload_n 2, 1) := by decide +kernel
theorem dX0_follow_153 : decode cX0_follow 153 = .ok (.iconst (-1), 1) := by decide +kernel
theorem dX0_follow_154 : decode cX0_follow 154 = .ok (.if_icmp .eq 12, 3) := by decide +kernel
theorem dX0_follow_157 : decode cX0_follow 157 = .ok (.aload_n 0, 1) := by decide +kernel
theorem dX0_follow_158 : decode cX0_follow 158 = .ok (.iload 4, 2) := by decide +kernel
theorem dX0_follow_160 : decode cX0_follow 160 = .ok (.iload 5, 2) := by decide +kernel
theorem dX0_follow_162 : decode cX0_follow 162 = .ok (.invokevirtual 68, 3) := by decide +kernel
theorem dX0_follow_165 : decode cX0_follow 165 = .ok (.ireturn, 1) := by decide +kernel
theorem dX0_follow_166 : decode cX0_follow 166 = .ok (.aload_n 0, 1) := by decide +kernel
theorem dX0_follow_167 : decode cX0_follow 167 = .ok (.iload 4, 2) := by decide +kernel
theorem dX0_follow_169 : decode cX0_follow 169 = .ok (.iload 5, 2) := by decide +kernel
theorem dX0_follow_171 : decode cX0_follow 171 = .ok (.invokevirtual 74, 3) := by decide +kernel
theorem dX0_follow_174 : decode cX0_follow 174 = .ok (.istore 7, 2) := by decide +kernel
theorem dX0_follow_176 : decode cX0_follow 176 = .ok (.iload_n 3, 1) := by decide +kernel
theorem dX0_follow_177 : decode cX0_follow 177 = .ok (.ifCond .ne 14, 3) := by decide +kernel
theorem dX0_follow_180 : decode cX0_follow 180 = .ok (.aload_n 0, 1) := by decide +kernel
theorem dX0_follow_181 : decode cX0_follow 181 = .ok (.iload 4, 2) := by decide +kernel
theorem dX0_follow_183 : decode cX0_follow 183 = .ok (.iconst 1, 1) := by decide +kernel
theorem dX0_follow_184 : decode cX0_follow 184 = .ok (.iadd, 1) := by decide +kernel
theorem dX0_follow_185 : decode cX0_follow 185 = .ok (.iload 7, 2) := by decide +kernel
theorem dX0_follow_187 : decode cX0_follow 187 = .ok (.invokevirtual 19, 3) := by decide +kernel
theorem dX0_follow_190 : decode cX0_follow 190 = .ok (.ireturn, 1) := by decide +kernel
theorem dX0_follow_191 : decode cX0_follow 191 = .ok (.aload_n 0, 1) := by decide +kernel
theorem dX0_follow_192 : decode cX0_follow 192 = .ok (.iload 4, 2) := by decide +kernel
theorem dX0_follow_194 : decode cX0_follow 194 = .ok (.aload_n 0, 1) := by decide +kernel
theorem dX0_follow_195 : decode cX0_follow 195 = .ok (.getfield 15, 3) := by decide +kernel
theorem dX0_follow_198 : decode cX0_follow 198 = .ok (.getfield 36, 3) := by decide +kernel
theorem dX0_follow_201 : decode cX0_follow 201 = .ok (.iload 4, 2) := by decide +kernel
theorem dX0_follow_203 : decode cX0_follow 203 = .ok (.iaload, 1) := by decide +kernel
theorem dX0_follow_204 : decode cX0_follow 204 = .ok (.iconst 2, 1) := by decide +kernel
theorem dX0_follow_205 : decode cX0_follow 205 = .ok (.if_icmp .ne 8, 3) := by decide +kernel
theorem dX0_follow_208 : decode cX0_follow 208 = .ok (.iload 7, 2) := by decide +kernel
theorem dX0_follow_210 : decode cX0_follow 210 = .ok (.goto 5, 3) := by decide +kernel
theorem dX0_follow_213 : decode cX0_follow 213 = .ok (.iload 5, 2) := by decide +kernel
theorem dX0_follow_215 : decode cX0_follow 215 = .ok (.invokevirtual 68, 3) := by decide +kernel
theorem dX0_follow_218 : decode cX0_follow 218 = .ok (.ireturn, 1) := by decide +kernel
theorem dX0_afterDoing_0 : decode cX0_afterDoing 0 = .ok (.aload_n 0, 1) := by decide +kernel
theorem dX0_afterDoing_1 : decode cX0_afterDoing 1 = .ok (.getfield 15, 3) := by decide +kernel
theorem dX0_afterDoing_4 : decode cX0_afterDoing 4 = .ok (.getfield 30, 3) := by decide +kernel
theorem dX0_afterDoing_7 : decode cX0_afterDoing 7 = .ok (.iload_n 1, 1) := by decide +kernel
theorem dX0_afterDoing_8 : decode cX0_afterDoing 8 = .ok (.iaload, 1) := by decide +kernel
theorem dX0_afterDoing_9 : decode cX0_afterDoing 9 = .ok (.istore_n 3, 1) := by decide +kernel
theorem dX0_afterDoing_10 : decode cX0_afterDoing 10 = .ok (.aload_n 0, 1) := by decide +kernel
theorem dX0_afterDoing_11 : decode cX0_afterDoing 11 = .ok (.getfield 15, 3) := by decide +kernel
theorem dX0_afterDoing_14 : decode cX0_afterDoing 14 = .ok (.getfield 36, 3) := by decide +kernel
theorem dX0_afterDoing_17 : decode cX0_afterDoing 17 = .ok (.iload_n 1, 1) := by decide +kernel
theorem dX0_afterDoing_18 : decode cX0_afterDoing 18 = .ok (.iaload, 1) := by decide +kernel
theorem dX0_afterDoing_19 : decode cX0_afterDoing 19 = .ok (.tableswitch 72 0 3 #[29, 72, 39, 65], 29) := by decide +kernel
theorem dX0_afterDoing_48 : decode cX0_afterDoing 48 = .ok (.aload_n 0, 1) := by decide +kernel
theorem dX0_afterDoing_49 : decode cX0_afterDoing 49 = .ok (.getfield 9, 3) := by decide +kernel
theorem dX0_afterDoing_52 : decode cX0_afterDoing 52 = .ok (.iload_n 2, 1) := by decide +kernel
theorem dX0_afterDoing_53 : decode cX0_afterDoing 53 = .ok (.iload_n 3, 1) := by decide +kernel
theorem dX0_afterDoing_54 : decode cX0_afterDoing 54 = .ok (.invokevirtual 77, 3) := by decide +kernel
theorem dX0_afterDoing_57 : decode cX0_afterDoing 57 = .ok (.ireturn, 1) := by decide +kernel
theorem dX0_afterDoing_58 : decode cX0_afterDoing 58 = .ok (.aload_n 0, 1) := by decide +kernel
theorem dX0_afterDoing_59 : decode cX0_afterDoing 59 = .ok (.getfield 9, 3) := by decide +kernel
theorem dX0_afterDoing_62 : decode cX0_afterDoing 62 = .ok (.iload_n 2, 1) := by decide +kernel
theorem dX0_afterDoing_63 : decode cX0_afterDoing 63 = .ok (.iload_n 3, 1) := by decide +kernel
theorem dX0_afterDoing_64 : decode cX0_afterDoing 64 = .ok (.invokevirtual 71, 3) := by decide +kernel
theorem dX0_afterDoing_67 : decode cX0_afterDoing 67 = .ok (.ifCond .eq 15, 3) := by decide +kernel
theorem dX0_afterDoing_70 : decode cX0_afterDoing 70 = .ok (.aload_n 0, 1) := by decide +kernel
theorem dX0_afterDoing_71 : decode cX0_afterDoing 71 = .ok (.getfield 9, 3) := by decide +kernel
theorem dX0_afterDoing_74 : decode cX0_afterDoing 74 = .ok (.iload_n 2, 1) := by decide +kernel
theorem dX0_afterDoing_75 : decode cX0_afterDoing 75 = .ok (.iload_n 3, 1) := by decide +kernel
theorem dX0_afterDoing_76 : decode cX0_afterDoing 76 = .ok (.invokevirtual 80, 3) := by decide +kernel
theorem dX0_afterDoing_79 : decode cX0_afterDoing 79 = .ok (.goto 4, 3) := by decide +kernel
theorem dX0_afterDoing_82 : decode cX0_afterDoing 82 = .ok (.iload_n 2, 1) := by decide +kernel
theorem dX0_afterDoing_83 : decode cX0_afterDoing 83 = .ok (.ireturn, 1) := by decide +kernel
theorem dX0_afterDoing_84 : decode cX0_afterDoing 84 = .ok (.iload_n 2, 1) := by decide +kernel
theorem dX0_afterDoing_85 : decode cX0_afterDoing 85 = .ok (.iload_n 3, 1) := by decide +kernel
theorem dX0_afterDoing_86 : decode cX0_afterDoing 86 = .ok (.iconst 3, 1) := by decide +kernel
theorem dX0_afterDoing_87 : decode cX0_afterDoing 87 = .ok (.invokestatic 83, 3) := by decide +kernel
theorem dX0_afterDoing_90 : decode cX0_afterDoing 90 = .ok (.ireturn, 1) := by decide +kernel
theorem dX0_afterDoing_91 : decode cX0_afterDoing 91 = .ok (.iload_n 2, 1) := by decide +kernel
theorem dX0_afterDoing_92 : decode cX0_afterDoing 92 = .ok (.ireturn, 1) := by decide +kernel
theorem dX0_throwFrom_0 : decode cX0_throwFrom 0 = .ok (.aload_n 0, 1) := by decide +kernel
theorem dX0_throwFrom_1 : decode cX0_throwFrom 1 = .ok (.getfield 15, 3) := by decide +kernel
theorem dX0_throwFrom_4 : decode cX0_throwFrom 4 = .ok (.getfield 87, 3) := by decide +kernel
theorem dX0_throwFrom_7 : decode cX0_throwFrom 7 = .ok (.iload_n 1, 1) := by decide +kernel
theorem dX0_throwFrom_8 : decode cX0_throwFrom 8 = .ok (.iaload, 1) := by decide +kernel
theorem dX0_throwFrom_9 : decode cX0_throwFrom 9 = .ok (.istore_n 3, 1) := by decide +kernel
theorem dX0_throwFrom_10 : decode cX0_throwFrom 10 = .ok (.iload_n 3, 1) := by decide +kernel
theorem dX0_throwFrom_11 : decode cX0_throwFrom 11 = .ok (.iconst (-1), 1) := by decide +kernel
theorem dX0_throwFrom_12 : decode cX0_throwFrom 12 = .ok (.if_icmp .ne 12, 3) := by decide +kernel
theorem dX0_throwFrom_15 : decode cX0_throwFrom 15 = .ok (.bipush 41, 2) := by decide +kernel
theorem dX0_throwFrom_17 : decode cX0_throwFrom 17 = .ok (.iload_n 2, 1) := by decide +kernel
theorem dX0_throwFrom_18 : decode cX0_throwFrom 18 = .ok (.invokestatic 65, 3) := by decide +kernel
theorem dX0_throwFrom_21 : decode cX0_throwFrom 21 = .ok (.goto 9, 3) := by decide +kernel
theorem dX0_throwFrom_24 : decode cX0_throwFrom 24 = .ok (.aload_n 0, 1) := by decide +kernel
theorem dX0_throwFrom_25 : decode cX0_throwFrom 25 = .ok (.iload_n 3, 1) := by decide +kernel
theorem dX0_throwFrom_26 : decode cX0_throwFrom 26 = .ok (.iload_n 2, 1) := by decide +kernel
theorem dX0_throwFrom_27 : decode cX0_throwFrom 27 = .ok (.invokevirtual 19, 3) := by decide +kernel
theorem dX0_throwFrom_30 : decode cX0_throwFrom 30 = .ok (.ireturn, 1) := by decide +kernel
theorem dX0_arriveAt_0 : decode cX0_arriveAt 0 = .ok (.iload_n 1, 1) := by decide +kernel
theorem dX0_arriveAt_1 : decode cX0_arriveAt 1 = .ok (.aload_n 0, 1) := by decide +kernel
theorem dX0_arriveAt_2 : decode cX0_arriveAt 2 = .ok (.getfield 15, 3) := by decide +kernel
theorem dX0_arriveAt_5 : decode cX0_arriveAt 5 = .ok (.getfield 90, 3) := by decide +kernel
theorem dX0_arriveAt_8 : decode cX0_arriveAt 8 = .ok (.if_icmp .ge 7, 3) := by decide +kernel
theorem dX0_arriveAt_11 : decode cX0_arriveAt 11 = .ok (.iload_n 1, 1) := by decide +kernel
theorem dX0_arriveAt_12 : decode cX0_arriveAt 12 = .ok (.goto 5, 3) := by decide +kernel
theorem dX0_arriveAt_15 : decode cX0_arriveAt 15 = .ok (.bipush 40, 2) := by decide +kernel
theorem dX0_arriveAt_17 : decode cX0_arriveAt 17 = .ok (.iload_n 2, 1) := by decide +kernel
theorem dX0_arriveAt_18 : decode cX0_arriveAt 18 = .ok (.invokestatic 65, 3) := by decide +kernel
theorem dX0_arriveAt_21 : decode cX0_arriveAt 21 = .ok (.ireturn, 1) := by decide +kernel
theorem dX1_init_0 : decode cX1_init 0 = .ok (.aload_n 0, 1) := by decide +kernel
theorem dX1_init_1 : decode cX1_init 1 = .ok (.invokespecial 3, 3) := by decide +kernel
theorem dX1_init_4 : decode cX1_init 4 = .ok (.aload_n 0, 1) := by decide +kernel
theorem dX1_init_5 : decode cX1_init 5 = .ok (.ldc 9, 2) := by decide +kernel
theorem dX1_init_7 : decode cX1_init 7 = .ok (.newarray .int, 2) := by decide +kernel
theorem dX1_init_9 : decode cX1_init 9 = .ok (.putfield 10, 3) := by decide +kernel
theorem dX1_init_12 : decode cX1_init 12 = .ok (.aload_n 0, 1) := by decide +kernel
theorem dX1_init_13 : decode cX1_init 13 = .ok (.ldc 9, 2) := by decide +kernel
theorem dX1_init_15 : decode cX1_init 15 = .ok (.newarray .int, 2) := by decide +kernel
theorem dX1_init_17 : decode cX1_init 17 = .ok (.putfield 16, 3) := by decide +kernel
theorem dX1_init_20 : decode cX1_init 20 = .ok (.aload_n 0, 1) := by decide +kernel
theorem dX1_init_21 : decode cX1_init 21 = .ok (.bipush 42, 2) := by decide +kernel
theorem dX1_init_23 : decode cX1_init 23 = .ok (.newarray .int, 2) := by decide +kernel
theorem dX1_init_25 : decode cX1_init 25 = .ok (.putfield 19, 3) := by decide +kernel
theorem dX1_init_28 : decode cX1_init 28 = .ok (.aload_n 0, 1) := by decide +kernel
theorem dX1_init_29 : decode cX1_init 29 = .ok (.sipush 210, 3) := by decide +kernel
theorem dX1_init_32 : decode cX1_init 32 = .ok (.newarray .int, 2) := by decide +kernel
theorem dX1_init_34 : decode cX1_init 34 = .ok (.putfield 22, 3) := by decide +kernel
theorem dX1_init_37 : decode cX1_init 37 = .ok (.aload_n 0, 1) := by decide +kernel
theorem dX1_init_38 : decode cX1_init 38 = .ok (.bipush 25, 2) := by decide +kernel
theorem dX1_init_40 : decode cX1_init 40 = .ok (.newarray .int, 2) := by decide +kernel
theorem dX1_init_42 : decode cX1_init 42 = .ok (.putfield 25, 3) := by decide +kernel
theorem dX1_init_45 : decode cX1_init 45 = .ok (.aload_n 0, 1) := by decide +kernel
theorem dX1_init_46 : decode cX1_init 46 = .ok (.bipush 25, 2) := by decide +kernel
theorem dX1_init_48 : decode cX1_init 48 = .ok (.newarray .int, 2) := by decide +kernel
theorem dX1_init_50 : decode cX1_init 50 = .ok (.putfield 28, 3) := by decide +kernel
theorem dX1_init_53 : decode cX1_init 53 = .ok (.aload_n 0, 1) := by decide +kernel
theorem dX1_init_54 : decode cX1_init 54 = .ok (.iconst 0, 1) := by decide +kernel
theorem dX1_init_55 : decode cX1_init 55 = .ok (.putfield 31, 3) := by decide +kernel
theorem dX1_init_58 : decode cX1_init 58 = .ok (.aload_n 0, 1) := by decide +kernel
theorem dX1_init_59 : decode cX1_init 59 = .ok (.iconst 0, 1) := by decide +kernel
theorem dX1_init_60 : decode cX1_init 60 = .ok (.putfield 35, 3) := by decide +kernel
theorem dX1_init_63 : decode cX1_init 63 = .ok (.aload_n 0, 1) := by decide +kernel
theorem dX1_init_64 : decode cX1_init 64 = .ok (.iconst 0, 1) := by decide +kernel
theorem dX1_init_65 : decode cX1_init 65 = .ok (.putfield 38, 3) := by decide +kernel
theorem dX1_init_68 : decode cX1_init 68 = .ok (.aload_n 0, 1) := by decide +kernel
theorem dX1_init_69 : decode cX1_init 69 = .ok (.iconst 0, 1) := by decide +kernel
theorem dX1_init_70 : decode cX1_init 70 = .ok (.putfield 41, 3) := by decide +kernel
theorem dX1_init_73 : decode cX1_init 73 = .ok (.aload_n 0, 1) := by decide +kernel
theorem dX1_init_74 : decode cX1_init 74 = .ok (.iconst 0, 1) := by decide +kernel
theorem dX1_init_75 : decode cX1_init 75 = .ok (.putfield 44, 3) := by decide +kernel
theorem dX1_init_78 : decode cX1_init 78 = .ok (.aload_n 0, 1) := by decide +kernel
theorem dX1_init_79 : decode cX1_init 79 = .ok (.aload_n 1, 1) := by decide +kernel
theorem dX1_init_80 : decode cX1_init 80 = .ok (.putfield 47, 3) := by decide +kernel
theorem dX1_init_83 : decode cX1_init 83 = .ok (.aload_n 0, 1) := by decide +kernel
theorem dX1_init_84 : decode cX1_init 84 = .ok (.aload_n 2, 1) := by decide +kernel
theorem dX1_init_85 : decode cX1_init 85 = .ok (.putfield 51, 3) := by decide +kernel
theorem dX1_init_88 : decode cX1_init 88 = .ok (.aload_n 0, 1) := by decide +kernel
theorem dX1_init_89 : decode cX1_init 89 = .ok (.aload_n 3, 1) := by decide +kernel
theorem dX1_init_90 : decode cX1_init 90 = .ok (.putfield 55, 3) := by decide +kernel
theorem dX1_init_93 : decode cX1_init 93 = .ok (.return_, 1) := by decide +kernel
theorem dX1_explore_0 : decode cX1_explore 0 = .ok (.aload_n 0, 1) := by decide +kernel
theorem dX1_explore_1 : decode cX1_explore 1 = .ok (.invokevirtual 59, 3) := by decide +kernel
theorem dX1_explore_4 : decode cX1_explore 4 = .ok (.aload_n 0, 1) := by decide +kernel
theorem dX1_explore_5 : decode cX1_explore 5 = .ok (.getfield 55, 3) := by decide +kernel
theorem dX1_explore_8 : decode cX1_explore 8 = .ok (.invokevirtual 62, 3) := by decide +kernel
theorem dX1_explore_11 : decode cX1_explore 11 = .ok (.istore_n 1, 1) := by decide +kernel
theorem dX1_explore_12 : decode cX1_explore 12 = .ok (.aload_n 0, 1) := by decide +kernel
theorem dX1_explore_13 : decode cX1_explore 13 = .ok (.iload_n 1, 1) := by decide +kernel
theorem dX1_explore_14 : decode cX1_explore 14 = .ok (.iload_n 1, 1) := by decide +kernel
theorem dX1_explore_15 : decode cX1_explore 15 = .ok (.invokevirtual 68, 3) := by decide +kernel
theorem dX1_explore_18 : decode cX1_explore 18 = .ok (.iconst 0, 1) := by decide +kernel
theorem dX1_explore_19 : decode cX1_explore 19 = .ok (.istore_n 2, 1) := by decide +kernel
theorem dX1_explore_20 : decode cX1_explore 20 = .ok (.aload_n 0, 1) := by decide +kernel
theorem dX1_explore_21 : decode cX1_explore 21 = .ok (.getfield 31, 3) := by decide +kernel
theorem dX1_explore_24 : decode cX1_explore 24 = .ok (.istore_n 3, 1) := by decide +kernel
theorem dX1_explore_25 : decode cX1_explore 25 = .ok (.iconst 0, 1) := by decide +kernel
theorem dX1_explore_26 : decode cX1_explore 26 = .ok (.istore 4, 2) := by decide +kernel
theorem dX1_explore_28 : decode cX1_explore 28 = .ok (.iload 4, 2) := by decide +kernel
theorem dX1_explore_30 : decode cX1_explore 30 = .ok (.aload_n 0, 1) := by decide +kernel
theorem dX1_explore_31 : decode cX1_explore 31 = .ok (.getfield 31, 3) := by decide +kernel
theorem dX1_explore_34 : decode cX1_explore 34 = .ok (.if_icmp .ge 74, 3) := by decide +kernel
theorem dX1_explore_37 : decode cX1_explore 37 = .ok (.iload 4, 2) := by decide +kernel
theorem dX1_explore_39 : decode cX1_explore 39 = .ok (.ldc 9, 2) := by decide +kernel
theorem dX1_explore_41 : decode cX1_explore 41 = .ok (.if_icmp .ge 67, 3) := by decide +kernel
theorem dX1_explore_44 : decode cX1_explore 44 = .ok (.iload 4, 2) := by decide +kernel
theorem dX1_explore_46 : decode cX1_explore 46 = .ok (.iload_n 3, 1) := by decide +kernel
theorem dX1_explore_47 : decode cX1_explore 47 = .ok (.if_icmp .ne 11, 3) := by decide +kernel
theorem dX1_explore_50 : decode cX1_explore 50 = .ok (.iinc 2 1, 3) := by decide +kernel
theorem dX1_explore_53 : decode cX1_explore 53 = .ok (.aload_n 0, 1) := by decide +kernel
theorem dX1_explore_54 : decode cX1_explore 54 = .ok (.getfield 31, 3) := by decide +kernel
theorem dX1_explore_57 : decode cX1_explore 57 = .ok (.istore_n 3, 1) := by decide +kernel
theorem dX1_explore_58 : decode cX1_explore 58 = .ok (.aload_n 0, 1) := by decide +kernel
theorem dX1_explore_59 : decode cX1_explore 59 = .ok (.getfield 10, 3) := by decide +kernel
theorem dX1_explore_62 : decode cX1_explore 62 = .ok (.iload 4, 2) := by decide +kernel
theorem dX1_explore_64 : decode cX1_explore 64 = .ok (.iaload, 1) := by decide +kernel
theorem dX1_explore_65 : decode cX1_explore 65 = .ok (.istore 5, 2) := by decide +kernel
theorem dX1_explore_67 : decode cX1_explore 67 = .ok (.aload_n 0, 1) := by decide +kernel
theorem dX1_explore_68 : decode cX1_explore 68 = .ok (.iload 5, 2) := by decide +kernel
theorem dX1_explore_70 : decode cX1_explore 70 = .ok (.invokevirtual 72, 3) := by decide +kernel
theorem dX1_explore_73 : decode cX1_explore 73 = .ok (.aload_n 0, 1) := by decide +kernel
theorem dX1_explore_74 : decode cX1_explore 74 = .ok (.getfield 55, 3) := by decide +kernel
theorem dX1_explore_77 : decode cX1_explore 77 = .ok (.iload 5, 2) := by decide +kernel
theorem dX1_explore_79 : decode cX1_explore 79 = .ok (.invokevirtual 76, 3) := by decide +kernel
theorem dX1_explore_82 : decode cX1_explore 82 = .ok (.ifCond .eq 13, 3) := by decide +kernel
theorem dX1_explore_85 : decode cX1_explore 85 = .ok (.aload_n 0, 1) := by decide +kernel
theorem dX1_explore_86 : decode cX1_explore 86 = .ok (.iload 5, 2) := by decide +kernel
theorem dX1_explore_88 : decode cX1_explore 88 = .ok (.iload_n 2, 1) := by decide +kernel
theorem dX1_explore_89 : decode cX1_explore 89 = .ok (.invokevirtual 80, 3) := by decide +kernel
theorem dX1_explore_92 : decode cX1_explore 92 = .ok (.goto 10, 3) := by decide +kernel
theorem dX1_explore_95 : decode cX1_explore 95 = .ok (.aload_n 0, 1) := by decide +kernel
theorem dX1_explore_96 : decode cX1_explore 96 = .ok (.iload 5, 2) := by decide +kernel
theorem dX1_explore_98 : decode cX1_explore 98 = .ok (.iload_n 2, 1) := by decide +kernel
theorem dX1_explore_99 : decode cX1_explore 99 = .ok (.invokevirtual 83, 3) := by decide +kernel
theorem dX1_explore_102 : decode cX1_explore 102 = .ok (.iinc 4 1, 3) := by decide +kernel
theorem dX1_explore_105 : decode cX1_explore 105 = .ok (.goto (-77), 3) := by decide +kernel
theorem dX1_explore_108 : decode cX1_explore 108 = .ok (.return_, 1) := by decide +kernel
theorem dX1_forget_0 : decode cX1_forget 0 = .ok (.iconst 0, 1) := by decide +kernel
theorem dX1_forget_1 : decode cX1_forget 1 = .ok (.istore_n 1, 1) := by decide +kernel
theorem dX1_forget_2 : decode cX1_forget 2 = .ok (.iload_n 1, 1) := by decide +kernel
theorem dX1_forget_3 : decode cX1_forget 3 = .ok (.aload_n 0, 1) := by decide +kernel
theorem dX1_forget_4 : decode cX1_forget 4 = .ok (.getfield 31, 3) := by decide +kernel
theorem dX1_forget_7 : decode cX1_forget 7 = .ok (.if_icmp .ge 21, 3) := by decide +kernel
theorem dX1_forget_10 : decode cX1_forget 10 = .ok (.aload_n 0, 1) := by decide +kernel
theorem dX1_forget_11 : decode cX1_forget 11 = .ok (.getfield 16, 3) := by decide +kernel
theorem dX1_forget_14 : decode cX1_forget 14 = .ok (.aload_n 0, 1) := by decide +kernel
theorem dX1_forget_15 : decode cX1_forget 15 = .ok (.getfield 10, 3) := by decide +kernel
theorem dX1_forget_18 : decode cX1_forget 18 = .ok (.iload_n 1, 1) := by decide +kernel
theorem dX1_forget_19 : decode cX1_forget 19 = .ok (.iaload, 1) := by decide +kernel
theorem dX1_forget_20 : decode cX1_forget 20 = .ok (.iconst 0, 1) := by decide +kernel
theorem dX1_forget_21 : decode cX1_forget 21 = .ok (.iastore, 1) := by decide +kernel
theorem dX1_forget_22 : decode cX1_forget 22 = .ok (.iinc 1 1, 3) := by decide +kernel
theorem dX1_forget_25 : decode cX1_forget 25 = .ok (.goto (-23), 3) := by decide +kernel
theorem dX1_forget_28 : decode cX1_forget 28 = .ok (.aload_n 0, 1) := by decide +kernel
theorem dX1_forget_29 : decode cX1_forget 29 = .ok (.iconst 0, 1) := by decide +kernel
theorem dX1_forget_30 : decode cX1_forget 30 = .ok (.putfield 31, 3) := by decide +kernel
theorem dX1_forget_33 : decode cX1_forget 33 = .ok (.aload_n 0, 1) := by decide +kernel
theorem dX1_forget_34 : decode cX1_forget 34 = .ok (.iconst 0, 1) := by decide +kernel
theorem dX1_forget_35 : decode cX1_forget 35 = .ok (.putfield 35, 3) := by decide +kernel
theorem dX1_forget_38 : decode cX1_forget 38 = .ok (.aload_n 0, 1) := by decide +kernel
theorem dX1_forget_39 : decode cX1_forget 39 = .ok (.iconst 0, 1) := by decide +kernel
theorem dX1_forget_40 : decode cX1_forget 40 = .ok (.putfield 38, 3) := by decide +kernel
theorem dX1_forget_43 : decode cX1_forget 43 = .ok (.aload_n 0, 1) := by decide +kernel
theorem dX1_forget_44 : decode cX1_forget 44 = .ok (.iconst 0, 1) := by decide +kernel
theorem dX1_forget_45 : decode cX1_forget 45 = .ok (.putfield 41, 3) := by decide +kernel
theorem dX1_forget_48 : decode cX1_forget 48 = .ok (.aload_n 0, 1) := by decide +kernel
theorem dX1_forget_49 : decode cX1_forget 49 = .ok (.iconst 0, 1) := by decide +kernel
theorem dX1_forget_50 : decode cX1_forget 50 = .ok (.putfield 44, 3) := by decide +kernel
theorem dX1_forget_53 : decode cX1_forget 53 = .ok (.aload_n 0, 1) := by decide +kernel
theorem dX1_forget_54 : decode cX1_forget 54 = .ok (.getfield 19, 3) := by decide +kernel
theorem dX1_forget_57 : decode cX1_forget 57 = .ok (.iconst 0, 1) := by decide +kernel
theorem dX1_forget_58 : decode cX1_forget 58 = .ok (.invokestatic 86, 3) := by decide +kernel
theorem dX1_forget_61 : decode cX1_forget 61 = .ok (.aload_n 0, 1) := by decide +kernel
theorem dX1_forget_62 : decode cX1_forget 62 = .ok (.getfield 22, 3) := by decide +kernel
theorem dX1_forget_65 : decode cX1_forget 65 = .ok (.iconst 0, 1) := by decide +kernel
theorem dX1_forget_66 : decode cX1_forget 66 = .ok (.invokestatic 86, 3) := by decide +kernel
theorem dX1_forget_69 : decode cX1_forget 69 = .ok (.aload_n 0, 1) := by decide +kernel
theorem dX1_forget_70 : decode cX1_forget 70 = .ok (.getfield 25, 3) := by decide +kernel
theorem dX1_forget_73 : decode cX1_forget 73 = .ok (.iconst (-1), 1) := by decide +kernel
theorem dX1_forget_74 : decode cX1_forget 74 = .ok (.invokestatic 86, 3) := by decide +kernel
theorem dX1_forget_77 : decode cX1_forget 77 = .ok (.return_, 1) := by decide +kernel
theorem dX1_reach_0 : decode cX1_reach 0 = .ok (.aload_n 0, 1) := by decide +kernel
theorem dX1_reach_1 : decode cX1_reach 1 = .ok (.getfield 16, 3) := by decide +kernel
theorem dX1_reach_4 : decode cX1_reach 4 = .ok (.iload_n 1, 1) := by decide +kernel
theorem dX1_reach_5 : decode cX1_reach 5 = .ok (.iaload, 1) := by decide +kernel
theorem dX1_reach_6 : decode cX1_reach 6 = .ok (.ifCond .ne 41, 3) := by decide +kernel
theorem dX1_reach_9 : decode cX1_reach 9 = .ok (.aload_n 0, 1) := by decide +kernel
theorem dX1_reach_10 : decode cX1_reach 10 = .ok (.getfield 31, 3) := by decide +kernel
theorem dX1_reach_13 : decode cX1_reach 13 = .ok (.ldc 9, 2) := by decide +kernel
theorem dX1_reach_15 : decode cX1_reach 15 = .ok (.if_icmp .ge 32, 3) := by decide +kernel
theorem dX1_reach_18 : decode cX1_reach 18 = .ok (.aload_n 0, 1) := by decide +kernel
theorem dX1_reach_19 : decode cX1_reach 19 = .ok (.getfield 16, 3) := by decide +kernel
theorem dX1_reach_22 : decode cX1_reach 22 = .ok (.iload_n 1, 1) := by decide +kernel
theorem dX1_reach_23 : decode cX1_reach 23 = .ok (.iload_n 2, 1) := by decide +kernel
theorem dX1_reach_24 : decode cX1_reach 24 = .ok (.iconst 1, 1) := by decide +kernel
theorem dX1_reach_25 : decode cX1_reach 25 = .ok (.iadd, 1) := by decide +kernel
theorem dX1_reach_26 : decode cX1_reach 26 = .ok (.iastore, 1) := by decide +kernel
theorem dX1_reach_27 : decode cX1_reach 27 = .ok (.aload_n 0, 1) := by decide +kernel
theorem dX1_reach_28 : decode cX1_reach 28 = .ok (.getfield 10, 3) := by decide +kernel
theorem dX1_reach_31 : decode cX1_reach 31 = .ok (.aload_n 0, 1) := by decide +kernel
theorem dX1_reach_32 : decode cX1_reach 32 = .ok (.getfield 31, 3) := by decide +kernel
theorem dX1_reach_35 : decode cX1_reach 35 = .ok (.iload_n 1, 1) := by decide +kernel
theorem dX1_reach_36 : decode cX1_reach 36 = .ok (.iastore, 1) := by decide +kernel
theorem dX1_reach_37 : decode cX1_reach 37 = .ok (.aload_n 0, 1) := by decide +kernel
theorem dX1_reach_38 : decode cX1_reach 38 = .ok (.dup, 1) := by decide +kernel
theorem dX1_reach_39 : decode cX1_reach 39 = .ok (.getfield 31, 3) := by decide +kernel
theorem dX1_reach_42 : decode cX1_reach 42 = .ok (.iconst 1, 1) := by decide +kernel
theorem dX1_reach_43 : decode cX1_reach 43 = .ok (.iadd, 1) := by decide +kernel
theorem dX1_reach_44 : decode cX1_reach 44 = .ok (.putfield 31, 3) := by decide +kernel
theorem dX1_reach_47 : decode cX1_reach 47 = .ok (.return_, 1) := by decide +kernel
theorem dX1_goOnFrom_0 : decode cX1_goOnFrom 0 = .ok (.aload_n 0, 1) := by decide +kernel
theorem dX1_goOnFrom_1 : decode cX1_goOnFrom 1 = .ok (.getfield 55, 3) := by decide +kernel
theorem dX1_goOnFrom_4 : decode cX1_goOnFrom 4 = .ok (.iload_n 1, 1) := by decide +kernel
theorem dX1_goOnFrom_5 : decode cX1_goOnFrom 5 = .ok (.invokevirtual 92, 3) := by decide +kernel
theorem dX1_goOnFrom_8 : decode cX1_goOnFrom 8 = .ok (.istore_n 3, 1) := by decide +kernel
theorem dX1_goOnFrom_9 : decode cX1_goOnFrom 9 = .ok (.iload_n 3, 1) := by decide +kernel
theorem dX1_goOnFrom_10 : decode cX1_goOnFrom 10 = .ok (.iconst (-1), 1) := by decide +kernel
theorem dX1_goOnFrom_11 : decode cX1_goOnFrom 11 = .ok (.if_icmp .eq 24, 3) := by decide +kernel
theorem dX1_goOnFrom_14 : decode cX1_goOnFrom 14 = .ok (.aload_n 0, 1) := by decide +kernel
theorem dX1_goOnFrom_15 : decode cX1_goOnFrom 15 = .ok (.iload_n 3, 1) := by decide +kernel
theorem dX1_goOnFrom_16 : decode cX1_goOnFrom 16 = .ok (.aload_n 0, 1) := by decide +kernel
theorem dX1_goOnFrom_17 : decode cX1_goOnFrom 17 = .ok (.getfield 51, 3) := by decide +kernel
theorem dX1_goOnFrom_20 : decode cX1_goOnFrom 20 = .ok (.getfield 96, 3) := by decide +kernel
theorem dX1_goOnFrom_23 : decode cX1_goOnFrom 23 = .ok (.iload_n 1, 1) := by decide +kernel
theorem dX1_goOnFrom_24 : decode cX1_goOnFrom 24 = .ok (.invokestatic 101, 3) := by decide +kernel
theorem dX1_goOnFrom_27 : decode cX1_goOnFrom 27 = .ok (.iaload, 1) := by decide +kernel
theorem dX1_goOnFrom_28 : decode cX1_goOnFrom 28 = .ok (.iload_n 1, 1) := by decide +kernel
theorem dX1_goOnFrom_29 : decode cX1_goOnFrom 29 = .ok (.iload_n 2, 1) := by decide +kernel
theorem dX1_goOnFrom_30 : decode cX1_goOnFrom 30 = .ok (.iconst 1, 1) := by decide +kernel
theorem dX1_goOnFrom_31 : decode cX1_goOnFrom 31 = .ok (.iadd, 1) := by decide +kernel
theorem dX1_goOnFrom_32 : decode cX1_goOnFrom 32 = .ok (.invokevirtual 104, 3) := by decide +kernel
theorem dX1_goOnFrom_35 : decode cX1_goOnFrom 35 = .ok (.aload_n 0, 1) := by decide +kernel
theorem dX1_goOnFrom_36 : decode cX1_goOnFrom 36 = .ok (.aload_n 0, 1) := by decide +kernel
theorem dX1_goOnFrom_37 : decode cX1_goOnFrom 37 = .ok (.getfield 55, 3) := by decide +kernel
theorem dX1_goOnFrom_40 : decode cX1_goOnFrom 40 = .ok (.iload_n 1, 1) := by decide +kernel
theorem dX1_goOnFrom_41 : decode cX1_goOnFrom 41 = .ok (.iload_n 3, 1) := by decide +kernel
theorem dX1_goOnFrom_42 : decode cX1_goOnFrom 42 = .ok (.iconst 0, 1) := by decide +kernel
theorem dX1_goOnFrom_43 : decode cX1_goOnFrom 43 = .ok (.invokevirtual 108, 3) := by decide +kernel
theorem dX1_goOnFrom_46 : decode cX1_goOnFrom 46 = .ok (.iload_n 1, 1) := by decide +kernel
theorem dX1_goOnFrom_47 : decode cX1_goOnFrom 47 = .ok (.invokevirtual 68, 3) := by decide +kernel
theorem dX1_goOnFrom_50 : decode cX1_goOnFrom 50 = .ok (.aload_n 0, 1) := by decide +kernel
theorem dX1_goOnFrom_51 : decode cX1_goOnFrom 51 = .ok (.getfield 55, 3) := by decide +kernel
theorem dX1_goOnFrom_54 : decode cX1_goOnFrom 54 = .ok (.iload_n 1, 1) := by decide +kernel
theorem dX1_goOnFrom_55 : decode cX1_goOnFrom 55 = .ok (.iload_n 3, 1) := by decide +kernel
theorem dX1_goOnFrom_56 : decode cX1_goOnFrom 56 = .ok (.invokevirtual 112, 3) := by decide +kernel
theorem dX1_goOnFrom_59 : decode cX1_goOnFrom 59 = .ok (.ifCond .eq 18, 3) := by decide +kernel
theorem dX1_goOnFrom_62 : decode cX1_goOnFrom 62 = .ok (.aload_n 0, 1) := by decide +kernel
theorem dX1_goOnFrom_63 : decode cX1_goOnFrom 63 = .ok (.aload_n 0, 1) := by decide +kernel
theorem dX1_goOnFrom_64 : decode cX1_goOnFrom 64 = .ok (.getfield 55, 3) := by decide +kernel
theorem dX1_goOnFrom_67 : decode cX1_goOnFrom 67 = .ok (.iload_n 1, 1) := by decide +kernel
theorem dX1_goOnFrom_68 : decode cX1_goOnFrom 68 = .ok (.iload_n 3, 1) := by decide +kernel
theorem dX1_goOnFrom_69 : decode cX1_goOnFrom 69 = .ok (.iconst 1, 1) := by decide +kernel
theorem dX1_goOnFrom_70 : decode cX1_goOnFrom 70 = .ok (.invokevirtual 108, 3) := by decide +kernel
theorem dX1_goOnFrom_73 : decode cX1_goOnFrom 73 = .ok (.iload_n 1, 1) := by decide +kernel
theorem dX1_goOnFrom_74 : decode cX1_goOnFrom 74 = .ok (.invokevirtual 68, 3) := by decide +kernel
theorem dX1_goOnFrom_77 : decode cX1_goOnFrom 77 = .ok (.return_, 1) := by decide +kernel
theorem dX1_survey_0 : decode cX1_survey 0 = .ok (.iload_n 1, 1) := by decide +kernel
theorem dX1_survey_1 : decode cX1_survey 1 = .ok (.invokestatic 101, 3) := by decide +kernel
theorem dX1_survey_4 : decode cX1_survey 4 = .ok (.istore_n 2, 1) := by decide +kernel
theorem dX1_survey_5 : decode cX1_survey 5 = .ok (.iload_n 1, 1) := by decide +kernel
theorem dX1_survey_6 : decode cX1_survey 6 = .ok (.invokestatic 116, 3) := by decide +kernel
theorem dX1_survey_9 : decode cX1_survey 9 = .ok (.istore_n 3, 1) := by decide +kernel
theorem dX1_survey_10 : decode cX1_survey 10 = .ok (.iconst 0, 1) := by decide +kernel
theorem dX1_survey_11 : decode cX1_survey 11 = .ok (.istore 4, 2) := by decide +kernel
theorem dX1_survey_13 : decode cX1_survey 13 = .ok (.iconst 0, 1) := by decide +kernel
theorem dX1_survey_14 : decode cX1_survey 14 = .ok (.istore 5, 2) := by decide +kernel
theorem dX1_survey_16 : decode cX1_survey 16 = .ok (.iconst 0, 1) := by decide +kernel
theorem dX1_survey_17 : decode cX1_survey 17 = .ok (.istore 6, 2) := by decide +kernel
theorem dX1_survey_19 : decode cX1_survey 19 = .ok (.aload_n 0, 1) := by decide +kernel
theorem dX1_survey_20 : decode cX1_survey 20 = .ok (.getfield 19, 3) := by decide +kernel
theorem dX1_survey_23 : decode cX1_survey 23 = .ok (.iload_n 2, 1) := by decide +kernel
theorem dX1_survey_24 : decode cX1_survey 24 = .ok (.dup2, 1) := by decide +kernel
theorem dX1_survey_25 : decode cX1_survey 25 = .ok (.iaload, 1) := by decide +kernel
theorem dX1_survey_26 : decode cX1_survey 26 = .ok (.iconst 1, 1) := by decide +kernel
theorem dX1_survey_27 : decode cX1_survey 27 = .ok (.iadd, 1) := by decide +kernel
theorem dX1_survey_28 : decode cX1_survey 28 = .ok (.iastore, 1) := by decide +kernel
theorem dX1_survey_29 : decode cX1_survey 29 = .ok (.iconst 0, 1) := by decide +kernel
theorem dX1_survey_30 : decode cX1_survey 30 = .ok (.istore 7, 2) := by decide +kernel
theorem dX1_survey_32 : decode cX1_survey 32 = .ok (.iload 7, 2) := by decide +kernel
theorem dX1_survey_34 : decode cX1_survey 34 = .ok (.aload_n 0, 1) := by decide +kernel
theorem dX1_survey_35 : decode cX1_survey 35 = .ok (.getfield 47, 3) := by decide +kernel
theorem dX1_survey_38 : decode cX1_survey 38 = .ok (.getfield 119, 3) := by decide +kernel
theorem dX1_survey_41 : decode cX1_survey 41 = .ok (.if_icmp .ge 96, 3) := by decide +kernel
theorem dX1_survey_44 : decode cX1_survey 44 = .ok (.iload_n 3, 1) := by decide +kernel
theorem dX1_survey_45 : decode cX1_survey 45 = .ok (.iload 7, 2) := by decide +kernel
theorem dX1_survey_47 : decode cX1_survey 47 = .ok (.invokestatic 124, 3) := by decide +kernel
theorem dX1_survey_50 : decode cX1_survey 50 = .ok (.istore 8, 2) := by decide +kernel
theorem dX1_survey_52 : decode cX1_survey 52 = .ok (.aload_n 0, 1) := by decide +kernel
theorem dX1_survey_53 : decode cX1_survey 53 = .ok (.getfield 22, 3) := by decide +kernel
theorem dX1_survey_56 : decode cX1_survey 56 = .ok (.iload_n 2, 1) := by decide +kernel
theorem dX1_survey_57 : decode cX1_survey 57 = .ok (.iconst 5, 1) := by decide +kernel
theorem dX1_survey_58 : decode cX1_survey 58 = .ok (.imul, 1) := by decide +kernel
theorem dX1_survey_59 : decode cX1_survey 59 = .ok (.iload 7, 2) := by decide +kernel
theorem dX1_survey_61 : decode cX1_survey 61 = .ok (.iadd, 1) := by decide +kernel
theorem dX1_survey_62 : decode cX1_survey 62 = .ok (.dup2, 1) := by decide +kernel
theorem dX1_survey_63 : decode cX1_survey 63 = .ok (.iaload, 1) := by decide +kernel
theorem dX1_survey_64 : decode cX1_survey 64 = .ok (.iconst 1, 1) := by decide +kernel
theorem dX1_survey_65 : decode cX1_survey 65 = .ok (.iload 8, 2) := by decide +kernel
theorem dX1_survey_67 : decode cX1_survey 67 = .ok (.ishl, 1) := by decide +kernel
theorem dX1_survey_68 : decode cX1_survey 68 = .ok (.ior, 1) := by decide +kernel
theorem dX1_survey_69 : decode cX1_survey 69 = .ok (.iastore, 1) := by decide +kernel
theorem dX1_survey_70 : decode cX1_survey 70 = .ok (.aload_n 0, 1) := by decide +kernel
theorem dX1_survey_71 : decode cX1_survey 71 = .ok (.getfield 47, 3) := by decide +kernel
theorem dX1_survey_74 : decode cX1_survey 74 = .ok (.iload_n 3, 1) := by decide +kernel
theorem dX1_survey_75 : decode cX1_survey 75 = .ok (.iload 7, 2) := by decide +kernel
theorem dX1_survey_77 : decode cX1_survey 77 = .ok (.invokevirtual 128, 3) := by decide +kernel
theorem dX1_survey_80 : decode cX1_survey 80 = .ok (.ifCond .eq 28, 3) := by decide +kernel
theorem dX1_survey_83 : decode cX1_survey 83 = .ok (.iinc 6 1, 3) := by decide +kernel
theorem dX1_survey_86 : decode cX1_survey 86 = .ok (.iload 4, 2) := by decide +kernel
theorem dX1_survey_88 : decode cX1_survey 88 = .ok (.aload_n 0, 1) := by decide +kernel
theorem dX1_survey_89 : decode cX1_survey 89 = .ok (.getfield 47, 3) := by decide +kernel
theorem dX1_survey_92 : decode cX1_survey 92 = .ok (.iload 7, 2) := by decide +kernel
theorem dX1_survey_94 : decode cX1_survey 94 = .ok (.invokevirtual 131, 3) := by decide +kernel
theorem dX1_survey_97 : decode cX1_survey 97 = .ok (.ifCond .eq 7, 3) := by decide +kernel
theorem dX1_survey_100 : decode cX1_survey 100 = .ok (.iconst 1, 1) := by decide +kernel
theorem dX1_survey_101 : decode cX1_survey 101 = .ok (.goto 4, 3) := by decide +kernel
theorem dX1_survey_104 : decode cX1_survey 104 = .ok (.iconst 0, 1) := by decide +kernel
theorem dX1_survey_105 : decode cX1_survey 105 = .ok (.iadd, 1) := by decide +kernel
theorem dX1_survey_106 : decode cX1_survey 106 = .ok (.istore 4, 2) := by decide +kernel
theorem dX1_survey_108 : decode cX1_survey 108 = .ok (.iload 5, 2) := by decide +kernel
theorem dX1_survey_110 : decode cX1_survey 110 = .ok (.aload_n 0, 1) := by decide +kernel
theorem dX1_survey_111 : decode cX1_survey 111 = .ok (.getfield 47, 3) := by decide +kernel
theorem dX1_survey_114 : decode cX1_survey 114 = .ok (.iload 7, 2) := by decide +kernel
theorem dX1_survey_116 : decode cX1_survey 116 = .ok (.invokevirtual 131, 3) := by decide +kernel
theorem dX1_survey_119 : decode cX1_survey 119 = .ok (.ifCond .eq 7, 3) := by decide +kernel
theorem dX1_survey_122 : decode cX1_survey 122 = .ok (.iconst 0, 1) := by decide +kernel
theorem dX1_survey_123 : decode cX1_survey 123 = .ok (.goto 5, 3) := by decide +kernel
theorem dX1_survey_126 : decode cX1_survey 126 = .ok (.iload 8, 2) := by decide +kernel
theorem dX1_survey_128 : decode cX1_survey 128 = .ok (.iadd, 1) := by decide +kernel
theorem dX1_survey_129 : decode cX1_survey 129 = .ok (.istore 5, 2) := by decide +kernel
theorem dX1_survey_131 : decode cX1_survey 131 = .ok (.iinc 7 1, 3) := by decide +kernel
theorem dX1_survey_134 : decode cX1_survey 134 = .ok (.goto (-102), 3) := by decide +kernel
theorem dX1_survey_137 : decode cX1_survey 137 = .ok (.aload_n 0, 1) := by decide +kernel
theorem dX1_survey_138 : decode cX1_survey 138 = .ok (.aload_n 0, 1) := by decide +kernel
theorem dX1_survey_139 : decode cX1_survey 139 = .ok (.getfield 38, 3) := by decide +kernel
theorem dX1_survey_142 : decode cX1_survey 142 = .ok (.iload 4, 2) := by decide +kernel
theorem dX1_survey_144 : decode cX1_survey 144 = .ok (.invokestatic 134, 3) := by decide +kernel
theorem dX1_survey_147 : decode cX1_survey 147 = .ok (.putfield 38, 3) := by decide +kernel
theorem dX1_survey_150 : decode cX1_survey 150 = .ok (.aload_n 0, 1) := by decide +kernel
theorem dX1_survey_151 : decode cX1_survey 151 = .ok (.aload_n 0, 1) := by decide +kernel
theorem dX1_survey_152 : decode cX1_survey 152 = .ok (.getfield 41, 3) := by decide +kernel
theorem dX1_survey_155 : decode cX1_survey 155 = .ok (.iload 5, 2) := by decide +kernel
theorem dX1_survey_157 : decode cX1_survey 157 = .ok (.invokestatic 134, 3) := by decide +kernel
theorem dX1_survey_160 : decode cX1_survey 160 = .ok (.putfield 41, 3) := by decide +kernel
theorem dX1_survey_163 : decode cX1_survey 163 = .ok (.aload_n 0, 1) := by decide +kernel
theorem dX1_survey_164 : decode cX1_survey 164 = .ok (.aload_n 0, 1) := by decide +kernel
theorem dX1_survey_165 : decode cX1_survey 165 = .ok (.getfield 44, 3) := by decide +kernel
theorem dX1_survey_168 : decode cX1_survey 168 = .ok (.iload 6, 2) := by decide +kernel
theorem dX1_survey_170 : decode cX1_survey 170 = .ok (.invokestatic 134, 3) := by decide +kernel
theorem dX1_survey_173 : decode cX1_survey 173 = .ok (.putfield 44, 3) := by decide +kernel
theorem dX1_survey_176 : decode cX1_survey 176 = .ok (.return_, 1) := by decide +kernel
theorem dX1_noteLeft_0 : decode cX1_noteLeft 0 = .ok (.iload_n 1, 1) := by decide +kernel
theorem dX1_noteLeft_1 : decode cX1_noteLeft 1 = .ok (.invokestatic 101, 3) := by decide +kernel
theorem dX1_noteLeft_4 : decode cX1_noteLeft 4 = .ok (.bipush 40, 2) := by decide +kernel
theorem dX1_noteLeft_6 : decode cX1_noteLeft 6 = .ok (.if_icmp .ne 7, 3) := by decide +kernel
theorem dX1_noteLeft_9 : decode cX1_noteLeft 9 = .ok (.iconst 0, 1) := by decide +kernel
theorem dX1_noteLeft_10 : decode cX1_noteLeft 10 = .ok (.goto 4, 3) := by decide +kernel
theorem dX1_noteLeft_13 : decode cX1_noteLeft 13 = .ok (.iconst 1, 1) := by decide +kernel
theorem dX1_noteLeft_14 : decode cX1_noteLeft 14 = .ok (.istore_n 3, 1) := by decide +kernel
theorem dX1_noteLeft_15 : decode cX1_noteLeft 15 = .ok (.iconst 0, 1) := by decide +kernel
theorem dX1_noteLeft_16 : decode cX1_noteLeft 16 = .ok (.istore 4, 2) := by decide +kernel
theorem dX1_noteLeft_18 : decode cX1_noteLeft 18 = .ok (.iload 4, 2) := by decide +kernel
theorem dX1_noteLeft_20 : decode cX1_noteLeft 20 = .ok (.aload_n 0, 1) := by decide +kernel
theorem dX1_noteLeft_21 : decode cX1_noteLeft 21 = .ok (.getfield 47, 3) := by decide +kernel
theorem dX1_noteLeft_24 : decode cX1_noteLeft 24 = .ok (.getfield 119, 3) := by decide +kernel
theorem dX1_noteLeft_27 : decode cX1_noteLeft 27 = .ok (.if_icmp .ge 34, 3) := by decide +kernel
theorem dX1_noteLeft_30 : decode cX1_noteLeft 30 = .ok (.aload_n 0, 1) := by decide +kernel
theorem dX1_noteLeft_31 : decode cX1_noteLeft 31 = .ok (.getfield 47, 3) := by decide +kernel
theorem dX1_noteLeft_34 : decode cX1_noteLeft 34 = .ok (.iload_n 1, 1) := by decide +kernel
theorem dX1_noteLeft_35 : decode cX1_noteLeft 35 = .ok (.invokestatic 116, 3) := by decide +kernel
theorem dX1_noteLeft_38 : decode cX1_noteLeft 38 = .ok (.iload 4, 2) := by decide +kernel
theorem dX1_noteLeft_40 : decode cX1_noteLeft 40 = .ok (.invokevirtual 128, 3) := by decide +kernel
theorem dX1_noteLeft_43 : decode cX1_noteLeft 43 = .ok (.ifCond .eq 12, 3) := by decide +kernel
theorem dX1_noteLeft_46 : decode cX1_noteLeft 46 = .ok (.aload_n 0, 1) := by decide +kernel
theorem dX1_noteLeft_47 : decode cX1_noteLeft 47 = .ok (.iload_n 3, 1) := by decide +kernel
theorem dX1_noteLeft_48 : decode cX1_noteLeft 48 = .ok (.iload 4, 2) := by decide +kernel
theorem dX1_noteLeft_50 : decode cX1_noteLeft 50 = .ok (.iload_n 1, 1) := by decide +kernel
theorem dX1_noteLeft_51 : decode cX1_noteLeft 51 = .ok (.iload_n 2, 1) := by decide +kernel
theorem dX1_noteLeft_52 : decode cX1_noteLeft 52 = .ok (.invokevirtual 104, 3) := by decide +kernel
theorem dX1_noteLeft_55 : decode cX1_noteLeft 55 = .ok (.iinc 4 1, 3) := by decide +kernel
theorem dX1_noteLeft_58 : decode cX1_noteLeft 58 = .ok (.goto (-40), 3) := by decide +kernel
theorem dX1_noteLeft_61 : decode cX1_noteLeft 61 = .ok (.return_, 1) := by decide +kernel
theorem dX1_note_0 : decode cX1_note 0 = .ok (.iload_n 1, 1) := by decide +kernel
theorem dX1_note_1 : decode cX1_note 1 = .ok (.iconst 5, 1) := by decide +kernel
theorem dX1_note_2 : decode cX1_note 2 = .ok (.imul, 1) := by decide +kernel
theorem dX1_note_3 : decode cX1_note 3 = .ok (.iload_n 2, 1) := by decide +kernel
theorem dX1_note_4 : decode cX1_note 4 = .ok (.iadd, 1) := by decide +kernel
theorem dX1_note_5 : decode cX1_note 5 = .ok (.istore 5, 2) := by decide +kernel
theorem dX1_note_7 : decode cX1_note 7 = .ok (.aload_n 0, 1) := by decide +kernel
theorem dX1_note_8 : decode cX1_note 8 = .ok (.getfield 25, 3) := by decide +kernel
theorem dX1_note_11 : decode cX1_note 11 = .ok (.iload 5, 2) := by decide +kernel
theorem dX1_note_13 : decode cX1_note 13 = .ok (.iaload, 1) := by decide +kernel
theorem dX1_note_14 : decode cX1_note 14 = .ok (.iconst (-1), 1) := by decide +kernel
theorem dX1_note_15 : decode cX1_note 15 = .ok (.if_icmp .ne 30, 3) := by decide +kernel
theorem dX1_note_18 : decode cX1_note 18 = .ok (.aload_n 0, 1) := by decide +kernel
theorem dX1_note_19 : decode cX1_note 19 = .ok (.getfield 25, 3) := by decide +kernel
theorem dX1_note_22 : decode cX1_note 22 = .ok (.iload 5, 2) := by decide +kernel
theorem dX1_note_24 : decode cX1_note 24 = .ok (.iload 4, 2) := by decide +kernel
theorem dX1_note_26 : decode cX1_note 26 = .ok (.iastore, 1) := by decide +kernel
theorem dX1_note_27 : decode cX1_note 27 = .ok (.aload_n 0, 1) := by decide +kernel
theorem dX1_note_28 : decode cX1_note 28 = .ok (.getfield 28, 3) := by decide +kernel
theorem dX1_note_31 : decode cX1_note 31 = .ok (.iload 5, 2) := by decide +kernel
theorem dX1_note_33 : decode cX1_note 33 = .ok (.iload_n 3, 1) := by decide +kernel
theorem dX1_note_34 : decode cX1_note 34 = .ok (.iastore, 1) := by decide +kernel
theorem dX1_note_35 : decode cX1_note 35 = .ok (.aload_n 0, 1) := by decide +kernel
theorem dX1_note_36 : decode cX1_note 36 = .ok (.dup, 1) := by decide +kernel
theorem dX1_note_37 : decode cX1_note 37 = .ok (.getfield 35, 3) := by decide +kernel
theorem dX1_note_40 : decode cX1_note 40 = .ok (.iconst 1, 1) := by decide +kernel
theorem dX1_note_41 : decode cX1_note 41 = .ok (.iadd, 1) := by decide +kernel
theorem dX1_note_42 : decode cX1_note 42 = .ok (.putfield 35, 3) := by decide +kernel
theorem dX1_note_45 : decode cX1_note 45 = .ok (.return_, 1) := by decide +kernel
theorem dX1_lengthOf_0 : decode cX1_lengthOf 0 = .ok (.aload_n 0, 1) := by decide +kernel
theorem dX1_lengthOf_1 : decode cX1_lengthOf 1 = .ok (.getfield 25, 3) := by decide +kernel
theorem dX1_lengthOf_4 : decode cX1_lengthOf 4 = .ok (.iload_n 1, 1) := by decide +kernel
theorem dX1_lengthOf_5 : decode cX1_lengthOf 5 = .ok (.iconst 5, 1) := by decide +kernel
theorem dX1_lengthOf_6 : decode cX1_lengthOf 6 = .ok (.imul, 1) := by decide +kernel
theorem dX1_lengthOf_7 : decode cX1_lengthOf 7 = .ok (.iload_n 2, 1) := by decide +kernel
theorem dX1_lengthOf_8 : decode cX1_lengthOf 8 = .ok (.iadd, 1) := by decide +kernel
theorem dX1_lengthOf_9 : decode cX1_lengthOf 9 = .ok (.iaload, 1) := by decide +kernel
theorem dX1_lengthOf_10 : decode cX1_lengthOf 10 = .ok (.ireturn, 1) := by decide +kernel
theorem dX1_stepOnWay_0 : decode cX1_stepOnWay 0 = .ok (.aload_n 0, 1) := by decide +kernel
theorem dX1_stepOnWay_1 : decode cX1_stepOnWay 1 = .ok (.iload_n 1, 1) := by decide +kernel
theorem dX1_stepOnWay_2 : decode cX1_stepOnWay 2 = .ok (.iload_n 2, 1) := by decide +kernel
theorem dX1_stepOnWay_3 : decode cX1_stepOnWay 3 = .ok (.invokevirtual 139, 3) := by decide +kernel
theorem dX1_stepOnWay_6 : decode cX1_stepOnWay 6 = .ok (.istore 4, 2) := by decide +kernel
theorem dX1_stepOnWay_8 : decode cX1_stepOnWay 8 = .ok (.iload_n 3, 1) := by decide +kernel
theorem dX1_stepOnWay_9 : decode cX1_stepOnWay 9 = .ok (.iload 4, 2) := by decide +kernel
theorem dX1_stepOnWay_11 : decode cX1_stepOnWay 11 = .ok (.invokestatic 142, 3) := by decide +kernel
theorem dX1_stepOnWay_14 : decode cX1_stepOnWay 14 = .ok (.ifCond .ne 5, 3) := by decide +kernel
theorem dX1_stepOnWay_17 : decode cX1_stepOnWay 17 = .ok (.iconst (-1), 1) := by decide +kernel
theorem dX1_stepOnWay_18 : decode cX1_stepOnWay 18 = .ok (.ireturn, 1) := by decide +kernel
theorem dX1_stepOnWay_19 : decode cX1_stepOnWay 19 = .ok (.aload_n 0, 1) := by decide +kernel
theorem dX1_stepOnWay_20 : decode cX1_stepOnWay 20 = .ok (.getfield 28, 3) := by decide +kernel
theorem dX1_stepOnWay_23 : decode cX1_stepOnWay 23 = .ok (.iload_n 1, 1) := by decide +kernel
theorem dX1_stepOnWay_24 : decode cX1_stepOnWay 24 = .ok (.iconst 5, 1) := by decide +kernel
theorem dX1_stepOnWay_25 : decode cX1_stepOnWay 25 = .ok (.imul, 1) := by decide +kernel
theorem dX1_stepOnWay_26 : decode cX1_stepOnWay 26 = .ok (.iload_n 2, 1) := by decide +kernel
theorem dX1_stepOnWay_27 : decode cX1_stepOnWay 27 = .ok (.iadd, 1) := by decide +kernel
theorem dX1_stepOnWay_28 : decode cX1_stepOnWay 28 = .ok (.iaload, 1) := by decide +kernel
theorem dX1_stepOnWay_29 : decode cX1_stepOnWay 29 = .ok (.istore 5, 2) := by decide +kernel
theorem dX1_stepOnWay_31 : decode cX1_stepOnWay 31 = .ok (.aload_n 0, 1) := by decide +kernel
theorem dX1_stepOnWay_32 : decode cX1_stepOnWay 32 = .ok (.getfield 55, 3) := by decide +kernel
theorem dX1_stepOnWay_35 : decode cX1_stepOnWay 35 = .ok (.iload 5, 2) := by decide +kernel
theorem dX1_stepOnWay_37 : decode cX1_stepOnWay 37 = .ok (.invokevirtual 76, 3) := by decide +kernel
theorem dX1_stepOnWay_40 : decode cX1_stepOnWay 40 = .ok (.ifCond .eq 8, 3) := by decide +kernel
theorem dX1_stepOnWay_43 : decode cX1_stepOnWay 43 = .ok (.iload 4, 2) := by decide +kernel
theorem dX1_stepOnWay_45 : decode cX1_stepOnWay 45 = .ok (.goto 7, 3) := by decide +kernel
theorem dX1_stepOnWay_48 : decode cX1_stepOnWay 48 = .ok (.iload 4, 2) := by decide +kernel
theorem dX1_stepOnWay_50 : decode cX1_stepOnWay 50 = .ok (.iconst 1, 1) := by decide +kernel
theorem dX1_stepOnWay_51 : decode cX1_stepOnWay 51 = .ok (.isub, 1) := by decide +kernel
theorem dX1_stepOnWay_52 : decode cX1_stepOnWay 52 = .ok (.istore 6, 2) := by decide +kernel
theorem dX1_stepOnWay_54 : decode cX1_stepOnWay 54 = .ok (.iload 6, 2) := by decide +kernel
theorem dX1_stepOnWay_56 : decode cX1_stepOnWay 56 = .ok (.istore 7, 2) := by decide +kernel
theorem dX1_stepOnWay_58 : decode cX1_stepOnWay 58 = .ok (.iload 7, 2) := by decide +kernel
theorem dX1_stepOnWay_60 : decode cX1_stepOnWay 60 = .ok (.iload_n 3, 1) := by decide +kernel
theorem dX1_stepOnWay_61 : decode cX1_stepOnWay 61 = .ok (.if_icmp .le 20, 3) := by decide +kernel
theorem dX1_stepOnWay_64 : decode cX1_stepOnWay 64 = .ok (.aload_n 0, 1) := by decide +kernel
theorem dX1_stepOnWay_65 : decode cX1_stepOnWay 65 = .ok (.getfield 16, 3) := by decide +kernel
theorem dX1_stepOnWay_68 : decode cX1_stepOnWay 68 = .ok (.iload 5, 2) := by decide +kernel
theorem dX1_stepOnWay_70 : decode cX1_stepOnWay 70 = .ok (.iaload, 1) := by decide +kernel
theorem dX1_stepOnWay_71 : decode cX1_stepOnWay 71 = .ok (.iconst 1, 1) := by decide +kernel
theorem dX1_stepOnWay_72 : decode cX1_stepOnWay 72 = .ok (.isub, 1) := by decide +kernel
theorem dX1_stepOnWay_73 : decode cX1_stepOnWay 73 = .ok (.istore 5, 2) := by decide +kernel
theorem dX1_stepOnWay_75 : decode cX1_stepOnWay 75 = .ok (.iinc 7 (-1), 3) := by decide +kernel
theorem dX1_stepOnWay_78 : decode cX1_stepOnWay 78 = .ok (.goto (-20), 3) := by decide +kernel
theorem dX1_stepOnWay_81 : decode cX1_stepOnWay 81 = .ok (.iload 5, 2) := by decide +kernel
theorem dX1_stepOnWay_83 : decode cX1_stepOnWay 83 = .ok (.invokestatic 101, 3) := by decide +kernel
theorem dX1_stepOnWay_86 : decode cX1_stepOnWay 86 = .ok (.ireturn, 1) := by decide +kernel
theorem dX2_init_0 : decode cX2_init 0 = .ok (.aload_n 0, 1) := by decide +kernel
theorem dX2_init_1 : decode cX2_init 1 = .ok (.invokespecial 3, 3) := by decide +kernel
theorem dX2_init_4 : decode cX2_init 4 = .ok (.aload_n 0, 1) := by decide +kernel
theorem dX2_init_5 : decode cX2_init 5 = .ok (.bipush 40, 2) := by decide +kernel
theorem dX2_init_7 : decode cX2_init 7 = .ok (.newarray .int, 2) := by decide +kernel
theorem dX2_init_9 : decode cX2_init 9 = .ok (.putfield 9, 3) := by decide +kernel
theorem dX2_init_12 : decode cX2_init 12 = .ok (.aload_n 0, 1) := by decide +kernel
theorem dX2_init_13 : decode cX2_init 13 = .ok (.bipush 40, 2) := by decide +kernel
theorem dX2_init_15 : decode cX2_init 15 = .ok (.newarray .int, 2) := by decide +kernel
theorem dX2_init_17 : decode cX2_init 17 = .ok (.putfield 15, 3) := by decide +kernel
theorem dX2_init_20 : decode cX2_init 20 = .ok (.aload_n 0, 1) := by decide +kernel
theorem dX2_init_21 : decode cX2_init 21 = .ok (.bipush 40, 2) := by decide +kernel
theorem dX2_init_23 : decode cX2_init 23 = .ok (.newarray .int, 2) := by decide +kernel
theorem dX2_init_25 : decode cX2_init 25 = .ok (.putfield 18, 3) := by decide +kernel
theorem dX2_init_28 : decode cX2_init 28 = .ok (.aload_n 0, 1) := by decide +kernel
theorem dX2_init_29 : decode cX2_init 29 = .ok (.bipush 40, 2) := by decide +kernel
theorem dX2_init_31 : decode cX2_init 31 = .ok (.newarray .boolean, 2) := by decide +kernel
theorem dX2_init_33 : decode cX2_init 33 = .ok (.putfield 21, 3) := by decide +kernel
theorem dX2_init_36 : decode cX2_init 36 = .ok (.aload_n 0, 1) := by decide +kernel
theorem dX2_init_37 : decode cX2_init 37 = .ok (.bipush 40, 2) := by decide +kernel
theorem dX2_init_39 : decode cX2_init 39 = .ok (.newarray .int, 2) := by decide +kernel
theorem dX2_init_41 : decode cX2_init 41 = .ok (.putfield 25, 3) := by decide +kernel
theorem dX2_init_44 : decode cX2_init 44 = .ok (.aload_n 0, 1) := by decide +kernel
theorem dX2_init_45 : decode cX2_init 45 = .ok (.iconst 0, 1) := by decide +kernel
theorem dX2_init_46 : decode cX2_init 46 = .ok (.putfield 28, 3) := by decide +kernel
theorem dX2_init_49 : decode cX2_init 49 = .ok (.return_, 1) := by decide +kernel
theorem dX2_has_0 : decode cX2_has 0 = .ok (.iload_n 1, 1) := by decide +kernel
theorem dX2_has_1 : decode cX2_has 1 = .ok (.aload_n 0, 1) := by decide +kernel
theorem dX2_has_2 : decode cX2_has 2 = .ok (.getfield 28, 3) := by decide +kernel
theorem dX2_has_5 : decode cX2_has 5 = .ok (.invokestatic 32, 3) := by decide +kernel
theorem dX2_has_8 : decode cX2_has 8 = .ok (.ireturn, 1) := by decide +kernel
theorem dX2_write_0 : decode cX2_write 0 = .ok (.aload_n 0, 1) := by decide +kernel
theorem dX2_write_1 : decode cX2_write 1 = .ok (.getfield 9, 3) := by decide +kernel
theorem dX2_write_4 : decode cX2_write 4 = .ok (.iload_n 1, 1) := by decide +kernel
theorem dX2_write_5 : decode cX2_write 5 = .ok (.iload_n 2, 1) := by decide +kernel
theorem dX2_write_6 : decode cX2_write 6 = .ok (.iastore, 1) := by decide +kernel
theorem dX2_write_7 : decode cX2_write 7 = .ok (.aload_n 0, 1) := by decide +kernel
theorem dX2_write_8 : decode cX2_write 8 = .ok (.getfield 15, 3) := by decide +kernel
theorem dX2_write_11 : decode cX2_write 11 = .ok (.iload_n 1, 1) := by decide +kernel
theorem dX2_write_12 : decode cX2_write 12 = .ok (.iload_n 3, 1) := by decide +kernel
theorem dX2_write_13 : decode cX2_write 13 = .ok (.iastore, 1) := by decide +kernel
theorem dX2_write_14 : decode cX2_write 14 = .ok (.aload_n 0, 1) := by decide +kernel
theorem dX2_write_15 : decode cX2_write 15 = .ok (.getfield 18, 3) := by decide +kernel
theorem dX2_write_18 : decode cX2_write 18 = .ok (.iload_n 1, 1) := by decide +kernel
theorem dX2_write_19 : decode cX2_write 19 = .ok (.iload 4, 2) := by decide +kernel
theorem dX2_write_21 : decode cX2_write 21 = .ok (.iastore, 1) := by decide +kernel
theorem dX2_write_22 : decode cX2_write 22 = .ok (.aload_n 0, 1) := by decide +kernel
theorem dX2_write_23 : decode cX2_write 23 = .ok (.getfield 21, 3) := by decide +kernel
theorem dX2_write_26 : decode cX2_write 26 = .ok (.iload_n 1, 1) := by decide +kernel
theorem dX2_write_27 : decode cX2_write 27 = .ok (.iload 5, 2) := by decide +kernel
theorem dX2_write_29 : decode cX2_write 29 = .ok (.bastore, 1) := by decide +kernel
theorem dX2_write_30 : decode cX2_write 30 = .ok (.aload_n 0, 1) := by decide +kernel
theorem dX2_write_31 : decode cX2_write 31 = .ok (.getfield 25, 3) := by decide +kernel
theorem dX2_write_34 : decode cX2_write 34 = .ok (.iload_n 1, 1) := by decide +kernel
theorem dX2_write_35 : decode cX2_write 35 = .ok (.iload 6, 2) := by decide +kernel
theorem dX2_write_37 : decode cX2_write 37 = .ok (.iastore, 1) := by decide +kernel
theorem dX2_write_38 : decode cX2_write 38 = .ok (.return_, 1) := by decide +kernel
theorem dX3_init_0 : decode cX3_init 0 = .ok (.aload_n 0, 1) := by decide +kernel
theorem dX3_init_1 : decode cX3_init 1 = .ok (.invokespecial 3, 3) := by decide +kernel
theorem dX3_init_4 : decode cX3_init 4 = .ok (.aload_n 0, 1) := by decide +kernel
theorem dX3_init_5 : decode cX3_init 5 = .ok (.iconst 5, 1) := by decide +kernel
theorem dX3_init_6 : decode cX3_init 6 = .ok (.newarray .int, 2) := by decide +kernel
theorem dX3_init_8 : decode cX3_init 8 = .ok (.putfield 9, 3) := by decide +kernel
theorem dX3_init_11 : decode cX3_init 11 = .ok (.aload_n 0, 1) := by decide +kernel
theorem dX3_init_12 : decode cX3_init 12 = .ok (.iconst 5, 1) := by decide +kernel
theorem dX3_init_13 : decode cX3_init 13 = .ok (.newarray .boolean, 2) := by decide +kernel
theorem dX3_init_15 : decode cX3_init 15 = .ok (.putfield 15, 3) := by decide +kernel
theorem dX3_init_18 : decode cX3_init 18 = .ok (.aload_n 0, 1) := by decide +kernel
theorem dX3_init_19 : decode cX3_init 19 = .ok (.iconst 5, 1) := by decide +kernel
theorem dX3_init_20 : decode cX3_init 20 = .ok (.newarray .int, 2) := by decide +kernel
theorem dX3_init_22 : decode cX3_init 22 = .ok (.putfield 19, 3) := by decide +kernel
theorem dX3_init_25 : decode cX3_init 25 = .ok (.aload_n 0, 1) := by decide +kernel
theorem dX3_init_26 : decode cX3_init 26 = .ok (.iconst 0, 1) := by decide +kernel
theorem dX3_init_27 : decode cX3_init 27 = .ok (.putfield 22, 3) := by decide +kernel
theorem dX3_init_30 : decode cX3_init 30 = .ok (.return_, 1) := by decide +kernel
theorem dX3_has_0 : decode cX3_has 0 = .ok (.iload_n 1, 1) := by decide +kernel
theorem dX3_has_1 : decode cX3_has 1 = .ok (.aload_n 0, 1) := by decide +kernel
theorem dX3_has_2 : decode cX3_has 2 = .ok (.getfield 22, 3) := by decide +kernel
theorem dX3_has_5 : decode cX3_has 5 = .ok (.invokestatic 26, 3) := by decide +kernel
theorem dX3_has_8 : decode cX3_has 8 = .ok (.ireturn, 1) := by decide +kernel
theorem dX3_isFile_0 : decode cX3_isFile 0 = .ok (.aload_n 0, 1) := by decide +kernel
theorem dX3_isFile_1 : decode cX3_isFile 1 = .ok (.getfield 9, 3) := by decide +kernel
theorem dX3_isFile_4 : decode cX3_isFile 4 = .ok (.iload_n 1, 1) := by decide +kernel
theorem dX3_isFile_5 : decode cX3_isFile 5 = .ok (.iaload, 1) := by decide +kernel
theorem dX3_isFile_6 : decode cX3_isFile 6 = .ok (.ifCond .ne 7, 3) := by decide +kernel
theorem dX3_isFile_9 : decode cX3_isFile 9 = .ok (.iconst 1, 1) := by decide +kernel
theorem dX3_isFile_10 : decode cX3_isFile 10 = .ok (.goto 4, 3) := by decide +kernel
theorem dX3_isFile_13 : decode cX3_isFile 13 = .ok (.iconst 0, 1) := by decide +kernel
theorem dX3_isFile_14 : decode cX3_isFile 14 = .ok (.ireturn, 1) := by decide +kernel
theorem dX3_add_0 : decode cX3_add 0 = .ok (.aload_n 0, 1) := by decide +kernel
theorem dX3_add_1 : decode cX3_add 1 = .ok (.getfield 22, 3) := by decide +kernel
theorem dX3_add_4 : decode cX3_add 4 = .ok (.istore 4, 2) := by decide +kernel
theorem dX3_add_6 : decode cX3_add 6 = .ok (.aload_n 0, 1) := by decide +kernel
theorem dX3_add_7 : decode cX3_add 7 = .ok (.getfield 9, 3) := by decide +kernel
theorem dX3_add_10 : decode cX3_add 10 = .ok (.iload 4, 2) := by decide +kernel
theorem dX3_add_12 : decode cX3_add 12 = .ok (.iload_n 1, 1) := by decide +kernel
theorem dX3_add_13 : decode cX3_add 13 = .ok (.iastore, 1) := by decide +kernel
theorem dX3_add_14 : decode cX3_add 14 = .ok (.aload_n 0, 1) := by decide +kernel
theorem dX3_add_15 : decode cX3_add 15 = .ok (.getfield 15, 3) := by decide +kernel
theorem dX3_add_18 : decode cX3_add 18 = .ok (.iload 4, 2) := by decide +kernel
theorem dX3_add_20 : decode cX3_add 20 = .ok (.iload_n 2, 1) := by decide +kernel
theorem dX3_add_21 : decode cX3_add 21 = .ok (.bastore, 1) := by decide +kernel
theorem dX3_add_22 : decode cX3_add 22 = .ok (.aload_n 0, 1) := by decide +kernel
theorem dX3_add_23 : decode cX3_add 23 = .ok (.getfield 19, 3) := by decide +kernel
theorem dX3_add_26 : decode cX3_add 26 = .ok (.iload 4, 2) := by decide +kernel
theorem dX3_add_28 : decode cX3_add 28 = .ok (.iload_n 3, 1) := by decide +kernel
theorem dX3_add_29 : decode cX3_add 29 = .ok (.iastore, 1) := by decide +kernel
theorem dX3_add_30 : decode cX3_add 30 = .ok (.aload_n 0, 1) := by decide +kernel
theorem dX3_add_31 : decode cX3_add 31 = .ok (.dup, 1) := by decide +kernel
theorem dX3_add_32 : decode cX3_add 32 = .ok (.getfield 22, 3) := by decide +kernel
theorem dX3_add_35 : decode cX3_add 35 = .ok (.iconst 1, 1) := by decide +kernel
theorem dX3_add_36 : decode cX3_add 36 = .ok (.iadd, 1) := by decide +kernel
theorem dX3_add_37 : decode cX3_add 37 = .ok (.putfield 22, 3) := by decide +kernel
theorem dX3_add_40 : decode cX3_add 40 = .ok (.iload 4, 2) := by decide +kernel
theorem dX3_add_42 : decode cX3_add 42 = .ok (.ireturn, 1) := by decide +kernel
theorem dX3_isHeld_0 : decode cX3_isHeld 0 = .ok (.iload_n 1, 1) := by decide +kernel
theorem dX3_isHeld_1 : decode cX3_isHeld 1 = .ok (.iload_n 2, 1) := by decide +kernel
theorem dX3_isHeld_2 : decode cX3_isHeld 2 = .ok (.invokestatic 30, 3) := by decide +kernel
theorem dX3_isHeld_5 : decode cX3_isHeld 5 = .ok (.istore_n 3, 1) := by decide +kernel
theorem dX3_isHeld_6 : decode cX3_isHeld 6 = .ok (.aload_n 0, 1) := by decide +kernel
theorem dX3_isHeld_7 : decode cX3_isHeld 7 = .ok (.iload_n 2, 1) := by decide +kernel
theorem dX3_isHeld_8 : decode cX3_isHeld 8 = .ok (.invokevirtual 34, 3) := by decide +kernel
theorem dX3_isHeld_11 : decode cX3_isHeld 11 = .ok (.ifCond .eq 16, 3) := by decide +kernel
theorem dX3_isHeld_14 : decode cX3_isHeld 14 = .ok (.iload_n 3, 1) := by decide +kernel
theorem dX3_isHeld_15 : decode cX3_isHeld 15 = .ok (.iconst 1, 1) := by decide +kernel
theorem dX3_isHeld_16 : decode cX3_isHeld 16 = .ok (.if_icmp .ne 7, 3) := by decide +kernel
theorem dX3_isHeld_19 : decode cX3_isHeld 19 = .ok (.iconst 1, 1) := by decide +kernel
theorem dX3_isHeld_20 : decode cX3_isHeld 20 = .ok (.goto 16, 3) := by decide +kernel
theorem dX3_isHeld_23 : decode cX3_isHeld 23 = .ok (.iconst 0, 1) := by decide +kernel
theorem dX3_isHeld_24 : decode cX3_isHeld 24 = .ok (.goto 12, 3) := by decide +kernel
theorem dX3_isHeld_27 : decode cX3_isHeld 27 = .ok (.iload_n 3, 1) := by decide +kernel
theorem dX3_isHeld_28 : decode cX3_isHeld 28 = .ok (.ifCond .le 7, 3) := by decide +kernel
theorem dX3_isHeld_31 : decode cX3_isHeld 31 = .ok (.iconst 1, 1) := by decide +kernel
theorem dX3_isHeld_32 : decode cX3_isHeld 32 = .ok (.goto 4, 3) := by decide +kernel
theorem dX3_isHeld_35 : decode cX3_isHeld 35 = .ok (.iconst 0, 1) := by decide +kernel
theorem dX3_isHeld_36 : decode cX3_isHeld 36 = .ok (.ireturn, 1) := by decide +kernel
theorem dX3_isFileThatIs_0 : decode cX3_isFileThatIs 0 = .ok (.aload_n 0, 1) := by decide +kernel
theorem dX3_isFileThatIs_1 : decode cX3_isFileThatIs 1 = .ok (.iload_n 2, 1) := by decide +kernel
theorem dX3_isFileThatIs_2 : decode cX3_isFileThatIs 2 = .ok (.invokevirtual 34, 3) := by decide +kernel
theorem dX3_isFileThatIs_5 : decode cX3_isFileThatIs 5 = .ok (.ifCond .eq 16, 3) := by decide +kernel
theorem dX3_isFileThatIs_8 : decode cX3_isFileThatIs 8 = .ok (.iload_n 1, 1) := by decide +kernel
theorem dX3_isFileThatIs_9 : decode cX3_isFileThatIs 9 = .ok (.iload_n 2, 1) := by decide +kernel
theorem dX3_isFileThatIs_10 : decode cX3_isFileThatIs 10 = .ok (.invokestatic 30, 3) := by decide +kernel
theorem dX3_isFileThatIs_13 : decode cX3_isFileThatIs 13 = .ok (.iload_n 3, 1) := by decide +kernel
theorem dX3_isFileThatIs_14 : decode cX3_isFileThatIs 14 = .ok (.if_icmp .ne 7, 3) := by decide +kernel
theorem dX3_isFileThatIs_17 : decode cX3_isFileThatIs 17 = .ok (.iconst 1, 1) := by decide +kernel
theorem dX3_isFileThatIs_18 : decode cX3_isFileThatIs 18 = .ok (.goto 4, 3) := by decide +kernel
theorem dX3_isFileThatIs_21 : decode cX3_isFileThatIs 21 = .ok (.iconst 0, 1) := by decide +kernel
theorem dX3_isFileThatIs_22 : decode cX3_isFileThatIs 22 = .ok (.ireturn, 1) := by decide +kernel
theorem dX3_canOpen_0 : decode cX3_canOpen 0 = .ok (.iload_n 1, 1) := by decide +kernel
theorem dX3_canOpen_1 : decode cX3_canOpen 1 = .ok (.iload_n 2, 1) := by decide +kernel
theorem dX3_canOpen_2 : decode cX3_canOpen 2 = .ok (.invokestatic 30, 3) := by decide +kernel
theorem dX3_canOpen_5 : decode cX3_canOpen 5 = .ok (.istore_n 3, 1) := by decide +kernel
theorem dX3_canOpen_6 : decode cX3_canOpen 6 = .ok (.aload_n 0, 1) := by decide +kernel
theorem dX3_canOpen_7 : decode cX3_canOpen 7 = .ok (.iload_n 2, 1) := by decide +kernel
theorem dX3_canOpen_8 : decode cX3_canOpen 8 = .ok (.invokevirtual 34, 3) := by decide +kernel
theorem dX3_canOpen_11 : decode cX3_canOpen 11 = .ok (.ifCond .eq 16, 3) := by decide +kernel
theorem dX3_canOpen_14 : decode cX3_canOpen 14 = .ok (.iload_n 3, 1) := by decide +kernel
theorem dX3_canOpen_15 : decode cX3_canOpen 15 = .ok (.iconst 1, 1) := by decide +kernel
theorem dX3_canOpen_16 : decode cX3_canOpen 16 = .ok (.if_icmp .eq 7, 3) := by decide +kernel
theorem dX3_canOpen_19 : decode cX3_canOpen 19 = .ok (.iconst 1, 1) := by decide +kernel
theorem dX3_canOpen_20 : decode cX3_canOpen 20 = .ok (.goto 17, 3) := by decide +kernel
theorem dX3_canOpen_23 : decode cX3_canOpen 23 = .ok (.iconst 0, 1) := by decide +kernel
theorem dX3_canOpen_24 : decode cX3_canOpen 24 = .ok (.goto 13, 3) := by decide +kernel
theorem dX3_canOpen_27 : decode cX3_canOpen 27 = .ok (.iload_n 3, 1) := by decide +kernel
theorem dX3_canOpen_28 : decode cX3_canOpen 28 = .ok (.iconst 3, 1) := by decide +kernel
theorem dX3_canOpen_29 : decode cX3_canOpen 29 = .ok (.if_icmp .ge 7, 3) := by decide +kernel
theorem dX3_canOpen_32 : decode cX3_canOpen 32 = .ok (.iconst 1, 1) := by decide +kernel
theorem dX3_canOpen_33 : decode cX3_canOpen 33 = .ok (.goto 4, 3) := by decide +kernel
theorem dX3_canOpen_36 : decode cX3_canOpen 36 = .ok (.iconst 0, 1) := by decide +kernel
theorem dX3_canOpen_37 : decode cX3_canOpen 37 = .ok (.ireturn, 1) := by decide +kernel
theorem dX3_canUse_0 : decode cX3_canUse 0 = .ok (.aload_n 0, 1) := by decide +kernel
theorem dX3_canUse_1 : decode cX3_canUse 1 = .ok (.iload_n 1, 1) := by decide +kernel
theorem dX3_canUse_2 : decode cX3_canUse 2 = .ok (.iload_n 2, 1) := by decide +kernel
theorem dX3_canUse_3 : decode cX3_canUse 3 = .ok (.invokevirtual 38, 3) := by decide +kernel
theorem dX3_canUse_6 : decode cX3_canUse 6 = .ok (.ifCond .ne 13, 3) := by decide +kernel
theorem dX3_canUse_9 : decode cX3_canUse 9 = .ok (.aload_n 0, 1) := by decide +kernel
theorem dX3_canUse_10 : decode cX3_canUse 10 = .ok (.iload_n 1, 1) := by decide +kernel
theorem dX3_canUse_11 : decode cX3_canUse 11 = .ok (.iload_n 2, 1) := by decide +kernel
theorem dX3_canUse_12 : decode cX3_canUse 12 = .ok (.iconst 3, 1) := by decide +kernel
theorem dX3_canUse_13 : decode cX3_canUse 13 = .ok (.invokevirtual 41, 3) := by decide +kernel
theorem dX3_canUse_16 : decode cX3_canUse 16 = .ok (.ifCond .eq 7, 3) := by decide +kernel
theorem dX3_canUse_19 : decode cX3_canUse 19 = .ok (.iconst 1, 1) := by decide +kernel
theorem dX3_canUse_20 : decode cX3_canUse 20 = .ok (.goto 4, 3) := by decide +kernel
theorem dX3_canUse_23 : decode cX3_canUse 23 = .ok (.iconst 0, 1) := by decide +kernel
theorem dX3_canUse_24 : decode cX3_canUse 24 = .ok (.ireturn, 1) := by decide +kernel
theorem dX3_canClose_0 : decode cX3_canClose 0 = .ok (.aload_n 0, 1) := by decide +kernel
theorem dX3_canClose_1 : decode cX3_canClose 1 = .ok (.iload_n 1, 1) := by decide +kernel
theorem dX3_canClose_2 : decode cX3_canClose 2 = .ok (.iload_n 2, 1) := by decide +kernel
theorem dX3_canClose_3 : decode cX3_canClose 3 = .ok (.invokevirtual 38, 3) := by decide +kernel
theorem dX3_canClose_6 : decode cX3_canClose 6 = .ok (.ifCond .ne 22, 3) := by decide +kernel
theorem dX3_canClose_9 : decode cX3_canClose 9 = .ok (.aload_n 0, 1) := by decide +kernel
theorem dX3_canClose_10 : decode cX3_canClose 10 = .ok (.getfield 15, 3) := by decide +kernel
theorem dX3_canClose_13 : decode cX3_canClose 13 = .ok (.iload_n 2, 1) := by decide +kernel
theorem dX3_canClose_14 : decode cX3_canClose 14 = .ok (.baload, 1) := by decide +kernel
theorem dX3_canClose_15 : decode cX3_canClose 15 = .ok (.ifCond .eq 17, 3) := by decide +kernel
theorem dX3_canClose_18 : decode cX3_canClose 18 = .ok (.aload_n 0, 1) := by decide +kernel
theorem dX3_canClose_19 : decode cX3_canClose 19 = .ok (.iload_n 1, 1) := by decide +kernel
theorem dX3_canClose_20 : decode cX3_canClose 20 = .ok (.iload_n 2, 1) := by decide +kernel
theorem dX3_canClose_21 : decode cX3_canClose 21 = .ok (.iconst 2, 1) := by decide +kernel
theorem dX3_canClose_22 : decode cX3_canClose 22 = .ok (.invokevirtual 41, 3) := by decide +kernel
theorem dX3_canClose_25 : decode cX3_canClose 25 = .ok (.ifCond .eq 7, 3) := by decide +kernel
theorem dX3_canClose_28 : decode cX3_canClose 28 = .ok (.iconst 1, 1) := by decide +kernel
theorem dX3_canClose_29 : decode cX3_canClose 29 = .ok (.goto 4, 3) := by decide +kernel
theorem dX3_canClose_32 : decode cX3_canClose 32 = .ok (.iconst 0, 1) := by decide +kernel
theorem dX3_canClose_33 : decode cX3_canClose 33 = .ok (.ireturn, 1) := by decide +kernel
theorem dX3_canKeep_0 : decode cX3_canKeep 0 = .ok (.aload_n 0, 1) := by decide +kernel
theorem dX3_canKeep_1 : decode cX3_canKeep 1 = .ok (.iload_n 1, 1) := by decide +kernel
theorem dX3_canKeep_2 : decode cX3_canKeep 2 = .ok (.iload_n 2, 1) := by decide +kernel
theorem dX3_canKeep_3 : decode cX3_canKeep 3 = .ok (.iconst 1, 1) := by decide +kernel
theorem dX3_canKeep_4 : decode cX3_canKeep 4 = .ok (.invokevirtual 41, 3) := by decide +kernel
theorem dX3_canKeep_7 : decode cX3_canKeep 7 = .ok (.ireturn, 1) := by decide +kernel
theorem dX3_afterOpen_0 : decode cX3_afterOpen 0 = .ok (.iload_n 1, 1) := by decide +kernel
theorem dX3_afterOpen_1 : decode cX3_afterOpen 1 = .ok (.iload_n 2, 1) := by decide +kernel
theorem dX3_afterOpen_2 : decode cX3_afterOpen 2 = .ok (.aload_n 0, 1) := by decide +kernel
theorem dX3_afterOpen_3 : decode cX3_afterOpen 3 = .ok (.iload_n 2, 1) := by decide +kernel
theorem dX3_afterOpen_4 : decode cX3_afterOpen 4 = .ok (.invokevirtual 34, 3) := by decide +kernel
theorem dX3_afterOpen_7 : decode cX3_afterOpen 7 = .ok (.ifCond .eq 7, 3) := by decide +kernel
theorem dX3_afterOpen_10 : decode cX3_afterOpen 10 = .ok (.iconst 1, 1) := by decide +kernel
theorem dX3_afterOpen_11 : decode cX3_afterOpen 11 = .ok (.goto 10, 3) := by decide +kernel
theorem dX3_afterOpen_14 : decode cX3_afterOpen 14 = .ok (.iload_n 1, 1) := by decide +kernel
theorem dX3_afterOpen_15 : decode cX3_afterOpen 15 = .ok (.iload_n 2, 1) := by decide +kernel
theorem dX3_afterOpen_16 : decode cX3_afterOpen 16 = .ok (.invokestatic 30, 3) := by decide +kernel
theorem dX3_afterOpen_19 : decode cX3_afterOpen 19 = .ok (.iconst 1, 1) := by decide +kernel
theorem dX3_afterOpen_20 : decode cX3_afterOpen 20 = .ok (.iadd, 1) := by decide +kernel
theorem dX3_afterOpen_21 : decode cX3_afterOpen 21 = .ok (.invokestatic 45, 3) := by decide +kernel
theorem dX3_afterOpen_24 : decode cX3_afterOpen 24 = .ok (.ireturn, 1) := by decide +kernel
theorem dX3_afterClose_0 : decode cX3_afterClose 0 = .ok (.aload_n 0, 1) := by decide +kernel
theorem dX3_afterClose_1 : decode cX3_afterClose 1 = .ok (.iload_n 2, 1) := by decide +kernel
theorem dX3_afterClose_2 : decode cX3_afterClose 2 = .ok (.invokevirtual 34, 3) := by decide +kernel
theorem dX3_afterClose_5 : decode cX3_afterClose 5 = .ok (.ifCond .ne 16, 3) := by decide +kernel
theorem dX3_afterClose_8 : decode cX3_afterClose 8 = .ok (.iload_n 1, 1) := by decide +kernel
theorem dX3_afterClose_9 : decode cX3_afterClose 9 = .ok (.iload_n 2, 1) := by decide +kernel
theorem dX3_afterClose_10 : decode cX3_afterClose 10 = .ok (.iload_n 1, 1) := by decide +kernel
theorem dX3_afterClose_11 : decode cX3_afterClose 11 = .ok (.iload_n 2, 1) := by decide +kernel
theorem dX3_afterClose_12 : decode cX3_afterClose 12 = .ok (.invokestatic 30, 3) := by decide +kernel
theorem dX3_afterClose_15 : decode cX3_afterClose 15 = .ok (.iconst 1, 1) := by decide +kernel
theorem dX3_afterClose_16 : decode cX3_afterClose 16 = .ok (.isub, 1) := by decide +kernel
theorem dX3_afterClose_17 : decode cX3_afterClose 17 = .ok (.invokestatic 45, 3) := by decide +kernel
theorem dX3_afterClose_20 : decode cX3_afterClose 20 = .ok (.ireturn, 1) := by decide +kernel
theorem dX3_afterClose_21 : decode cX3_afterClose 21 = .ok (.iload_n 1, 1) := by decide +kernel
theorem dX3_afterClose_22 : decode cX3_afterClose 22 = .ok (.istore_n 3, 1) := by decide +kernel
theorem dX3_afterClose_23 : decode cX3_afterClose 23 = .ok (.iload_n 2, 1) := by decide +kernel
theorem dX3_afterClose_24 : decode cX3_afterClose 24 = .ok (.istore 4, 2) := by decide +kernel
theorem dX3_afterClose_26 : decode cX3_afterClose 26 = .ok (.iconst 0, 1) := by decide +kernel
theorem dX3_afterClose_27 : decode cX3_afterClose 27 = .ok (.istore 5, 2) := by decide +kernel
theorem dX3_afterClose_29 : decode cX3_afterClose 29 = .ok (.iload 5, 2) := by decide +kernel
theorem dX3_afterClose_31 : decode cX3_afterClose 31 = .ok (.iconst 5, 1) := by decide +kernel
theorem dX3_afterClose_32 : decode cX3_afterClose 32 = .ok (.if_icmp .ge 42, 3) := by decide +kernel
theorem dX3_afterClose_35 : decode cX3_afterClose 35 = .ok (.iload 4, 2) := by decide +kernel
theorem dX3_afterClose_37 : decode cX3_afterClose 37 = .ok (.iconst (-1), 1) := by decide +kernel
theorem dX3_afterClose_38 : decode cX3_afterClose 38 = .ok (.if_icmp .eq 36, 3) := by decide +kernel
theorem dX3_afterClose_41 : decode cX3_afterClose 41 = .ok (.iload_n 3, 1) := by decide +kernel
theorem dX3_afterClose_42 : decode cX3_afterClose 42 = .ok (.iload 4, 2) := by decide +kernel
theorem dX3_afterClose_44 : decode cX3_afterClose 44 = .ok (.invokestatic 30, 3) := by decide +kernel
theorem dX3_afterClose_47 : decode cX3_afterClose 47 = .ok (.iconst 1, 1) := by decide +kernel
theorem dX3_afterClose_48 : decode cX3_afterClose 48 = .ok (.if_icmp .ne 26, 3) := by decide +kernel
theorem dX3_afterClose_51 : decode cX3_afterClose 51 = .ok (.iload_n 3, 1) := by decide +kernel
theorem dX3_afterClose_52 : decode cX3_afterClose 52 = .ok (.iload 4, 2) := by decide +kernel
theorem dX3_afterClose_54 : decode cX3_afterClose 54 = .ok (.iconst 2, 1) := by decide +kernel
theorem dX3_afterClose_55 : decode cX3_afterClose 55 = .ok (.invokestatic 45, 3) := by decide +kernel
theorem dX3_afterClose_58 : decode cX3_afterClose 58 = .ok (.istore_n 3, 1) := by decide +kernel
theorem dX3_afterClose_59 : decode cX3_afterClose 59 = .ok (.aload_n 0, 1) := by decide +kernel
theorem dX3_afterClose_60 : decode cX3_afterClose 60 = .ok (.getfield 19, 3) := by decide +kernel
theorem dX3_afterClose_63 : decode cX3_afterClose 63 = .ok (.iload 4, 2) := by decide +kernel
theorem dX3_afterClose_65 : decode cX3_afterClose 65 = .ok (.iaload, 1) := by decide +kernel
theorem dX3_afterClose_66 : decode cX3_afterClose 66 = .ok (.istore 4, 2) := by decide +kernel
theorem dX3_afterClose_68 : decode cX3_afterClose 68 = .ok (.iinc 5 1, 3) := by decide +kernel
theorem dX3_afterClose_71 : decode cX3_afterClose 71 = .ok (.goto (-42), 3) := by decide +kernel
theorem dX3_afterClose_74 : decode cX3_afterClose 74 = .ok (.iload_n 3, 1) := by decide +kernel
theorem dX3_afterClose_75 : decode cX3_afterClose 75 = .ok (.ireturn, 1) := by decide +kernel
theorem dX4_init_0 : decode cX4_init 0 = .ok (.aload_n 0, 1) := by decide +kernel
theorem dX4_init_1 : decode cX4_init 1 = .ok (.invokespecial 3, 3) := by decide +kernel
theorem dX4_init_4 : decode cX4_init 4 = .ok (.aload_n 0, 1) := by decide +kernel
theorem dX4_init_5 : decode cX4_init 5 = .ok (.bipush 100, 2) := by decide +kernel
theorem dX4_init_7 : decode cX4_init 7 = .ok (.newarray .int, 2) := by decide +kernel
theorem dX4_init_9 : decode cX4_init 9 = .ok (.putfield 9, 3) := by decide +kernel
theorem dX4_init_12 : decode cX4_init 12 = .ok (.aload_n 0, 1) := by decide +kernel
theorem dX4_init_13 : decode cX4_init 13 = .ok (.iconst 0, 1) := by decide +kernel
theorem dX4_init_14 : decode cX4_init 14 = .ok (.putfield 15, 3) := by decide +kernel
theorem dX4_init_17 : decode cX4_init 17 = .ok (.aload_n 0, 1) := by decide +kernel
theorem dX4_init_18 : decode cX4_init 18 = .ok (.iconst 0, 1) := by decide +kernel
theorem dX4_init_19 : decode cX4_init 19 = .ok (.putfield 19, 3) := by decide +kernel
theorem dX4_init_22 : decode cX4_init 22 = .ok (.aload_n 0, 1) := by decide +kernel
theorem dX4_init_23 : decode cX4_init 23 = .ok (.iconst 0, 1) := by decide +kernel
theorem dX4_init_24 : decode cX4_init 24 = .ok (.putfield 23, 3) := by decide +kernel
theorem dX4_init_27 : decode cX4_init 27 = .ok (.aload_n 0, 1) := by decide +kernel
theorem dX4_init_28 : decode cX4_init 28 = .ok (.iconst 0, 1) := by decide +kernel
theorem dX4_init_29 : decode cX4_init 29 = .ok (.putfield 26, 3) := by decide +kernel
theorem dX4_init_32 : decode cX4_init 32 = .ok (.aload_n 0, 1) := by decide +kernel
theorem dX4_init_33 : decode cX4_init 33 = .ok (.iconst 0, 1) := by decide +kernel
theorem dX4_init_34 : decode cX4_init 34 = .ok (.putfield 29, 3) := by decide +kernel
theorem dX4_init_37 : decode cX4_init 37 = .ok (.aload_n 0, 1) := by decide +kernel
theorem dX4_init_38 : decode cX4_init 38 = .ok (.iconst 0, 1) := by decide +kernel
theorem dX4_init_39 : decode cX4_init 39 = .ok (.putfield 32, 3) := by decide +kernel
theorem dX4_init_42 : decode cX4_init 42 = .ok (.return_, 1) := by decide +kernel
theorem dX4_forget_0 : decode cX4_forget 0 = .ok (.aload_n 0, 1) := by decide +kernel
theorem dX4_forget_1 : decode cX4_forget 1 = .ok (.iconst 0, 1) := by decide +kernel
theorem dX4_forget_2 : decode cX4_forget 2 = .ok (.putfield 15, 3) := by decide +kernel
theorem dX4_forget_5 : decode cX4_forget 5 = .ok (.aload_n 0, 1) := by decide +kernel
theorem dX4_forget_6 : decode cX4_forget 6 = .ok (.iconst 0, 1) := by decide +kernel
theorem dX4_forget_7 : decode cX4_forget 7 = .ok (.putfield 19, 3) := by decide +kernel
theorem dX4_forget_10 : decode cX4_forget 10 = .ok (.return_, 1) := by decide +kernel
theorem dX4_drive_0 : decode cX4_drive 0 = .ok (.aload_n 0, 1) := by decide +kernel
theorem dX4_drive_1 : decode cX4_drive 1 = .ok (.iconst 1, 1) := by decide +kernel
theorem dX4_drive_2 : decode cX4_drive 2 = .ok (.putfield 15, 3) := by decide +kernel
theorem dX4_drive_5 : decode cX4_drive 5 = .ok (.aload_n 0, 1) := by decide +kernel
theorem dX4_drive_6 : decode cX4_drive 6 = .ok (.iconst 0, 1) := by decide +kernel
theorem dX4_drive_7 : decode cX4_drive 7 = .ok (.putfield 19, 3) := by decide +kernel
theorem dX4_drive_10 : decode cX4_drive 10 = .ok (.aload_n 0, 1) := by decide +kernel
theorem dX4_drive_11 : decode cX4_drive 11 = .ok (.iconst 0, 1) := by decide +kernel
theorem dX4_drive_12 : decode cX4_drive 12 = .ok (.putfield 23, 3) := by decide +kernel
theorem dX4_drive_15 : decode cX4_drive 15 = .ok (.aload_n 0, 1) := by decide +kernel
theorem dX4_drive_16 : decode cX4_drive 16 = .ok (.iload_n 2, 1) := by decide +kernel
theorem dX4_drive_17 : decode cX4_drive 17 = .ok (.putfield 32, 3) := by decide +kernel
theorem dX4_drive_20 : decode cX4_drive 20 = .ok (.aload_n 0, 1) := by decide +kernel
theorem dX4_drive_21 : decode cX4_drive 21 = .ok (.aload_n 1, 1) := by decide +kernel
theorem dX4_drive_22 : decode cX4_drive 22 = .ok (.invokevirtual 35, 3) := by decide +kernel
theorem dX4_drive_25 : decode cX4_drive 25 = .ok (.putfield 26, 3) := by decide +kernel
theorem dX4_drive_28 : decode cX4_drive 28 = .ok (.aload_n 0, 1) := by decide +kernel
theorem dX4_drive_29 : decode cX4_drive 29 = .ok (.getfield 19, 3) := by decide +kernel
theorem dX4_drive_32 : decode cX4_drive 32 = .ok (.iload_n 3, 1) := by decide +kernel
theorem dX4_drive_33 : decode cX4_drive 33 = .ok (.if_icmp .ge 101, 3) := by decide +kernel
theorem dX4_drive_36 : decode cX4_drive 36 = .ok (.aload_n 0, 1) := by decide +kernel
theorem dX4_drive_37 : decode cX4_drive 37 = .ok (.getfield 19, 3) := by decide +kernel
theorem dX4_drive_40 : decode cX4_drive 40 = .ok (.bipush 100, 2) := by decide +kernel
theorem dX4_drive_42 : decode cX4_drive 42 = .ok (.if_icmp .ge 92, 3) := by decide +kernel
theorem dX4_drive_45 : decode cX4_drive 45 = .ok (.aload_n 1, 1) := by decide +kernel
theorem dX4_drive_46 : decode cX4_drive 46 = .ok (.aload_n 0, 1) := by decide +kernel
theorem dX4_drive_47 : decode cX4_drive 47 = .ok (.getfield 26, 3) := by decide +kernel
theorem dX4_drive_50 : decode cX4_drive 50 = .ok (.invokevirtual 41, 3) := by decide +kernel
theorem dX4_drive_53 : decode cX4_drive 53 = .ok (.ifCond .ne 81, 3) := by decide +kernel
theorem dX4_drive_56 : decode cX4_drive 56 = .ok (.aload_n 1, 1) := by decide +kernel
theorem dX4_drive_57 : decode cX4_drive 57 = .ok (.aload_n 0, 1) := by decide +kernel
theorem dX4_drive_58 : decode cX4_drive 58 = .ok (.getfield 26, 3) := by decide +kernel
theorem dX4_drive_61 : decode cX4_drive 61 = .ok (.invokevirtual 45, 3) := by decide +kernel
theorem dX4_drive_64 : decode cX4_drive 64 = .ok (.istore 4, 2) := by decide +kernel
theorem dX4_drive_66 : decode cX4_drive 66 = .ok (.aload_n 1, 1) := by decide +kernel
theorem dX4_drive_67 : decode cX4_drive 67 = .ok (.aload_n 0, 1) := by decide +kernel
theorem dX4_drive_68 : decode cX4_drive 68 = .ok (.getfield 26, 3) := by decide +kernel
theorem dX4_drive_71 : decode cX4_drive 71 = .ok (.iload 4, 2) := by decide +kernel
theorem dX4_drive_73 : decode cX4_drive 73 = .ok (.invokevirtual 49, 3) := by decide +kernel
theorem dX4_drive_76 : decode cX4_drive 76 = .ok (.ifCond .eq 10, 3) := by decide +kernel
theorem dX4_drive_79 : decode cX4_drive 79 = .ok (.aload_n 0, 1) := by decide +kernel
theorem dX4_drive_80 : decode cX4_drive 80 = .ok (.invokevirtual 53, 3) := by decide +kernel
theorem dX4_drive_83 : decode cX4_drive 83 = .ok (.goto 4, 3) := by decide +kernel
theorem dX4_drive_86 : decode cX4_drive 86 = .ok (.iconst 0, 1) := by decide +kernel
theorem dX4_drive_87 : decode cX4_drive 87 = .ok (.istore 5, 2) := by decide +kernel
theorem dX4_drive_89 : decode cX4_drive 89 = .ok (.aload_n 0, 1) := by decide +kernel
theorem dX4_drive_90 : decode cX4_drive 90 = .ok (.getfield 9, 3) := by decide +kernel
theorem dX4_drive_93 : decode cX4_drive 93 = .ok (.aload_n 0, 1) := by decide +kernel
theorem dX4_drive_94 : decode cX4_drive 94 = .ok (.getfield 19, 3) := by decide +kernel
theorem dX4_drive_97 : decode cX4_drive 97 = .ok (.aload_n 0, 1) := by decide +kernel
theorem dX4_drive_98 : decode cX4_drive 98 = .ok (.getfield 26, 3) := by decide +kernel
theorem dX4_drive_101 : decode cX4_drive 101 = .ok (.invokestatic 56, 3) := by decide +kernel
theorem dX4_drive_104 : decode cX4_drive 104 = .ok (.iastore, 1) := by decide +kernel
theorem dX4_drive_105 : decode cX4_drive 105 = .ok (.aload_n 0, 1) := by decide +kernel
theorem dX4_drive_106 : decode cX4_drive 106 = .ok (.dup, 1) := by decide +kernel
theorem dX4_drive_107 : decode cX4_drive 107 = .ok (.getfield 19, 3) := by decide +kernel
theorem dX4_drive_110 : decode cX4_drive 110 = .ok (.iconst 1, 1) := by decide +kernel
theorem dX4_drive_111 : decode cX4_drive 111 = .ok (.iadd, 1) := by decide +kernel
theorem dX4_drive_112 : decode cX4_drive 112 = .ok (.putfield 19, 3) := by decide +kernel
theorem dX4_drive_115 : decode cX4_drive 115 = .ok (.aload_n 0, 1) := by decide +kernel
theorem dX4_drive_116 : decode cX4_drive 116 = .ok (.aload_n 1, 1) := by decide +kernel
theorem dX4_drive_117 : decode cX4_drive 117 = .ok (.aload_n 0, 1) := by decide +kernel
theorem dX4_drive_118 : decode cX4_drive 118 = .ok (.getfield 26, 3) := by decide +kernel
theorem dX4_drive_121 : decode cX4_drive 121 = .ok (.iload 4, 2) := by decide +kernel
theorem dX4_drive_123 : decode cX4_drive 123 = .ok (.iload 5, 2) := by decide +kernel
theorem dX4_drive_125 : decode cX4_drive 125 = .ok (.invokevirtual 59, 3) := by decide +kernel
theorem dX4_drive_128 : decode cX4_drive 128 = .ok (.putfield 26, 3) := by decide +kernel
theorem dX4_drive_131 : decode cX4_drive 131 = .ok (.goto (-103), 3) := by decide +kernel
theorem dX4_drive_134 : decode cX4_drive 134 = .ok (.return_, 1) := by decide +kernel
theorem dX4_draw_0 : decode cX4_draw 0 = .ok (.aload_n 0, 1) := by decide +kernel
theorem dX4_draw_1 : decode cX4_draw 1 = .ok (.ldc 63, 2) := by decide +kernel
theorem dX4_draw_3 : decode cX4_draw 3 = .ok (.aload_n 0, 1) := by decide +kernel
theorem dX4_draw_4 : decode cX4_draw 4 = .ok (.getfield 32, 3) := by decide +kernel
theorem dX4_draw_7 : decode cX4_draw 7 = .ok (.imul, 1) := by decide +kernel
theorem dX4_draw_8 : decode cX4_draw 8 = .ok (.sipush 12345, 3) := by decide +kernel
theorem dX4_draw_11 : decode cX4_draw 11 = .ok (.iadd, 1) := by decide +kernel
theorem dX4_draw_12 : decode cX4_draw 12 = .ok (.putfield 32, 3) := by decide +kernel
theorem dX4_draw_15 : decode cX4_draw 15 = .ok (.aload_n 0, 1) := by decide +kernel
theorem dX4_draw_16 : decode cX4_draw 16 = .ok (.dup, 1) := by decide +kernel
theorem dX4_draw_17 : decode cX4_draw 17 = .ok (.getfield 23, 3) := by decide +kernel
theorem dX4_draw_20 : decode cX4_draw 20 = .ok (.iconst 1, 1) := by decide +kernel
theorem dX4_draw_21 : decode cX4_draw 21 = .ok (.iadd, 1) := by decide +kernel
theorem dX4_draw_22 : decode cX4_draw 22 = .ok (.putfield 23, 3) := by decide +kernel
theorem dX4_draw_25 : decode cX4_draw 25 = .ok (.aload_n 0, 1) := by decide +kernel
theorem dX4_draw_26 : decode cX4_draw 26 = .ok (.getfield 32, 3) := by decide +kernel
theorem dX4_draw_29 : decode cX4_draw 29 = .ok (.bipush 16, 2) := by decide +kernel
theorem dX4_draw_31 : decode cX4_draw 31 = .ok (.iushr, 1) := by decide +kernel
theorem dX4_draw_32 : decode cX4_draw 32 = .ok (.iconst 1, 1) := by decide +kernel
theorem dX4_draw_33 : decode cX4_draw 33 = .ok (.iand, 1) := by decide +kernel
theorem dX4_draw_34 : decode cX4_draw 34 = .ok (.ireturn, 1) := by decide +kernel
theorem dX5_init_0 : decode cX5_init 0 = .ok (.aload_n 0, 1) := by decide +kernel
theorem dX5_init_1 : decode cX5_init 1 = .ok (.invokespecial 3, 3) := by decide +kernel
theorem dX5_init_4 : decode cX5_init 4 = .ok (.aload_n 0, 1) := by decide +kernel
theorem dX5_init_5 : decode cX5_init 5 = .ok (.new 9, 3) := by decide +kernel
theorem dX5_init_8 : decode cX5_init 8 = .ok (.dup, 1) := by decide +kernel
theorem dX5_init_9 : decode cX5_init 9 = .ok (.invokespecial 11, 3) := by decide +kernel
theorem dX5_init_12 : decode cX5_init 12 = .ok (.putfield 12, 3) := by decide +kernel
theorem dX5_init_15 : decode cX5_init 15 = .ok (.aload_n 0, 1) := by decide +kernel
theorem dX5_init_16 : decode cX5_init 16 = .ok (.new 16, 3) := by decide +kernel
theorem dX5_init_19 : decode cX5_init 19 = .ok (.dup, 1) := by decide +kernel
theorem dX5_init_20 : decode cX5_init 20 = .ok (.invokespecial 18, 3) := by decide +kernel
theorem dX5_init_23 : decode cX5_init 23 = .ok (.putfield 19, 3) := by decide +kernel
theorem dX5_init_26 : decode cX5_init 26 = .ok (.aload_n 0, 1) := by decide +kernel
theorem dX5_init_27 : decode cX5_init 27 = .ok (.new 23, 3) := by decide +kernel
theorem dX5_init_30 : decode cX5_init 30 = .ok (.dup, 1) := by decide +kernel
theorem dX5_init_31 : decode cX5_init 31 = .ok (.aload_n 0, 1) := by decide +kernel
theorem dX5_init_32 : decode cX5_init 32 = .ok (.getfield 12, 3) := by decide +kernel
theorem dX5_init_35 : decode cX5_init 35 = .ok (.aload_n 0, 1) := by decide +kernel
theorem dX5_init_36 : decode cX5_init 36 = .ok (.getfield 19, 3) := by decide +kernel
theorem dX5_init_39 : decode cX5_init 39 = .ok (.invokespecial 25, 3) := by decide +kernel
theorem dX5_init_42 : decode cX5_init 42 = .ok (.putfield 28, 3) := by decide +kernel
theorem dX5_init_45 : decode cX5_init 45 = .ok (.aload_n 0, 1) := by decide +kernel
theorem dX5_init_46 : decode cX5_init 46 = .ok (.new 32, 3) := by decide +kernel
theorem dX5_init_49 : decode cX5_init 49 = .ok (.dup, 1) := by decide +kernel
theorem dX5_init_50 : decode cX5_init 50 = .ok (.aload_n 0, 1) := by decide +kernel
theorem dX5_init_51 : decode cX5_init 51 = .ok (.getfield 12, 3) := by decide +kernel
theorem dX5_init_54 : decode cX5_init 54 = .ok (.aload_n 0, 1) := by decide +kernel
theorem dX5_init_55 : decode cX5_init 55 = .ok (.getfield 19, 3) := by decide +kernel
theorem dX5_init_58 : decode cX5_init 58 = .ok (.aload_n 0, 1) := by decide +kernel
theorem dX5_init_59 : decode cX5_init 59 = .ok (.getfield 28, 3) := by decide +kernel
theorem dX5_init_62 : decode cX5_init 62 = .ok (.invokespecial 34, 3) := by decide +kernel
theorem dX5_init_65 : decode cX5_init 65 = .ok (.putfield 37, 3) := by decide +kernel
theorem dX5_init_68 : decode cX5_init 68 = .ok (.aload_n 0, 1) := by decide +kernel
theorem dX5_init_69 : decode cX5_init 69 = .ok (.new 41, 3) := by decide +kernel
theorem dX5_init_72 : decode cX5_init 72 = .ok (.dup, 1) := by decide +kernel
theorem dX5_init_73 : decode cX5_init 73 = .ok (.invokespecial 43, 3) := by decide +kernel
theorem dX5_init_76 : decode cX5_init 76 = .ok (.putfield 44, 3) := by decide +kernel
theorem dX5_init_79 : decode cX5_init 79 = .ok (.aload_n 0, 1) := by decide +kernel
theorem dX5_init_80 : decode cX5_init 80 = .ok (.iconst 0, 1) := by decide +kernel
theorem dX5_init_81 : decode cX5_init 81 = .ok (.putfield 48, 3) := by decide +kernel
theorem dX5_init_84 : decode cX5_init 84 = .ok (.return_, 1) := by decide +kernel
theorem dX5_thing_0 : decode cX5_thing 0 = .ok (.iload_n 3, 1) := by decide +kernel
theorem dX5_thing_1 : decode cX5_thing 1 = .ok (.iconst (-1), 1) := by decide +kernel
theorem dX5_thing_2 : decode cX5_thing 2 = .ok (.if_icmp .eq 17, 3) := by decide +kernel
theorem dX5_thing_5 : decode cX5_thing 5 = .ok (.aload_n 0, 1) := by decide +kernel
theorem dX5_thing_6 : decode cX5_thing 6 = .ok (.getfield 12, 3) := by decide +kernel
theorem dX5_thing_9 : decode cX5_thing 9 = .ok (.iload_n 3, 1) := by decide +kernel
theorem dX5_thing_10 : decode cX5_thing 10 = .ok (.invokevirtual 52, 3) := by decide +kernel
theorem dX5_thing_13 : decode cX5_thing 13 = .ok (.ifCond .ne 6, 3) := by decide +kernel
theorem dX5_thing_16 : decode cX5_thing 16 = .ok (.bipush (-101), 2) := by decide +kernel
theorem dX5_thing_18 : decode cX5_thing 18 = .ok (.ireturn, 1) := by decide +kernel
theorem dX5_thing_19 : decode cX5_thing 19 = .ok (.iload_n 1, 1) := by decide +kernel
theorem dX5_thing_20 : decode cX5_thing 20 = .ok (.ifCond .eq 11, 3) := by decide +kernel
theorem dX5_thing_23 : decode cX5_thing 23 = .ok (.iload_n 1, 1) := by decide +kernel
theorem dX5_thing_24 : decode cX5_thing 24 = .ok (.iconst 1, 1) := by decide +kernel
theorem dX5_thing_25 : decode cX5_thing 25 = .ok (.if_icmp .eq 6, 3) := by decide +kernel
theorem dX5_thing_28 : decode cX5_thing 28 = .ok (.bipush (-102), 2) := by decide +kernel
theorem dX5_thing_30 : decode cX5_thing 30 = .ok (.ireturn, 1) := by decide +kernel
theorem dX5_thing_31 : decode cX5_thing 31 = .ok (.iload_n 3, 1) := by decide +kernel
theorem dX5_thing_32 : decode cX5_thing 32 = .ok (.iconst (-1), 1) := by decide +kernel
theorem dX5_thing_33 : decode cX5_thing 33 = .ok (.if_icmp .eq 22, 3) := by decide +kernel
theorem dX5_thing_36 : decode cX5_thing 36 = .ok (.iload_n 1, 1) := by decide +kernel
theorem dX5_thing_37 : decode cX5_thing 37 = .ok (.iconst 1, 1) := by decide +kernel
theorem dX5_thing_38 : decode cX5_thing 38 = .ok (.if_icmp .eq 14, 3) := by decide +kernel
theorem dX5_thing_41 : decode cX5_thing 41 = .ok (.aload_n 0, 1) := by decide +kernel
theorem dX5_thing_42 : decode cX5_thing 42 = .ok (.getfield 12, 3) := by decide +kernel
theorem dX5_thing_45 : decode cX5_thing 45 = .ok (.iload_n 3, 1) := by decide +kernel
theorem dX5_thing_46 : decode cX5_thing 46 = .ok (.invokevirtual 56, 3) := by decide +kernel
theorem dX5_thing_49 : decode cX5_thing 49 = .ok (.ifCond .ne 6, 3) := by decide +kernel
theorem dX5_thing_52 : decode cX5_thing 52 = .ok (.bipush (-102), 2) := by decide +kernel
theorem dX5_thing_54 : decode cX5_thing 54 = .ok (.ireturn, 1) := by decide +kernel
theorem dX5_thing_55 : decode cX5_thing 55 = .ok (.aload_n 0, 1) := by decide +kernel
theorem dX5_thing_56 : decode cX5_thing 56 = .ok (.getfield 12, 3) := by decide +kernel
theorem dX5_thing_59 : decode cX5_thing 59 = .ok (.getfield 59, 3) := by decide +kernel
theorem dX5_thing_62 : decode cX5_thing 62 = .ok (.iconst 5, 1) := by decide +kernel
theorem dX5_thing_63 : decode cX5_thing 63 = .ok (.if_icmp .lt 6, 3) := by decide +kernel
theorem dX5_thing_66 : decode cX5_thing 66 = .ok (.bipush (-104), 2) := by decide +kernel
theorem dX5_thing_68 : decode cX5_thing 68 = .ok (.ireturn, 1) := by decide +kernel
theorem dX5_thing_69 : decode cX5_thing 69 = .ok (.aload_n 0, 1) := by decide +kernel
theorem dX5_thing_70 : decode cX5_thing 70 = .ok (.iconst 0, 1) := by decide +kernel
theorem dX5_thing_71 : decode cX5_thing 71 = .ok (.putfield 48, 3) := by decide +kernel
theorem dX5_thing_74 : decode cX5_thing 74 = .ok (.aload_n 0, 1) := by decide +kernel
theorem dX5_thing_75 : decode cX5_thing 75 = .ok (.getfield 12, 3) := by decide +kernel
theorem dX5_thing_78 : decode cX5_thing 78 = .ok (.iload_n 1, 1) := by decide +kernel
theorem dX5_thing_79 : decode cX5_thing 79 = .ok (.iload_n 2, 1) := by decide +kernel
theorem dX5_thing_80 : decode cX5_thing 80 = .ok (.iload_n 3, 1) := by decide +kernel
theorem dX5_thing_81 : decode cX5_thing 81 = .ok (.invokevirtual 63, 3) := by decide +kernel
theorem dX5_thing_84 : decode cX5_thing 84 = .ok (.ireturn, 1) := by decide +kernel
theorem dX5_step_0 : decode cX5_step 0 = .ok (.aload_n 0, 1) := by decide +kernel
theorem dX5_step_1 : decode cX5_step 1 = .ok (.iload_n 1, 1) := by decide +kernel
theorem dX5_step_2 : decode cX5_step 2 = .ok (.iload_n 2, 1) := by decide +kernel
theorem dX5_step_3 : decode cX5_step 3 = .ok (.iload_n 3, 1) := by decide +kernel
theorem dX5_step_4 : decode cX5_step 4 = .ok (.iload 5, 2) := by decide +kernel
theorem dX5_step_6 : decode cX5_step 6 = .ok (.invokevirtual 67, 3) := by decide +kernel
theorem dX5_step_9 : decode cX5_step 9 = .ok (.istore 6, 2) := by decide +kernel
theorem dX5_step_11 : decode cX5_step 11 = .ok (.iload 6, 2) := by decide +kernel
theorem dX5_step_13 : decode cX5_step 13 = .ok (.ifCond .eq 6, 3) := by decide +kernel
theorem dX5_step_16 : decode cX5_step 16 = .ok (.iload 6, 2) := by decide +kernel
theorem dX5_step_18 : decode cX5_step 18 = .ok (.ireturn, 1) := by decide +kernel
theorem dX5_step_19 : decode cX5_step 19 = .ok (.aload_n 0, 1) := by decide +kernel
theorem dX5_step_20 : decode cX5_step 20 = .ok (.getfield 19, 3) := by decide +kernel
theorem dX5_step_23 : decode cX5_step 23 = .ok (.getfield 71, 3) := by decide +kernel
theorem dX5_step_26 : decode cX5_step 26 = .ok (.bipush 40, 2) := by decide +kernel
theorem dX5_step_28 : decode cX5_step 28 = .ok (.if_icmp .lt 6, 3) := by decide +kernel
theorem dX5_step_31 : decode cX5_step 31 = .ok (.bipush (-104), 2) := by decide +kernel
theorem dX5_step_33 : decode cX5_step 33 = .ok (.ireturn, 1) := by decide +kernel
theorem dX5_step_34 : decode cX5_step 34 = .ok (.aload_n 0, 1) := by decide +kernel
theorem dX5_step_35 : decode cX5_step 35 = .ok (.getfield 19, 3) := by decide +kernel
theorem dX5_step_38 : decode cX5_step 38 = .ok (.getfield 71, 3) := by decide +kernel
theorem dX5_step_41 : decode cX5_step 41 = .ok (.istore 7, 2) := by decide +kernel
theorem dX5_step_43 : decode cX5_step 43 = .ok (.aload_n 0, 1) := by decide +kernel
theorem dX5_step_44 : decode cX5_step 44 = .ok (.getfield 19, 3) := by decide +kernel
theorem dX5_step_47 : decode cX5_step 47 = .ok (.dup, 1) := by decide +kernel
theorem dX5_step_48 : decode cX5_step 48 = .ok (.getfield 71, 3) := by decide +kernel
theorem dX5_step_51 : decode cX5_step 51 = .ok (.iconst 1, 1) := by decide +kernel
theorem dX5_step_52 : decode cX5_step 52 = .ok (.iadd, 1) := by decide +kernel
theorem dX5_step_53 : decode cX5_step 53 = .ok (.putfield 71, 3) := by decide +kernel
theorem dX5_step_56 : decode cX5_step 56 = .ok (.aload_n 0, 1) := by decide +kernel
theorem dX5_step_57 : decode cX5_step 57 = .ok (.getfield 19, 3) := by decide +kernel
theorem dX5_step_60 : decode cX5_step 60 = .ok (.iload 7, 2) := by decide +kernel
theorem dX5_step_62 : decode cX5_step 62 = .ok (.iload_n 1, 1) := by decide +kernel
theorem dX5_step_63 : decode cX5_step 63 = .ok (.iload_n 2, 1) := by decide +kernel
theorem dX5_step_64 : decode cX5_step 64 = .ok (.iload_n 3, 1) := by decide +kernel
theorem dX5_step_65 : decode cX5_step 65 = .ok (.iload 4, 2) := by decide +kernel
theorem dX5_step_67 : decode cX5_step 67 = .ok (.iload 5, 2) := by decide +kernel
theorem dX5_step_69 : decode cX5_step 69 = .ok (.invokevirtual 72, 3) := by decide +kernel
theorem dX5_step_72 : decode cX5_step 72 = .ok (.aload_n 0, 1) := by decide +kernel
theorem dX5_step_73 : decode cX5_step 73 = .ok (.iconst 0, 1) := by decide +kernel
theorem dX5_step_74 : decode cX5_step 74 = .ok (.putfield 48, 3) := by decide +kernel
theorem dX5_step_77 : decode cX5_step 77 = .ok (.iload 7, 2) := by decide +kernel
theorem dX5_step_79 : decode cX5_step 79 = .ok (.ireturn, 1) := by decide +kernel
theorem dX5_change_0 : decode cX5_change 0 = .ok (.aload_n 0, 1) := by decide +kernel
theorem dX5_change_1 : decode cX5_change 1 = .ok (.iload_n 2, 1) := by decide +kernel
theorem dX5_change_2 : decode cX5_change 2 = .ok (.iload_n 3, 1) := by decide +kernel
theorem dX5_change_3 : decode cX5_change 3 = .ok (.iload 4, 2) := by decide +kernel
theorem dX5_change_5 : decode cX5_change 5 = .ok (.iload 6, 2) := by decide +kernel
theorem dX5_change_7 : decode cX5_change 7 = .ok (.invokevirtual 67, 3) := by decide +kernel
theorem dX5_change_10 : decode cX5_change 10 = .ok (.istore 7, 2) := by decide +kernel
theorem dX5_change_12 : decode cX5_change 12 = .ok (.iload 7, 2) := by decide +kernel
theorem dX5_change_14 : decode cX5_change 14 = .ok (.ifCond .eq 6, 3) := by decide +kernel
theorem dX5_change_17 : decode cX5_change 17 = .ok (.iload 7, 2) := by decide +kernel
theorem dX5_change_19 : decode cX5_change 19 = .ok (.ireturn, 1) := by decide +kernel
theorem dX5_change_20 : decode cX5_change 20 = .ok (.aload_n 0, 1) := by decide +kernel
theorem dX5_change_21 : decode cX5_change 21 = .ok (.getfield 19, 3) := by decide +kernel
theorem dX5_change_24 : decode cX5_change 24 = .ok (.iload_n 1, 1) := by decide +kernel
theorem dX5_change_25 : decode cX5_change 25 = .ok (.invokevirtual 76, 3) := by decide +kernel
theorem dX5_change_28 : decode cX5_change 28 = .ok (.ifCond .ne 6, 3) := by decide +kernel
theorem dX5_change_31 : decode cX5_change 31 = .ok (.bipush (-102), 2) := by decide +kernel
theorem dX5_change_33 : decode cX5_change 33 = .ok (.ireturn, 1) := by decide +kernel
theorem dX5_change_34 : decode cX5_change 34 = .ok (.aload_n 0, 1) := by decide +kernel
theorem dX5_change_35 : decode cX5_change 35 = .ok (.getfield 19, 3) := by decide +kernel
theorem dX5_change_38 : decode cX5_change 38 = .ok (.getfield 77, 3) := by decide +kernel
theorem dX5_change_41 : decode cX5_change 41 = .ok (.iload_n 1, 1) := by decide +kernel
theorem dX5_change_42 : decode cX5_change 42 = .ok (.iaload, 1) := by decide +kernel
theorem dX5_change_43 : decode cX5_change 43 = .ok (.istore 8, 2) := by decide +kernel
theorem dX5_change_45 : decode cX5_change 45 = .ok (.aload_n 0, 1) := by decide +kernel
theorem dX5_change_46 : decode cX5_change 46 = .ok (.getfield 19, 3) := by decide +kernel
theorem dX5_change_49 : decode cX5_change 49 = .ok (.iload_n 1, 1) := by decide +kernel
theorem dX5_change_50 : decode cX5_change 50 = .ok (.iload_n 2, 1) := by decide +kernel
theorem dX5_change_51 : decode cX5_change 51 = .ok (.iload_n 3, 1) := by decide +kernel
theorem dX5_change_52 : decode cX5_change 52 = .ok (.iload 4, 2) := by decide +kernel
theorem dX5_change_54 : decode cX5_change 54 = .ok (.iload 5, 2) := by decide +kernel
theorem dX5_change_56 : decode cX5_change 56 = .ok (.iload 6, 2) := by decide +kernel
theorem dX5_change_58 : decode cX5_change 58 = .ok (.invokevirtual 72, 3) := by decide +kernel
theorem dX5_change_61 : decode cX5_change 61 = .ok (.aload_n 0, 1) := by decide +kernel
theorem dX5_change_62 : decode cX5_change 62 = .ok (.iconst 0, 1) := by decide +kernel
theorem dX5_change_63 : decode cX5_change 63 = .ok (.putfield 48, 3) := by decide +kernel
theorem dX5_change_66 : decode cX5_change 66 = .ok (.iload 8, 2) := by decide +kernel
theorem dX5_change_68 : decode cX5_change 68 = .ok (.ireturn, 1) := by decide +kernel
theorem dX5_check_0 : decode cX5_check 0 = .ok (.aload_n 0, 1) := by decide +kernel
theorem dX5_check_1 : decode cX5_check 1 = .ok (.getfield 48, 3) := by decide +kernel
theorem dX5_check_4 : decode cX5_check 4 = .ok (.ifCond .ne 15, 3) := by decide +kernel
theorem dX5_check_7 : decode cX5_check 7 = .ok (.aload_n 0, 1) := by decide +kernel
theorem dX5_check_8 : decode cX5_check 8 = .ok (.getfield 37, 3) := by decide +kernel
theorem dX5_check_11 : decode cX5_check 11 = .ok (.invokevirtual 81, 3) := by decide +kernel
theorem dX5_check_14 : decode cX5_check 14 = .ok (.aload_n 0, 1) := by decide +kernel
theorem dX5_check_15 : decode cX5_check 15 = .ok (.iconst 1, 1) := by decide +kernel
theorem dX5_check_16 : decode cX5_check 16 = .ok (.putfield 48, 3) := by decide +kernel
theorem dX5_check_19 : decode cX5_check 19 = .ok (.aload_n 0, 1) := by decide +kernel
theorem dX5_check_20 : decode cX5_check 20 = .ok (.getfield 37, 3) := by decide +kernel
theorem dX5_check_23 : decode cX5_check 23 = .ok (.getfield 84, 3) := by decide +kernel
theorem dX5_check_26 : decode cX5_check 26 = .ok (.ireturn, 1) := by decide +kernel
theorem dX5_found_0 : decode cX5_found 0 = .ok (.aload_n 0, 1) := by decide +kernel
theorem dX5_found_1 : decode cX5_found 1 = .ok (.iload_n 1, 1) := by decide +kernel
theorem dX5_found_2 : decode cX5_found 2 = .ok (.iload_n 2, 1) := by decide +kernel
theorem dX5_found_3 : decode cX5_found 3 = .ok (.invokevirtual 87, 3) := by decide +kernel
theorem dX5_found_6 : decode cX5_found 6 = .ok (.istore_n 3, 1) := by decide +kernel
theorem dX5_found_7 : decode cX5_found 7 = .ok (.iload_n 3, 1) := by decide +kernel
theorem dX5_found_8 : decode cX5_found 8 = .ok (.ifCond .eq 7, 3) := by decide +kernel
theorem dX5_found_11 : decode cX5_found 11 = .ok (.iload_n 3, 1) := by decide +kernel
theorem dX5_found_12 : decode cX5_found 12 = .ok (.goto 12, 3) := by decide +kernel
theorem dX5_found_15 : decode cX5_found 15 = .ok (.aload_n 0, 1) := by decide +kernel
theorem dX5_found_16 : decode cX5_found 16 = .ok (.getfield 37, 3) := by decide +kernel
theorem dX5_found_19 : decode cX5_found 19 = .ok (.iload_n 1, 1) := by decide +kernel
theorem dX5_found_20 : decode cX5_found 20 = .ok (.iload_n 2, 1) := by decide +kernel
theorem dX5_found_21 : decode cX5_found 21 = .ok (.invokevirtual 91, 3) := by decide +kernel
theorem dX5_found_24 : decode cX5_found 24 = .ok (.ireturn, 1) := by decide +kernel
theorem dX5_way_0 : decode cX5_way 0 = .ok (.aload_n 0, 1) := by decide +kernel
theorem dX5_way_1 : decode cX5_way 1 = .ok (.iload_n 1, 1) := by decide +kernel
theorem dX5_way_2 : decode cX5_way 2 = .ok (.iload_n 2, 1) := by decide +kernel
theorem dX5_way_3 : decode cX5_way 3 = .ok (.invokevirtual 87, 3) := by decide +kernel
theorem dX5_way_6 : decode cX5_way 6 = .ok (.istore 4, 2) := by decide +kernel
theorem dX5_way_8 : decode cX5_way 8 = .ok (.iload 4, 2) := by decide +kernel
theorem dX5_way_10 : decode cX5_way 10 = .ok (.ifCond .eq 8, 3) := by decide +kernel
theorem dX5_way_13 : decode cX5_way 13 = .ok (.iload 4, 2) := by decide +kernel
theorem dX5_way_15 : decode cX5_way 15 = .ok (.goto 13, 3) := by decide +kernel
theorem dX5_way_18 : decode cX5_way 18 = .ok (.aload_n 0, 1) := by decide +kernel
theorem dX5_way_19 : decode cX5_way 19 = .ok (.getfield 37, 3) := by decide +kernel
theorem dX5_way_22 : decode cX5_way 22 = .ok (.iload_n 1, 1) := by decide +kernel
theorem dX5_way_23 : decode cX5_way 23 = .ok (.iload_n 2, 1) := by decide +kernel
theorem dX5_way_24 : decode cX5_way 24 = .ok (.iload_n 3, 1) := by decide +kernel
theorem dX5_way_25 : decode cX5_way 25 = .ok (.invokevirtual 94, 3) := by decide +kernel
theorem dX5_way_28 : decode cX5_way 28 = .ok (.ireturn, 1) := by decide +kernel
theorem dX5_closed_0 : decode cX5_closed 0 = .ok (.aload_n 0, 1) := by decide +kernel
theorem dX5_closed_1 : decode cX5_closed 1 = .ok (.getfield 12, 3) := by decide +kernel
theorem dX5_closed_4 : decode cX5_closed 4 = .ok (.iload_n 1, 1) := by decide +kernel
theorem dX5_closed_5 : decode cX5_closed 5 = .ok (.invokevirtual 52, 3) := by decide +kernel
theorem dX5_closed_8 : decode cX5_closed 8 = .ok (.ifCond .ne 6, 3) := by decide +kernel
theorem dX5_closed_11 : decode cX5_closed 11 = .ok (.bipush (-101), 2) := by decide +kernel
theorem dX5_closed_13 : decode cX5_closed 13 = .ok (.ireturn, 1) := by decide +kernel
theorem dX5_closed_14 : decode cX5_closed 14 = .ok (.aload_n 0, 1) := by decide +kernel
theorem dX5_closed_15 : decode cX5_closed 15 = .ok (.getfield 48, 3) := by decide +kernel
theorem dX5_closed_18 : decode cX5_closed 18 = .ok (.ifCond .ne 6, 3) := by decide +kernel
theorem dX5_closed_21 : decode cX5_closed 21 = .ok (.bipush (-103), 2) := by decide +kernel
theorem dX5_closed_23 : decode cX5_closed 23 = .ok (.ireturn, 1) := by decide +kernel
theorem dX5_closed_24 : decode cX5_closed 24 = .ok (.aload_n 0, 1) := by decide +kernel
theorem dX5_closed_25 : decode cX5_closed 25 = .ok (.getfield 37, 3) := by decide +kernel
theorem dX5_closed_28 : decode cX5_closed 28 = .ok (.iconst 0, 1) := by decide +kernel
theorem dX5_closed_29 : decode cX5_closed 29 = .ok (.iload_n 1, 1) := by decide +kernel
theorem dX5_closed_30 : decode cX5_closed 30 = .ok (.invokevirtual 91, 3) := by decide +kernel
theorem dX5_closed_33 : decode cX5_closed 33 = .ok (.iconst (-1), 1) := by decide +kernel
theorem dX5_closed_34 : decode cX5_closed 34 = .ok (.if_icmp .ne 16, 3) := by decide +kernel
theorem dX5_closed_37 : decode cX5_closed 37 = .ok (.aload_n 0, 1) := by decide +kernel
theorem dX5_closed_38 : decode cX5_closed 38 = .ok (.getfield 37, 3) := by decide +kernel
theorem dX5_closed_41 : decode cX5_closed 41 = .ok (.iconst 1, 1) := by decide +kernel
theorem dX5_closed_42 : decode cX5_closed 42 = .ok (.iload_n 1, 1) := by decide +kernel
theorem dX5_closed_43 : decode cX5_closed 43 = .ok (.invokevirtual 91, 3) := by decide +kernel
theorem dX5_closed_46 : decode cX5_closed 46 = .ok (.iconst (-1), 1) := by decide +kernel
theorem dX5_closed_47 : decode cX5_closed 47 = .ok (.if_icmp .eq 7, 3) := by decide +kernel
theorem dX5_closed_50 : decode cX5_closed 50 = .ok (.iconst 1, 1) := by decide +kernel
theorem dX5_closed_51 : decode cX5_closed 51 = .ok (.goto 4, 3) := by decide +kernel
theorem dX5_closed_54 : decode cX5_closed 54 = .ok (.iconst 0, 1) := by decide +kernel
theorem dX5_closed_55 : decode cX5_closed 55 = .ok (.istore_n 2, 1) := by decide +kernel
theorem dX5_closed_56 : decode cX5_closed 56 = .ok (.iload_n 2, 1) := by decide +kernel
theorem dX5_closed_57 : decode cX5_closed 57 = .ok (.ifCond .eq 7, 3) := by decide +kernel
theorem dX5_closed_60 : decode cX5_closed 60 = .ok (.iconst 0, 1) := by decide +kernel
theorem dX5_closed_61 : decode cX5_closed 61 = .ok (.goto 4, 3) := by decide +kernel
theorem dX5_closed_64 : decode cX5_closed 64 = .ok (.iconst 1, 1) := by decide +kernel
theorem dX5_closed_65 : decode cX5_closed 65 = .ok (.ireturn, 1) := by decide +kernel
theorem dX5_states_0 : decode cX5_states 0 = .ok (.aload_n 0, 1) := by decide +kernel
theorem dX5_states_1 : decode cX5_states 1 = .ok (.getfield 12, 3) := by decide +kernel
theorem dX5_states_4 : decode cX5_states 4 = .ok (.iload_n 2, 1) := by decide +kernel
theorem dX5_states_5 : decode cX5_states 5 = .ok (.invokevirtual 52, 3) := by decide +kernel
theorem dX5_states_8 : decode cX5_states 8 = .ok (.ifCond .ne 6, 3) := by decide +kernel
theorem dX5_states_11 : decode cX5_states 11 = .ok (.bipush (-101), 2) := by decide +kernel
theorem dX5_states_13 : decode cX5_states 13 = .ok (.ireturn, 1) := by decide +kernel
theorem dX5_states_14 : decode cX5_states 14 = .ok (.iload_n 1, 1) := by decide +kernel
theorem dX5_states_15 : decode cX5_states 15 = .ok (.bipush 42, 2) := by decide +kernel
theorem dX5_states_17 : decode cX5_states 17 = .ok (.invokestatic 98, 3) := by decide +kernel
theorem dX5_states_20 : decode cX5_states 20 = .ok (.ifCond .ne 6, 3) := by decide +kernel
theorem dX5_states_23 : decode cX5_states 23 = .ok (.bipush (-102), 2) := by decide +kernel
theorem dX5_states_25 : decode cX5_states 25 = .ok (.ireturn, 1) := by decide +kernel
theorem dX5_states_26 : decode cX5_states 26 = .ok (.aload_n 0, 1) := by decide +kernel
theorem dX5_states_27 : decode cX5_states 27 = .ok (.getfield 48, 3) := by decide +kernel
theorem dX5_states_30 : decode cX5_states 30 = .ok (.ifCond .eq 19, 3) := by decide +kernel
theorem dX5_states_33 : decode cX5_states 33 = .ok (.aload_n 0, 1) := by decide +kernel
theorem dX5_states_34 : decode cX5_states 34 = .ok (.getfield 37, 3) := by decide +kernel
theorem dX5_states_37 : decode cX5_states 37 = .ok (.getfield 102, 3) := by decide +kernel
theorem dX5_states_40 : decode cX5_states 40 = .ok (.iload_n 1, 1) := by decide +kernel
theorem dX5_states_41 : decode cX5_states 41 = .ok (.iconst 5, 1) := by decide +kernel
theorem dX5_states_42 : decode cX5_states 42 = .ok (.imul, 1) := by decide +kernel
theorem dX5_states_43 : decode cX5_states 43 = .ok (.iload_n 2, 1) := by decide +kernel
theorem dX5_states_44 : decode cX5_states 44 = .ok (.iadd, 1) := by decide +kernel
theorem dX5_states_45 : decode cX5_states 45 = .ok (.iaload, 1) := by decide +kernel
theorem dX5_states_46 : decode cX5_states 46 = .ok (.goto 5, 3) := by decide +kernel
theorem dX5_states_49 : decode cX5_states 49 = .ok (.bipush (-103), 2) := by decide +kernel
theorem dX5_states_51 : decode cX5_states 51 = .ok (.ireturn, 1) := by decide +kernel
theorem dX5_nodes_0 : decode cX5_nodes 0 = .ok (.iload_n 1, 1) := by decide +kernel
theorem dX5_nodes_1 : decode cX5_nodes 1 = .ok (.bipush 43, 2) := by decide +kernel
theorem dX5_nodes_3 : decode cX5_nodes 3 = .ok (.invokestatic 98, 3) := by decide +kernel
theorem dX5_nodes_6 : decode cX5_nodes 6 = .ok (.ifCond .ne 6, 3) := by decide +kernel
theorem dX5_nodes_9 : decode cX5_nodes 9 = .ok (.bipush (-102), 2) := by decide +kernel
theorem dX5_nodes_11 : decode cX5_nodes 11 = .ok (.ireturn, 1) := by decide +kernel
theorem dX5_nodes_12 : decode cX5_nodes 12 = .ok (.aload_n 0, 1) := by decide +kernel
theorem dX5_nodes_13 : decode cX5_nodes 13 = .ok (.getfield 48, 3) := by decide +kernel
theorem dX5_nodes_16 : decode cX5_nodes 16 = .ok (.ifCond .ne 6, 3) := by decide +kernel
theorem dX5_nodes_19 : decode cX5_nodes 19 = .ok (.bipush (-103), 2) := by decide +kernel
theorem dX5_nodes_21 : decode cX5_nodes 21 = .ok (.ireturn, 1) := by decide +kernel
theorem dX5_nodes_22 : decode cX5_nodes 22 = .ok (.iload_n 1, 1) := by decide +kernel
theorem dX5_nodes_23 : decode cX5_nodes 23 = .ok (.bipush 42, 2) := by decide +kernel
theorem dX5_nodes_25 : decode cX5_nodes 25 = .ok (.if_icmp .ne 13, 3) := by decide +kernel
theorem dX5_nodes_28 : decode cX5_nodes 28 = .ok (.aload_n 0, 1) := by decide +kernel
theorem dX5_nodes_29 : decode cX5_nodes 29 = .ok (.getfield 37, 3) := by decide +kernel
theorem dX5_nodes_32 : decode cX5_nodes 32 = .ok (.getfield 105, 3) := by decide +kernel
theorem dX5_nodes_35 : decode cX5_nodes 35 = .ok (.goto 12, 3) := by decide +kernel
theorem dX5_nodes_38 : decode cX5_nodes 38 = .ok (.aload_n 0, 1) := by decide +kernel
theorem dX5_nodes_39 : decode cX5_nodes 39 = .ok (.getfield 37, 3) := by decide +kernel
theorem dX5_nodes_42 : decode cX5_nodes 42 = .ok (.getfield 108, 3) := by decide +kernel
theorem dX5_nodes_45 : decode cX5_nodes 45 = .ok (.iload_n 1, 1) := by decide +kernel
theorem dX5_nodes_46 : decode cX5_nodes 46 = .ok (.iaload, 1) := by decide +kernel
theorem dX5_nodes_47 : decode cX5_nodes 47 = .ok (.ireturn, 1) := by decide +kernel
theorem dX5_atOnce_0 : decode cX5_atOnce 0 = .ok (.iload_n 1, 1) := by decide +kernel
theorem dX5_atOnce_1 : decode cX5_atOnce 1 = .ok (.iconst 3, 1) := by decide +kernel
theorem dX5_atOnce_2 : decode cX5_atOnce 2 = .ok (.invokestatic 98, 3) := by decide +kernel
theorem dX5_atOnce_5 : decode cX5_atOnce 5 = .ok (.ifCond .ne 6, 3) := by decide +kernel
theorem dX5_atOnce_8 : decode cX5_atOnce 8 = .ok (.bipush (-102), 2) := by decide +kernel
theorem dX5_atOnce_10 : decode cX5_atOnce 10 = .ok (.ireturn, 1) := by decide +kernel
theorem dX5_atOnce_11 : decode cX5_atOnce 11 = .ok (.aload_n 0, 1) := by decide +kernel
theorem dX5_atOnce_12 : decode cX5_atOnce 12 = .ok (.getfield 48, 3) := by decide +kernel
theorem dX5_atOnce_15 : decode cX5_atOnce 15 = .ok (.ifCond .ne 6, 3) := by decide +kernel
theorem dX5_atOnce_18 : decode cX5_atOnce 18 = .ok (.bipush (-103), 2) := by decide +kernel
theorem dX5_atOnce_20 : decode cX5_atOnce 20 = .ok (.ireturn, 1) := by decide +kernel
theorem dX5_atOnce_21 : decode cX5_atOnce 21 = .ok (.iload_n 1, 1) := by decide +kernel
theorem dX5_atOnce_22 : decode cX5_atOnce 22 = .ok (.lookupswitch 42 #[(0, 26), (1, 34)], 26) := by decide +kernel
theorem dX5_atOnce_48 : decode cX5_atOnce 48 = .ok (.aload_n 0, 1) := by decide +kernel
theorem dX5_atOnce_49 : decode cX5_atOnce 49 = .ok (.getfield 37, 3) := by decide +kernel
theorem dX5_atOnce_52 : decode cX5_atOnce 52 = .ok (.getfield 111, 3) := by decide +kernel
theorem dX5_atOnce_55 : decode cX5_atOnce 55 = .ok (.ireturn, 1) := by decide +kernel
theorem dX5_atOnce_56 : decode cX5_atOnce 56 = .ok (.aload_n 0, 1) := by decide +kernel
theorem dX5_atOnce_57 : decode cX5_atOnce 57 = .ok (.getfield 37, 3) := by decide +kernel
theorem dX5_atOnce_60 : decode cX5_atOnce 60 = .ok (.getfield 114, 3) := by decide +kernel
theorem dX5_atOnce_63 : decode cX5_atOnce 63 = .ok (.ireturn, 1) := by decide +kernel
theorem dX5_atOnce_64 : decode cX5_atOnce 64 = .ok (.aload_n 0, 1) := by decide +kernel
theorem dX5_atOnce_65 : decode cX5_atOnce 65 = .ok (.getfield 37, 3) := by decide +kernel
theorem dX5_atOnce_68 : decode cX5_atOnce 68 = .ok (.getfield 117, 3) := by decide +kernel
theorem dX5_atOnce_71 : decode cX5_atOnce 71 = .ok (.ireturn, 1) := by decide +kernel
theorem dX5_run_0 : decode cX5_run 0 = .ok (.iload_n 2, 1) := by decide +kernel
theorem dX5_run_1 : decode cX5_run 1 = .ok (.iconst 1, 1) := by decide +kernel
theorem dX5_run_2 : decode cX5_run 2 = .ok (.if_icmp .lt 9, 3) := by decide +kernel
theorem dX5_run_5 : decode cX5_run 5 = .ok (.iload_n 2, 1) := by decide +kernel
theorem dX5_run_6 : decode cX5_run 6 = .ok (.bipush 100, 2) := by decide +kernel
theorem dX5_run_8 : decode cX5_run 8 = .ok (.if_icmp .le 6, 3) := by decide +kernel
theorem dX5_run_11 : decode cX5_run 11 = .ok (.bipush (-102), 2) := by decide +kernel
theorem dX5_run_13 : decode cX5_run 13 = .ok (.ireturn, 1) := by decide +kernel
theorem dX5_run_14 : decode cX5_run 14 = .ok (.aload_n 0, 1) := by decide +kernel
theorem dX5_run_15 : decode cX5_run 15 = .ok (.getfield 44, 3) := by decide +kernel
theorem dX5_run_18 : decode cX5_run 18 = .ok (.aload_n 0, 1) := by decide +kernel
theorem dX5_run_19 : decode cX5_run 19 = .ok (.getfield 28, 3) := by decide +kernel
theorem dX5_run_22 : decode cX5_run 22 = .ok (.iload_n 1, 1) := by decide +kernel
theorem dX5_run_23 : decode cX5_run 23 = .ok (.iload_n 2, 1) := by decide +kernel
theorem dX5_run_24 : decode cX5_run 24 = .ok (.invokevirtual 120, 3) := by decide +kernel
theorem dX5_run_27 : decode cX5_run 27 = .ok (.aload_n 0, 1) := by decide +kernel
theorem dX5_run_28 : decode cX5_run 28 = .ok (.getfield 44, 3) := by decide +kernel
theorem dX5_run_31 : decode cX5_run 31 = .ok (.aload_n 0, 1) := by decide +kernel
theorem dX5_run_32 : decode cX5_run 32 = .ok (.getfield 12, 3) := by decide +kernel
theorem dX5_run_35 : decode cX5_run 35 = .ok (.getfield 59, 3) := by decide +kernel
theorem dX5_run_38 : decode cX5_run 38 = .ok (.putfield 124, 3) := by decide +kernel
theorem dX5_run_41 : decode cX5_run 41 = .ok (.aload_n 0, 1) := by decide +kernel
theorem dX5_run_42 : decode cX5_run 42 = .ok (.getfield 44, 3) := by decide +kernel
theorem dX5_run_45 : decode cX5_run 45 = .ok (.getfield 127, 3) := by decide +kernel
theorem dX5_run_48 : decode cX5_run 48 = .ok (.ireturn, 1) := by decide +kernel
theorem dX5_ran_0 : decode cX5_ran 0 = .ok (.iload_n 1, 1) := by decide +kernel
theorem dX5_ran_1 : decode cX5_ran 1 = .ok (.aload_n 0, 1) := by decide +kernel
theorem dX5_ran_2 : decode cX5_ran 2 = .ok (.getfield 44, 3) := by decide +kernel
theorem dX5_ran_5 : decode cX5_ran 5 = .ok (.getfield 127, 3) := by decide +kernel
theorem dX5_ran_8 : decode cX5_ran 8 = .ok (.invokestatic 98, 3) := by decide +kernel
theorem dX5_ran_11 : decode cX5_ran 11 = .ok (.ifCond .eq 15, 3) := by decide +kernel
theorem dX5_ran_14 : decode cX5_ran 14 = .ok (.aload_n 0, 1) := by decide +kernel
theorem dX5_ran_15 : decode cX5_ran 15 = .ok (.getfield 44, 3) := by decide +kernel
theorem dX5_ran_18 : decode cX5_ran 18 = .ok (.getfield 130, 3) := by decide +kernel
theorem dX5_ran_21 : decode cX5_ran 21 = .ok (.iload_n 1, 1) := by decide +kernel
theorem dX5_ran_22 : decode cX5_ran 22 = .ok (.iaload, 1) := by decide +kernel
theorem dX5_ran_23 : decode cX5_ran 23 = .ok (.goto 4, 3) := by decide +kernel
theorem dX5_ran_26 : decode cX5_ran 26 = .ok (.iconst (-1), 1) := by decide +kernel
theorem dX5_ran_27 : decode cX5_ran 27 = .ok (.ireturn, 1) := by decide +kernel
theorem dX5_came_0 : decode cX5_came 0 = .ok (.iload_n 1, 1) := by decide +kernel
theorem dX5_came_1 : decode cX5_came 1 = .ok (.bipush 7, 2) := by decide +kernel
theorem dX5_came_3 : decode cX5_came 3 = .ok (.invokestatic 98, 3) := by decide +kernel
theorem dX5_came_6 : decode cX5_came 6 = .ok (.ifCond .ne 6, 3) := by decide +kernel
theorem dX5_came_9 : decode cX5_came 9 = .ok (.bipush (-102), 2) := by decide +kernel
theorem dX5_came_11 : decode cX5_came 11 = .ok (.ireturn, 1) := by decide +kernel
theorem dX5_came_12 : decode cX5_came 12 = .ok (.aload_n 0, 1) := by decide +kernel
theorem dX5_came_13 : decode cX5_came 13 = .ok (.getfield 44, 3) := by decide +kernel
theorem dX5_came_16 : decode cX5_came 16 = .ok (.getfield 133, 3) := by decide +kernel
theorem dX5_came_19 : decode cX5_came 19 = .ok (.ifCond .ne 6, 3) := by decide +kernel
theorem dX5_came_22 : decode cX5_came 22 = .ok (.bipush (-103), 2) := by decide +kernel
theorem dX5_came_24 : decode cX5_came 24 = .ok (.ireturn, 1) := by decide +kernel
theorem dX5_came_25 : decode cX5_came 25 = .ok (.iload_n 1, 1) := by decide +kernel
theorem dX5_came_26 : decode cX5_came 26 = .ok (.ifCond .ne 14, 3) := by decide +kernel
theorem dX5_came_29 : decode cX5_came 29 = .ok (.aload_n 0, 1) := by decide +kernel
theorem dX5_came_30 : decode cX5_came 30 = .ok (.getfield 44, 3) := by decide +kernel
theorem dX5_came_33 : decode cX5_came 33 = .ok (.getfield 136, 3) := by decide +kernel
theorem dX5_came_36 : decode cX5_came 36 = .ok (.invokestatic 139, 3) := by decide +kernel
theorem dX5_came_39 : decode cX5_came 39 = .ok (.ireturn, 1) := by decide +kernel
theorem dX5_came_40 : decode cX5_came 40 = .ok (.iload_n 1, 1) := by decide +kernel
theorem dX5_came_41 : decode cX5_came 41 = .ok (.iconst 1, 1) := by decide +kernel
theorem dX5_came_42 : decode cX5_came 42 = .ok (.if_icmp .ne 11, 3) := by decide +kernel
theorem dX5_came_45 : decode cX5_came 45 = .ok (.aload_n 0, 1) := by decide +kernel
theorem dX5_came_46 : decode cX5_came 46 = .ok (.getfield 44, 3) := by decide +kernel
theorem dX5_came_49 : decode cX5_came 49 = .ok (.getfield 143, 3) := by decide +kernel
theorem dX5_came_52 : decode cX5_came 52 = .ok (.ireturn, 1) := by decide +kernel
theorem dX5_came_53 : decode cX5_came 53 = .ok (.iload_n 1, 1) := by decide +kernel
theorem dX5_came_54 : decode cX5_came 54 = .ok (.iconst 2, 1) := by decide +kernel
theorem dX5_came_55 : decode cX5_came 55 = .ok (.isub, 1) := by decide +kernel
theorem dX5_came_56 : decode cX5_came 56 = .ok (.istore_n 2, 1) := by decide +kernel
theorem dX5_came_57 : decode cX5_came 57 = .ok (.iload_n 2, 1) := by decide +kernel
theorem dX5_came_58 : decode cX5_came 58 = .ok (.aload_n 0, 1) := by decide +kernel
theorem dX5_came_59 : decode cX5_came 59 = .ok (.getfield 44, 3) := by decide +kernel
theorem dX5_came_62 : decode cX5_came 62 = .ok (.getfield 124, 3) := by decide +kernel
theorem dX5_came_65 : decode cX5_came 65 = .ok (.if_icmp .ge 20, 3) := by decide +kernel
theorem dX5_came_68 : decode cX5_came 68 = .ok (.aload_n 0, 1) := by decide +kernel
theorem dX5_came_69 : decode cX5_came 69 = .ok (.getfield 44, 3) := by decide +kernel
theorem dX5_came_72 : decode cX5_came 72 = .ok (.getfield 136, 3) := by decide +kernel
theorem dX5_came_75 : decode cX5_came 75 = .ok (.invokestatic 146, 3) := by decide +kernel
theorem dX5_came_78 : decode cX5_came 78 = .ok (.iload_n 2, 1) := by decide +kernel
theorem dX5_came_79 : decode cX5_came 79 = .ok (.invokestatic 149, 3) := by decide +kernel
theorem dX5_came_82 : decode cX5_came 82 = .ok (.goto 5, 3) := by decide +kernel
theorem dX5_came_85 : decode cX5_came 85 = .ok (.bipush (-103), 2) := by decide +kernel
theorem dX5_came_87 : decode cX5_came 87 = .ok (.ireturn, 1) := by decide +kernel
theorem dX5_told_0 : decode cX5_told 0 = .ok (.aload_n 0, 1) := by decide +kernel
theorem dX5_told_1 : decode cX5_told 1 = .ok (.getfield 19, 3) := by decide +kernel
theorem dX5_told_4 : decode cX5_told 4 = .ok (.iload_n 1, 1) := by decide +kernel
theorem dX5_told_5 : decode cX5_told 5 = .ok (.invokevirtual 76, 3) := by decide +kernel
theorem dX5_told_8 : decode cX5_told 8 = .ok (.ifCond .ne 6, 3) := by decide +kernel
theorem dX5_told_11 : decode cX5_told 11 = .ok (.bipush (-102), 2) := by decide +kernel
theorem dX5_told_13 : decode cX5_told 13 = .ok (.ireturn, 1) := by decide +kernel
theorem dX5_told_14 : decode cX5_told 14 = .ok (.iload_n 2, 1) := by decide +kernel
theorem dX5_told_15 : decode cX5_told 15 = .ok (.tableswitch 91 0 4 #[33, 43, 53, 63, 73], 33) := by decide +kernel
theorem dX5_told_48 : decode cX5_told 48 = .ok (.aload_n 0, 1) := by decide +kernel
theorem dX5_told_49 : decode cX5_told 49 = .ok (.getfield 19, 3) := by decide +kernel
theorem dX5_told_52 : decode cX5_told 52 = .ok (.getfield 77, 3) := by decide +kernel
theorem dX5_told_55 : decode cX5_told 55 = .ok (.iload_n 1, 1) := by decide +kernel
theorem dX5_told_56 : decode cX5_told 56 = .ok (.iaload, 1) := by decide +kernel
theorem dX5_told_57 : decode cX5_told 57 = .ok (.ireturn, 1) := by decide +kernel
theorem dX5_told_58 : decode cX5_told 58 = .ok (.aload_n 0, 1) := by decide +kernel
theorem dX5_told_59 : decode cX5_told 59 = .ok (.getfield 19, 3) := by decide +kernel
theorem dX5_told_62 : decode cX5_told 62 = .ok (.getfield 152, 3) := by decide +kernel
theorem dX5_told_65 : decode cX5_told 65 = .ok (.iload_n 1, 1) := by decide +kernel
theorem dX5_told_66 : decode cX5_told 66 = .ok (.iaload, 1) := by decide +kernel
theorem dX5_told_67 : decode cX5_told 67 = .ok (.ireturn, 1) := by decide +kernel
theorem dX5_told_68 : decode cX5_told 68 = .ok (.aload_n 0, 1) := by decide +kernel
theorem dX5_told_69 : decode cX5_told 69 = .ok (.getfield 19, 3) := by decide +kernel
theorem dX5_told_72 : decode cX5_told 72 = .ok (.getfield 155, 3) := by decide +kernel
theorem dX5_told_75 : decode cX5_told 75 = .ok (.iload_n 1, 1) := by decide +kernel
theorem dX5_told_76 : decode cX5_told 76 = .ok (.iaload, 1) := by decide +kernel
theorem dX5_told_77 : decode cX5_told 77 = .ok (.ireturn, 1) := by decide +kernel
theorem dX5_told_78 : decode cX5_told 78 = .ok (.aload_n 0, 1) := by decide +kernel
theorem dX5_told_79 : decode cX5_told 79 = .ok (.getfield 19, 3) := by decide +kernel
theorem dX5_told_82 : decode cX5_told 82 = .ok (.getfield 158, 3) := by decide +kernel
theorem dX5_told_85 : decode cX5_told 85 = .ok (.iload_n 1, 1) := by decide +kernel
theorem dX5_told_86 : decode cX5_told 86 = .ok (.iaload, 1) := by decide +kernel
theorem dX5_told_87 : decode cX5_told 87 = .ok (.ireturn, 1) := by decide +kernel
theorem dX5_told_88 : decode cX5_told 88 = .ok (.aload_n 0, 1) := by decide +kernel
theorem dX5_told_89 : decode cX5_told 89 = .ok (.getfield 19, 3) := by decide +kernel
theorem dX5_told_92 : decode cX5_told 92 = .ok (.getfield 161, 3) := by decide +kernel
theorem dX5_told_95 : decode cX5_told 95 = .ok (.iload_n 1, 1) := by decide +kernel
theorem dX5_told_96 : decode cX5_told 96 = .ok (.baload, 1) := by decide +kernel
theorem dX5_told_97 : decode cX5_told 97 = .ok (.ifCond .eq 7, 3) := by decide +kernel
theorem dX5_told_100 : decode cX5_told 100 = .ok (.iconst 1, 1) := by decide +kernel
theorem dX5_told_101 : decode cX5_told 101 = .ok (.goto 4, 3) := by decide +kernel
theorem dX5_told_104 : decode cX5_told 104 = .ok (.iconst 0, 1) := by decide +kernel
theorem dX5_told_105 : decode cX5_told 105 = .ok (.ireturn, 1) := by decide +kernel
theorem dX5_told_106 : decode cX5_told 106 = .ok (.bipush (-102), 2) := by decide +kernel
theorem dX5_told_108 : decode cX5_told 108 = .ok (.ireturn, 1) := by decide +kernel
theorem dX5_count_0 : decode cX5_count 0 = .ok (.iload_n 1, 1) := by decide +kernel
theorem dX5_count_1 : decode cX5_count 1 = .ok (.tableswitch 56 0 2 #[27, 35, 43], 27) := by decide +kernel
theorem dX5_count_28 : decode cX5_count 28 = .ok (.aload_n 0, 1) := by decide +kernel
theorem dX5_count_29 : decode cX5_count 29 = .ok (.getfield 12, 3) := by decide +kernel
theorem dX5_count_32 : decode cX5_count 32 = .ok (.getfield 59, 3) := by decide +kernel
theorem dX5_count_35 : decode cX5_count 35 = .ok (.ireturn, 1) := by decide +kernel
theorem dX5_count_36 : decode cX5_count 36 = .ok (.aload_n 0, 1) := by decide +kernel
theorem dX5_count_37 : decode cX5_count 37 = .ok (.getfield 19, 3) := by decide +kernel
theorem dX5_count_40 : decode cX5_count 40 = .ok (.getfield 71, 3) := by decide +kernel
theorem dX5_count_43 : decode cX5_count 43 = .ok (.ireturn, 1) := by decide +kernel
theorem dX5_count_44 : decode cX5_count 44 = .ok (.aload_n 0, 1) := by decide +kernel
theorem dX5_count_45 : decode cX5_count 45 = .ok (.getfield 48, 3) := by decide +kernel
theorem dX5_count_48 : decode cX5_count 48 = .ok (.ifCond .eq 7, 3) := by decide +kernel
theorem dX5_count_51 : decode cX5_count 51 = .ok (.iconst 1, 1) := by decide +kernel
theorem dX5_count_52 : decode cX5_count 52 = .ok (.goto 4, 3) := by decide +kernel
theorem dX5_count_55 : decode cX5_count 55 = .ok (.iconst 0, 1) := by decide +kernel
theorem dX5_count_56 : decode cX5_count 56 = .ok (.ireturn, 1) := by decide +kernel
theorem dX5_count_57 : decode cX5_count 57 = .ok (.bipush (-102), 2) := by decide +kernel
theorem dX5_count_59 : decode cX5_count 59 = .ok (.ireturn, 1) := by decide +kernel
theorem dX5_clear_0 : decode cX5_clear 0 = .ok (.aload_n 0, 1) := by decide +kernel
theorem dX5_clear_1 : decode cX5_clear 1 = .ok (.getfield 19, 3) := by decide +kernel
theorem dX5_clear_4 : decode cX5_clear 4 = .ok (.getfield 71, 3) := by decide +kernel
theorem dX5_clear_7 : decode cX5_clear 7 = .ok (.istore_n 1, 1) := by decide +kernel
theorem dX5_clear_8 : decode cX5_clear 8 = .ok (.aload_n 0, 1) := by decide +kernel
theorem dX5_clear_9 : decode cX5_clear 9 = .ok (.getfield 12, 3) := by decide +kernel
theorem dX5_clear_12 : decode cX5_clear 12 = .ok (.iconst 0, 1) := by decide +kernel
theorem dX5_clear_13 : decode cX5_clear 13 = .ok (.putfield 59, 3) := by decide +kernel
theorem dX5_clear_16 : decode cX5_clear 16 = .ok (.aload_n 0, 1) := by decide +kernel
theorem dX5_clear_17 : decode cX5_clear 17 = .ok (.getfield 19, 3) := by decide +kernel
theorem dX5_clear_20 : decode cX5_clear 20 = .ok (.iconst 0, 1) := by decide +kernel
theorem dX5_clear_21 : decode cX5_clear 21 = .ok (.putfield 71, 3) := by decide +kernel
theorem dX5_clear_24 : decode cX5_clear 24 = .ok (.aload_n 0, 1) := by decide +kernel
theorem dX5_clear_25 : decode cX5_clear 25 = .ok (.getfield 44, 3) := by decide +kernel
theorem dX5_clear_28 : decode cX5_clear 28 = .ok (.invokevirtual 165, 3) := by decide +kernel
theorem dX5_clear_31 : decode cX5_clear 31 = .ok (.aload_n 0, 1) := by decide +kernel
theorem dX5_clear_32 : decode cX5_clear 32 = .ok (.iconst 0, 1) := by decide +kernel
theorem dX5_clear_33 : decode cX5_clear 33 = .ok (.putfield 48, 3) := by decide +kernel
theorem dX5_clear_36 : decode cX5_clear 36 = .ok (.iload_n 1, 1) := by decide +kernel
theorem dX5_clear_37 : decode cX5_clear 37 = .ok (.ireturn, 1) := by decide +kernel
theorem dX5_refusalOf_0 : decode cX5_refusalOf 0 = .ok (.iload_n 1, 1) := by decide +kernel
theorem dX5_refusalOf_1 : decode cX5_refusalOf 1 = .ok (.invokestatic 168, 3) := by decide +kernel
theorem dX5_refusalOf_4 : decode cX5_refusalOf 4 = .ok (.ifCond .eq 17, 3) := by decide +kernel
theorem dX5_refusalOf_7 : decode cX5_refusalOf 7 = .ok (.aload_n 0, 1) := by decide +kernel
theorem dX5_refusalOf_8 : decode cX5_refusalOf 8 = .ok (.getfield 12, 3) := by decide +kernel
theorem dX5_refusalOf_11 : decode cX5_refusalOf 11 = .ok (.iload_n 2, 1) := by decide +kernel
theorem dX5_refusalOf_12 : decode cX5_refusalOf 12 = .ok (.invokevirtual 52, 3) := by decide +kernel
theorem dX5_refusalOf_15 : decode cX5_refusalOf 15 = .ok (.ifCond .ne 6, 3) := by decide +kernel
theorem dX5_refusalOf_18 : decode cX5_refusalOf 18 = .ok (.bipush (-101), 2) := by decide +kernel
theorem dX5_refusalOf_20 : decode cX5_refusalOf 20 = .ok (.ireturn, 1) := by decide +kernel
theorem dX5_refusalOf_21 : decode cX5_refusalOf 21 = .ok (.iload_n 1, 1) := by decide +kernel
theorem dX5_refusalOf_22 : decode cX5_refusalOf 22 = .ok (.ifCond .lt 9, 3) := by decide +kernel
theorem dX5_refusalOf_25 : decode cX5_refusalOf 25 = .ok (.iload_n 1, 1) := by decide +kernel
theorem dX5_refusalOf_26 : decode cX5_refusalOf 26 = .ok (.bipush 8, 2) := by decide +kernel
theorem dX5_refusalOf_28 : decode cX5_refusalOf 28 = .ok (.if_icmp .le 6, 3) := by decide +kernel
theorem dX5_refusalOf_31 : decode cX5_refusalOf 31 = .ok (.bipush (-102), 2) := by decide +kernel
theorem dX5_refusalOf_33 : decode cX5_refusalOf 33 = .ok (.ireturn, 1) := by decide +kernel
theorem dX5_refusalOf_34 : decode cX5_refusalOf 34 = .ok (.iload_n 1, 1) := by decide +kernel
theorem dX5_refusalOf_35 : decode cX5_refusalOf 35 = .ok (.invokestatic 171, 3) := by decide +kernel
theorem dX5_refusalOf_38 : decode cX5_refusalOf 38 = .ok (.ifCond .eq 15, 3) := by decide +kernel
theorem dX5_refusalOf_41 : decode cX5_refusalOf 41 = .ok (.iload_n 3, 1) := by decide +kernel
theorem dX5_refusalOf_42 : decode cX5_refusalOf 42 = .ok (.bipush 40, 2) := by decide +kernel
theorem dX5_refusalOf_44 : decode cX5_refusalOf 44 = .ok (.invokestatic 98, 3) := by decide +kernel
theorem dX5_refusalOf_47 : decode cX5_refusalOf 47 = .ok (.ifCond .ne 6, 3) := by decide +kernel
theorem dX5_refusalOf_50 : decode cX5_refusalOf 50 = .ok (.bipush (-102), 2) := by decide +kernel
theorem dX5_refusalOf_52 : decode cX5_refusalOf 52 = .ok (.ireturn, 1) := by decide +kernel
theorem dX5_refusalOf_53 : decode cX5_refusalOf 53 = .ok (.iload 4, 2) := by decide +kernel
theorem dX5_refusalOf_55 : decode cX5_refusalOf 55 = .ok (.iconst (-1), 1) := by decide +kernel
theorem dX5_refusalOf_56 : decode cX5_refusalOf 56 = .ok (.if_icmp .eq 16, 3) := by decide +kernel
theorem dX5_refusalOf_59 : decode cX5_refusalOf 59 = .ok (.iload 4, 2) := by decide +kernel
theorem dX5_refusalOf_61 : decode cX5_refusalOf 61 = .ok (.bipush 40, 2) := by decide +kernel
theorem dX5_refusalOf_63 : decode cX5_refusalOf 63 = .ok (.invokestatic 98, 3) := by decide +kernel
theorem dX5_refusalOf_66 : decode cX5_refusalOf 66 = .ok (.ifCond .ne 6, 3) := by decide +kernel
theorem dX5_refusalOf_69 : decode cX5_refusalOf 69 = .ok (.bipush (-102), 2) := by decide +kernel
theorem dX5_refusalOf_71 : decode cX5_refusalOf 71 = .ok (.ireturn, 1) := by decide +kernel
theorem dX5_refusalOf_72 : decode cX5_refusalOf 72 = .ok (.iload_n 1, 1) := by decide +kernel
theorem dX5_refusalOf_73 : decode cX5_refusalOf 73 = .ok (.iconst 3, 1) := by decide +kernel
theorem dX5_refusalOf_74 : decode cX5_refusalOf 74 = .ok (.if_icmp .ne 17, 3) := by decide +kernel
theorem dX5_refusalOf_77 : decode cX5_refusalOf 77 = .ok (.aload_n 0, 1) := by decide +kernel
theorem dX5_refusalOf_78 : decode cX5_refusalOf 78 = .ok (.getfield 12, 3) := by decide +kernel
theorem dX5_refusalOf_81 : decode cX5_refusalOf 81 = .ok (.iload_n 2, 1) := by decide +kernel
theorem dX5_refusalOf_82 : decode cX5_refusalOf 82 = .ok (.invokevirtual 56, 3) := by decide +kernel
theorem dX5_refusalOf_85 : decode cX5_refusalOf 85 = .ok (.ifCond .ne 6, 3) := by decide +kernel
theorem dX5_refusalOf_88 : decode cX5_refusalOf 88 = .ok (.bipush (-102), 2) := by decide +kernel
theorem dX5_refusalOf_90 : decode cX5_refusalOf 90 = .ok (.ireturn, 1) := by decide +kernel
theorem dX5_refusalOf_91 : decode cX5_refusalOf 91 = .ok (.iconst 0, 1) := by decide +kernel
theorem dX5_refusalOf_92 : decode cX5_refusalOf 92 = .ok (.ireturn, 1) := by decide +kernel
theorem dX5_refusalOfFinding_0 : decode cX5_refusalOfFinding 0 = .ok (.aload_n 0, 1) := by decide +kernel
theorem dX5_refusalOfFinding_1 : decode cX5_refusalOfFinding 1 = .ok (.getfield 12, 3) := by decide +kernel
theorem dX5_refusalOfFinding_4 : decode cX5_refusalOfFinding 4 = .ok (.iload_n 2, 1) := by decide +kernel
theorem dX5_refusalOfFinding_5 : decode cX5_refusalOfFinding 5 = .ok (.invokevirtual 52, 3) := by decide +kernel
theorem dX5_refusalOfFinding_8 : decode cX5_refusalOfFinding 8 = .ok (.ifCond .ne 6, 3) := by decide +kernel
theorem dX5_refusalOfFinding_11 : decode cX5_refusalOfFinding 11 = .ok (.bipush (-101), 2) := by decide +kernel
theorem dX5_refusalOfFinding_13 : decode cX5_refusalOfFinding 13 = .ok (.ireturn, 1) := by decide +kernel
theorem dX5_refusalOfFinding_14 : decode cX5_refusalOfFinding 14 = .ok (.iload_n 1, 1) := by decide +kernel
theorem dX5_refusalOfFinding_15 : decode cX5_refusalOfFinding 15 = .ok (.iconst 5, 1) := by decide +kernel
theorem dX5_refusalOfFinding_16 : decode cX5_refusalOfFinding 16 = .ok (.invokestatic 98, 3) := by decide +kernel
theorem dX5_refusalOfFinding_19 : decode cX5_refusalOfFinding 19 = .ok (.ifCond .ne 6, 3) := by decide +kernel
theorem dX5_refusalOfFinding_22 : decode cX5_refusalOfFinding 22 = .ok (.bipush (-102), 2) := by decide +kernel
theorem dX5_refusalOfFinding_24 : decode cX5_refusalOfFinding 24 = .ok (.ireturn, 1) := by decide +kernel
theorem dX5_refusalOfFinding_25 : decode cX5_refusalOfFinding 25 = .ok (.aload_n 0, 1) := by decide +kernel
theorem dX5_refusalOfFinding_26 : decode cX5_refusalOfFinding 26 = .ok (.getfield 48, 3) := by decide +kernel
theorem dX5_refusalOfFinding_29 : decode cX5_refusalOfFinding 29 = .ok (.ifCond .eq 7, 3) := by decide +kernel
theorem dX5_refusalOfFinding_32 : decode cX5_refusalOfFinding 32 = .ok (.iconst 0, 1) := by decide +kernel
theorem dX5_refusalOfFinding_33 : decode cX5_refusalOfFinding 33 = .ok (.goto 5, 3) := by decide +kernel
theorem dX5_refusalOfFinding_36 : decode cX5_refusalOfFinding 36 = .ok (.bipush (-103), 2) := by decide +kernel
theorem dX5_refusalOfFinding_38 : decode cX5_refusalOfFinding 38 = .ok (.ireturn, 1) := by decide +kernel
theorem dX5_actsOnThing_0 : decode cX5_actsOnThing 0 = .ok (.iload_n 0, 1) := by decide +kernel
theorem dX5_actsOnThing_1 : decode cX5_actsOnThing 1 = .ok (.ifCond .lt 12, 3) := by decide +kernel
theorem dX5_actsOnThing_4 : decode cX5_actsOnThing 4 = .ok (.iload_n 0, 1) := by decide +kernel
theorem dX5_actsOnThing_5 : decode cX5_actsOnThing 5 = .ok (.iconst 3, 1) := by decide +kernel
theorem dX5_actsOnThing_6 : decode cX5_actsOnThing 6 = .ok (.if_icmp .gt 7, 3) := by decide +kernel
theorem dX5_actsOnThing_9 : decode cX5_actsOnThing 9 = .ok (.iconst 1, 1) := by decide +kernel
theorem dX5_actsOnThing_10 : decode cX5_actsOnThing 10 = .ok (.goto 4, 3) := by decide +kernel
theorem dX5_actsOnThing_13 : decode cX5_actsOnThing 13 = .ok (.iconst 0, 1) := by decide +kernel
theorem dX5_actsOnThing_14 : decode cX5_actsOnThing 14 = .ok (.ireturn, 1) := by decide +kernel
theorem dX5_namesThing_0 : decode cX5_namesThing 0 = .ok (.iload_n 0, 1) := by decide +kernel
theorem dX5_namesThing_1 : decode cX5_namesThing 1 = .ok (.invokestatic 174, 3) := by decide +kernel
theorem dX5_namesThing_4 : decode cX5_namesThing 4 = .ok (.ifCond .ne 9, 3) := by decide +kernel
theorem dX5_namesThing_7 : decode cX5_namesThing 7 = .ok (.iload_n 0, 1) := by decide +kernel
theorem dX5_namesThing_8 : decode cX5_namesThing 8 = .ok (.bipush 8, 2) := by decide +kernel
theorem dX5_namesThing_10 : decode cX5_namesThing 10 = .ok (.if_icmp .ne 7, 3) := by decide +kernel
theorem dX5_namesThing_13 : decode cX5_namesThing 13 = .ok (.iconst 1, 1) := by decide +kernel
theorem dX5_namesThing_14 : decode cX5_namesThing 14 = .ok (.goto 4, 3) := by decide +kernel
theorem dX5_namesThing_17 : decode cX5_namesThing 17 = .ok (.iconst 0, 1) := by decide +kernel
theorem dX5_namesThing_18 : decode cX5_namesThing 18 = .ok (.ireturn, 1) := by decide +kernel
theorem dX5_namesStep_0 : decode cX5_namesStep 0 = .ok (.iload_n 0, 1) := by decide +kernel
theorem dX5_namesStep_1 : decode cX5_namesStep 1 = .ok (.iconst 4, 1) := by decide +kernel
theorem dX5_namesStep_2 : decode cX5_namesStep 2 = .ok (.if_icmp .eq 14, 3) := by decide +kernel
theorem dX5_namesStep_5 : decode cX5_namesStep 5 = .ok (.iload_n 0, 1) := by decide +kernel
theorem dX5_namesStep_6 : decode cX5_namesStep 6 = .ok (.iconst 5, 1) := by decide +kernel
theorem dX5_namesStep_7 : decode cX5_namesStep 7 = .ok (.if_icmp .eq 9, 3) := by decide +kernel
theorem dX5_namesStep_10 : decode cX5_namesStep 10 = .ok (.iload_n 0, 1) := by decide +kernel
theorem dX5_namesStep_11 : decode cX5_namesStep 11 = .ok (.bipush 8, 2) := by decide +kernel
theorem dX5_namesStep_13 : decode cX5_namesStep 13 = .ok (.if_icmp .ne 7, 3) := by decide +kernel
theorem dX5_namesStep_16 : decode cX5_namesStep 16 = .ok (.iconst 1, 1) := by decide +kernel
theorem dX5_namesStep_17 : decode cX5_namesStep 17 = .ok (.goto 4, 3) := by decide +kernel
theorem dX5_namesStep_20 : decode cX5_namesStep 20 = .ok (.iconst 0, 1) := by decide +kernel
theorem dX5_namesStep_21 : decode cX5_namesStep 21 = .ok (.ireturn, 1) := by decide +kernel
theorem dX5_isWithin_0 : decode cX5_isWithin 0 = .ok (.iload_n 0, 1) := by decide +kernel
theorem dX5_isWithin_1 : decode cX5_isWithin 1 = .ok (.ifCond .lt 12, 3) := by decide +kernel
theorem dX5_isWithin_4 : decode cX5_isWithin 4 = .ok (.iload_n 0, 1) := by decide +kernel
theorem dX5_isWithin_5 : decode cX5_isWithin 5 = .ok (.iload_n 1, 1) := by decide +kernel
theorem dX5_isWithin_6 : decode cX5_isWithin 6 = .ok (.if_icmp .ge 7, 3) := by decide +kernel
theorem dX5_isWithin_9 : decode cX5_isWithin 9 = .ok (.iconst 1, 1) := by decide +kernel
theorem dX5_isWithin_10 : decode cX5_isWithin 10 = .ok (.goto 4, 3) := by decide +kernel
theorem dX5_isWithin_13 : decode cX5_isWithin 13 = .ok (.iconst 0, 1) := by decide +kernel
theorem dX5_isWithin_14 : decode cX5_isWithin 14 = .ok (.ireturn, 1) := by decide +kernel
theorem dX5_nodeOf_0 : decode cX5_nodeOf 0 = .ok (.iload_n 0, 1) := by decide +kernel
theorem dX5_nodeOf_1 : decode cX5_nodeOf 1 = .ok (.bipush 10, 2) := by decide +kernel
theorem dX5_nodeOf_3 : decode cX5_nodeOf 3 = .ok (.ishl, 1) := by decide +kernel
theorem dX5_nodeOf_4 : decode cX5_nodeOf 4 = .ok (.iload_n 1, 1) := by decide +kernel
theorem dX5_nodeOf_5 : decode cX5_nodeOf 5 = .ok (.ior, 1) := by decide +kernel
theorem dX5_nodeOf_6 : decode cX5_nodeOf 6 = .ok (.ireturn, 1) := by decide +kernel
theorem dX5_placeOf_0 : decode cX5_placeOf 0 = .ok (.iload_n 0, 1) := by decide +kernel
theorem dX5_placeOf_1 : decode cX5_placeOf 1 = .ok (.bipush 10, 2) := by decide +kernel
theorem dX5_placeOf_3 : decode cX5_placeOf 3 = .ok (.ishr, 1) := by decide +kernel
theorem dX5_placeOf_4 : decode cX5_placeOf 4 = .ok (.ireturn, 1) := by decide +kernel
theorem dX5_allOf_0 : decode cX5_allOf 0 = .ok (.iload_n 0, 1) := by decide +kernel
theorem dX5_allOf_1 : decode cX5_allOf 1 = .ok (.sipush 1023, 3) := by decide +kernel
theorem dX5_allOf_4 : decode cX5_allOf 4 = .ok (.iand, 1) := by decide +kernel
theorem dX5_allOf_5 : decode cX5_allOf 5 = .ok (.ireturn, 1) := by decide +kernel
theorem dX5_stateIn_0 : decode cX5_stateIn 0 = .ok (.iload_n 0, 1) := by decide +kernel
theorem dX5_stateIn_1 : decode cX5_stateIn 1 = .ok (.iconst 2, 1) := by decide +kernel
theorem dX5_stateIn_2 : decode cX5_stateIn 2 = .ok (.iload_n 1, 1) := by decide +kernel
theorem dX5_stateIn_3 : decode cX5_stateIn 3 = .ok (.imul, 1) := by decide +kernel
theorem dX5_stateIn_4 : decode cX5_stateIn 4 = .ok (.ishr, 1) := by decide +kernel
theorem dX5_stateIn_5 : decode cX5_stateIn 5 = .ok (.iconst 3, 1) := by decide +kernel
theorem dX5_stateIn_6 : decode cX5_stateIn 6 = .ok (.iand, 1) := by decide +kernel
theorem dX5_stateIn_7 : decode cX5_stateIn 7 = .ok (.ireturn, 1) := by decide +kernel
theorem dX5_withState_0 : decode cX5_withState 0 = .ok (.iconst 2, 1) := by decide +kernel
theorem dX5_withState_1 : decode cX5_withState 1 = .ok (.iload_n 1, 1) := by decide +kernel
theorem dX5_withState_2 : decode cX5_withState 2 = .ok (.imul, 1) := by decide +kernel
theorem dX5_withState_3 : decode cX5_withState 3 = .ok (.istore_n 3, 1) := by decide +kernel
theorem dX5_withState_4 : decode cX5_withState 4 = .ok (.iload_n 0, 1) := by decide +kernel
theorem dX5_withState_5 : decode cX5_withState 5 = .ok (.iconst 3, 1) := by decide +kernel
theorem dX5_withState_6 : decode cX5_withState 6 = .ok (.iload_n 3, 1) := by decide +kernel
theorem dX5_withState_7 : decode cX5_withState 7 = .ok (.ishl, 1) := by decide +kernel
theorem dX5_withState_8 : decode cX5_withState 8 = .ok (.iconst (-1), 1) := by decide +kernel
theorem dX5_withState_9 : decode cX5_withState 9 = .ok (.ixor, 1) := by decide +kernel
theorem dX5_withState_10 : decode cX5_withState 10 = .ok (.iand, 1) := by decide +kernel
theorem dX5_withState_11 : decode cX5_withState 11 = .ok (.iload_n 2, 1) := by decide +kernel
theorem dX5_withState_12 : decode cX5_withState 12 = .ok (.iload_n 3, 1) := by decide +kernel
theorem dX5_withState_13 : decode cX5_withState 13 = .ok (.ishl, 1) := by decide +kernel
theorem dX5_withState_14 : decode cX5_withState 14 = .ok (.ior, 1) := by decide +kernel
theorem dX5_withState_15 : decode cX5_withState 15 = .ok (.ireturn, 1) := by decide +kernel
theorem dJ9_max_7cf53_0 : decode cJ9_max_7cf53 0 = .ok (.iload_n 0, 1) := by decide +kernel
theorem dJ9_max_7cf53_1 : decode cJ9_max_7cf53 1 = .ok (.iload_n 1, 1) := by decide +kernel
theorem dJ9_max_7cf53_2 : decode cJ9_max_7cf53 2 = .ok (.if_icmp .lt 7, 3) := by decide +kernel
theorem dJ9_max_7cf53_5 : decode cJ9_max_7cf53 5 = .ok (.iload_n 0, 1) := by decide +kernel
theorem dJ9_max_7cf53_6 : decode cJ9_max_7cf53 6 = .ok (.goto 4, 3) := by decide +kernel
theorem dJ9_max_7cf53_9 : decode cJ9_max_7cf53 9 = .ok (.iload_n 1, 1) := by decide +kernel
theorem dJ9_max_7cf53_10 : decode cJ9_max_7cf53 10 = .ok (.ireturn, 1) := by decide +kernel
theorem dJ7_fill_53178_0 : decode cJ7_fill_53178 0 = .ok (.iconst 0, 1) := by decide +kernel
theorem dJ7_fill_53178_1 : decode cJ7_fill_53178 1 = .ok (.istore_n 2, 1) := by decide +kernel
theorem dJ7_fill_53178_2 : decode cJ7_fill_53178 2 = .ok (.aload_n 0, 1) := by decide +kernel
theorem dJ7_fill_53178_3 : decode cJ7_fill_53178 3 = .ok (.arraylength, 1) := by decide +kernel
theorem dJ7_fill_53178_4 : decode cJ7_fill_53178 4 = .ok (.istore_n 3, 1) := by decide +kernel
theorem dJ7_fill_53178_5 : decode cJ7_fill_53178 5 = .ok (.iload_n 2, 1) := by decide +kernel
theorem dJ7_fill_53178_6 : decode cJ7_fill_53178 6 = .ok (.iload_n 3, 1) := by decide +kernel
theorem dJ7_fill_53178_7 : decode cJ7_fill_53178 7 = .ok (.if_icmp .ge 13, 3) := by decide +kernel
theorem dJ7_fill_53178_10 : decode cJ7_fill_53178 10 = .ok (.aload_n 0, 1) := by decide +kernel
theorem dJ7_fill_53178_11 : decode cJ7_fill_53178 11 = .ok (.iload_n 2, 1) := by decide +kernel
theorem dJ7_fill_53178_12 : decode cJ7_fill_53178 12 = .ok (.iload_n 1, 1) := by decide +kernel
theorem dJ7_fill_53178_13 : decode cJ7_fill_53178 13 = .ok (.iastore, 1) := by decide +kernel
theorem dJ7_fill_53178_14 : decode cJ7_fill_53178 14 = .ok (.iinc 2 1, 3) := by decide +kernel
theorem dJ7_fill_53178_17 : decode cJ7_fill_53178 17 = .ok (.goto (-12), 3) := by decide +kernel
theorem dJ7_fill_53178_20 : decode cJ7_fill_53178 20 = .ok (.return_, 1) := by decide +kernel
