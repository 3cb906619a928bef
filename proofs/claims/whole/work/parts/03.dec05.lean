theorem dX11_isLetter_27 : decode cX11_isLetter 27 = .ok (.ireturn, 1) := by decide +kernel
theorem dX11_wordOf_0 : decode cX11_wordOf 0 = .ok (.lload_n 0, 1) := by decide +kernel
theorem dX11_wordOf_1 : decode cX11_wordOf 1 = .ok (.ldc2_w 130, 3) := by decide +kernel
theorem dX11_wordOf_4 : decode cX11_wordOf 4 = .ok (.lcmp, 1) := by decide +kernel
theorem dX11_wordOf_5 : decode cX11_wordOf 5 = .ok (.ifCond .ne 5, 3) := by decide +kernel
theorem dX11_wordOf_8 : decode cX11_wordOf 8 = .ok (.iconst 0, 1) := by decide +kernel
theorem dX11_wordOf_9 : decode cX11_wordOf 9 = .ok (.ireturn, 1) := by decide +kernel
theorem dX11_wordOf_10 : decode cX11_wordOf 10 = .ok (.lload_n 0, 1) := by decide +kernel
theorem dX11_wordOf_11 : decode cX11_wordOf 11 = .ok (.ldc2_w 132, 3) := by decide +kernel
theorem dX11_wordOf_14 : decode cX11_wordOf 14 = .ok (.lcmp, 1) := by decide +kernel
theorem dX11_wordOf_15 : decode cX11_wordOf 15 = .ok (.ifCond .ne 5, 3) := by decide +kernel
theorem dX11_wordOf_18 : decode cX11_wordOf 18 = .ok (.iconst 1, 1) := by decide +kernel
theorem dX11_wordOf_19 : decode cX11_wordOf 19 = .ok (.ireturn, 1) := by decide +kernel
theorem dX11_wordOf_20 : decode cX11_wordOf 20 = .ok (.lload_n 0, 1) := by decide +kernel
theorem dX11_wordOf_21 : decode cX11_wordOf 21 = .ok (.ldc2_w 134, 3) := by decide +kernel
theorem dX11_wordOf_24 : decode cX11_wordOf 24 = .ok (.lcmp, 1) := by decide +kernel
theorem dX11_wordOf_25 : decode cX11_wordOf 25 = .ok (.ifCond .ne 5, 3) := by decide +kernel
theorem dX11_wordOf_28 : decode cX11_wordOf 28 = .ok (.iconst 2, 1) := by decide +kernel
theorem dX11_wordOf_29 : decode cX11_wordOf 29 = .ok (.ireturn, 1) := by decide +kernel
theorem dX11_wordOf_30 : decode cX11_wordOf 30 = .ok (.lload_n 0, 1) := by decide +kernel
theorem dX11_wordOf_31 : decode cX11_wordOf 31 = .ok (.ldc2_w 136, 3) := by decide +kernel
theorem dX11_wordOf_34 : decode cX11_wordOf 34 = .ok (.lcmp, 1) := by decide +kernel
theorem dX11_wordOf_35 : decode cX11_wordOf 35 = .ok (.ifCond .ne 5, 3) := by decide +kernel
theorem dX11_wordOf_38 : decode cX11_wordOf 38 = .ok (.iconst 3, 1) := by decide +kernel
theorem dX11_wordOf_39 : decode cX11_wordOf 39 = .ok (.ireturn, 1) := by decide +kernel
theorem dX11_wordOf_40 : decode cX11_wordOf 40 = .ok (.lload_n 0, 1) := by decide +kernel
theorem dX11_wordOf_41 : decode cX11_wordOf 41 = .ok (.ldc2_w 138, 3) := by decide +kernel
theorem dX11_wordOf_44 : decode cX11_wordOf 44 = .ok (.lcmp, 1) := by decide +kernel
theorem dX11_wordOf_45 : decode cX11_wordOf 45 = .ok (.ifCond .ne 5, 3) := by decide +kernel
theorem dX11_wordOf_48 : decode cX11_wordOf 48 = .ok (.iconst 4, 1) := by decide +kernel
theorem dX11_wordOf_49 : decode cX11_wordOf 49 = .ok (.ireturn, 1) := by decide +kernel
theorem dX11_wordOf_50 : decode cX11_wordOf 50 = .ok (.lload_n 0, 1) := by decide +kernel
theorem dX11_wordOf_51 : decode cX11_wordOf 51 = .ok (.ldc2_w 140, 3) := by decide +kernel
theorem dX11_wordOf_54 : decode cX11_wordOf 54 = .ok (.lcmp, 1) := by decide +kernel
theorem dX11_wordOf_55 : decode cX11_wordOf 55 = .ok (.ifCond .ne 5, 3) := by decide +kernel
theorem dX11_wordOf_58 : decode cX11_wordOf 58 = .ok (.iconst 5, 1) := by decide +kernel
theorem dX11_wordOf_59 : decode cX11_wordOf 59 = .ok (.ireturn, 1) := by decide +kernel
theorem dX11_wordOf_60 : decode cX11_wordOf 60 = .ok (.lload_n 0, 1) := by decide +kernel
theorem dX11_wordOf_61 : decode cX11_wordOf 61 = .ok (.ldc2_w 142, 3) := by decide +kernel
theorem dX11_wordOf_64 : decode cX11_wordOf 64 = .ok (.lcmp, 1) := by decide +kernel
theorem dX11_wordOf_65 : decode cX11_wordOf 65 = .ok (.ifCond .ne 6, 3) := by decide +kernel
theorem dX11_wordOf_68 : decode cX11_wordOf 68 = .ok (.bipush 6, 2) := by decide +kernel
theorem dX11_wordOf_70 : decode cX11_wordOf 70 = .ok (.ireturn, 1) := by decide +kernel
theorem dX11_wordOf_71 : decode cX11_wordOf 71 = .ok (.lload_n 0, 1) := by decide +kernel
theorem dX11_wordOf_72 : decode cX11_wordOf 72 = .ok (.ldc2_w 144, 3) := by decide +kernel
theorem dX11_wordOf_75 : decode cX11_wordOf 75 = .ok (.lcmp, 1) := by decide +kernel
theorem dX11_wordOf_76 : decode cX11_wordOf 76 = .ok (.ifCond .ne 6, 3) := by decide +kernel
theorem dX11_wordOf_79 : decode cX11_wordOf 79 = .ok (.bipush 7, 2) := by decide +kernel
theorem dX11_wordOf_81 : decode cX11_wordOf 81 = .ok (.ireturn, 1) := by decide +kernel
theorem dX11_wordOf_82 : decode cX11_wordOf 82 = .ok (.lload_n 0, 1) := by decide +kernel
theorem dX11_wordOf_83 : decode cX11_wordOf 83 = .ok (.ldc2_w 146, 3) := by decide +kernel
theorem dX11_wordOf_86 : decode cX11_wordOf 86 = .ok (.lcmp, 1) := by decide +kernel
theorem dX11_wordOf_87 : decode cX11_wordOf 87 = .ok (.ifCond .ne 6, 3) := by decide +kernel
theorem dX11_wordOf_90 : decode cX11_wordOf 90 = .ok (.bipush 8, 2) := by decide +kernel
theorem dX11_wordOf_92 : decode cX11_wordOf 92 = .ok (.ireturn, 1) := by decide +kernel
theorem dX11_wordOf_93 : decode cX11_wordOf 93 = .ok (.lload_n 0, 1) := by decide +kernel
theorem dX11_wordOf_94 : decode cX11_wordOf 94 = .ok (.ldc2_w 148, 3) := by decide +kernel
theorem dX11_wordOf_97 : decode cX11_wordOf 97 = .ok (.lcmp, 1) := by decide +kernel
theorem dX11_wordOf_98 : decode cX11_wordOf 98 = .ok (.ifCond .ne 6, 3) := by decide +kernel
theorem dX11_wordOf_101 : decode cX11_wordOf 101 = .ok (.bipush 9, 2) := by decide +kernel
theorem dX11_wordOf_103 : decode cX11_wordOf 103 = .ok (.ireturn, 1) := by decide +kernel
theorem dX11_wordOf_104 : decode cX11_wordOf 104 = .ok (.lload_n 0, 1) := by decide +kernel
theorem dX11_wordOf_105 : decode cX11_wordOf 105 = .ok (.ldc2_w 150, 3) := by decide +kernel
theorem dX11_wordOf_108 : decode cX11_wordOf 108 = .ok (.lcmp, 1) := by decide +kernel
theorem dX11_wordOf_109 : decode cX11_wordOf 109 = .ok (.ifCond .ne 6, 3) := by decide +kernel
theorem dX11_wordOf_112 : decode cX11_wordOf 112 = .ok (.bipush 10, 2) := by decide +kernel
theorem dX11_wordOf_114 : decode cX11_wordOf 114 = .ok (.ireturn, 1) := by decide +kernel
theorem dX11_wordOf_115 : decode cX11_wordOf 115 = .ok (.lload_n 0, 1) := by decide +kernel
theorem dX11_wordOf_116 : decode cX11_wordOf 116 = .ok (.ldc2_w 152, 3) := by decide +kernel
theorem dX11_wordOf_119 : decode cX11_wordOf 119 = .ok (.lcmp, 1) := by decide +kernel
theorem dX11_wordOf_120 : decode cX11_wordOf 120 = .ok (.ifCond .ne 6, 3) := by decide +kernel
theorem dX11_wordOf_123 : decode cX11_wordOf 123 = .ok (.bipush 11, 2) := by decide +kernel
theorem dX11_wordOf_125 : decode cX11_wordOf 125 = .ok (.ireturn, 1) := by decide +kernel
theorem dX11_wordOf_126 : decode cX11_wordOf 126 = .ok (.lload_n 0, 1) := by decide +kernel
theorem dX11_wordOf_127 : decode cX11_wordOf 127 = .ok (.ldc2_w 154, 3) := by decide +kernel
theorem dX11_wordOf_130 : decode cX11_wordOf 130 = .ok (.lcmp, 1) := by decide +kernel
theorem dX11_wordOf_131 : decode cX11_wordOf 131 = .ok (.ifCond .ne 6, 3) := by decide +kernel
theorem dX11_wordOf_134 : decode cX11_wordOf 134 = .ok (.bipush 12, 2) := by decide +kernel
theorem dX11_wordOf_136 : decode cX11_wordOf 136 = .ok (.ireturn, 1) := by decide +kernel
theorem dX11_wordOf_137 : decode cX11_wordOf 137 = .ok (.lload_n 0, 1) := by decide +kernel
theorem dX11_wordOf_138 : decode cX11_wordOf 138 = .ok (.ldc2_w 156, 3) := by decide +kernel
theorem dX11_wordOf_141 : decode cX11_wordOf 141 = .ok (.lcmp, 1) := by decide +kernel
theorem dX11_wordOf_142 : decode cX11_wordOf 142 = .ok (.ifCond .ne 6, 3) := by decide +kernel
theorem dX11_wordOf_145 : decode cX11_wordOf 145 = .ok (.bipush 13, 2) := by decide +kernel
theorem dX11_wordOf_147 : decode cX11_wordOf 147 = .ok (.ireturn, 1) := by decide +kernel
theorem dX11_wordOf_148 : decode cX11_wordOf 148 = .ok (.lload_n 0, 1) := by decide +kernel
theorem dX11_wordOf_149 : decode cX11_wordOf 149 = .ok (.ldc2_w 158, 3) := by decide +kernel
theorem dX11_wordOf_152 : decode cX11_wordOf 152 = .ok (.lcmp, 1) := by decide +kernel
theorem dX11_wordOf_153 : decode cX11_wordOf 153 = .ok (.ifCond .ne 6, 3) := by decide +kernel
theorem dX11_wordOf_156 : decode cX11_wordOf 156 = .ok (.bipush 14, 2) := by decide +kernel
theorem dX11_wordOf_158 : decode cX11_wordOf 158 = .ok (.ireturn, 1) := by decide +kernel
theorem dX11_wordOf_159 : decode cX11_wordOf 159 = .ok (.lload_n 0, 1) := by decide +kernel
theorem dX11_wordOf_160 : decode cX11_wordOf 160 = .ok (.ldc2_w 160, 3) := by decide +kernel
theorem dX11_wordOf_163 : decode cX11_wordOf 163 = .ok (.lcmp, 1) := by decide +kernel
theorem dX11_wordOf_164 : decode cX11_wordOf 164 = .ok (.ifCond .ne 6, 3) := by decide +kernel
theorem dX11_wordOf_167 : decode cX11_wordOf 167 = .ok (.bipush 15, 2) := by decide +kernel
theorem dX11_wordOf_169 : decode cX11_wordOf 169 = .ok (.ireturn, 1) := by decide +kernel
theorem dX11_wordOf_170 : decode cX11_wordOf 170 = .ok (.iconst (-1), 1) := by decide +kernel
theorem dX11_wordOf_171 : decode cX11_wordOf 171 = .ok (.ireturn, 1) := by decide +kernel
theorem dX11_next_0 : decode cX11_next 0 = .ok (.aload_n 0, 1) := by decide +kernel
theorem dX11_next_1 : decode cX11_next 1 = .ok (.getfield 162, 3) := by decide +kernel
theorem dX11_next_4 : decode cX11_next 4 = .ok (.aload_n 0, 1) := by decide +kernel
theorem dX11_next_5 : decode cX11_next 5 = .ok (.getfield 165, 3) := by decide +kernel
theorem dX11_next_8 : decode cX11_next 8 = .ok (.if_icmp .ge 44, 3) := by decide +kernel
theorem dX11_next_11 : decode cX11_next 11 = .ok (.aload_n 0, 1) := by decide +kernel
theorem dX11_next_12 : decode cX11_next 12 = .ok (.getfield 16, 3) := by decide +kernel
theorem dX11_next_15 : decode cX11_next 15 = .ok (.aload_n 0, 1) := by decide +kernel
theorem dX11_next_16 : decode cX11_next 16 = .ok (.getfield 162, 3) := by decide +kernel
theorem dX11_next_19 : decode cX11_next 19 = .ok (.baload, 1) := by decide +kernel
theorem dX11_next_20 : decode cX11_next 20 = .ok (.bipush 32, 2) := by decide +kernel
theorem dX11_next_22 : decode cX11_next 22 = .ok (.if_icmp .eq 17, 3) := by decide +kernel
theorem dX11_next_25 : decode cX11_next 25 = .ok (.aload_n 0, 1) := by decide +kernel
theorem dX11_next_26 : decode cX11_next 26 = .ok (.getfield 16, 3) := by decide +kernel
theorem dX11_next_29 : decode cX11_next 29 = .ok (.aload_n 0, 1) := by decide +kernel
theorem dX11_next_30 : decode cX11_next 30 = .ok (.getfield 162, 3) := by decide +kernel
theorem dX11_next_33 : decode cX11_next 33 = .ok (.baload, 1) := by decide +kernel
theorem dX11_next_34 : decode cX11_next 34 = .ok (.bipush 10, 2) := by decide +kernel
theorem dX11_next_36 : decode cX11_next 36 = .ok (.if_icmp .ne 16, 3) := by decide +kernel
theorem dX11_next_39 : decode cX11_next 39 = .ok (.aload_n 0, 1) := by decide +kernel
theorem dX11_next_40 : decode cX11_next 40 = .ok (.dup, 1) := by decide +kernel
theorem dX11_next_41 : decode cX11_next 41 = .ok (.getfield 162, 3) := by decide +kernel
theorem dX11_next_44 : decode cX11_next 44 = .ok (.iconst 1, 1) := by decide +kernel
theorem dX11_next_45 : decode cX11_next 45 = .ok (.iadd, 1) := by decide +kernel
theorem dX11_next_46 : decode cX11_next 46 = .ok (.putfield 162, 3) := by decide +kernel
theorem dX11_next_49 : decode cX11_next 49 = .ok (.goto (-49), 3) := by decide +kernel
theorem dX11_next_52 : decode cX11_next 52 = .ok (.aload_n 0, 1) := by decide +kernel
theorem dX11_next_53 : decode cX11_next 53 = .ok (.aload_n 0, 1) := by decide +kernel
theorem dX11_next_54 : decode cX11_next 54 = .ok (.getfield 162, 3) := by decide +kernel
theorem dX11_next_57 : decode cX11_next 57 = .ok (.putfield 168, 3) := by decide +kernel
theorem dX11_next_60 : decode cX11_next 60 = .ok (.aload_n 0, 1) := by decide +kernel
theorem dX11_next_61 : decode cX11_next 61 = .ok (.getfield 162, 3) := by decide +kernel
theorem dX11_next_64 : decode cX11_next 64 = .ok (.aload_n 0, 1) := by decide +kernel
theorem dX11_next_65 : decode cX11_next 65 = .ok (.getfield 165, 3) := by decide +kernel
theorem dX11_next_68 : decode cX11_next 68 = .ok (.if_icmp .ne 9, 3) := by decide +kernel
theorem dX11_next_71 : decode cX11_next 71 = .ok (.aload_n 0, 1) := by decide +kernel
theorem dX11_next_72 : decode cX11_next 72 = .ok (.iconst 0, 1) := by decide +kernel
theorem dX11_next_73 : decode cX11_next 73 = .ok (.putfield 171, 3) := by decide +kernel
theorem dX11_next_76 : decode cX11_next 76 = .ok (.return_, 1) := by decide +kernel
theorem dX11_next_77 : decode cX11_next 77 = .ok (.aload_n 0, 1) := by decide +kernel
theorem dX11_next_78 : decode cX11_next 78 = .ok (.getfield 16, 3) := by decide +kernel
theorem dX11_next_81 : decode cX11_next 81 = .ok (.aload_n 0, 1) := by decide +kernel
theorem dX11_next_82 : decode cX11_next 82 = .ok (.getfield 162, 3) := by decide +kernel
theorem dX11_next_85 : decode cX11_next 85 = .ok (.baload, 1) := by decide +kernel
theorem dX11_next_86 : decode cX11_next 86 = .ok (.istore_n 1, 1) := by decide +kernel
theorem dX11_next_87 : decode cX11_next 87 = .ok (.iload_n 1, 1) := by decide +kernel
theorem dX11_next_88 : decode cX11_next 88 = .ok (.invokestatic 174, 3) := by decide +kernel
theorem dX11_next_91 : decode cX11_next 91 = .ok (.ifCond .eq 120, 3) := by decide +kernel
theorem dX11_next_94 : decode cX11_next 94 = .ok (.lconst 0, 1) := by decide +kernel
theorem dX11_next_95 : decode cX11_next 95 = .ok (.lstore_n 2, 1) := by decide +kernel
theorem dX11_next_96 : decode cX11_next 96 = .ok (.iconst 0, 1) := by decide +kernel
theorem dX11_next_97 : decode cX11_next 97 = .ok (.istore 4, 2) := by decide +kernel
theorem dX11_next_99 : decode cX11_next 99 = .ok (.aload_n 0, 1) := by decide +kernel
theorem dX11_next_100 : decode cX11_next 100 = .ok (.getfield 162, 3) := by decide +kernel
theorem dX11_next_103 : decode cX11_next 103 = .ok (.aload_n 0, 1) := by decide +kernel
theorem dX11_next_104 : decode cX11_next 104 = .ok (.getfield 165, 3) := by decide +kernel
theorem dX11_next_107 : decode cX11_next 107 = .ok (.if_icmp .ge 66, 3) := by decide +kernel
theorem dX11_next_110 : decode cX11_next 110 = .ok (.aload_n 0, 1) := by decide +kernel
theorem dX11_next_111 : decode cX11_next 111 = .ok (.getfield 16, 3) := by decide +kernel
theorem dX11_next_114 : decode cX11_next 114 = .ok (.aload_n 0, 1) := by decide +kernel
theorem dX11_next_115 : decode cX11_next 115 = .ok (.getfield 162, 3) := by decide +kernel
theorem dX11_next_118 : decode cX11_next 118 = .ok (.baload, 1) := by decide +kernel
theorem dX11_next_119 : decode cX11_next 119 = .ok (.invokestatic 174, 3) := by decide +kernel
theorem dX11_next_122 : decode cX11_next 122 = .ok (.ifCond .eq 51, 3) := by decide +kernel
theorem dX11_next_125 : decode cX11_next 125 = .ok (.iload 4, 2) := by decide +kernel
theorem dX11_next_127 : decode cX11_next 127 = .ok (.bipush 8, 2) := by decide +kernel
theorem dX11_next_129 : decode cX11_next 129 = .ok (.if_icmp .ge 26, 3) := by decide +kernel
theorem dX11_next_132 : decode cX11_next 132 = .ok (.ldc2_w 177, 3) := by decide +kernel
theorem dX11_next_135 : decode cX11_next 135 = .ok (.lload_n 2, 1) := by decide +kernel
theorem dX11_next_136 : decode cX11_next 136 = .ok (.lmul, 1) := by decide +kernel
theorem dX11_next_137 : decode cX11_next 137 = .ok (.aload_n 0, 1) := by decide +kernel
theorem dX11_next_138 : decode cX11_next 138 = .ok (.getfield 16, 3) := by decide +kernel
theorem dX11_next_141 : decode cX11_next 141 = .ok (.aload_n 0, 1) := by decide +kernel
theorem dX11_next_142 : decode cX11_next 142 = .ok (.getfield 162, 3) := by decide +kernel
theorem dX11_next_145 : decode cX11_next 145 = .ok (.baload, 1) := by decide +kernel
theorem dX11_next_146 : decode cX11_next 146 = .ok (.i2l, 1) := by decide +kernel
theorem dX11_next_147 : decode cX11_next 147 = .ok (.ladd, 1) := by decide +kernel
theorem dX11_next_148 : decode cX11_next 148 = .ok (.ldc2_w 177, 3) := by decide +kernel
theorem dX11_next_151 : decode cX11_next 151 = .ok (.lsub, 1) := by decide +kernel
theorem dX11_next_152 : decode cX11_next 152 = .ok (.goto 4, 3) := by decide +kernel
theorem dX11_next_155 : decode cX11_next 155 = .ok (.lload_n 2, 1) := by decide +kernel
theorem dX11_next_156 : decode cX11_next 156 = .ok (.lstore_n 2, 1) := by decide +kernel
theorem dX11_next_157 : decode cX11_next 157 = .ok (.iinc 4 1, 3) := by decide +kernel
theorem dX11_next_160 : decode cX11_next 160 = .ok (.aload_n 0, 1) := by decide +kernel
theorem dX11_next_161 : decode cX11_next 161 = .ok (.dup, 1) := by decide +kernel
theorem dX11_next_162 : decode cX11_next 162 = .ok (.getfield 162, 3) := by decide +kernel
theorem dX11_next_165 : decode cX11_next 165 = .ok (.iconst 1, 1) := by decide +kernel
theorem dX11_next_166 : decode cX11_next 166 = .ok (.iadd, 1) := by decide +kernel
theorem dX11_next_167 : decode cX11_next 167 = .ok (.putfield 162, 3) := by decide +kernel
theorem dX11_next_170 : decode cX11_next 170 = .ok (.goto (-71), 3) := by decide +kernel
theorem dX11_next_173 : decode cX11_next 173 = .ok (.aload_n 0, 1) := by decide +kernel
theorem dX11_next_174 : decode cX11_next 174 = .ok (.iload 4, 2) := by decide +kernel
theorem dX11_next_176 : decode cX11_next 176 = .ok (.bipush 7, 2) := by decide +kernel
theorem dX11_next_178 : decode cX11_next 178 = .ok (.if_icmp .le 7, 3) := by decide +kernel
theorem dX11_next_181 : decode cX11_next 181 = .ok (.iconst (-1), 1) := by decide +kernel
theorem dX11_next_182 : decode cX11_next 182 = .ok (.goto 7, 3) := by decide +kernel
theorem dX11_next_185 : decode cX11_next 185 = .ok (.lload_n 2, 1) := by decide +kernel
theorem dX11_next_186 : decode cX11_next 186 = .ok (.invokestatic 179, 3) := by decide +kernel
theorem dX11_next_189 : decode cX11_next 189 = .ok (.putfield 183, 3) := by decide +kernel
theorem dX11_next_192 : decode cX11_next 192 = .ok (.aload_n 0, 1) := by decide +kernel
theorem dX11_next_193 : decode cX11_next 193 = .ok (.aload_n 0, 1) := by decide +kernel
theorem dX11_next_194 : decode cX11_next 194 = .ok (.getfield 183, 3) := by decide +kernel
theorem dX11_next_197 : decode cX11_next 197 = .ok (.ifCond .ge 7, 3) := by decide +kernel
theorem dX11_next_200 : decode cX11_next 200 = .ok (.iconst 4, 1) := by decide +kernel
theorem dX11_next_201 : decode cX11_next 201 = .ok (.goto 4, 3) := by decide +kernel
theorem dX11_next_204 : decode cX11_next 204 = .ok (.iconst 1, 1) := by decide +kernel
theorem dX11_next_205 : decode cX11_next 205 = .ok (.putfield 171, 3) := by decide +kernel
theorem dX11_next_208 : decode cX11_next 208 = .ok (.goto 231, 3) := by decide +kernel
theorem dX11_next_211 : decode cX11_next 211 = .ok (.iload_n 1, 1) := by decide +kernel
theorem dX11_next_212 : decode cX11_next 212 = .ok (.bipush 48, 2) := by decide +kernel
theorem dX11_next_214 : decode cX11_next 214 = .ok (.bipush 57, 2) := by decide +kernel
theorem dX11_next_216 : decode cX11_next 216 = .ok (.invokestatic 115, 3) := by decide +kernel
theorem dX11_next_219 : decode cX11_next 219 = .ok (.ifCond .eq 96, 3) := by decide +kernel
theorem dX11_next_222 : decode cX11_next 222 = .ok (.aload_n 0, 1) := by decide +kernel
theorem dX11_next_223 : decode cX11_next 223 = .ok (.iconst 2, 1) := by decide +kernel
theorem dX11_next_224 : decode cX11_next 224 = .ok (.putfield 171, 3) := by decide +kernel
theorem dX11_next_227 : decode cX11_next 227 = .ok (.aload_n 0, 1) := by decide +kernel
theorem dX11_next_228 : decode cX11_next 228 = .ok (.iconst 0, 1) := by decide +kernel
theorem dX11_next_229 : decode cX11_next 229 = .ok (.putfield 183, 3) := by decide +kernel
theorem dX11_next_232 : decode cX11_next 232 = .ok (.aload_n 0, 1) := by decide +kernel
theorem dX11_next_233 : decode cX11_next 233 = .ok (.getfield 162, 3) := by decide +kernel
theorem dX11_next_236 : decode cX11_next 236 = .ok (.aload_n 0, 1) := by decide +kernel
theorem dX11_next_237 : decode cX11_next 237 = .ok (.getfield 165, 3) := by decide +kernel
theorem dX11_next_240 : decode cX11_next 240 = .ok (.if_icmp .ge 199, 3) := by decide +kernel
theorem dX11_next_243 : decode cX11_next 243 = .ok (.aload_n 0, 1) := by decide +kernel
theorem dX11_next_244 : decode cX11_next 244 = .ok (.getfield 16, 3) := by decide +kernel
theorem dX11_next_247 : decode cX11_next 247 = .ok (.aload_n 0, 1) := by decide +kernel
theorem dX11_next_248 : decode cX11_next 248 = .ok (.getfield 162, 3) := by decide +kernel
theorem dX11_next_251 : decode cX11_next 251 = .ok (.baload, 1) := by decide +kernel
theorem dX11_next_252 : decode cX11_next 252 = .ok (.bipush 48, 2) := by decide +kernel
theorem dX11_next_254 : decode cX11_next 254 = .ok (.bipush 57, 2) := by decide +kernel
theorem dX11_next_256 : decode cX11_next 256 = .ok (.invokestatic 115, 3) := by decide +kernel
theorem dX11_next_259 : decode cX11_next 259 = .ok (.ifCond .eq 180, 3) := by decide +kernel
theorem dX11_next_262 : decode cX11_next 262 = .ok (.aload_n 0, 1) := by decide +kernel
theorem dX11_next_263 : decode cX11_next 263 = .ok (.aload_n 0, 1) := by decide +kernel
theorem dX11_next_264 : decode cX11_next 264 = .ok (.getfield 183, 3) := by decide +kernel
theorem dX11_next_267 : decode cX11_next 267 = .ok (.ldc 186, 2) := by decide +kernel
theorem dX11_next_269 : decode cX11_next 269 = .ok (.if_icmp .le 10, 3) := by decide +kernel
theorem dX11_next_272 : decode cX11_next 272 = .ok (.aload_n 0, 1) := by decide +kernel
theorem dX11_next_273 : decode cX11_next 273 = .ok (.getfield 183, 3) := by decide +kernel
theorem dX11_next_276 : decode cX11_next 276 = .ok (.goto 23, 3) := by decide +kernel
theorem dX11_next_279 : decode cX11_next 279 = .ok (.bipush 10, 2) := by decide +kernel
theorem dX11_next_281 : decode cX11_next 281 = .ok (.aload_n 0, 1) := by decide +kernel
theorem dX11_next_282 : decode cX11_next 282 = .ok (.getfield 183, 3) := by decide +kernel
theorem dX11_next_285 : decode cX11_next 285 = .ok (.imul, 1) := by decide +kernel
theorem dX11_next_286 : decode cX11_next 286 = .ok (.aload_n 0, 1) := by decide +kernel
theorem dX11_next_287 : decode cX11_next 287 = .ok (.getfield 16, 3) := by decide +kernel
theorem dX11_next_290 : decode cX11_next 290 = .ok (.aload_n 0, 1) := by decide +kernel
theorem dX11_next_291 : decode cX11_next 291 = .ok (.getfield 162, 3) := by decide +kernel
theorem dX11_next_294 : decode cX11_next 294 = .ok (.baload, 1) := by decide +kernel
theorem dX11_next_295 : decode cX11_next 295 = .ok (.iadd, 1) := by decide +kernel
theorem dX11_next_296 : decode cX11_next 296 = .ok (.bipush 48, 2) := by decide +kernel
theorem dX11_next_298 : decode cX11_next 298 = .ok (.isub, 1) := by decide +kernel
theorem dX11_next_299 : decode cX11_next 299 = .ok (.putfield 183, 3) := by decide +kernel
theorem dX11_next_302 : decode cX11_next 302 = .ok (.aload_n 0, 1) := by decide +kernel
theorem dX11_next_303 : decode cX11_next 303 = .ok (.dup, 1) := by decide +kernel
theorem dX11_next_304 : decode cX11_next 304 = .ok (.getfield 162, 3) := by decide +kernel
theorem dX11_next_307 : decode cX11_next 307 = .ok (.iconst 1, 1) := by decide +kernel
theorem dX11_next_308 : decode cX11_next 308 = .ok (.iadd, 1) := by decide +kernel
theorem dX11_next_309 : decode cX11_next 309 = .ok (.putfield 162, 3) := by decide +kernel
theorem dX11_next_312 : decode cX11_next 312 = .ok (.goto (-80), 3) := by decide +kernel
theorem dX11_next_315 : decode cX11_next 315 = .ok (.aload_n 0, 1) := by decide +kernel
theorem dX11_next_316 : decode cX11_next 316 = .ok (.dup, 1) := by decide +kernel
theorem dX11_next_317 : decode cX11_next 317 = .ok (.getfield 162, 3) := by decide +kernel
theorem dX11_next_320 : decode cX11_next 320 = .ok (.iconst 1, 1) := by decide +kernel
theorem dX11_next_321 : decode cX11_next 321 = .ok (.iadd, 1) := by decide +kernel
theorem dX11_next_322 : decode cX11_next 322 = .ok (.putfield 162, 3) := by decide +kernel
theorem dX11_next_325 : decode cX11_next 325 = .ok (.aload_n 0, 1) := by decide +kernel
theorem dX11_next_326 : decode cX11_next 326 = .ok (.iload_n 1, 1) := by decide +kernel
theorem dX11_next_327 : decode cX11_next 327 = .ok (.putfield 183, 3) := by decide +kernel
theorem dX11_next_330 : decode cX11_next 330 = .ok (.aload_n 0, 1) := by decide +kernel
theorem dX11_next_331 : decode cX11_next 331 = .ok (.iload_n 1, 1) := by decide +kernel
theorem dX11_next_332 : decode cX11_next 332 = .ok (.bipush 59, 2) := by decide +kernel
theorem dX11_next_334 : decode cX11_next 334 = .ok (.bipush 62, 2) := by decide +kernel
theorem dX11_next_336 : decode cX11_next 336 = .ok (.invokestatic 115, 3) := by decide +kernel
theorem dX11_next_339 : decode cX11_next 339 = .ok (.ifCond .ne 26, 3) := by decide +kernel
theorem dX11_next_342 : decode cX11_next 342 = .ok (.iload_n 1, 1) := by decide +kernel
theorem dX11_next_343 : decode cX11_next 343 = .ok (.bipush 40, 2) := by decide +kernel
theorem dX11_next_345 : decode cX11_next 345 = .ok (.bipush 45, 2) := by decide +kernel
theorem dX11_next_347 : decode cX11_next 347 = .ok (.invokestatic 115, 3) := by decide +kernel
theorem dX11_next_350 : decode cX11_next 350 = .ok (.ifCond .ne 15, 3) := by decide +kernel
theorem dX11_next_353 : decode cX11_next 353 = .ok (.iload_n 1, 1) := by decide +kernel
theorem dX11_next_354 : decode cX11_next 354 = .ok (.bipush 47, 2) := by decide +kernel
theorem dX11_next_356 : decode cX11_next 356 = .ok (.if_icmp .eq 9, 3) := by decide +kernel
theorem dX11_next_359 : decode cX11_next 359 = .ok (.iload_n 1, 1) := by decide +kernel
theorem dX11_next_360 : decode cX11_next 360 = .ok (.bipush 35, 2) := by decide +kernel
theorem dX11_next_362 : decode cX11_next 362 = .ok (.if_icmp .ne 7, 3) := by decide +kernel
theorem dX11_next_365 : decode cX11_next 365 = .ok (.iconst 3, 1) := by decide +kernel
theorem dX11_next_366 : decode cX11_next 366 = .ok (.goto 4, 3) := by decide +kernel
theorem dX11_next_369 : decode cX11_next 369 = .ok (.iconst 4, 1) := by decide +kernel
theorem dX11_next_370 : decode cX11_next 370 = .ok (.putfield 171, 3) := by decide +kernel
theorem dX11_next_373 : decode cX11_next 373 = .ok (.iload_n 1, 1) := by decide +kernel
theorem dX11_next_374 : decode cX11_next 374 = .ok (.bipush 60, 2) := by decide +kernel
theorem dX11_next_376 : decode cX11_next 376 = .ok (.if_icmp .eq 9, 3) := by decide +kernel
theorem dX11_next_379 : decode cX11_next 379 = .ok (.iload_n 1, 1) := by decide +kernel
theorem dX11_next_380 : decode cX11_next 380 = .ok (.bipush 62, 2) := by decide +kernel
theorem dX11_next_382 : decode cX11_next 382 = .ok (.if_icmp .ne 57, 3) := by decide +kernel
theorem dX11_next_385 : decode cX11_next 385 = .ok (.aload_n 0, 1) := by decide +kernel
theorem dX11_next_386 : decode cX11_next 386 = .ok (.getfield 162, 3) := by decide +kernel
theorem dX11_next_389 : decode cX11_next 389 = .ok (.aload_n 0, 1) := by decide +kernel
theorem dX11_next_390 : decode cX11_next 390 = .ok (.getfield 165, 3) := by decide +kernel
theorem dX11_next_393 : decode cX11_next 393 = .ok (.if_icmp .ge 46, 3) := by decide +kernel
theorem dX11_next_396 : decode cX11_next 396 = .ok (.aload_n 0, 1) := by decide +kernel
theorem dX11_next_397 : decode cX11_next 397 = .ok (.getfield 16, 3) := by decide +kernel
theorem dX11_next_400 : decode cX11_next 400 = .ok (.aload_n 0, 1) := by decide +kernel
theorem dX11_next_401 : decode cX11_next 401 = .ok (.getfield 162, 3) := by decide +kernel
theorem dX11_next_404 : decode cX11_next 404 = .ok (.baload, 1) := by decide +kernel
theorem dX11_next_405 : decode cX11_next 405 = .ok (.bipush 61, 2) := by decide +kernel
theorem dX11_next_407 : decode cX11_next 407 = .ok (.if_icmp .ne 32, 3) := by decide +kernel
theorem dX11_next_410 : decode cX11_next 410 = .ok (.aload_n 0, 1) := by decide +kernel
theorem dX11_next_411 : decode cX11_next 411 = .ok (.iload_n 1, 1) := by decide +kernel
theorem dX11_next_412 : decode cX11_next 412 = .ok (.bipush 60, 2) := by decide +kernel
theorem dX11_next_414 : decode cX11_next 414 = .ok (.if_icmp .ne 9, 3) := by decide +kernel
theorem dX11_next_417 : decode cX11_next 417 = .ok (.sipush 300, 3) := by decide +kernel
theorem dX11_next_420 : decode cX11_next 420 = .ok (.goto 6, 3) := by decide +kernel
theorem dX11_next_423 : decode cX11_next 423 = .ok (.sipush 301, 3) := by decide +kernel
theorem dX11_next_426 : decode cX11_next 426 = .ok (.putfield 183, 3) := by decide +kernel
theorem dX11_next_429 : decode cX11_next 429 = .ok (.aload_n 0, 1) := by decide +kernel
theorem dX11_next_430 : decode cX11_next 430 = .ok (.dup, 1) := by decide +kernel
theorem dX11_next_431 : decode cX11_next 431 = .ok (.getfield 162, 3) := by decide +kernel
theorem dX11_next_434 : decode cX11_next 434 = .ok (.iconst 1, 1) := by decide +kernel
theorem dX11_next_435 : decode cX11_next 435 = .ok (.iadd, 1) := by decide +kernel
theorem dX11_next_436 : decode cX11_next 436 = .ok (.putfield 162, 3) := by decide +kernel
theorem dX11_next_439 : decode cX11_next 439 = .ok (.return_, 1) := by decide +kernel
theorem dX11_isSign_0 : decode cX11_isSign 0 = .ok (.aload_n 0, 1) := by decide +kernel
theorem dX11_isSign_1 : decode cX11_isSign 1 = .ok (.getfield 171, 3) := by decide +kernel
theorem dX11_isSign_4 : decode cX11_isSign 4 = .ok (.iconst 3, 1) := by decide +kernel
theorem dX11_isSign_5 : decode cX11_isSign 5 = .ok (.if_icmp .ne 15, 3) := by decide +kernel
theorem dX11_isSign_8 : decode cX11_isSign 8 = .ok (.aload_n 0, 1) := by decide +kernel
theorem dX11_isSign_9 : decode cX11_isSign 9 = .ok (.getfield 183, 3) := by decide +kernel
theorem dX11_isSign_12 : decode cX11_isSign 12 = .ok (.iload_n 1, 1) := by decide +kernel
theorem dX11_isSign_13 : decode cX11_isSign 13 = .ok (.if_icmp .ne 7, 3) := by decide +kernel
theorem dX11_isSign_16 : decode cX11_isSign 16 = .ok (.iconst 1, 1) := by decide +kernel
theorem dX11_isSign_17 : decode cX11_isSign 17 = .ok (.goto 4, 3) := by decide +kernel
theorem dX11_isSign_20 : decode cX11_isSign 20 = .ok (.iconst 0, 1) := by decide +kernel
theorem dX11_isSign_21 : decode cX11_isSign 21 = .ok (.ireturn, 1) := by decide +kernel
theorem dX11_isWord_0 : decode cX11_isWord 0 = .ok (.aload_n 0, 1) := by decide +kernel
theorem dX11_isWord_1 : decode cX11_isWord 1 = .ok (.getfield 171, 3) := by decide +kernel
theorem dX11_isWord_4 : decode cX11_isWord 4 = .ok (.iconst 1, 1) := by decide +kernel
theorem dX11_isWord_5 : decode cX11_isWord 5 = .ok (.if_icmp .ne 15, 3) := by decide +kernel
theorem dX11_isWord_8 : decode cX11_isWord 8 = .ok (.aload_n 0, 1) := by decide +kernel
theorem dX11_isWord_9 : decode cX11_isWord 9 = .ok (.getfield 183, 3) := by decide +kernel
theorem dX11_isWord_12 : decode cX11_isWord 12 = .ok (.iload_n 1, 1) := by decide +kernel
theorem dX11_isWord_13 : decode cX11_isWord 13 = .ok (.if_icmp .ne 7, 3) := by decide +kernel
theorem dX11_isWord_16 : decode cX11_isWord 16 = .ok (.iconst 1, 1) := by decide +kernel
theorem dX11_isWord_17 : decode cX11_isWord 17 = .ok (.goto 4, 3) := by decide +kernel
theorem dX11_isWord_20 : decode cX11_isWord 20 = .ok (.iconst 0, 1) := by decide +kernel
theorem dX11_isWord_21 : decode cX11_isWord 21 = .ok (.ireturn, 1) := by decide +kernel
theorem dX11_errs_0 : decode cX11_errs 0 = .ok (.aload_n 0, 1) := by decide +kernel
theorem dX11_errs_1 : decode cX11_errs 1 = .ok (.getfield 187, 3) := by decide +kernel
theorem dX11_errs_4 : decode cX11_errs 4 = .ok (.ifCond .ne 16, 3) := by decide +kernel
theorem dX11_errs_7 : decode cX11_errs 7 = .ok (.aload_n 0, 1) := by decide +kernel
theorem dX11_errs_8 : decode cX11_errs 8 = .ok (.iload_n 1, 1) := by decide +kernel
theorem dX11_errs_9 : decode cX11_errs 9 = .ok (.putfield 187, 3) := by decide +kernel
theorem dX11_errs_12 : decode cX11_errs 12 = .ok (.aload_n 0, 1) := by decide +kernel
theorem dX11_errs_13 : decode cX11_errs 13 = .ok (.aload_n 0, 1) := by decide +kernel
theorem dX11_errs_14 : decode cX11_errs 14 = .ok (.getfield 168, 3) := by decide +kernel
theorem dX11_errs_17 : decode cX11_errs 17 = .ok (.putfield 190, 3) := by decide +kernel
theorem dX11_errs_20 : decode cX11_errs 20 = .ok (.return_, 1) := by decide +kernel
theorem dX11_emits_0 : decode cX11_emits 0 = .ok (.aload_n 0, 1) := by decide +kernel
theorem dX11_emits_1 : decode cX11_emits 1 = .ok (.getfield 72, 3) := by decide +kernel
theorem dX11_emits_4 : decode cX11_emits 4 = .ok (.aload_n 0, 1) := by decide +kernel
theorem dX11_emits_5 : decode cX11_emits 5 = .ok (.getfield 193, 3) := by decide +kernel
theorem dX11_emits_8 : decode cX11_emits 8 = .ok (.iload_n 1, 1) := by decide +kernel
theorem dX11_emits_9 : decode cX11_emits 9 = .ok (.iastore, 1) := by decide +kernel
theorem dX11_emits_10 : decode cX11_emits 10 = .ok (.aload_n 0, 1) := by decide +kernel
theorem dX11_emits_11 : decode cX11_emits 11 = .ok (.getfield 75, 3) := by decide +kernel
theorem dX11_emits_14 : decode cX11_emits 14 = .ok (.aload_n 0, 1) := by decide +kernel
theorem dX11_emits_15 : decode cX11_emits 15 = .ok (.getfield 193, 3) := by decide +kernel
theorem dX11_emits_18 : decode cX11_emits 18 = .ok (.iload_n 2, 1) := by decide +kernel
theorem dX11_emits_19 : decode cX11_emits 19 = .ok (.iastore, 1) := by decide +kernel
theorem dX11_emits_20 : decode cX11_emits 20 = .ok (.aload_n 0, 1) := by decide +kernel
theorem dX11_emits_21 : decode cX11_emits 21 = .ok (.dup, 1) := by decide +kernel
theorem dX11_emits_22 : decode cX11_emits 22 = .ok (.getfield 193, 3) := by decide +kernel
theorem dX11_emits_25 : decode cX11_emits 25 = .ok (.iconst 1, 1) := by decide +kernel
theorem dX11_emits_26 : decode cX11_emits 26 = .ok (.iadd, 1) := by decide +kernel
theorem dX11_emits_27 : decode cX11_emits 27 = .ok (.putfield 193, 3) := by decide +kernel
theorem dX11_emits_30 : decode cX11_emits 30 = .ok (.return_, 1) := by decide +kernel
theorem dX11_opensFrame_0 : decode cX11_opensFrame 0 = .ok (.aload_n 0, 1) := by decide +kernel
theorem dX11_opensFrame_1 : decode cX11_opensFrame 1 = .ok (.getfield 48, 3) := by decide +kernel
theorem dX11_opensFrame_4 : decode cX11_opensFrame 4 = .ok (.aload_n 0, 1) := by decide +kernel
theorem dX11_opensFrame_5 : decode cX11_opensFrame 5 = .ok (.getfield 196, 3) := by decide +kernel
theorem dX11_opensFrame_8 : decode cX11_opensFrame 8 = .ok (.iload_n 1, 1) := by decide +kernel
theorem dX11_opensFrame_9 : decode cX11_opensFrame 9 = .ok (.iastore, 1) := by decide +kernel
theorem dX11_opensFrame_10 : decode cX11_opensFrame 10 = .ok (.aload_n 0, 1) := by decide +kernel
theorem dX11_opensFrame_11 : decode cX11_opensFrame 11 = .ok (.dup, 1) := by decide +kernel
theorem dX11_opensFrame_12 : decode cX11_opensFrame 12 = .ok (.getfield 196, 3) := by decide +kernel
theorem dX11_opensFrame_15 : decode cX11_opensFrame 15 = .ok (.iconst 1, 1) := by decide +kernel
theorem dX11_opensFrame_16 : decode cX11_opensFrame 16 = .ok (.iadd, 1) := by decide +kernel
theorem dX11_opensFrame_17 : decode cX11_opensFrame 17 = .ok (.putfield 196, 3) := by decide +kernel
theorem dX11_opensFrame_20 : decode cX11_opensFrame 20 = .ok (.return_, 1) := by decide +kernel
theorem dX11_top_0 : decode cX11_top 0 = .ok (.aload_n 0, 1) := by decide +kernel
theorem dX11_top_1 : decode cX11_top 1 = .ok (.getfield 48, 3) := by decide +kernel
theorem dX11_top_4 : decode cX11_top 4 = .ok (.aload_n 0, 1) := by decide +kernel
theorem dX11_top_5 : decode cX11_top 5 = .ok (.getfield 196, 3) := by decide +kernel
theorem dX11_top_8 : decode cX11_top 8 = .ok (.iconst 1, 1) := by decide +kernel
theorem dX11_top_9 : decode cX11_top 9 = .ok (.isub, 1) := by decide +kernel
theorem dX11_top_10 : decode cX11_top 10 = .ok (.iaload, 1) := by decide +kernel
theorem dX11_top_11 : decode cX11_top 11 = .ok (.ireturn, 1) := by decide +kernel
theorem dX11_opensSign_0 : decode cX11_opensSign 0 = .ok (.aload_n 0, 1) := by decide +kernel
theorem dX11_opensSign_1 : decode cX11_opensSign 1 = .ok (.getfield 199, 3) := by decide +kernel
theorem dX11_opensSign_4 : decode cX11_opensSign 4 = .ok (.bipush 8, 2) := by decide +kernel
theorem dX11_opensSign_6 : decode cX11_opensSign 6 = .ok (.if_icmp .ne 10, 3) := by decide +kernel
theorem dX11_opensSign_9 : decode cX11_opensSign 9 = .ok (.aload_n 0, 1) := by decide +kernel
theorem dX11_opensSign_10 : decode cX11_opensSign 10 = .ok (.iconst 3, 1) := by decide +kernel
theorem dX11_opensSign_11 : decode cX11_opensSign 11 = .ok (.invokevirtual 202, 3) := by decide +kernel
theorem dX11_opensSign_14 : decode cX11_opensSign 14 = .ok (.iconst 0, 1) := by decide +kernel
theorem dX11_opensSign_15 : decode cX11_opensSign 15 = .ok (.ireturn, 1) := by decide +kernel
theorem dX11_opensSign_16 : decode cX11_opensSign 16 = .ok (.aload_n 0, 1) := by decide +kernel
theorem dX11_opensSign_17 : decode cX11_opensSign 17 = .ok (.dup, 1) := by decide +kernel
theorem dX11_opensSign_18 : decode cX11_opensSign 18 = .ok (.getfield 199, 3) := by decide +kernel
theorem dX11_opensSign_21 : decode cX11_opensSign 21 = .ok (.iconst 1, 1) := by decide +kernel
theorem dX11_opensSign_22 : decode cX11_opensSign 22 = .ok (.iadd, 1) := by decide +kernel
theorem dX11_opensSign_23 : decode cX11_opensSign 23 = .ok (.putfield 199, 3) := by decide +kernel
theorem dX11_opensSign_26 : decode cX11_opensSign 26 = .ok (.aload_n 0, 1) := by decide +kernel
theorem dX11_opensSign_27 : decode cX11_opensSign 27 = .ok (.iload_n 1, 1) := by decide +kernel
theorem dX11_opensSign_28 : decode cX11_opensSign 28 = .ok (.invokevirtual 205, 3) := by decide +kernel
theorem dX11_opensSign_31 : decode cX11_opensSign 31 = .ok (.aload_n 0, 1) := by decide +kernel
theorem dX11_opensSign_32 : decode cX11_opensSign 32 = .ok (.invokevirtual 208, 3) := by decide +kernel
theorem dX11_opensSign_35 : decode cX11_opensSign 35 = .ok (.iconst 1, 1) := by decide +kernel
theorem dX11_opensSign_36 : decode cX11_opensSign 36 = .ok (.ireturn, 1) := by decide +kernel
theorem dX11_rank_0 : decode cX11_rank 0 = .ok (.iload_n 0, 1) := by decide +kernel
theorem dX11_rank_1 : decode cX11_rank 1 = .ok (.sipush 407, 3) := by decide +kernel
theorem dX11_rank_4 : decode cX11_rank 4 = .ok (.if_icmp .ne 7, 3) := by decide +kernel
theorem dX11_rank_7 : decode cX11_rank 7 = .ok (.iconst 1, 1) := by decide +kernel
theorem dX11_rank_8 : decode cX11_rank 8 = .ok (.goto 31, 3) := by decide +kernel
theorem dX11_rank_11 : decode cX11_rank 11 = .ok (.iload_n 0, 1) := by decide +kernel
theorem dX11_rank_12 : decode cX11_rank 12 = .ok (.sipush 406, 3) := by decide +kernel
theorem dX11_rank_15 : decode cX11_rank 15 = .ok (.if_icmp .ne 7, 3) := by decide +kernel
theorem dX11_rank_18 : decode cX11_rank 18 = .ok (.iconst 2, 1) := by decide +kernel
theorem dX11_rank_19 : decode cX11_rank 19 = .ok (.goto 20, 3) := by decide +kernel
theorem dX11_rank_22 : decode cX11_rank 22 = .ok (.iload_n 0, 1) := by decide +kernel
theorem dX11_rank_23 : decode cX11_rank 23 = .ok (.bipush 43, 2) := by decide +kernel
theorem dX11_rank_25 : decode cX11_rank 25 = .ok (.if_icmp .eq 9, 3) := by decide +kernel
theorem dX11_rank_28 : decode cX11_rank 28 = .ok (.iload_n 0, 1) := by decide +kernel
theorem dX11_rank_29 : decode cX11_rank 29 = .ok (.bipush 45, 2) := by decide +kernel
theorem dX11_rank_31 : decode cX11_rank 31 = .ok (.if_icmp .ne 7, 3) := by decide +kernel
theorem dX11_rank_34 : decode cX11_rank 34 = .ok (.iconst 3, 1) := by decide +kernel
theorem dX11_rank_35 : decode cX11_rank 35 = .ok (.goto 4, 3) := by decide +kernel
theorem dX11_rank_38 : decode cX11_rank 38 = .ok (.iconst 4, 1) := by decide +kernel
theorem dX11_rank_39 : decode cX11_rank 39 = .ok (.ireturn, 1) := by decide +kernel
theorem dX11_works_0 : decode cX11_works 0 = .ok (.aload_n 0, 1) := by decide +kernel
theorem dX11_works_1 : decode cX11_works 1 = .ok (.getfield 211, 3) := by decide +kernel
theorem dX11_works_4 : decode cX11_works 4 = .ok (.ifCond .le 66, 3) := by decide +kernel
theorem dX11_works_7 : decode cX11_works 7 = .ok (.aload_n 0, 1) := by decide +kernel
theorem dX11_works_8 : decode cX11_works 8 = .ok (.getfield 57, 3) := by decide +kernel
theorem dX11_works_11 : decode cX11_works 11 = .ok (.aload_n 0, 1) := by decide +kernel
theorem dX11_works_12 : decode cX11_works 12 = .ok (.getfield 211, 3) := by decide +kernel
theorem dX11_works_15 : decode cX11_works 15 = .ok (.iconst 1, 1) := by decide +kernel
theorem dX11_works_16 : decode cX11_works 16 = .ok (.isub, 1) := by decide +kernel
theorem dX11_works_17 : decode cX11_works 17 = .ok (.iaload, 1) := by decide +kernel
theorem dX11_works_18 : decode cX11_works 18 = .ok (.aload_n 0, 1) := by decide +kernel
theorem dX11_works_19 : decode cX11_works 19 = .ok (.getfield 196, 3) := by decide +kernel
theorem dX11_works_22 : decode cX11_works 22 = .ok (.if_icmp .ne 48, 3) := by decide +kernel
theorem dX11_works_25 : decode cX11_works 25 = .ok (.aload_n 0, 1) := by decide +kernel
theorem dX11_works_26 : decode cX11_works 26 = .ok (.getfield 54, 3) := by decide +kernel
theorem dX11_works_29 : decode cX11_works 29 = .ok (.aload_n 0, 1) := by decide +kernel
theorem dX11_works_30 : decode cX11_works 30 = .ok (.getfield 211, 3) := by decide +kernel
theorem dX11_works_33 : decode cX11_works 33 = .ok (.iconst 1, 1) := by decide +kernel
theorem dX11_works_34 : decode cX11_works 34 = .ok (.isub, 1) := by decide +kernel
theorem dX11_works_35 : decode cX11_works 35 = .ok (.iaload, 1) := by decide +kernel
theorem dX11_works_36 : decode cX11_works 36 = .ok (.invokestatic 214, 3) := by decide +kernel
theorem dX11_works_39 : decode cX11_works 39 = .ok (.iload_n 1, 1) := by decide +kernel
theorem dX11_works_40 : decode cX11_works 40 = .ok (.if_icmp .lt 30, 3) := by decide +kernel
theorem dX11_works_43 : decode cX11_works 43 = .ok (.aload_n 0, 1) := by decide +kernel
theorem dX11_works_44 : decode cX11_works 44 = .ok (.dup, 1) := by decide +kernel
theorem dX11_works_45 : decode cX11_works 45 = .ok (.getfield 211, 3) := by decide +kernel
theorem dX11_works_48 : decode cX11_works 48 = .ok (.iconst 1, 1) := by decide +kernel
theorem dX11_works_49 : decode cX11_works 49 = .ok (.isub, 1) := by decide +kernel
theorem dX11_works_50 : decode cX11_works 50 = .ok (.putfield 211, 3) := by decide +kernel
theorem dX11_works_53 : decode cX11_works 53 = .ok (.aload_n 0, 1) := by decide +kernel
theorem dX11_works_54 : decode cX11_works 54 = .ok (.aload_n 0, 1) := by decide +kernel
theorem dX11_works_55 : decode cX11_works 55 = .ok (.getfield 54, 3) := by decide +kernel
theorem dX11_works_58 : decode cX11_works 58 = .ok (.aload_n 0, 1) := by decide +kernel
theorem dX11_works_59 : decode cX11_works 59 = .ok (.getfield 211, 3) := by decide +kernel
theorem dX11_works_62 : decode cX11_works 62 = .ok (.iaload, 1) := by decide +kernel
theorem dX11_works_63 : decode cX11_works 63 = .ok (.iconst 0, 1) := by decide +kernel
theorem dX11_works_64 : decode cX11_works 64 = .ok (.invokevirtual 218, 3) := by decide +kernel
theorem dX11_works_67 : decode cX11_works 67 = .ok (.goto (-67), 3) := by decide +kernel
theorem dX11_works_70 : decode cX11_works 70 = .ok (.return_, 1) := by decide +kernel
theorem dX11_waitsFor_0 : decode cX11_waitsFor 0 = .ok (.aload_n 0, 1) := by decide +kernel
theorem dX11_waitsFor_1 : decode cX11_waitsFor 1 = .ok (.iload_n 1, 1) := by decide +kernel
theorem dX11_waitsFor_2 : decode cX11_waitsFor 2 = .ok (.invokestatic 214, 3) := by decide +kernel
theorem dX11_waitsFor_5 : decode cX11_waitsFor 5 = .ok (.invokevirtual 222, 3) := by decide +kernel
theorem dX11_waitsFor_8 : decode cX11_waitsFor 8 = .ok (.aload_n 0, 1) := by decide +kernel
theorem dX11_waitsFor_9 : decode cX11_waitsFor 9 = .ok (.getfield 54, 3) := by decide +kernel
theorem dX11_waitsFor_12 : decode cX11_waitsFor 12 = .ok (.aload_n 0, 1) := by decide +kernel
theorem dX11_waitsFor_13 : decode cX11_waitsFor 13 = .ok (.getfield 211, 3) := by decide +kernel
theorem dX11_waitsFor_16 : decode cX11_waitsFor 16 = .ok (.iload_n 1, 1) := by decide +kernel
theorem dX11_waitsFor_17 : decode cX11_waitsFor 17 = .ok (.iastore, 1) := by decide +kernel
theorem dX11_waitsFor_18 : decode cX11_waitsFor 18 = .ok (.aload_n 0, 1) := by decide +kernel
theorem dX11_waitsFor_19 : decode cX11_waitsFor 19 = .ok (.getfield 57, 3) := by decide +kernel
theorem dX11_waitsFor_22 : decode cX11_waitsFor 22 = .ok (.aload_n 0, 1) := by decide +kernel
theorem dX11_waitsFor_23 : decode cX11_waitsFor 23 = .ok (.getfield 211, 3) := by decide +kernel
theorem dX11_waitsFor_26 : decode cX11_waitsFor 26 = .ok (.aload_n 0, 1) := by decide +kernel
theorem dX11_waitsFor_27 : decode cX11_waitsFor 27 = .ok (.getfield 196, 3) := by decide +kernel
theorem dX11_waitsFor_30 : decode cX11_waitsFor 30 = .ok (.iastore, 1) := by decide +kernel
theorem dX11_waitsFor_31 : decode cX11_waitsFor 31 = .ok (.aload_n 0, 1) := by decide +kernel
theorem dX11_waitsFor_32 : decode cX11_waitsFor 32 = .ok (.dup, 1) := by decide +kernel
theorem dX11_waitsFor_33 : decode cX11_waitsFor 33 = .ok (.getfield 211, 3) := by decide +kernel
theorem dX11_waitsFor_36 : decode cX11_waitsFor 36 = .ok (.iconst 1, 1) := by decide +kernel
theorem dX11_waitsFor_37 : decode cX11_waitsFor 37 = .ok (.iadd, 1) := by decide +kernel
theorem dX11_waitsFor_38 : decode cX11_waitsFor 38 = .ok (.putfield 211, 3) := by decide +kernel
theorem dX11_waitsFor_41 : decode cX11_waitsFor 41 = .ok (.aload_n 0, 1) := by decide +kernel
theorem dX11_waitsFor_42 : decode cX11_waitsFor 42 = .ok (.invokevirtual 208, 3) := by decide +kernel
theorem dX11_waitsFor_45 : decode cX11_waitsFor 45 = .ok (.return_, 1) := by decide +kernel
theorem dX11_asks_0 : decode cX11_asks 0 = .ok (.aload_n 0, 1) := by decide +kernel
theorem dX11_asks_1 : decode cX11_asks 1 = .ok (.bipush 8, 2) := by decide +kernel
theorem dX11_asks_3 : decode cX11_asks 3 = .ok (.invokevirtual 225, 3) := by decide +kernel
theorem dX11_asks_6 : decode cX11_asks 6 = .ok (.ifCond .eq 12, 3) := by decide +kernel
theorem dX11_asks_9 : decode cX11_asks 9 = .ok (.aload_n 0, 1) := by decide +kernel
theorem dX11_asks_10 : decode cX11_asks 10 = .ok (.iconst 3, 1) := by decide +kernel
theorem dX11_asks_11 : decode cX11_asks 11 = .ok (.invokevirtual 228, 3) := by decide +kernel
theorem dX11_asks_14 : decode cX11_asks 14 = .ok (.istore_n 1, 1) := by decide +kernel
theorem dX11_asks_15 : decode cX11_asks 15 = .ok (.goto 13, 3) := by decide +kernel
theorem dX11_asks_18 : decode cX11_asks 18 = .ok (.aload_n 0, 1) := by decide +kernel
theorem dX11_asks_19 : decode cX11_asks 19 = .ok (.iconst 4, 1) := by decide +kernel
theorem dX11_asks_20 : decode cX11_asks 20 = .ok (.invokevirtual 205, 3) := by decide +kernel
theorem dX11_asks_23 : decode cX11_asks 23 = .ok (.aload_n 0, 1) := by decide +kernel
theorem dX11_asks_24 : decode cX11_asks 24 = .ok (.iconst 1, 1) := by decide +kernel
theorem dX11_asks_25 : decode cX11_asks 25 = .ok (.putfield 231, 3) := by decide +kernel
theorem dX11_asks_28 : decode cX11_asks 28 = .ok (.return_, 1) := by decide +kernel
theorem dX11_begins_0 : decode cX11_begins 0 = .ok (.aload_n 0, 1) := by decide +kernel
theorem dX11_begins_1 : decode cX11_begins 1 = .ok (.getfield 171, 3) := by decide +kernel
theorem dX11_begins_4 : decode cX11_begins 4 = .ok (.iconst 2, 1) := by decide +kernel
theorem dX11_begins_5 : decode cX11_begins 5 = .ok (.if_icmp .ne 41, 3) := by decide +kernel
theorem dX11_begins_8 : decode cX11_begins 8 = .ok (.aload_n 0, 1) := by decide +kernel
theorem dX11_begins_9 : decode cX11_begins 9 = .ok (.getfield 183, 3) := by decide +kernel
theorem dX11_begins_12 : decode cX11_begins 12 = .ok (.sipush 9999, 3) := by decide +kernel
theorem dX11_begins_15 : decode cX11_begins 15 = .ok (.if_icmp .le 9, 3) := by decide +kernel
theorem dX11_begins_18 : decode cX11_begins 18 = .ok (.aload_n 0, 1) := by decide +kernel
theorem dX11_begins_19 : decode cX11_begins 19 = .ok (.iconst 2, 1) := by decide +kernel
theorem dX11_begins_20 : decode cX11_begins 20 = .ok (.invokevirtual 202, 3) := by decide +kernel
theorem dX11_begins_23 : decode cX11_begins 23 = .ok (.return_, 1) := by decide +kernel
theorem dX11_begins_24 : decode cX11_begins 24 = .ok (.aload_n 0, 1) := by decide +kernel
theorem dX11_begins_25 : decode cX11_begins 25 = .ok (.sipush 400, 3) := by decide +kernel
theorem dX11_begins_28 : decode cX11_begins 28 = .ok (.aload_n 0, 1) := by decide +kernel
theorem dX11_begins_29 : decode cX11_begins 29 = .ok (.getfield 183, 3) := by decide +kernel
theorem dX11_begins_32 : decode cX11_begins 32 = .ok (.invokevirtual 218, 3) := by decide +kernel
theorem dX11_begins_35 : decode cX11_begins 35 = .ok (.aload_n 0, 1) := by decide +kernel
theorem dX11_begins_36 : decode cX11_begins 36 = .ok (.invokevirtual 208, 3) := by decide +kernel
theorem dX11_begins_39 : decode cX11_begins 39 = .ok (.aload_n 0, 1) := by decide +kernel
theorem dX11_begins_40 : decode cX11_begins 40 = .ok (.invokevirtual 234, 3) := by decide +kernel
theorem dX11_begins_43 : decode cX11_begins 43 = .ok (.goto 90, 3) := by decide +kernel
theorem dX11_begins_46 : decode cX11_begins 46 = .ok (.aload_n 0, 1) := by decide +kernel
theorem dX11_begins_47 : decode cX11_begins 47 = .ok (.getfield 171, 3) := by decide +kernel
theorem dX11_begins_50 : decode cX11_begins 50 = .ok (.iconst 1, 1) := by decide +kernel
theorem dX11_begins_51 : decode cX11_begins 51 = .ok (.if_icmp .ne 39, 3) := by decide +kernel
theorem dX11_begins_54 : decode cX11_begins 54 = .ok (.aload_n 0, 1) := by decide +kernel
theorem dX11_begins_55 : decode cX11_begins 55 = .ok (.getfield 183, 3) := by decide +kernel
theorem dX11_begins_58 : decode cX11_begins 58 = .ok (.bipush 8, 2) := by decide +kernel
theorem dX11_begins_60 : decode cX11_begins 60 = .ok (.if_icmp .le 30, 3) := by decide +kernel
theorem dX11_begins_63 : decode cX11_begins 63 = .ok (.aload_n 0, 1) := by decide +kernel
theorem dX11_begins_64 : decode cX11_begins 64 = .ok (.sipush 401, 3) := by decide +kernel
theorem dX11_begins_67 : decode cX11_begins 67 = .ok (.aload_n 0, 1) := by decide +kernel
theorem dX11_begins_68 : decode cX11_begins 68 = .ok (.getfield 183, 3) := by decide +kernel
theorem dX11_begins_71 : decode cX11_begins 71 = .ok (.bipush 8, 2) := by decide +kernel
theorem dX11_begins_73 : decode cX11_begins 73 = .ok (.isub, 1) := by decide +kernel
theorem dX11_begins_74 : decode cX11_begins 74 = .ok (.iconst 1, 1) := by decide +kernel
theorem dX11_begins_75 : decode cX11_begins 75 = .ok (.isub, 1) := by decide +kernel
theorem dX11_begins_76 : decode cX11_begins 76 = .ok (.invokevirtual 218, 3) := by decide +kernel
theorem dX11_begins_79 : decode cX11_begins 79 = .ok (.aload_n 0, 1) := by decide +kernel
theorem dX11_begins_80 : decode cX11_begins 80 = .ok (.invokevirtual 208, 3) := by decide +kernel
theorem dX11_begins_83 : decode cX11_begins 83 = .ok (.aload_n 0, 1) := by decide +kernel
theorem dX11_begins_84 : decode cX11_begins 84 = .ok (.invokevirtual 234, 3) := by decide +kernel
theorem dX11_begins_87 : decode cX11_begins 87 = .ok (.goto 46, 3) := by decide +kernel
theorem dX11_begins_90 : decode cX11_begins 90 = .ok (.aload_n 0, 1) := by decide +kernel
theorem dX11_begins_91 : decode cX11_begins 91 = .ok (.bipush 40, 2) := by decide +kernel
theorem dX11_begins_93 : decode cX11_begins 93 = .ok (.invokevirtual 237, 3) := by decide +kernel
theorem dX11_begins_96 : decode cX11_begins 96 = .ok (.ifCond .eq 13, 3) := by decide +kernel
theorem dX11_begins_99 : decode cX11_begins 99 = .ok (.aload_n 0, 1) := by decide +kernel
theorem dX11_begins_100 : decode cX11_begins 100 = .ok (.bipush 6, 2) := by decide +kernel
theorem dX11_begins_102 : decode cX11_begins 102 = .ok (.invokevirtual 228, 3) := by decide +kernel
theorem dX11_begins_105 : decode cX11_begins 105 = .ok (.istore_n 1, 1) := by decide +kernel
theorem dX11_begins_106 : decode cX11_begins 106 = .ok (.goto 27, 3) := by decide +kernel
theorem dX11_begins_109 : decode cX11_begins 109 = .ok (.aload_n 0, 1) := by decide +kernel
theorem dX11_begins_110 : decode cX11_begins 110 = .ok (.bipush 45, 2) := by decide +kernel
theorem dX11_begins_112 : decode cX11_begins 112 = .ok (.invokevirtual 237, 3) := by decide +kernel
theorem dX11_begins_115 : decode cX11_begins 115 = .ok (.ifCond .eq 13, 3) := by decide +kernel
theorem dX11_begins_118 : decode cX11_begins 118 = .ok (.aload_n 0, 1) := by decide +kernel
theorem dX11_begins_119 : decode cX11_begins 119 = .ok (.bipush 7, 2) := by decide +kernel
theorem dX11_begins_121 : decode cX11_begins 121 = .ok (.invokevirtual 228, 3) := by decide +kernel
theorem dX11_begins_124 : decode cX11_begins 124 = .ok (.istore_n 1, 1) := by decide +kernel
theorem dX11_begins_125 : decode cX11_begins 125 = .ok (.goto 8, 3) := by decide +kernel
theorem dX11_begins_128 : decode cX11_begins 128 = .ok (.aload_n 0, 1) := by decide +kernel
theorem dX11_begins_129 : decode cX11_begins 129 = .ok (.iconst 1, 1) := by decide +kernel
theorem dX11_begins_130 : decode cX11_begins 130 = .ok (.invokevirtual 202, 3) := by decide +kernel
theorem dX11_begins_133 : decode cX11_begins 133 = .ok (.return_, 1) := by decide +kernel
theorem dX11_oneIsOver_0 : decode cX11_oneIsOver 0 = .ok (.aload_n 0, 1) := by decide +kernel
theorem dX11_oneIsOver_1 : decode cX11_oneIsOver 1 = .ok (.invokevirtual 240, 3) := by decide +kernel
theorem dX11_oneIsOver_4 : decode cX11_oneIsOver 4 = .ok (.bipush 7, 2) := by decide +kernel
theorem dX11_oneIsOver_6 : decode cX11_oneIsOver 6 = .ok (.if_icmp .ne 34, 3) := by decide +kernel
theorem dX11_oneIsOver_9 : decode cX11_oneIsOver 9 = .ok (.aload_n 0, 1) := by decide +kernel
theorem dX11_oneIsOver_10 : decode cX11_oneIsOver 10 = .ok (.dup, 1) := by decide +kernel
theorem dX11_oneIsOver_11 : decode cX11_oneIsOver 11 = .ok (.getfield 196, 3) := by decide +kernel
theorem dX11_oneIsOver_14 : decode cX11_oneIsOver 14 = .ok (.iconst 1, 1) := by decide +kernel
theorem dX11_oneIsOver_15 : decode cX11_oneIsOver 15 = .ok (.isub, 1) := by decide +kernel
theorem dX11_oneIsOver_16 : decode cX11_oneIsOver 16 = .ok (.putfield 196, 3) := by decide +kernel
theorem dX11_oneIsOver_19 : decode cX11_oneIsOver 19 = .ok (.aload_n 0, 1) := by decide +kernel
theorem dX11_oneIsOver_20 : decode cX11_oneIsOver 20 = .ok (.dup, 1) := by decide +kernel
theorem dX11_oneIsOver_21 : decode cX11_oneIsOver 21 = .ok (.getfield 199, 3) := by decide +kernel
theorem dX11_oneIsOver_24 : decode cX11_oneIsOver 24 = .ok (.iconst 1, 1) := by decide +kernel
theorem dX11_oneIsOver_25 : decode cX11_oneIsOver 25 = .ok (.isub, 1) := by decide +kernel
theorem dX11_oneIsOver_26 : decode cX11_oneIsOver 26 = .ok (.putfield 199, 3) := by decide +kernel
theorem dX11_oneIsOver_29 : decode cX11_oneIsOver 29 = .ok (.aload_n 0, 1) := by decide +kernel
theorem dX11_oneIsOver_30 : decode cX11_oneIsOver 30 = .ok (.sipush 402, 3) := by decide +kernel
theorem dX11_oneIsOver_33 : decode cX11_oneIsOver 33 = .ok (.iconst 0, 1) := by decide +kernel
theorem dX11_oneIsOver_34 : decode cX11_oneIsOver 34 = .ok (.invokevirtual 218, 3) := by decide +kernel
theorem dX11_oneIsOver_37 : decode cX11_oneIsOver 37 = .ok (.goto (-37), 3) := by decide +kernel
theorem dX11_oneIsOver_40 : decode cX11_oneIsOver 40 = .ok (.aload_n 0, 1) := by decide +kernel
theorem dX11_oneIsOver_41 : decode cX11_oneIsOver 41 = .ok (.iconst 2, 1) := by decide +kernel
theorem dX11_oneIsOver_42 : decode cX11_oneIsOver 42 = .ok (.putfield 231, 3) := by decide +kernel
theorem dX11_oneIsOver_45 : decode cX11_oneIsOver 45 = .ok (.return_, 1) := by decide +kernel
theorem dX11_askIsOver_0 : decode cX11_askIsOver 0 = .ok (.aload_n 0, 1) := by decide +kernel
theorem dX11_askIsOver_1 : decode cX11_askIsOver 1 = .ok (.invokevirtual 240, 3) := by decide +kernel
theorem dX11_askIsOver_4 : decode cX11_askIsOver 4 = .ok (.iconst 3, 1) := by decide +kernel
theorem dX11_askIsOver_5 : decode cX11_askIsOver 5 = .ok (.if_icmp .ne 34, 3) := by decide +kernel
theorem dX11_askIsOver_8 : decode cX11_askIsOver 8 = .ok (.aload_n 0, 1) := by decide +kernel
theorem dX11_askIsOver_9 : decode cX11_askIsOver 9 = .ok (.dup, 1) := by decide +kernel
theorem dX11_askIsOver_10 : decode cX11_askIsOver 10 = .ok (.getfield 196, 3) := by decide +kernel
theorem dX11_askIsOver_13 : decode cX11_askIsOver 13 = .ok (.iconst 1, 1) := by decide +kernel
theorem dX11_askIsOver_14 : decode cX11_askIsOver 14 = .ok (.isub, 1) := by decide +kernel
theorem dX11_askIsOver_15 : decode cX11_askIsOver 15 = .ok (.putfield 196, 3) := by decide +kernel
theorem dX11_askIsOver_18 : decode cX11_askIsOver 18 = .ok (.aload_n 0, 1) := by decide +kernel
theorem dX11_askIsOver_19 : decode cX11_askIsOver 19 = .ok (.dup, 1) := by decide +kernel
theorem dX11_askIsOver_20 : decode cX11_askIsOver 20 = .ok (.getfield 199, 3) := by decide +kernel
theorem dX11_askIsOver_23 : decode cX11_askIsOver 23 = .ok (.iconst 1, 1) := by decide +kernel
theorem dX11_askIsOver_24 : decode cX11_askIsOver 24 = .ok (.isub, 1) := by decide +kernel
theorem dX11_askIsOver_25 : decode cX11_askIsOver 25 = .ok (.putfield 199, 3) := by decide +kernel
theorem dX11_askIsOver_28 : decode cX11_askIsOver 28 = .ok (.aload_n 0, 1) := by decide +kernel
theorem dX11_askIsOver_29 : decode cX11_askIsOver 29 = .ok (.sipush 405, 3) := by decide +kernel
theorem dX11_askIsOver_32 : decode cX11_askIsOver 32 = .ok (.iconst 0, 1) := by decide +kernel
theorem dX11_askIsOver_33 : decode cX11_askIsOver 33 = .ok (.invokevirtual 218, 3) := by decide +kernel
theorem dX11_askIsOver_36 : decode cX11_askIsOver 36 = .ok (.goto (-36), 3) := by decide +kernel
theorem dX11_askIsOver_39 : decode cX11_askIsOver 39 = .ok (.aload_n 0, 1) := by decide +kernel
theorem dX11_askIsOver_40 : decode cX11_askIsOver 40 = .ok (.iconst 3, 1) := by decide +kernel
theorem dX11_askIsOver_41 : decode cX11_askIsOver 41 = .ok (.putfield 231, 3) := by decide +kernel
theorem dX11_askIsOver_44 : decode cX11_askIsOver 44 = .ok (.return_, 1) := by decide +kernel
theorem dX11_isAsking_0 : decode cX11_isAsking 0 = .ok (.iload_n 0, 1) := by decide +kernel
theorem dX11_isAsking_1 : decode cX11_isAsking 1 = .ok (.bipush 60, 2) := by decide +kernel
theorem dX11_isAsking_3 : decode cX11_isAsking 3 = .ok (.if_icmp .eq 35, 3) := by decide +kernel
theorem dX11_isAsking_6 : decode cX11_isAsking 6 = .ok (.iload_n 0, 1) := by decide +kernel
theorem dX11_isAsking_7 : decode cX11_isAsking 7 = .ok (.bipush 62, 2) := by decide +kernel
theorem dX11_isAsking_9 : decode cX11_isAsking 9 = .ok (.if_icmp .eq 29, 3) := by decide +kernel
theorem dX11_isAsking_12 : decode cX11_isAsking 12 = .ok (.iload_n 0, 1) := by decide +kernel
theorem dX11_isAsking_13 : decode cX11_isAsking 13 = .ok (.bipush 61, 2) := by decide +kernel
theorem dX11_isAsking_15 : decode cX11_isAsking 15 = .ok (.if_icmp .eq 23, 3) := by decide +kernel
theorem dX11_isAsking_18 : decode cX11_isAsking 18 = .ok (.iload_n 0, 1) := by decide +kernel
theorem dX11_isAsking_19 : decode cX11_isAsking 19 = .ok (.bipush 35, 2) := by decide +kernel
theorem dX11_isAsking_21 : decode cX11_isAsking 21 = .ok (.if_icmp .eq 17, 3) := by decide +kernel
theorem dX11_isAsking_24 : decode cX11_isAsking 24 = .ok (.iload_n 0, 1) := by decide +kernel
theorem dX11_isAsking_25 : decode cX11_isAsking 25 = .ok (.sipush 300, 3) := by decide +kernel
theorem dX11_isAsking_28 : decode cX11_isAsking 28 = .ok (.if_icmp .eq 10, 3) := by decide +kernel
theorem dX11_isAsking_31 : decode cX11_isAsking 31 = .ok (.iload_n 0, 1) := by decide +kernel
theorem dX11_isAsking_32 : decode cX11_isAsking 32 = .ok (.sipush 301, 3) := by decide +kernel
theorem dX11_isAsking_35 : decode cX11_isAsking 35 = .ok (.if_icmp .ne 7, 3) := by decide +kernel
theorem dX11_isAsking_38 : decode cX11_isAsking 38 = .ok (.iconst 1, 1) := by decide +kernel
theorem dX11_isAsking_39 : decode cX11_isAsking 39 = .ok (.goto 4, 3) := by decide +kernel
theorem dX11_isAsking_42 : decode cX11_isAsking 42 = .ok (.iconst 0, 1) := by decide +kernel
theorem dX11_isAsking_43 : decode cX11_isAsking 43 = .ok (.ireturn, 1) := by decide +kernel
theorem dX11_goesOn_0 : decode cX11_goesOn 0 = .ok (.aload_n 0, 1) := by decide +kernel
theorem dX11_goesOn_1 : decode cX11_goesOn 1 = .ok (.invokevirtual 240, 3) := by decide +kernel
theorem dX11_goesOn_4 : decode cX11_goesOn 4 = .ok (.istore_n 1, 1) := by decide +kernel
theorem dX11_goesOn_5 : decode cX11_goesOn 5 = .ok (.aload_n 0, 1) := by decide +kernel
theorem dX11_goesOn_6 : decode cX11_goesOn 6 = .ok (.getfield 171, 3) := by decide +kernel
theorem dX11_goesOn_9 : decode cX11_goesOn 9 = .ok (.iconst 3, 1) := by decide +kernel
theorem dX11_goesOn_10 : decode cX11_goesOn 10 = .ok (.if_icmp .ne 55, 3) := by decide +kernel
theorem dX11_goesOn_13 : decode cX11_goesOn 13 = .ok (.aload_n 0, 1) := by decide +kernel
theorem dX11_goesOn_14 : decode cX11_goesOn 14 = .ok (.getfield 183, 3) := by decide +kernel
theorem dX11_goesOn_17 : decode cX11_goesOn 17 = .ok (.bipush 43, 2) := by decide +kernel
theorem dX11_goesOn_19 : decode cX11_goesOn 19 = .ok (.if_icmp .eq 30, 3) := by decide +kernel
theorem dX11_goesOn_22 : decode cX11_goesOn 22 = .ok (.aload_n 0, 1) := by decide +kernel
theorem dX11_goesOn_23 : decode cX11_goesOn 23 = .ok (.getfield 183, 3) := by decide +kernel
theorem dX11_goesOn_26 : decode cX11_goesOn 26 = .ok (.bipush 45, 2) := by decide +kernel
theorem dX11_goesOn_28 : decode cX11_goesOn 28 = .ok (.if_icmp .eq 21, 3) := by decide +kernel
theorem dX11_goesOn_31 : decode cX11_goesOn 31 = .ok (.aload_n 0, 1) := by decide +kernel
theorem dX11_goesOn_32 : decode cX11_goesOn 32 = .ok (.getfield 183, 3) := by decide +kernel
theorem dX11_goesOn_35 : decode cX11_goesOn 35 = .ok (.bipush 42, 2) := by decide +kernel
theorem dX11_goesOn_37 : decode cX11_goesOn 37 = .ok (.if_icmp .eq 12, 3) := by decide +kernel
theorem dX11_goesOn_40 : decode cX11_goesOn 40 = .ok (.aload_n 0, 1) := by decide +kernel
theorem dX11_goesOn_41 : decode cX11_goesOn 41 = .ok (.getfield 183, 3) := by decide +kernel
theorem dX11_goesOn_44 : decode cX11_goesOn 44 = .ok (.bipush 47, 2) := by decide +kernel
theorem dX11_goesOn_46 : decode cX11_goesOn 46 = .ok (.if_icmp .ne 19, 3) := by decide +kernel
theorem dX11_goesOn_49 : decode cX11_goesOn 49 = .ok (.aload_n 0, 1) := by decide +kernel
theorem dX11_goesOn_50 : decode cX11_goesOn 50 = .ok (.aload_n 0, 1) := by decide +kernel
theorem dX11_goesOn_51 : decode cX11_goesOn 51 = .ok (.getfield 183, 3) := by decide +kernel
theorem dX11_goesOn_54 : decode cX11_goesOn 54 = .ok (.invokevirtual 244, 3) := by decide +kernel
theorem dX11_goesOn_57 : decode cX11_goesOn 57 = .ok (.aload_n 0, 1) := by decide +kernel
theorem dX11_goesOn_58 : decode cX11_goesOn 58 = .ok (.iconst 1, 1) := by decide +kernel
theorem dX11_goesOn_59 : decode cX11_goesOn 59 = .ok (.putfield 231, 3) := by decide +kernel
theorem dX11_goesOn_62 : decode cX11_goesOn 62 = .ok (.goto 188, 3) := by decide +kernel
theorem dX11_goesOn_65 : decode cX11_goesOn 65 = .ok (.iload_n 1, 1) := by decide +kernel
theorem dX11_goesOn_66 : decode cX11_goesOn 66 = .ok (.bipush 6, 2) := by decide +kernel
theorem dX11_goesOn_68 : decode cX11_goesOn 68 = .ok (.if_icmp .ne 48, 3) := by decide +kernel
theorem dX11_goesOn_71 : decode cX11_goesOn 71 = .ok (.aload_n 0, 1) := by decide +kernel
theorem dX11_goesOn_72 : decode cX11_goesOn 72 = .ok (.bipush 41, 2) := by decide +kernel
theorem dX11_goesOn_74 : decode cX11_goesOn 74 = .ok (.invokevirtual 237, 3) := by decide +kernel
theorem dX11_goesOn_77 : decode cX11_goesOn 77 = .ok (.ifCond .eq 39, 3) := by decide +kernel
theorem dX11_goesOn_80 : decode cX11_goesOn 80 = .ok (.aload_n 0, 1) := by decide +kernel
theorem dX11_goesOn_81 : decode cX11_goesOn 81 = .ok (.iconst 3, 1) := by decide +kernel
theorem dX11_goesOn_82 : decode cX11_goesOn 82 = .ok (.invokevirtual 222, 3) := by decide +kernel
theorem dX11_goesOn_85 : decode cX11_goesOn 85 = .ok (.aload_n 0, 1) := by decide +kernel
theorem dX11_goesOn_86 : decode cX11_goesOn 86 = .ok (.dup, 1) := by decide +kernel
theorem dX11_goesOn_87 : decode cX11_goesOn 87 = .ok (.getfield 196, 3) := by decide +kernel
theorem dX11_goesOn_90 : decode cX11_goesOn 90 = .ok (.iconst 1, 1) := by decide +kernel
theorem dX11_goesOn_91 : decode cX11_goesOn 91 = .ok (.isub, 1) := by decide +kernel
theorem dX11_goesOn_92 : decode cX11_goesOn 92 = .ok (.putfield 196, 3) := by decide +kernel
theorem dX11_goesOn_95 : decode cX11_goesOn 95 = .ok (.aload_n 0, 1) := by decide +kernel
theorem dX11_goesOn_96 : decode cX11_goesOn 96 = .ok (.dup, 1) := by decide +kernel
theorem dX11_goesOn_97 : decode cX11_goesOn 97 = .ok (.getfield 199, 3) := by decide +kernel
theorem dX11_goesOn_100 : decode cX11_goesOn 100 = .ok (.iconst 1, 1) := by decide +kernel
theorem dX11_goesOn_101 : decode cX11_goesOn 101 = .ok (.isub, 1) := by decide +kernel
theorem dX11_goesOn_102 : decode cX11_goesOn 102 = .ok (.putfield 199, 3) := by decide +kernel
theorem dX11_goesOn_105 : decode cX11_goesOn 105 = .ok (.aload_n 0, 1) := by decide +kernel
theorem dX11_goesOn_106 : decode cX11_goesOn 106 = .ok (.invokevirtual 208, 3) := by decide +kernel
theorem dX11_goesOn_109 : decode cX11_goesOn 109 = .ok (.aload_n 0, 1) := by decide +kernel
theorem dX11_goesOn_110 : decode cX11_goesOn 110 = .ok (.invokevirtual 234, 3) := by decide +kernel
theorem dX11_goesOn_113 : decode cX11_goesOn 113 = .ok (.goto 137, 3) := by decide +kernel
theorem dX11_goesOn_116 : decode cX11_goesOn 116 = .ok (.iload_n 1, 1) := by decide +kernel
theorem dX11_goesOn_117 : decode cX11_goesOn 117 = .ok (.iconst 4, 1) := by decide +kernel
theorem dX11_goesOn_118 : decode cX11_goesOn 118 = .ok (.if_icmp .ne 63, 3) := by decide +kernel
theorem dX11_goesOn_121 : decode cX11_goesOn 121 = .ok (.aload_n 0, 1) := by decide +kernel
theorem dX11_goesOn_122 : decode cX11_goesOn 122 = .ok (.getfield 171, 3) := by decide +kernel
theorem dX11_goesOn_125 : decode cX11_goesOn 125 = .ok (.iconst 3, 1) := by decide +kernel
theorem dX11_goesOn_126 : decode cX11_goesOn 126 = .ok (.if_icmp .ne 55, 3) := by decide +kernel
theorem dX11_goesOn_129 : decode cX11_goesOn 129 = .ok (.aload_n 0, 1) := by decide +kernel
theorem dX11_goesOn_130 : decode cX11_goesOn 130 = .ok (.getfield 183, 3) := by decide +kernel
theorem dX11_goesOn_133 : decode cX11_goesOn 133 = .ok (.invokestatic 247, 3) := by decide +kernel
theorem dX11_goesOn_136 : decode cX11_goesOn 136 = .ok (.ifCond .eq 45, 3) := by decide +kernel
theorem dX11_goesOn_139 : decode cX11_goesOn 139 = .ok (.aload_n 0, 1) := by decide +kernel
theorem dX11_goesOn_140 : decode cX11_goesOn 140 = .ok (.iconst 3, 1) := by decide +kernel
theorem dX11_goesOn_141 : decode cX11_goesOn 141 = .ok (.invokevirtual 222, 3) := by decide +kernel
theorem dX11_goesOn_144 : decode cX11_goesOn 144 = .ok (.aload_n 0, 1) := by decide +kernel
theorem dX11_goesOn_145 : decode cX11_goesOn 145 = .ok (.getfield 51, 3) := by decide +kernel
theorem dX11_goesOn_148 : decode cX11_goesOn 148 = .ok (.aload_n 0, 1) := by decide +kernel
theorem dX11_goesOn_149 : decode cX11_goesOn 149 = .ok (.getfield 196, 3) := by decide +kernel
theorem dX11_goesOn_152 : decode cX11_goesOn 152 = .ok (.aload_n 0, 1) := by decide +kernel
theorem dX11_goesOn_153 : decode cX11_goesOn 153 = .ok (.getfield 183, 3) := by decide +kernel
theorem dX11_goesOn_156 : decode cX11_goesOn 156 = .ok (.iastore, 1) := by decide +kernel
theorem dX11_goesOn_157 : decode cX11_goesOn 157 = .ok (.aload_n 0, 1) := by decide +kernel
theorem dX11_goesOn_158 : decode cX11_goesOn 158 = .ok (.getfield 48, 3) := by decide +kernel
theorem dX11_goesOn_161 : decode cX11_goesOn 161 = .ok (.aload_n 0, 1) := by decide +kernel
theorem dX11_goesOn_162 : decode cX11_goesOn 162 = .ok (.getfield 196, 3) := by decide +kernel
theorem dX11_goesOn_165 : decode cX11_goesOn 165 = .ok (.iconst 1, 1) := by decide +kernel
theorem dX11_goesOn_166 : decode cX11_goesOn 166 = .ok (.isub, 1) := by decide +kernel
theorem dX11_goesOn_167 : decode cX11_goesOn 167 = .ok (.iconst 5, 1) := by decide +kernel
theorem dX11_goesOn_168 : decode cX11_goesOn 168 = .ok (.iastore, 1) := by decide +kernel
theorem dX11_goesOn_169 : decode cX11_goesOn 169 = .ok (.aload_n 0, 1) := by decide +kernel
theorem dX11_goesOn_170 : decode cX11_goesOn 170 = .ok (.invokevirtual 208, 3) := by decide +kernel
theorem dX11_goesOn_173 : decode cX11_goesOn 173 = .ok (.aload_n 0, 1) := by decide +kernel
theorem dX11_goesOn_174 : decode cX11_goesOn 174 = .ok (.iconst 1, 1) := by decide +kernel
theorem dX11_goesOn_175 : decode cX11_goesOn 175 = .ok (.putfield 231, 3) := by decide +kernel
theorem dX11_goesOn_178 : decode cX11_goesOn 178 = .ok (.goto 72, 3) := by decide +kernel
theorem dX11_goesOn_181 : decode cX11_goesOn 181 = .ok (.iload_n 1, 1) := by decide +kernel
theorem dX11_goesOn_182 : decode cX11_goesOn 182 = .ok (.iconst 5, 1) := by decide +kernel
theorem dX11_goesOn_183 : decode cX11_goesOn 183 = .ok (.if_icmp .ne 41, 3) := by decide +kernel
theorem dX11_goesOn_186 : decode cX11_goesOn 186 = .ok (.aload_n 0, 1) := by decide +kernel
theorem dX11_goesOn_187 : decode cX11_goesOn 187 = .ok (.iconst 3, 1) := by decide +kernel
theorem dX11_goesOn_188 : decode cX11_goesOn 188 = .ok (.invokevirtual 222, 3) := by decide +kernel
theorem dX11_goesOn_191 : decode cX11_goesOn 191 = .ok (.aload_n 0, 1) := by decide +kernel
theorem dX11_goesOn_192 : decode cX11_goesOn 192 = .ok (.getfield 51, 3) := by decide +kernel
theorem dX11_goesOn_195 : decode cX11_goesOn 195 = .ok (.aload_n 0, 1) := by decide +kernel
theorem dX11_goesOn_196 : decode cX11_goesOn 196 = .ok (.getfield 196, 3) := by decide +kernel
theorem dX11_goesOn_199 : decode cX11_goesOn 199 = .ok (.iaload, 1) := by decide +kernel
theorem dX11_goesOn_200 : decode cX11_goesOn 200 = .ok (.istore_n 2, 1) := by decide +kernel
theorem dX11_goesOn_201 : decode cX11_goesOn 201 = .ok (.aload_n 0, 1) := by decide +kernel
theorem dX11_goesOn_202 : decode cX11_goesOn 202 = .ok (.dup, 1) := by decide +kernel
theorem dX11_goesOn_203 : decode cX11_goesOn 203 = .ok (.getfield 196, 3) := by decide +kernel
theorem dX11_goesOn_206 : decode cX11_goesOn 206 = .ok (.iconst 1, 1) := by decide +kernel
theorem dX11_goesOn_207 : decode cX11_goesOn 207 = .ok (.isub, 1) := by decide +kernel
theorem dX11_goesOn_208 : decode cX11_goesOn 208 = .ok (.putfield 196, 3) := by decide +kernel
theorem dX11_goesOn_211 : decode cX11_goesOn 211 = .ok (.aload_n 0, 1) := by decide +kernel
theorem dX11_goesOn_212 : decode cX11_goesOn 212 = .ok (.iload_n 2, 1) := by decide +kernel
theorem dX11_goesOn_213 : decode cX11_goesOn 213 = .ok (.iconst 0, 1) := by decide +kernel
theorem dX11_goesOn_214 : decode cX11_goesOn 214 = .ok (.invokevirtual 218, 3) := by decide +kernel
theorem dX11_goesOn_217 : decode cX11_goesOn 217 = .ok (.aload_n 0, 1) := by decide +kernel
theorem dX11_goesOn_218 : decode cX11_goesOn 218 = .ok (.invokevirtual 250, 3) := by decide +kernel
theorem dX11_goesOn_221 : decode cX11_goesOn 221 = .ok (.goto 29, 3) := by decide +kernel
theorem dX11_goesOn_224 : decode cX11_goesOn 224 = .ok (.iload_n 1, 1) := by decide +kernel
theorem dX11_goesOn_225 : decode cX11_goesOn 225 = .ok (.iconst 1, 1) := by decide +kernel
theorem dX11_goesOn_226 : decode cX11_goesOn 226 = .ok (.if_icmp .ne 19, 3) := by decide +kernel
theorem dX11_goesOn_229 : decode cX11_goesOn 229 = .ok (.aload_n 0, 1) := by decide +kernel
theorem dX11_goesOn_230 : decode cX11_goesOn 230 = .ok (.bipush 59, 2) := by decide +kernel
theorem dX11_goesOn_232 : decode cX11_goesOn 232 = .ok (.invokevirtual 237, 3) := by decide +kernel
theorem dX11_goesOn_235 : decode cX11_goesOn 235 = .ok (.ifCond .eq 10, 3) := by decide +kernel
theorem dX11_goesOn_238 : decode cX11_goesOn 238 = .ok (.aload_n 0, 1) := by decide +kernel
theorem dX11_goesOn_239 : decode cX11_goesOn 239 = .ok (.invokevirtual 253, 3) := by decide +kernel
theorem dX11_goesOn_242 : decode cX11_goesOn 242 = .ok (.goto 8, 3) := by decide +kernel
theorem dX11_goesOn_245 : decode cX11_goesOn 245 = .ok (.aload_n 0, 1) := by decide +kernel
theorem dX11_goesOn_246 : decode cX11_goesOn 246 = .ok (.iconst 1, 1) := by decide +kernel
theorem dX11_goesOn_247 : decode cX11_goesOn 247 = .ok (.invokevirtual 202, 3) := by decide +kernel
theorem dX11_goesOn_250 : decode cX11_goesOn 250 = .ok (.return_, 1) := by decide +kernel
theorem dX11_asksOn_0 : decode cX11_asksOn 0 = .ok (.aload_n 0, 1) := by decide +kernel
theorem dX11_asksOn_1 : decode cX11_asksOn 1 = .ok (.bipush 6, 2) := by decide +kernel
theorem dX11_asksOn_3 : decode cX11_asksOn 3 = .ok (.invokevirtual 225, 3) := by decide +kernel
theorem dX11_asksOn_6 : decode cX11_asksOn 6 = .ok (.ifCond .ne 12, 3) := by decide +kernel
theorem dX11_asksOn_9 : decode cX11_asksOn 9 = .ok (.aload_n 0, 1) := by decide +kernel
theorem dX11_asksOn_10 : decode cX11_asksOn 10 = .ok (.bipush 7, 2) := by decide +kernel
theorem dX11_asksOn_12 : decode cX11_asksOn 12 = .ok (.invokevirtual 225, 3) := by decide +kernel
theorem dX11_asksOn_15 : decode cX11_asksOn 15 = .ok (.ifCond .eq 33, 3) := by decide +kernel
theorem dX11_asksOn_18 : decode cX11_asksOn 18 = .ok (.aload_n 0, 1) := by decide +kernel
theorem dX11_asksOn_19 : decode cX11_asksOn 19 = .ok (.aload_n 0, 1) := by decide +kernel
theorem dX11_asksOn_20 : decode cX11_asksOn 20 = .ok (.bipush 6, 2) := by decide +kernel
theorem dX11_asksOn_22 : decode cX11_asksOn 22 = .ok (.invokevirtual 225, 3) := by decide +kernel
theorem dX11_asksOn_25 : decode cX11_asksOn 25 = .ok (.ifCond .eq 9, 3) := by decide +kernel
theorem dX11_asksOn_28 : decode cX11_asksOn 28 = .ok (.sipush 407, 3) := by decide +kernel
theorem dX11_asksOn_31 : decode cX11_asksOn 31 = .ok (.goto 6, 3) := by decide +kernel
theorem dX11_asksOn_34 : decode cX11_asksOn 34 = .ok (.sipush 406, 3) := by decide +kernel
theorem dX11_asksOn_37 : decode cX11_asksOn 37 = .ok (.invokevirtual 244, 3) := by decide +kernel
theorem dX11_asksOn_40 : decode cX11_asksOn 40 = .ok (.aload_n 0, 1) := by decide +kernel
theorem dX11_asksOn_41 : decode cX11_asksOn 41 = .ok (.iconst 0, 1) := by decide +kernel
theorem dX11_asksOn_42 : decode cX11_asksOn 42 = .ok (.putfield 231, 3) := by decide +kernel
theorem dX11_asksOn_45 : decode cX11_asksOn 45 = .ok (.goto 32, 3) := by decide +kernel
theorem dX11_asksOn_48 : decode cX11_asksOn 48 = .ok (.aload_n 0, 1) := by decide +kernel
theorem dX11_asksOn_49 : decode cX11_asksOn 49 = .ok (.invokevirtual 240, 3) := by decide +kernel
theorem dX11_asksOn_52 : decode cX11_asksOn 52 = .ok (.iconst 2, 1) := by decide +kernel
theorem dX11_asksOn_53 : decode cX11_asksOn 53 = .ok (.if_icmp .ne 19, 3) := by decide +kernel
theorem dX11_asksOn_56 : decode cX11_asksOn 56 = .ok (.aload_n 0, 1) := by decide +kernel
theorem dX11_asksOn_57 : decode cX11_asksOn 57 = .ok (.bipush 59, 2) := by decide +kernel
theorem dX11_asksOn_59 : decode cX11_asksOn 59 = .ok (.invokevirtual 237, 3) := by decide +kernel
theorem dX11_asksOn_62 : decode cX11_asksOn 62 = .ok (.ifCond .eq 10, 3) := by decide +kernel
theorem dX11_asksOn_65 : decode cX11_asksOn 65 = .ok (.aload_n 0, 1) := by decide +kernel
theorem dX11_asksOn_66 : decode cX11_asksOn 66 = .ok (.invokevirtual 253, 3) := by decide +kernel
theorem dX11_asksOn_69 : decode cX11_asksOn 69 = .ok (.goto 8, 3) := by decide +kernel
theorem dX11_asksOn_72 : decode cX11_asksOn 72 = .ok (.aload_n 0, 1) := by decide +kernel
theorem dX11_asksOn_73 : decode cX11_asksOn 73 = .ok (.iconst 1, 1) := by decide +kernel
theorem dX11_asksOn_74 : decode cX11_asksOn 74 = .ok (.invokevirtual 202, 3) := by decide +kernel
theorem dX11_asksOn_77 : decode cX11_asksOn 77 = .ok (.return_, 1) := by decide +kernel
theorem dX11_clauseIsOver_0 : decode cX11_clauseIsOver 0 = .ok (.aload_n 0, 1) := by decide +kernel
theorem dX11_clauseIsOver_1 : decode cX11_clauseIsOver 1 = .ok (.iconst 1, 1) := by decide +kernel
theorem dX11_clauseIsOver_2 : decode cX11_clauseIsOver 2 = .ok (.invokevirtual 222, 3) := by decide +kernel
theorem dX11_clauseIsOver_5 : decode cX11_clauseIsOver 5 = .ok (.aload_n 0, 1) := by decide +kernel
theorem dX11_clauseIsOver_6 : decode cX11_clauseIsOver 6 = .ok (.iconst 0, 1) := by decide +kernel
theorem dX11_clauseIsOver_7 : decode cX11_clauseIsOver 7 = .ok (.putfield 196, 3) := by decide +kernel
theorem dX11_clauseIsOver_10 : decode cX11_clauseIsOver 10 = .ok (.aload_n 0, 1) := by decide +kernel
theorem dX11_clauseIsOver_11 : decode cX11_clauseIsOver 11 = .ok (.sipush 408, 3) := by decide +kernel
theorem dX11_clauseIsOver_14 : decode cX11_clauseIsOver 14 = .ok (.iconst 0, 1) := by decide +kernel
theorem dX11_clauseIsOver_15 : decode cX11_clauseIsOver 15 = .ok (.invokevirtual 218, 3) := by decide +kernel
theorem dX11_clauseIsOver_18 : decode cX11_clauseIsOver 18 = .ok (.aload_n 0, 1) := by decide +kernel
theorem dX11_clauseIsOver_19 : decode cX11_clauseIsOver 19 = .ok (.dup, 1) := by decide +kernel
theorem dX11_clauseIsOver_20 : decode cX11_clauseIsOver 20 = .ok (.getfield 256, 3) := by decide +kernel
theorem dX11_clauseIsOver_23 : decode cX11_clauseIsOver 23 = .ok (.iconst 1, 1) := by decide +kernel
theorem dX11_clauseIsOver_24 : decode cX11_clauseIsOver 24 = .ok (.iadd, 1) := by decide +kernel
theorem dX11_clauseIsOver_25 : decode cX11_clauseIsOver 25 = .ok (.putfield 256, 3) := by decide +kernel
theorem dX11_clauseIsOver_28 : decode cX11_clauseIsOver 28 = .ok (.aload_n 0, 1) := by decide +kernel
theorem dX11_clauseIsOver_29 : decode cX11_clauseIsOver 29 = .ok (.invokevirtual 208, 3) := by decide +kernel
theorem dX11_clauseIsOver_32 : decode cX11_clauseIsOver 32 = .ok (.aload_n 0, 1) := by decide +kernel
theorem dX11_clauseIsOver_33 : decode cX11_clauseIsOver 33 = .ok (.iconst 4, 1) := by decide +kernel
theorem dX11_clauseIsOver_34 : decode cX11_clauseIsOver 34 = .ok (.putfield 231, 3) := by decide +kernel
theorem dX11_clauseIsOver_37 : decode cX11_clauseIsOver 37 = .ok (.return_, 1) := by decide +kernel
theorem dX11_number_0 : decode cX11_number 0 = .ok (.aload_n 0, 1) := by decide +kernel
theorem dX11_number_1 : decode cX11_number 1 = .ok (.getfield 187, 3) := by decide +kernel
theorem dX11_number_4 : decode cX11_number 4 = .ok (.ifCond .gt 11, 3) := by decide +kernel
theorem dX11_number_7 : decode cX11_number 7 = .ok (.aload_n 0, 1) := by decide +kernel
theorem dX11_number_8 : decode cX11_number 8 = .ok (.getfield 171, 3) := by decide +kernel
theorem dX11_number_11 : decode cX11_number 11 = .ok (.iconst 2, 1) := by decide +kernel
theorem dX11_number_12 : decode cX11_number 12 = .ok (.if_icmp .eq 10, 3) := by decide +kernel
theorem dX11_number_15 : decode cX11_number 15 = .ok (.aload_n 0, 1) := by decide +kernel
theorem dX11_number_16 : decode cX11_number 16 = .ok (.iconst 1, 1) := by decide +kernel
theorem dX11_number_17 : decode cX11_number 17 = .ok (.invokevirtual 202, 3) := by decide +kernel
theorem dX11_number_20 : decode cX11_number 20 = .ok (.iload_n 1, 1) := by decide +kernel
theorem dX11_number_21 : decode cX11_number 21 = .ok (.ireturn, 1) := by decide +kernel
theorem dX11_number_22 : decode cX11_number 22 = .ok (.aload_n 0, 1) := by decide +kernel
theorem dX11_number_23 : decode cX11_number 23 = .ok (.getfield 183, 3) := by decide +kernel
theorem dX11_number_26 : decode cX11_number 26 = .ok (.iload_n 1, 1) := by decide +kernel
theorem dX11_number_27 : decode cX11_number 27 = .ok (.iload_n 2, 1) := by decide +kernel
theorem dX11_number_28 : decode cX11_number 28 = .ok (.invokestatic 115, 3) := by decide +kernel
theorem dX11_number_31 : decode cX11_number 31 = .ok (.ifCond .ne 10, 3) := by decide +kernel
theorem dX11_number_34 : decode cX11_number 34 = .ok (.aload_n 0, 1) := by decide +kernel
theorem dX11_number_35 : decode cX11_number 35 = .ok (.iconst 2, 1) := by decide +kernel
theorem dX11_number_36 : decode cX11_number 36 = .ok (.invokevirtual 202, 3) := by decide +kernel
theorem dX11_number_39 : decode cX11_number 39 = .ok (.iload_n 1, 1) := by decide +kernel
theorem dX11_number_40 : decode cX11_number 40 = .ok (.ireturn, 1) := by decide +kernel
theorem dX11_number_41 : decode cX11_number 41 = .ok (.aload_n 0, 1) := by decide +kernel
theorem dX11_number_42 : decode cX11_number 42 = .ok (.getfield 183, 3) := by decide +kernel
theorem dX11_number_45 : decode cX11_number 45 = .ok (.istore_n 3, 1) := by decide +kernel
theorem dX11_number_46 : decode cX11_number 46 = .ok (.aload_n 0, 1) := by decide +kernel
theorem dX11_number_47 : decode cX11_number 47 = .ok (.invokevirtual 208, 3) := by decide +kernel
theorem dX11_number_50 : decode cX11_number 50 = .ok (.iload_n 3, 1) := by decide +kernel
theorem dX11_number_51 : decode cX11_number 51 = .ok (.ireturn, 1) := by decide +kernel
theorem dX11_wasTold_0 : decode cX11_wasTold 0 = .ok (.iconst 0, 1) := by decide +kernel
theorem dX11_wasTold_1 : decode cX11_wasTold 1 = .ok (.istore_n 2, 1) := by decide +kernel
theorem dX11_wasTold_2 : decode cX11_wasTold 2 = .ok (.iconst 0, 1) := by decide +kernel
theorem dX11_wasTold_3 : decode cX11_wasTold 3 = .ok (.istore_n 3, 1) := by decide +kernel
theorem dX11_wasTold_4 : decode cX11_wasTold 4 = .ok (.iload_n 3, 1) := by decide +kernel
theorem dX11_wasTold_5 : decode cX11_wasTold 5 = .ok (.aload_n 0, 1) := by decide +kernel
theorem dX11_wasTold_6 : decode cX11_wasTold 6 = .ok (.getfield 256, 3) := by decide +kernel
theorem dX11_wasTold_9 : decode cX11_wasTold 9 = .ok (.if_icmp .ge 29, 3) := by decide +kernel
theorem dX11_wasTold_12 : decode cX11_wasTold 12 = .ok (.iload_n 2, 1) := by decide +kernel
theorem dX11_wasTold_13 : decode cX11_wasTold 13 = .ok (.ifCond .ne 13, 3) := by decide +kernel
theorem dX11_wasTold_16 : decode cX11_wasTold 16 = .ok (.aload_n 0, 1) := by decide +kernel
theorem dX11_wasTold_17 : decode cX11_wasTold 17 = .ok (.getfield 60, 3) := by decide +kernel
theorem dX11_wasTold_20 : decode cX11_wasTold 20 = .ok (.iload_n 3, 1) := by decide +kernel
theorem dX11_wasTold_21 : decode cX11_wasTold 21 = .ok (.iaload, 1) := by decide +kernel
theorem dX11_wasTold_22 : decode cX11_wasTold 22 = .ok (.iload_n 1, 1) := by decide +kernel
theorem dX11_wasTold_23 : decode cX11_wasTold 23 = .ok (.if_icmp .ne 7, 3) := by decide +kernel
theorem dX11_wasTold_26 : decode cX11_wasTold 26 = .ok (.iconst 1, 1) := by decide +kernel
theorem dX11_wasTold_27 : decode cX11_wasTold 27 = .ok (.goto 4, 3) := by decide +kernel
theorem dX11_wasTold_30 : decode cX11_wasTold 30 = .ok (.iconst 0, 1) := by decide +kernel
theorem dX11_wasTold_31 : decode cX11_wasTold 31 = .ok (.istore_n 2, 1) := by decide +kernel
theorem dX11_wasTold_32 : decode cX11_wasTold 32 = .ok (.iinc 3 1, 3) := by decide +kernel
theorem dX11_wasTold_35 : decode cX11_wasTold 35 = .ok (.goto (-31), 3) := by decide +kernel
theorem dX11_wasTold_38 : decode cX11_wasTold 38 = .ok (.iload_n 2, 1) := by decide +kernel
theorem dX11_wasTold_39 : decode cX11_wasTold 39 = .ok (.ireturn, 1) := by decide +kernel
theorem dX11_clause_0 : decode cX11_clause 0 = .ok (.aload_n 0, 1) := by decide +kernel
theorem dX11_clause_1 : decode cX11_clause 1 = .ok (.getfield 171, 3) := by decide +kernel
theorem dX11_clause_4 : decode cX11_clause 4 = .ok (.iconst 1, 1) := by decide +kernel
theorem dX11_clause_5 : decode cX11_clause 5 = .ok (.if_icmp .ne 11, 3) := by decide +kernel
theorem dX11_clause_8 : decode cX11_clause 8 = .ok (.aload_n 0, 1) := by decide +kernel
theorem dX11_clause_9 : decode cX11_clause 9 = .ok (.getfield 183, 3) := by decide +kernel
theorem dX11_clause_12 : decode cX11_clause 12 = .ok (.iconst 4, 1) := by decide +kernel
theorem dX11_clause_13 : decode cX11_clause 13 = .ok (.if_icmp .le 9, 3) := by decide +kernel
theorem dX11_clause_16 : decode cX11_clause 16 = .ok (.aload_n 0, 1) := by decide +kernel
theorem dX11_clause_17 : decode cX11_clause 17 = .ok (.iconst 1, 1) := by decide +kernel
theorem dX11_clause_18 : decode cX11_clause 18 = .ok (.invokevirtual 202, 3) := by decide +kernel
theorem dX11_clause_21 : decode cX11_clause 21 = .ok (.return_, 1) := by decide +kernel
theorem dX11_clause_22 : decode cX11_clause 22 = .ok (.aload_n 0, 1) := by decide +kernel
theorem dX11_clause_23 : decode cX11_clause 23 = .ok (.aload_n 0, 1) := by decide +kernel
theorem dX11_clause_24 : decode cX11_clause 24 = .ok (.getfield 183, 3) := by decide +kernel
theorem dX11_clause_27 : decode cX11_clause 27 = .ok (.putfield 259, 3) := by decide +kernel
theorem dX11_clause_30 : decode cX11_clause 30 = .ok (.aload_n 0, 1) := by decide +kernel
theorem dX11_clause_31 : decode cX11_clause 31 = .ok (.getfield 259, 3) := by decide +kernel
theorem dX11_clause_34 : decode cX11_clause 34 = .ok (.iconst 1, 1) := by decide +kernel
theorem dX11_clause_35 : decode cX11_clause 35 = .ok (.if_icmp .gt 22, 3) := by decide +kernel
theorem dX11_clause_38 : decode cX11_clause 38 = .ok (.aload_n 0, 1) := by decide +kernel
theorem dX11_clause_39 : decode cX11_clause 39 = .ok (.aload_n 0, 1) := by decide +kernel
theorem dX11_clause_40 : decode cX11_clause 40 = .ok (.getfield 259, 3) := by decide +kernel
theorem dX11_clause_43 : decode cX11_clause 43 = .ok (.invokevirtual 262, 3) := by decide +kernel
theorem dX11_clause_46 : decode cX11_clause 46 = .ok (.ifCond .eq 11, 3) := by decide +kernel
theorem dX11_clause_49 : decode cX11_clause 49 = .ok (.aload_n 0, 1) := by decide +kernel
theorem dX11_clause_50 : decode cX11_clause 50 = .ok (.iconst 4, 1) := by decide +kernel
theorem dX11_clause_51 : decode cX11_clause 51 = .ok (.invokevirtual 202, 3) := by decide +kernel
theorem dX11_clause_54 : decode cX11_clause 54 = .ok (.goto 17, 3) := by decide +kernel
theorem dX11_clause_57 : decode cX11_clause 57 = .ok (.aload_n 0, 1) := by decide +kernel
theorem dX11_clause_58 : decode cX11_clause 58 = .ok (.getfield 256, 3) := by decide +kernel
theorem dX11_clause_61 : decode cX11_clause 61 = .ok (.bipush 20, 2) := by decide +kernel
theorem dX11_clause_63 : decode cX11_clause 63 = .ok (.if_icmp .ne 8, 3) := by decide +kernel
theorem dX11_clause_66 : decode cX11_clause 66 = .ok (.aload_n 0, 1) := by decide +kernel
theorem dX11_clause_67 : decode cX11_clause 67 = .ok (.iconst 5, 1) := by decide +kernel
theorem dX11_clause_68 : decode cX11_clause 68 = .ok (.invokevirtual 202, 3) := by decide +kernel
theorem dX11_clause_71 : decode cX11_clause 71 = .ok (.aload_n 0, 1) := by decide +kernel
theorem dX11_clause_72 : decode cX11_clause 72 = .ok (.getfield 187, 3) := by decide +kernel
theorem dX11_clause_75 : decode cX11_clause 75 = .ok (.ifCond .le 4, 3) := by decide +kernel
theorem dX11_clause_78 : decode cX11_clause 78 = .ok (.return_, 1) := by decide +kernel
theorem dX11_clause_79 : decode cX11_clause 79 = .ok (.aload_n 0, 1) := by decide +kernel
theorem dX11_clause_80 : decode cX11_clause 80 = .ok (.getfield 60, 3) := by decide +kernel
theorem dX11_clause_83 : decode cX11_clause 83 = .ok (.aload_n 0, 1) := by decide +kernel
theorem dX11_clause_84 : decode cX11_clause 84 = .ok (.getfield 256, 3) := by decide +kernel
theorem dX11_clause_87 : decode cX11_clause 87 = .ok (.aload_n 0, 1) := by decide +kernel
theorem dX11_clause_88 : decode cX11_clause 88 = .ok (.getfield 259, 3) := by decide +kernel
theorem dX11_clause_91 : decode cX11_clause 91 = .ok (.iastore, 1) := by decide +kernel
theorem dX11_clause_92 : decode cX11_clause 92 = .ok (.aload_n 0, 1) := by decide +kernel
theorem dX11_clause_93 : decode cX11_clause 93 = .ok (.getfield 63, 3) := by decide +kernel
theorem dX11_clause_96 : decode cX11_clause 96 = .ok (.aload_n 0, 1) := by decide +kernel
theorem dX11_clause_97 : decode cX11_clause 97 = .ok (.getfield 256, 3) := by decide +kernel
theorem dX11_clause_100 : decode cX11_clause 100 = .ok (.aload_n 0, 1) := by decide +kernel
theorem dX11_clause_101 : decode cX11_clause 101 = .ok (.getfield 193, 3) := by decide +kernel
theorem dX11_clause_104 : decode cX11_clause 104 = .ok (.iastore, 1) := by decide +kernel
theorem dX11_clause_105 : decode cX11_clause 105 = .ok (.aload_n 0, 1) := by decide +kernel
theorem dX11_clause_106 : decode cX11_clause 106 = .ok (.getfield 66, 3) := by decide +kernel
theorem dX11_clause_109 : decode cX11_clause 109 = .ok (.aload_n 0, 1) := by decide +kernel
theorem dX11_clause_110 : decode cX11_clause 110 = .ok (.getfield 256, 3) := by decide +kernel
theorem dX11_clause_113 : decode cX11_clause 113 = .ok (.iconst (-1), 1) := by decide +kernel
theorem dX11_clause_114 : decode cX11_clause 114 = .ok (.iastore, 1) := by decide +kernel
theorem dX11_clause_115 : decode cX11_clause 115 = .ok (.aload_n 0, 1) := by decide +kernel
theorem dX11_clause_116 : decode cX11_clause 116 = .ok (.getfield 69, 3) := by decide +kernel
theorem dX11_clause_119 : decode cX11_clause 119 = .ok (.aload_n 0, 1) := by decide +kernel
theorem dX11_clause_120 : decode cX11_clause 120 = .ok (.getfield 256, 3) := by decide +kernel
theorem dX11_clause_123 : decode cX11_clause 123 = .ok (.iconst (-1), 1) := by decide +kernel
theorem dX11_clause_124 : decode cX11_clause 124 = .ok (.iastore, 1) := by decide +kernel
theorem dX11_clause_125 : decode cX11_clause 125 = .ok (.aload_n 0, 1) := by decide +kernel
theorem dX11_clause_126 : decode cX11_clause 126 = .ok (.invokevirtual 208, 3) := by decide +kernel
theorem dX11_clause_129 : decode cX11_clause 129 = .ok (.aload_n 0, 1) := by decide +kernel
theorem dX11_clause_130 : decode cX11_clause 130 = .ok (.getfield 259, 3) := by decide +kernel
theorem dX11_clause_133 : decode cX11_clause 133 = .ok (.iconst 1, 1) := by decide +kernel
theorem dX11_clause_134 : decode cX11_clause 134 = .ok (.if_icmp .gt 36, 3) := by decide +kernel
theorem dX11_clause_137 : decode cX11_clause 137 = .ok (.aload_n 0, 1) := by decide +kernel
theorem dX11_clause_138 : decode cX11_clause 138 = .ok (.aload_n 0, 1) := by decide +kernel
theorem dX11_clause_139 : decode cX11_clause 139 = .ok (.getfield 259, 3) := by decide +kernel
theorem dX11_clause_142 : decode cX11_clause 142 = .ok (.ifCond .ne 7, 3) := by decide +kernel
theorem dX11_clause_145 : decode cX11_clause 145 = .ok (.iconst 2, 1) := by decide +kernel
theorem dX11_clause_146 : decode cX11_clause 146 = .ok (.goto 4, 3) := by decide +kernel
theorem dX11_clause_149 : decode cX11_clause 149 = .ok (.iconst 1, 1) := by decide +kernel
theorem dX11_clause_150 : decode cX11_clause 150 = .ok (.invokevirtual 205, 3) := by decide +kernel
theorem dX11_clause_153 : decode cX11_clause 153 = .ok (.aload_n 0, 1) := by decide +kernel
theorem dX11_clause_154 : decode cX11_clause 154 = .ok (.aload_n 0, 1) := by decide +kernel
theorem dX11_clause_155 : decode cX11_clause 155 = .ok (.getfield 259, 3) := by decide +kernel
theorem dX11_clause_158 : decode cX11_clause 158 = .ok (.ifCond .ne 7, 3) := by decide +kernel
theorem dX11_clause_161 : decode cX11_clause 161 = .ok (.iconst 0, 1) := by decide +kernel
theorem dX11_clause_162 : decode cX11_clause 162 = .ok (.goto 4, 3) := by decide +kernel
theorem dX11_clause_165 : decode cX11_clause 165 = .ok (.iconst 1, 1) := by decide +kernel
theorem dX11_clause_166 : decode cX11_clause 166 = .ok (.putfield 231, 3) := by decide +kernel
theorem dX11_clause_169 : decode cX11_clause 169 = .ok (.return_, 1) := by decide +kernel
theorem dX11_clause_170 : decode cX11_clause 170 = .ok (.aload_n 0, 1) := by decide +kernel
theorem dX11_clause_171 : decode cX11_clause 171 = .ok (.getfield 66, 3) := by decide +kernel
theorem dX11_clause_174 : decode cX11_clause 174 = .ok (.aload_n 0, 1) := by decide +kernel
theorem dX11_clause_175 : decode cX11_clause 175 = .ok (.getfield 256, 3) := by decide +kernel
theorem dX11_clause_178 : decode cX11_clause 178 = .ok (.aload_n 0, 1) := by decide +kernel
theorem dX11_clause_179 : decode cX11_clause 179 = .ok (.iconst 0, 1) := by decide +kernel
theorem dX11_clause_180 : decode cX11_clause 180 = .ok (.aload_n 0, 1) := by decide +kernel
theorem dX11_clause_181 : decode cX11_clause 181 = .ok (.getfield 259, 3) := by decide +kernel
theorem dX11_clause_184 : decode cX11_clause 184 = .ok (.iconst 4, 1) := by decide +kernel
theorem dX11_clause_185 : decode cX11_clause 185 = .ok (.if_icmp .ne 8, 3) := by decide +kernel
theorem dX11_clause_188 : decode cX11_clause 188 = .ok (.bipush 99, 2) := by decide +kernel
theorem dX11_clause_190 : decode cX11_clause 190 = .ok (.goto 5, 3) := by decide +kernel
theorem dX11_clause_193 : decode cX11_clause 193 = .ok (.bipush 19, 2) := by decide +kernel
theorem dX11_clause_195 : decode cX11_clause 195 = .ok (.invokevirtual 265, 3) := by decide +kernel
theorem dX11_clause_198 : decode cX11_clause 198 = .ok (.iastore, 1) := by decide +kernel
theorem dX11_clause_199 : decode cX11_clause 199 = .ok (.aload_n 0, 1) := by decide +kernel
theorem dX11_clause_200 : decode cX11_clause 200 = .ok (.getfield 259, 3) := by decide +kernel
theorem dX11_clause_203 : decode cX11_clause 203 = .ok (.iconst 2, 1) := by decide +kernel
theorem dX11_clause_204 : decode cX11_clause 204 = .ok (.if_icmp .ne 50, 3) := by decide +kernel
theorem dX11_clause_207 : decode cX11_clause 207 = .ok (.aload_n 0, 1) := by decide +kernel
theorem dX11_clause_208 : decode cX11_clause 208 = .ok (.getfield 187, 3) := by decide +kernel
theorem dX11_clause_211 : decode cX11_clause 211 = .ok (.ifCond .ne 16, 3) := by decide +kernel
theorem dX11_clause_214 : decode cX11_clause 214 = .ok (.aload_n 0, 1) := by decide +kernel
theorem dX11_clause_215 : decode cX11_clause 215 = .ok (.iconst 5, 1) := by decide +kernel
theorem dX11_clause_216 : decode cX11_clause 216 = .ok (.invokevirtual 225, 3) := by decide +kernel
theorem dX11_clause_219 : decode cX11_clause 219 = .ok (.ifCond .ne 8, 3) := by decide +kernel
theorem dX11_clause_222 : decode cX11_clause 222 = .ok (.aload_n 0, 1) := by decide +kernel
theorem dX11_clause_223 : decode cX11_clause 223 = .ok (.iconst 1, 1) := by decide +kernel
theorem dX11_clause_224 : decode cX11_clause 224 = .ok (.invokevirtual 202, 3) := by decide +kernel
theorem dX11_clause_227 : decode cX11_clause 227 = .ok (.aload_n 0, 1) := by decide +kernel
theorem dX11_clause_228 : decode cX11_clause 228 = .ok (.getfield 187, 3) := by decide +kernel
theorem dX11_clause_231 : decode cX11_clause 231 = .ok (.ifCond .ne 7, 3) := by decide +kernel
theorem dX11_clause_234 : decode cX11_clause 234 = .ok (.aload_n 0, 1) := by decide +kernel
theorem dX11_clause_235 : decode cX11_clause 235 = .ok (.invokevirtual 208, 3) := by decide +kernel
theorem dX11_clause_238 : decode cX11_clause 238 = .ok (.aload_n 0, 1) := by decide +kernel
theorem dX11_clause_239 : decode cX11_clause 239 = .ok (.getfield 69, 3) := by decide +kernel
theorem dX11_clause_242 : decode cX11_clause 242 = .ok (.aload_n 0, 1) := by decide +kernel
theorem dX11_clause_243 : decode cX11_clause 243 = .ok (.getfield 256, 3) := by decide +kernel
theorem dX11_clause_246 : decode cX11_clause 246 = .ok (.aload_n 0, 1) := by decide +kernel
theorem dX11_clause_247 : decode cX11_clause 247 = .ok (.iconst 0, 1) := by decide +kernel
theorem dX11_clause_248 : decode cX11_clause 248 = .ok (.bipush 9, 2) := by decide +kernel
theorem dX11_clause_250 : decode cX11_clause 250 = .ok (.invokevirtual 265, 3) := by decide +kernel
theorem dX11_clause_253 : decode cX11_clause 253 = .ok (.iastore, 1) := by decide +kernel
theorem dX11_clause_254 : decode cX11_clause 254 = .ok (.aload_n 0, 1) := by decide +kernel
theorem dX11_clause_255 : decode cX11_clause 255 = .ok (.getfield 187, 3) := by decide +kernel
theorem dX11_clause_258 : decode cX11_clause 258 = .ok (.ifCond .ne 17, 3) := by decide +kernel
theorem dX11_clause_261 : decode cX11_clause 261 = .ok (.aload_n 0, 1) := by decide +kernel
theorem dX11_clause_262 : decode cX11_clause 262 = .ok (.bipush 59, 2) := by decide +kernel
theorem dX11_clause_264 : decode cX11_clause 264 = .ok (.invokevirtual 237, 3) := by decide +kernel
theorem dX11_clause_267 : decode cX11_clause 267 = .ok (.ifCond .ne 8, 3) := by decide +kernel
theorem dX11_clause_270 : decode cX11_clause 270 = .ok (.aload_n 0, 1) := by decide +kernel
theorem dX11_clause_271 : decode cX11_clause 271 = .ok (.iconst 1, 1) := by decide +kernel
theorem dX11_clause_272 : decode cX11_clause 272 = .ok (.invokevirtual 202, 3) := by decide +kernel
theorem dX11_clause_275 : decode cX11_clause 275 = .ok (.aload_n 0, 1) := by decide +kernel
theorem dX11_clause_276 : decode cX11_clause 276 = .ok (.getfield 187, 3) := by decide +kernel
theorem dX11_clause_279 : decode cX11_clause 279 = .ok (.ifCond .ne 7, 3) := by decide +kernel
theorem dX11_clause_282 : decode cX11_clause 282 = .ok (.aload_n 0, 1) := by decide +kernel
theorem dX11_clause_283 : decode cX11_clause 283 = .ok (.invokevirtual 253, 3) := by decide +kernel
theorem dX11_clause_286 : decode cX11_clause 286 = .ok (.return_, 1) := by decide +kernel
theorem dX11_text_0 : decode cX11_text 0 = .ok (.aload_n 0, 1) := by decide +kernel
theorem dX11_text_1 : decode cX11_text 1 = .ok (.getfield 7, 3) := by decide +kernel
theorem dX11_text_4 : decode cX11_text 4 = .ok (.iconst 5, 1) := by decide +kernel
theorem dX11_text_5 : decode cX11_text 5 = .ok (.iaload, 1) := by decide +kernel
theorem dX11_text_6 : decode cX11_text 6 = .ok (.iconst 4, 1) := by decide +kernel
theorem dX11_text_7 : decode cX11_text 7 = .ok (.if_icmp .ne 5, 3) := by decide +kernel
theorem dX11_text_10 : decode cX11_text 10 = .ok (.iconst (-1), 1) := by decide +kernel
theorem dX11_text_11 : decode cX11_text 11 = .ok (.ireturn, 1) := by decide +kernel
theorem dX11_text_12 : decode cX11_text 12 = .ok (.aload_n 0, 1) := by decide +kernel
theorem dX11_text_13 : decode cX11_text 13 = .ok (.aload_n 0, 1) := by decide +kernel
theorem dX11_text_14 : decode cX11_text 14 = .ok (.getfield 123, 3) := by decide +kernel
theorem dX11_text_17 : decode cX11_text 17 = .ok (.putfield 165, 3) := by decide +kernel
theorem dX11_text_20 : decode cX11_text 20 = .ok (.aload_n 0, 1) := by decide +kernel
theorem dX11_text_21 : decode cX11_text 21 = .ok (.iconst 0, 1) := by decide +kernel
theorem dX11_text_22 : decode cX11_text 22 = .ok (.putfield 123, 3) := by decide +kernel
theorem dX11_text_25 : decode cX11_text 25 = .ok (.aload_n 0, 1) := by decide +kernel
theorem dX11_text_26 : decode cX11_text 26 = .ok (.iconst 0, 1) := by decide +kernel
theorem dX11_text_27 : decode cX11_text 27 = .ok (.putfield 162, 3) := by decide +kernel
theorem dX11_text_30 : decode cX11_text 30 = .ok (.aload_n 0, 1) := by decide +kernel
theorem dX11_text_31 : decode cX11_text 31 = .ok (.iconst 0, 1) := by decide +kernel
theorem dX11_text_32 : decode cX11_text 32 = .ok (.putfield 187, 3) := by decide +kernel
theorem dX11_text_35 : decode cX11_text 35 = .ok (.aload_n 0, 1) := by decide +kernel
theorem dX11_text_36 : decode cX11_text 36 = .ok (.iconst (-1), 1) := by decide +kernel
theorem dX11_text_37 : decode cX11_text 37 = .ok (.putfield 190, 3) := by decide +kernel
theorem dX11_text_40 : decode cX11_text 40 = .ok (.aload_n 0, 1) := by decide +kernel
theorem dX11_text_41 : decode cX11_text 41 = .ok (.iconst 0, 1) := by decide +kernel
theorem dX11_text_42 : decode cX11_text 42 = .ok (.putfield 199, 3) := by decide +kernel
theorem dX11_text_45 : decode cX11_text 45 = .ok (.aload_n 0, 1) := by decide +kernel
theorem dX11_text_46 : decode cX11_text 46 = .ok (.iconst 0, 1) := by decide +kernel
theorem dX11_text_47 : decode cX11_text 47 = .ok (.putfield 196, 3) := by decide +kernel
theorem dX11_text_50 : decode cX11_text 50 = .ok (.aload_n 0, 1) := by decide +kernel
theorem dX11_text_51 : decode cX11_text 51 = .ok (.iconst 0, 1) := by decide +kernel
theorem dX11_text_52 : decode cX11_text 52 = .ok (.putfield 211, 3) := by decide +kernel
theorem dX11_text_55 : decode cX11_text 55 = .ok (.aload_n 0, 1) := by decide +kernel
theorem dX11_text_56 : decode cX11_text 56 = .ok (.iconst 4, 1) := by decide +kernel
theorem dX11_text_57 : decode cX11_text 57 = .ok (.putfield 231, 3) := by decide +kernel
theorem dX11_text_60 : decode cX11_text 60 = .ok (.aload_n 0, 1) := by decide +kernel
theorem dX11_text_61 : decode cX11_text 61 = .ok (.iconst 0, 1) := by decide +kernel
theorem dX11_text_62 : decode cX11_text 62 = .ok (.putfield 256, 3) := by decide +kernel
theorem dX11_text_65 : decode cX11_text 65 = .ok (.aload_n 0, 1) := by decide +kernel
theorem dX11_text_66 : decode cX11_text 66 = .ok (.iconst 0, 1) := by decide +kernel
theorem dX11_text_67 : decode cX11_text 67 = .ok (.putfield 193, 3) := by decide +kernel
theorem dX11_text_70 : decode cX11_text 70 = .ok (.aload_n 0, 1) := by decide +kernel
theorem dX11_text_71 : decode cX11_text 71 = .ok (.invokevirtual 208, 3) := by decide +kernel
theorem dX11_text_74 : decode cX11_text 74 = .ok (.aload_n 0, 1) := by decide +kernel
theorem dX11_text_75 : decode cX11_text 75 = .ok (.getfield 187, 3) := by decide +kernel
theorem dX11_text_78 : decode cX11_text 78 = .ok (.ifCond .ne 89, 3) := by decide +kernel
theorem dX11_text_81 : decode cX11_text 81 = .ok (.aload_n 0, 1) := by decide +kernel
theorem dX11_text_82 : decode cX11_text 82 = .ok (.getfield 231, 3) := by decide +kernel
theorem dX11_text_85 : decode cX11_text 85 = .ok (.iconst 4, 1) := by decide +kernel
theorem dX11_text_86 : decode cX11_text 86 = .ok (.if_icmp .ne 10, 3) := by decide +kernel
theorem dX11_text_89 : decode cX11_text 89 = .ok (.aload_n 0, 1) := by decide +kernel
theorem dX11_text_90 : decode cX11_text 90 = .ok (.getfield 171, 3) := by decide +kernel
theorem dX11_text_93 : decode cX11_text 93 = .ok (.ifCond .eq 74, 3) := by decide +kernel
theorem dX11_text_96 : decode cX11_text 96 = .ok (.aload_n 0, 1) := by decide +kernel
theorem dX11_text_97 : decode cX11_text 97 = .ok (.getfield 231, 3) := by decide +kernel
theorem dX11_text_100 : decode cX11_text 100 = .ok (.tableswitch 60 0 3 #[32, 39, 46, 53], 32) := by decide +kernel
theorem dX11_text_132 : decode cX11_text 132 = .ok (.aload_n 0, 1) := by decide +kernel
theorem dX11_text_133 : decode cX11_text 133 = .ok (.invokevirtual 269, 3) := by decide +kernel
theorem dX11_text_136 : decode cX11_text 136 = .ok (.goto (-62), 3) := by decide +kernel
theorem dX11_text_139 : decode cX11_text 139 = .ok (.aload_n 0, 1) := by decide +kernel
theorem dX11_text_140 : decode cX11_text 140 = .ok (.invokevirtual 272, 3) := by decide +kernel
theorem dX11_text_143 : decode cX11_text 143 = .ok (.goto (-69), 3) := by decide +kernel
theorem dX11_text_146 : decode cX11_text 146 = .ok (.aload_n 0, 1) := by decide +kernel
theorem dX11_text_147 : decode cX11_text 147 = .ok (.invokevirtual 275, 3) := by decide +kernel
theorem dX11_text_150 : decode cX11_text 150 = .ok (.goto (-76), 3) := by decide +kernel
theorem dX11_text_153 : decode cX11_text 153 = .ok (.aload_n 0, 1) := by decide +kernel
theorem dX11_text_154 : decode cX11_text 154 = .ok (.invokevirtual 278, 3) := by decide +kernel
theorem dX11_text_157 : decode cX11_text 157 = .ok (.goto (-83), 3) := by decide +kernel
theorem dX11_text_160 : decode cX11_text 160 = .ok (.aload_n 0, 1) := by decide +kernel
theorem dX11_text_161 : decode cX11_text 161 = .ok (.invokevirtual 281, 3) := by decide +kernel
theorem dX11_text_164 : decode cX11_text 164 = .ok (.goto (-90), 3) := by decide +kernel
theorem dX11_text_167 : decode cX11_text 167 = .ok (.aload_n 0, 1) := by decide +kernel
theorem dX11_text_168 : decode cX11_text 168 = .ok (.aload_n 0, 1) := by decide +kernel
theorem dX11_text_169 : decode cX11_text 169 = .ok (.getfield 187, 3) := by decide +kernel
theorem dX11_text_172 : decode cX11_text 172 = .ok (.putfield 20, 3) := by decide +kernel
theorem dX11_text_175 : decode cX11_text 175 = .ok (.aload_n 0, 1) := by decide +kernel
theorem dX11_text_176 : decode cX11_text 176 = .ok (.aload_n 0, 1) := by decide +kernel
theorem dX11_text_177 : decode cX11_text 177 = .ok (.getfield 190, 3) := by decide +kernel
theorem dX11_text_180 : decode cX11_text 180 = .ok (.putfield 24, 3) := by decide +kernel
theorem dX11_text_183 : decode cX11_text 183 = .ok (.aload_n 0, 1) := by decide +kernel
theorem dX11_text_184 : decode cX11_text 184 = .ok (.getfield 187, 3) := by decide +kernel
theorem dX11_text_187 : decode cX11_text 187 = .ok (.ifCond .le 5, 3) := by decide +kernel
theorem dX11_text_190 : decode cX11_text 190 = .ok (.iconst (-1), 1) := by decide +kernel
theorem dX11_text_191 : decode cX11_text 191 = .ok (.ireturn, 1) := by decide +kernel
theorem dX11_text_192 : decode cX11_text 192 = .ok (.aload_n 0, 1) := by decide +kernel
theorem dX11_text_193 : decode cX11_text 193 = .ok (.getfield 7, 3) := by decide +kernel
theorem dX11_text_196 : decode cX11_text 196 = .ok (.iconst 5, 1) := by decide +kernel
theorem dX11_text_197 : decode cX11_text 197 = .ok (.iaload, 1) := by decide +kernel
theorem dX11_text_198 : decode cX11_text 198 = .ok (.istore_n 1, 1) := by decide +kernel
theorem dX11_text_199 : decode cX11_text 199 = .ok (.aload_n 0, 1) := by decide +kernel
theorem dX11_text_200 : decode cX11_text 200 = .ok (.getfield 27, 3) := by decide +kernel
theorem dX11_text_203 : decode cX11_text 203 = .ok (.iload_n 1, 1) := by decide +kernel
theorem dX11_text_204 : decode cX11_text 204 = .ok (.aload_n 0, 1) := by decide +kernel
theorem dX11_text_205 : decode cX11_text 205 = .ok (.getfield 256, 3) := by decide +kernel
theorem dX11_text_208 : decode cX11_text 208 = .ok (.iastore, 1) := by decide +kernel
theorem dX11_text_209 : decode cX11_text 209 = .ok (.iconst 0, 1) := by decide +kernel
theorem dX11_text_210 : decode cX11_text 210 = .ok (.istore_n 2, 1) := by decide +kernel
theorem dX11_text_211 : decode cX11_text 211 = .ok (.iload_n 2, 1) := by decide +kernel
theorem dX11_text_212 : decode cX11_text 212 = .ok (.aload_n 0, 1) := by decide +kernel
theorem dX11_text_213 : decode cX11_text 213 = .ok (.getfield 256, 3) := by decide +kernel
theorem dX11_text_216 : decode cX11_text 216 = .ok (.if_icmp .ge 83, 3) := by decide +kernel
theorem dX11_text_219 : decode cX11_text 219 = .ok (.aload_n 0, 1) := by decide +kernel
theorem dX11_text_220 : decode cX11_text 220 = .ok (.getfield 30, 3) := by decide +kernel
theorem dX11_text_223 : decode cX11_text 223 = .ok (.bipush 20, 2) := by decide +kernel
theorem dX11_text_225 : decode cX11_text 225 = .ok (.iload_n 1, 1) := by decide +kernel
theorem dX11_text_226 : decode cX11_text 226 = .ok (.imul, 1) := by decide +kernel
theorem dX11_text_227 : decode cX11_text 227 = .ok (.iload_n 2, 1) := by decide +kernel
theorem dX11_text_228 : decode cX11_text 228 = .ok (.iadd, 1) := by decide +kernel
theorem dX11_text_229 : decode cX11_text 229 = .ok (.aload_n 0, 1) := by decide +kernel
theorem dX11_text_230 : decode cX11_text 230 = .ok (.getfield 60, 3) := by decide +kernel
theorem dX11_text_233 : decode cX11_text 233 = .ok (.iload_n 2, 1) := by decide +kernel
theorem dX11_text_234 : decode cX11_text 234 = .ok (.iaload, 1) := by decide +kernel
theorem dX11_text_235 : decode cX11_text 235 = .ok (.iastore, 1) := by decide +kernel
theorem dX11_text_236 : decode cX11_text 236 = .ok (.aload_n 0, 1) := by decide +kernel
theorem dX11_text_237 : decode cX11_text 237 = .ok (.getfield 33, 3) := by decide +kernel
theorem dX11_text_240 : decode cX11_text 240 = .ok (.bipush 20, 2) := by decide +kernel
theorem dX11_text_242 : decode cX11_text 242 = .ok (.iload_n 1, 1) := by decide +kernel
theorem dX11_text_243 : decode cX11_text 243 = .ok (.imul, 1) := by decide +kernel
theorem dX11_text_244 : decode cX11_text 244 = .ok (.iload_n 2, 1) := by decide +kernel
theorem dX11_text_245 : decode cX11_text 245 = .ok (.iadd, 1) := by decide +kernel
theorem dX11_text_246 : decode cX11_text 246 = .ok (.sipush 400, 3) := by decide +kernel
theorem dX11_text_249 : decode cX11_text 249 = .ok (.iload_n 1, 1) := by decide +kernel
theorem dX11_text_250 : decode cX11_text 250 = .ok (.imul, 1) := by decide +kernel
theorem dX11_text_251 : decode cX11_text 251 = .ok (.aload_n 0, 1) := by decide +kernel
theorem dX11_text_252 : decode cX11_text 252 = .ok (.getfield 63, 3) := by decide +kernel
theorem dX11_text_255 : decode cX11_text 255 = .ok (.iload_n 2, 1) := by decide +kernel
theorem dX11_text_256 : decode cX11_text 256 = .ok (.iaload, 1) := by decide +kernel
theorem dX11_text_257 : decode cX11_text 257 = .ok (.iadd, 1) := by decide +kernel
theorem dX11_text_258 : decode cX11_text 258 = .ok (.iastore, 1) := by decide +kernel
theorem dX11_text_259 : decode cX11_text 259 = .ok (.aload_n 0, 1) := by decide +kernel
theorem dX11_text_260 : decode cX11_text 260 = .ok (.getfield 36, 3) := by decide +kernel
theorem dX11_text_263 : decode cX11_text 263 = .ok (.bipush 20, 2) := by decide +kernel
theorem dX11_text_265 : decode cX11_text 265 = .ok (.iload_n 1, 1) := by decide +kernel
theorem dX11_text_266 : decode cX11_text 266 = .ok (.imul, 1) := by decide +kernel
theorem dX11_text_267 : decode cX11_text 267 = .ok (.iload_n 2, 1) := by decide +kernel
theorem dX11_text_268 : decode cX11_text 268 = .ok (.iadd, 1) := by decide +kernel
theorem dX11_text_269 : decode cX11_text 269 = .ok (.aload_n 0, 1) := by decide +kernel
theorem dX11_text_270 : decode cX11_text 270 = .ok (.getfield 66, 3) := by decide +kernel
theorem dX11_text_273 : decode cX11_text 273 = .ok (.iload_n 2, 1) := by decide +kernel
theorem dX11_text_274 : decode cX11_text 274 = .ok (.iaload, 1) := by decide +kernel
theorem dX11_text_275 : decode cX11_text 275 = .ok (.iastore, 1) := by decide +kernel
theorem dX11_text_276 : decode cX11_text 276 = .ok (.aload_n 0, 1) := by decide +kernel
theorem dX11_text_277 : decode cX11_text 277 = .ok (.getfield 39, 3) := by decide +kernel
theorem dX11_text_280 : decode cX11_text 280 = .ok (.bipush 20, 2) := by decide +kernel
theorem dX11_text_282 : decode cX11_text 282 = .ok (.iload_n 1, 1) := by decide +kernel
theorem dX11_text_283 : decode cX11_text 283 = .ok (.imul, 1) := by decide +kernel
theorem dX11_text_284 : decode cX11_text 284 = .ok (.iload_n 2, 1) := by decide +kernel
theorem dX11_text_285 : decode cX11_text 285 = .ok (.iadd, 1) := by decide +kernel
theorem dX11_text_286 : decode cX11_text 286 = .ok (.aload_n 0, 1) := by decide +kernel
theorem dX11_text_287 : decode cX11_text 287 = .ok (.getfield 69, 3) := by decide +kernel
theorem dX11_text_290 : decode cX11_text 290 = .ok (.iload_n 2, 1) := by decide +kernel
theorem dX11_text_291 : decode cX11_text 291 = .ok (.iaload, 1) := by decide +kernel
theorem dX11_text_292 : decode cX11_text 292 = .ok (.iastore, 1) := by decide +kernel
theorem dX11_text_293 : decode cX11_text 293 = .ok (.iinc 2 1, 3) := by decide +kernel
theorem dX11_text_296 : decode cX11_text 296 = .ok (.goto (-85), 3) := by decide +kernel
theorem dX11_text_299 : decode cX11_text 299 = .ok (.iconst 0, 1) := by decide +kernel
theorem dX11_text_300 : decode cX11_text 300 = .ok (.istore_n 2, 1) := by decide +kernel
theorem dX11_text_301 : decode cX11_text 301 = .ok (.iload_n 2, 1) := by decide +kernel
theorem dX11_text_302 : decode cX11_text 302 = .ok (.aload_n 0, 1) := by decide +kernel
theorem dX11_text_303 : decode cX11_text 303 = .ok (.getfield 193, 3) := by decide +kernel
theorem dX11_text_306 : decode cX11_text 306 = .ok (.if_icmp .ge 45, 3) := by decide +kernel
theorem dX11_text_309 : decode cX11_text 309 = .ok (.aload_n 0, 1) := by decide +kernel
theorem dX11_text_310 : decode cX11_text 310 = .ok (.getfield 42, 3) := by decide +kernel
theorem dX11_text_313 : decode cX11_text 313 = .ok (.sipush 400, 3) := by decide +kernel
theorem dX11_text_316 : decode cX11_text 316 = .ok (.iload_n 1, 1) := by decide +kernel
theorem dX11_text_317 : decode cX11_text 317 = .ok (.imul, 1) := by decide +kernel
theorem dX11_text_318 : decode cX11_text 318 = .ok (.iload_n 2, 1) := by decide +kernel
theorem dX11_text_319 : decode cX11_text 319 = .ok (.iadd, 1) := by decide +kernel
theorem dX11_text_320 : decode cX11_text 320 = .ok (.aload_n 0, 1) := by decide +kernel
theorem dX11_text_321 : decode cX11_text 321 = .ok (.getfield 72, 3) := by decide +kernel
theorem dX11_text_324 : decode cX11_text 324 = .ok (.iload_n 2, 1) := by decide +kernel
theorem dX11_text_325 : decode cX11_text 325 = .ok (.iaload, 1) := by decide +kernel
theorem dX11_text_326 : decode cX11_text 326 = .ok (.iastore, 1) := by decide +kernel
theorem dX11_text_327 : decode cX11_text 327 = .ok (.aload_n 0, 1) := by decide +kernel
theorem dX11_text_328 : decode cX11_text 328 = .ok (.getfield 45, 3) := by decide +kernel
theorem dX11_text_331 : decode cX11_text 331 = .ok (.sipush 400, 3) := by decide +kernel
theorem dX11_text_334 : decode cX11_text 334 = .ok (.iload_n 1, 1) := by decide +kernel
theorem dX11_text_335 : decode cX11_text 335 = .ok (.imul, 1) := by decide +kernel
theorem dX11_text_336 : decode cX11_text 336 = .ok (.iload_n 2, 1) := by decide +kernel
theorem dX11_text_337 : decode cX11_text 337 = .ok (.iadd, 1) := by decide +kernel
theorem dX11_text_338 : decode cX11_text 338 = .ok (.aload_n 0, 1) := by decide +kernel
theorem dX11_text_339 : decode cX11_text 339 = .ok (.getfield 75, 3) := by decide +kernel
theorem dX11_text_342 : decode cX11_text 342 = .ok (.iload_n 2, 1) := by decide +kernel
theorem dX11_text_343 : decode cX11_text 343 = .ok (.iaload, 1) := by decide +kernel
theorem dX11_text_344 : decode cX11_text 344 = .ok (.iastore, 1) := by decide +kernel
theorem dX11_text_345 : decode cX11_text 345 = .ok (.iinc 2 1, 3) := by decide +kernel
theorem dX11_text_348 : decode cX11_text 348 = .ok (.goto (-47), 3) := by decide +kernel
theorem dX11_text_351 : decode cX11_text 351 = .ok (.aload_n 0, 1) := by decide +kernel
theorem dX11_text_352 : decode cX11_text 352 = .ok (.getfield 7, 3) := by decide +kernel
theorem dX11_text_355 : decode cX11_text 355 = .ok (.iconst 5, 1) := by decide +kernel
theorem dX11_text_356 : decode cX11_text 356 = .ok (.dup2, 1) := by decide +kernel
theorem dX11_text_357 : decode cX11_text 357 = .ok (.iaload, 1) := by decide +kernel
theorem dX11_text_358 : decode cX11_text 358 = .ok (.iconst 1, 1) := by decide +kernel
theorem dX11_text_359 : decode cX11_text 359 = .ok (.iadd, 1) := by decide +kernel
theorem dX11_text_360 : decode cX11_text 360 = .ok (.iastore, 1) := by decide +kernel
theorem dX11_text_361 : decode cX11_text 361 = .ok (.iload_n 1, 1) := by decide +kernel
theorem dX11_text_362 : decode cX11_text 362 = .ok (.ireturn, 1) := by decide +kernel
theorem dX11_fault_0 : decode cX11_fault 0 = .ok (.iload_n 1, 1) := by decide +kernel
theorem dX11_fault_1 : decode cX11_fault 1 = .ok (.ifCond .ne 10, 3) := by decide +kernel
theorem dX11_fault_4 : decode cX11_fault 4 = .ok (.aload_n 0, 1) := by decide +kernel
theorem dX11_fault_5 : decode cX11_fault 5 = .ok (.getfield 20, 3) := by decide +kernel
theorem dX11_fault_8 : decode cX11_fault 8 = .ok (.goto 16, 3) := by decide +kernel
theorem dX11_fault_11 : decode cX11_fault 11 = .ok (.iload_n 1, 1) := by decide +kernel
theorem dX11_fault_12 : decode cX11_fault 12 = .ok (.iconst 1, 1) := by decide +kernel
theorem dX11_fault_13 : decode cX11_fault 13 = .ok (.if_icmp .ne 10, 3) := by decide +kernel
theorem dX11_fault_16 : decode cX11_fault 16 = .ok (.aload_n 0, 1) := by decide +kernel
theorem dX11_fault_17 : decode cX11_fault 17 = .ok (.getfield 24, 3) := by decide +kernel
theorem dX11_fault_20 : decode cX11_fault 20 = .ok (.goto 4, 3) := by decide +kernel
theorem dX11_fault_23 : decode cX11_fault 23 = .ok (.iconst (-1), 1) := by decide +kernel
theorem dX11_fault_24 : decode cX11_fault 24 = .ok (.ireturn, 1) := by decide +kernel
theorem dX11_bound_0 : decode cX11_bound 0 = .ok (.lload_n 0, 1) := by decide +kernel
theorem dX11_bound_1 : decode cX11_bound 1 = .ok (.ldc2_w 284, 3) := by decide +kernel
theorem dX11_bound_4 : decode cX11_bound 4 = .ok (.lcmp, 1) := by decide +kernel
theorem dX11_bound_5 : decode cX11_bound 5 = .ok (.ifCond .le 9, 3) := by decide +kernel
theorem dX11_bound_8 : decode cX11_bound 8 = .ok (.ldc2_w 284, 3) := by decide +kernel
theorem dX11_bound_11 : decode cX11_bound 11 = .ok (.goto 18, 3) := by decide +kernel
theorem dX11_bound_14 : decode cX11_bound 14 = .ok (.lload_n 0, 1) := by decide +kernel
theorem dX11_bound_15 : decode cX11_bound 15 = .ok (.ldc2_w 286, 3) := by decide +kernel
theorem dX11_bound_18 : decode cX11_bound 18 = .ok (.lcmp, 1) := by decide +kernel
theorem dX11_bound_19 : decode cX11_bound 19 = .ok (.ifCond .ge 9, 3) := by decide +kernel
theorem dX11_bound_22 : decode cX11_bound 22 = .ok (.ldc2_w 286, 3) := by decide +kernel
theorem dX11_bound_25 : decode cX11_bound 25 = .ok (.goto 4, 3) := by decide +kernel
theorem dX11_bound_28 : decode cX11_bound 28 = .ok (.lload_n 0, 1) := by decide +kernel
theorem dX11_bound_29 : decode cX11_bound 29 = .ok (.lreturn, 1) := by decide +kernel
theorem dX11_worked_0 : decode cX11_worked 0 = .ok (.iload_n 0, 1) := by decide +kernel
theorem dX11_worked_1 : decode cX11_worked 1 = .ok (.lookupswitch 210 #[(35, 170), (42, 113), (43, 99), (45, 106), (47, 120), (60, 134), (61, 158), (62, 146), (300, 182), (301, 194), (406, 206)], 99) := by decide +kernel
theorem dX11_worked_100 : decode cX11_worked 100 = .ok (.lload_n 1, 1) := by decide +kernel
theorem dX11_worked_101 : decode cX11_worked 101 = .ok (.lload_n 3, 1) := by decide +kernel
theorem dX11_worked_102 : decode cX11_worked 102 = .ok (.ladd, 1) := by decide +kernel
theorem dX11_worked_103 : decode cX11_worked 103 = .ok (.invokestatic 288, 3) := by decide +kernel
theorem dX11_worked_106 : decode cX11_worked 106 = .ok (.lreturn, 1) := by decide +kernel
theorem dX11_worked_107 : decode cX11_worked 107 = .ok (.lload_n 1, 1) := by decide +kernel
theorem dX11_worked_108 : decode cX11_worked 108 = .ok (.lload_n 3, 1) := by decide +kernel
theorem dX11_worked_109 : decode cX11_worked 109 = .ok (.lsub, 1) := by decide +kernel
theorem dX11_worked_110 : decode cX11_worked 110 = .ok (.invokestatic 288, 3) := by decide +kernel
theorem dX11_worked_113 : decode cX11_worked 113 = .ok (.lreturn, 1) := by decide +kernel
theorem dX11_worked_114 : decode cX11_worked 114 = .ok (.lload_n 1, 1) := by decide +kernel
theorem dX11_worked_115 : decode cX11_worked 115 = .ok (.lload_n 3, 1) := by decide +kernel
theorem dX11_worked_116 : decode cX11_worked 116 = .ok (.lmul, 1) := by decide +kernel
theorem dX11_worked_117 : decode cX11_worked 117 = .ok (.invokestatic 288, 3) := by decide +kernel
theorem dX11_worked_120 : decode cX11_worked 120 = .ok (.lreturn, 1) := by decide +kernel
theorem dX11_worked_121 : decode cX11_worked 121 = .ok (.lload_n 3, 1) := by decide +kernel
theorem dX11_worked_122 : decode cX11_worked 122 = .ok (.lconst 0, 1) := by decide +kernel
theorem dX11_worked_123 : decode cX11_worked 123 = .ok (.lcmp, 1) := by decide +kernel
theorem dX11_worked_124 : decode cX11_worked 124 = .ok (.ifCond .ne 7, 3) := by decide +kernel
theorem dX11_worked_127 : decode cX11_worked 127 = .ok (.lconst 0, 1) := by decide +kernel
theorem dX11_worked_128 : decode cX11_worked 128 = .ok (.goto 6, 3) := by decide +kernel
theorem dX11_worked_131 : decode cX11_worked 131 = .ok (.lload_n 1, 1) := by decide +kernel
