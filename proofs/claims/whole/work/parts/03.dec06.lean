theorem dX11_worked_132 : decode cX11_worked 132 = .ok (.lload_n 3, 1) := by decide +kernel
theorem dX11_worked_133 : decode cX11_worked 133 = .ok (.ldiv, 1) := by decide +kernel
theorem dX11_worked_134 : decode cX11_worked 134 = .ok (.lreturn, 1) := by decide +kernel
theorem dX11_worked_135 : decode cX11_worked 135 = .ok (.lload_n 1, 1) := by decide +kernel
theorem dX11_worked_136 : decode cX11_worked 136 = .ok (.lload_n 3, 1) := by decide +kernel
theorem dX11_worked_137 : decode cX11_worked 137 = .ok (.lcmp, 1) := by decide +kernel
theorem dX11_worked_138 : decode cX11_worked 138 = .ok (.ifCond .ge 7, 3) := by decide +kernel
theorem dX11_worked_141 : decode cX11_worked 141 = .ok (.lconst 1, 1) := by decide +kernel
theorem dX11_worked_142 : decode cX11_worked 142 = .ok (.goto 4, 3) := by decide +kernel
theorem dX11_worked_145 : decode cX11_worked 145 = .ok (.lconst 0, 1) := by decide +kernel
theorem dX11_worked_146 : decode cX11_worked 146 = .ok (.lreturn, 1) := by decide +kernel
theorem dX11_worked_147 : decode cX11_worked 147 = .ok (.lload_n 1, 1) := by decide +kernel
theorem dX11_worked_148 : decode cX11_worked 148 = .ok (.lload_n 3, 1) := by decide +kernel
theorem dX11_worked_149 : decode cX11_worked 149 = .ok (.lcmp, 1) := by decide +kernel
theorem dX11_worked_150 : decode cX11_worked 150 = .ok (.ifCond .le 7, 3) := by decide +kernel
theorem dX11_worked_153 : decode cX11_worked 153 = .ok (.lconst 1, 1) := by decide +kernel
theorem dX11_worked_154 : decode cX11_worked 154 = .ok (.goto 4, 3) := by decide +kernel
theorem dX11_worked_157 : decode cX11_worked 157 = .ok (.lconst 0, 1) := by decide +kernel
theorem dX11_worked_158 : decode cX11_worked 158 = .ok (.lreturn, 1) := by decide +kernel
theorem dX11_worked_159 : decode cX11_worked 159 = .ok (.lload_n 1, 1) := by decide +kernel
theorem dX11_worked_160 : decode cX11_worked 160 = .ok (.lload_n 3, 1) := by decide +kernel
theorem dX11_worked_161 : decode cX11_worked 161 = .ok (.lcmp, 1) := by decide +kernel
theorem dX11_worked_162 : decode cX11_worked 162 = .ok (.ifCond .ne 7, 3) := by decide +kernel
theorem dX11_worked_165 : decode cX11_worked 165 = .ok (.lconst 1, 1) := by decide +kernel
theorem dX11_worked_166 : decode cX11_worked 166 = .ok (.goto 4, 3) := by decide +kernel
theorem dX11_worked_169 : decode cX11_worked 169 = .ok (.lconst 0, 1) := by decide +kernel
theorem dX11_worked_170 : decode cX11_worked 170 = .ok (.lreturn, 1) := by decide +kernel
theorem dX11_worked_171 : decode cX11_worked 171 = .ok (.lload_n 1, 1) := by decide +kernel
theorem dX11_worked_172 : decode cX11_worked 172 = .ok (.lload_n 3, 1) := by decide +kernel
theorem dX11_worked_173 : decode cX11_worked 173 = .ok (.lcmp, 1) := by decide +kernel
theorem dX11_worked_174 : decode cX11_worked 174 = .ok (.ifCond .eq 7, 3) := by decide +kernel
theorem dX11_worked_177 : decode cX11_worked 177 = .ok (.lconst 1, 1) := by decide +kernel
theorem dX11_worked_178 : decode cX11_worked 178 = .ok (.goto 4, 3) := by decide +kernel
theorem dX11_worked_181 : decode cX11_worked 181 = .ok (.lconst 0, 1) := by decide +kernel
theorem dX11_worked_182 : decode cX11_worked 182 = .ok (.lreturn, 1) := by decide +kernel
theorem dX11_worked_183 : decode cX11_worked 183 = .ok (.lload_n 1, 1) := by decide +kernel
theorem dX11_worked_184 : decode cX11_worked 184 = .ok (.lload_n 3, 1) := by decide +kernel
theorem dX11_worked_185 : decode cX11_worked 185 = .ok (.lcmp, 1) := by decide +kernel
theorem dX11_worked_186 : decode cX11_worked 186 = .ok (.ifCond .gt 7, 3) := by decide +kernel
theorem dX11_worked_189 : decode cX11_worked 189 = .ok (.lconst 1, 1) := by decide +kernel
theorem dX11_worked_190 : decode cX11_worked 190 = .ok (.goto 4, 3) := by decide +kernel
theorem dX11_worked_193 : decode cX11_worked 193 = .ok (.lconst 0, 1) := by decide +kernel
theorem dX11_worked_194 : decode cX11_worked 194 = .ok (.lreturn, 1) := by decide +kernel
theorem dX11_worked_195 : decode cX11_worked 195 = .ok (.lload_n 1, 1) := by decide +kernel
theorem dX11_worked_196 : decode cX11_worked 196 = .ok (.lload_n 3, 1) := by decide +kernel
theorem dX11_worked_197 : decode cX11_worked 197 = .ok (.lcmp, 1) := by decide +kernel
theorem dX11_worked_198 : decode cX11_worked 198 = .ok (.ifCond .lt 7, 3) := by decide +kernel
theorem dX11_worked_201 : decode cX11_worked 201 = .ok (.lconst 1, 1) := by decide +kernel
theorem dX11_worked_202 : decode cX11_worked 202 = .ok (.goto 4, 3) := by decide +kernel
theorem dX11_worked_205 : decode cX11_worked 205 = .ok (.lconst 0, 1) := by decide +kernel
theorem dX11_worked_206 : decode cX11_worked 206 = .ok (.lreturn, 1) := by decide +kernel
theorem dX11_worked_207 : decode cX11_worked 207 = .ok (.lload_n 1, 1) := by decide +kernel
theorem dX11_worked_208 : decode cX11_worked 208 = .ok (.lload_n 3, 1) := by decide +kernel
theorem dX11_worked_209 : decode cX11_worked 209 = .ok (.lmul, 1) := by decide +kernel
theorem dX11_worked_210 : decode cX11_worked 210 = .ok (.lreturn, 1) := by decide +kernel
theorem dX11_worked_211 : decode cX11_worked 211 = .ok (.lload_n 1, 1) := by decide +kernel
theorem dX11_worked_212 : decode cX11_worked 212 = .ok (.lload_n 3, 1) := by decide +kernel
theorem dX11_worked_213 : decode cX11_worked 213 = .ok (.ladd, 1) := by decide +kernel
theorem dX11_worked_214 : decode cX11_worked 214 = .ok (.lconst 0, 1) := by decide +kernel
theorem dX11_worked_215 : decode cX11_worked 215 = .ok (.lcmp, 1) := by decide +kernel
theorem dX11_worked_216 : decode cX11_worked 216 = .ok (.ifCond .le 7, 3) := by decide +kernel
theorem dX11_worked_219 : decode cX11_worked 219 = .ok (.lconst 1, 1) := by decide +kernel
theorem dX11_worked_220 : decode cX11_worked 220 = .ok (.goto 4, 3) := by decide +kernel
theorem dX11_worked_223 : decode cX11_worked 223 = .ok (.lconst 0, 1) := by decide +kernel
theorem dX11_worked_224 : decode cX11_worked 224 = .ok (.lreturn, 1) := by decide +kernel
theorem dX11_saysOf_0 : decode cX11_saysOf 0 = .ok (.iconst 0, 1) := by decide +kernel
theorem dX11_saysOf_1 : decode cX11_saysOf 1 = .ok (.istore_n 2, 1) := by decide +kernel
theorem dX11_saysOf_2 : decode cX11_saysOf 2 = .ok (.iload_n 1, 1) := by decide +kernel
theorem dX11_saysOf_3 : decode cX11_saysOf 3 = .ok (.istore_n 3, 1) := by decide +kernel
theorem dX11_saysOf_4 : decode cX11_saysOf 4 = .ok (.aload_n 0, 1) := by decide +kernel
theorem dX11_saysOf_5 : decode cX11_saysOf 5 = .ok (.getfield 42, 3) := by decide +kernel
theorem dX11_saysOf_8 : decode cX11_saysOf 8 = .ok (.iload_n 3, 1) := by decide +kernel
theorem dX11_saysOf_9 : decode cX11_saysOf 9 = .ok (.iaload, 1) := by decide +kernel
theorem dX11_saysOf_10 : decode cX11_saysOf 10 = .ok (.sipush 408, 3) := by decide +kernel
theorem dX11_saysOf_13 : decode cX11_saysOf 13 = .ok (.if_icmp .eq 162, 3) := by decide +kernel
theorem dX11_saysOf_16 : decode cX11_saysOf 16 = .ok (.aload_n 0, 1) := by decide +kernel
theorem dX11_saysOf_17 : decode cX11_saysOf 17 = .ok (.getfield 42, 3) := by decide +kernel
theorem dX11_saysOf_20 : decode cX11_saysOf 20 = .ok (.iload_n 3, 1) := by decide +kernel
theorem dX11_saysOf_21 : decode cX11_saysOf 21 = .ok (.iaload, 1) := by decide +kernel
theorem dX11_saysOf_22 : decode cX11_saysOf 22 = .ok (.istore 4, 2) := by decide +kernel
theorem dX11_saysOf_24 : decode cX11_saysOf 24 = .ok (.iload 4, 2) := by decide +kernel
theorem dX11_saysOf_26 : decode cX11_saysOf 26 = .ok (.sipush 400, 3) := by decide +kernel
theorem dX11_saysOf_29 : decode cX11_saysOf 29 = .ok (.if_icmp .eq 11, 3) := by decide +kernel
theorem dX11_saysOf_32 : decode cX11_saysOf 32 = .ok (.iload 4, 2) := by decide +kernel
theorem dX11_saysOf_34 : decode cX11_saysOf 34 = .ok (.sipush 401, 3) := by decide +kernel
theorem dX11_saysOf_37 : decode cX11_saysOf 37 = .ok (.if_icmp .ne 45, 3) := by decide +kernel
theorem dX11_saysOf_40 : decode cX11_saysOf 40 = .ok (.aload_n 0, 1) := by decide +kernel
theorem dX11_saysOf_41 : decode cX11_saysOf 41 = .ok (.getfield 81, 3) := by decide +kernel
theorem dX11_saysOf_44 : decode cX11_saysOf 44 = .ok (.iload_n 2, 1) := by decide +kernel
theorem dX11_saysOf_45 : decode cX11_saysOf 45 = .ok (.iload 4, 2) := by decide +kernel
theorem dX11_saysOf_47 : decode cX11_saysOf 47 = .ok (.sipush 400, 3) := by decide +kernel
theorem dX11_saysOf_50 : decode cX11_saysOf 50 = .ok (.if_icmp .ne 13, 3) := by decide +kernel
theorem dX11_saysOf_53 : decode cX11_saysOf 53 = .ok (.aload_n 0, 1) := by decide +kernel
theorem dX11_saysOf_54 : decode cX11_saysOf 54 = .ok (.getfield 45, 3) := by decide +kernel
theorem dX11_saysOf_57 : decode cX11_saysOf 57 = .ok (.iload_n 3, 1) := by decide +kernel
theorem dX11_saysOf_58 : decode cX11_saysOf 58 = .ok (.iaload, 1) := by decide +kernel
theorem dX11_saysOf_59 : decode cX11_saysOf 59 = .ok (.i2l, 1) := by decide +kernel
theorem dX11_saysOf_60 : decode cX11_saysOf 60 = .ok (.goto 15, 3) := by decide +kernel
theorem dX11_saysOf_63 : decode cX11_saysOf 63 = .ok (.aload_n 0, 1) := by decide +kernel
theorem dX11_saysOf_64 : decode cX11_saysOf 64 = .ok (.getfield 78, 3) := by decide +kernel
theorem dX11_saysOf_67 : decode cX11_saysOf 67 = .ok (.aload_n 0, 1) := by decide +kernel
theorem dX11_saysOf_68 : decode cX11_saysOf 68 = .ok (.getfield 45, 3) := by decide +kernel
theorem dX11_saysOf_71 : decode cX11_saysOf 71 = .ok (.iload_n 3, 1) := by decide +kernel
theorem dX11_saysOf_72 : decode cX11_saysOf 72 = .ok (.iaload, 1) := by decide +kernel
theorem dX11_saysOf_73 : decode cX11_saysOf 73 = .ok (.iaload, 1) := by decide +kernel
theorem dX11_saysOf_74 : decode cX11_saysOf 74 = .ok (.i2l, 1) := by decide +kernel
theorem dX11_saysOf_75 : decode cX11_saysOf 75 = .ok (.lastore, 1) := by decide +kernel
theorem dX11_saysOf_76 : decode cX11_saysOf 76 = .ok (.iinc 2 1, 3) := by decide +kernel
theorem dX11_saysOf_79 : decode cX11_saysOf 79 = .ok (.goto 90, 3) := by decide +kernel
theorem dX11_saysOf_82 : decode cX11_saysOf 82 = .ok (.iload 4, 2) := by decide +kernel
theorem dX11_saysOf_84 : decode cX11_saysOf 84 = .ok (.sipush 402, 3) := by decide +kernel
theorem dX11_saysOf_87 : decode cX11_saysOf 87 = .ok (.if_icmp .ne 23, 3) := by decide +kernel
theorem dX11_saysOf_90 : decode cX11_saysOf 90 = .ok (.aload_n 0, 1) := by decide +kernel
theorem dX11_saysOf_91 : decode cX11_saysOf 91 = .ok (.getfield 81, 3) := by decide +kernel
theorem dX11_saysOf_94 : decode cX11_saysOf 94 = .ok (.iload_n 2, 1) := by decide +kernel
theorem dX11_saysOf_95 : decode cX11_saysOf 95 = .ok (.iconst 1, 1) := by decide +kernel
theorem dX11_saysOf_96 : decode cX11_saysOf 96 = .ok (.isub, 1) := by decide +kernel
theorem dX11_saysOf_97 : decode cX11_saysOf 97 = .ok (.aload_n 0, 1) := by decide +kernel
theorem dX11_saysOf_98 : decode cX11_saysOf 98 = .ok (.getfield 81, 3) := by decide +kernel
theorem dX11_saysOf_101 : decode cX11_saysOf 101 = .ok (.iload_n 2, 1) := by decide +kernel
theorem dX11_saysOf_102 : decode cX11_saysOf 102 = .ok (.iconst 1, 1) := by decide +kernel
theorem dX11_saysOf_103 : decode cX11_saysOf 103 = .ok (.isub, 1) := by decide +kernel
theorem dX11_saysOf_104 : decode cX11_saysOf 104 = .ok (.laload, 1) := by decide +kernel
theorem dX11_saysOf_105 : decode cX11_saysOf 105 = .ok (.lneg, 1) := by decide +kernel
theorem dX11_saysOf_106 : decode cX11_saysOf 106 = .ok (.lastore, 1) := by decide +kernel
theorem dX11_saysOf_107 : decode cX11_saysOf 107 = .ok (.goto 62, 3) := by decide +kernel
theorem dX11_saysOf_110 : decode cX11_saysOf 110 = .ok (.iload 4, 2) := by decide +kernel
theorem dX11_saysOf_112 : decode cX11_saysOf 112 = .ok (.sipush 405, 3) := by decide +kernel
theorem dX11_saysOf_115 : decode cX11_saysOf 115 = .ok (.if_icmp .ne 24, 3) := by decide +kernel
theorem dX11_saysOf_118 : decode cX11_saysOf 118 = .ok (.aload_n 0, 1) := by decide +kernel
theorem dX11_saysOf_119 : decode cX11_saysOf 119 = .ok (.getfield 81, 3) := by decide +kernel
theorem dX11_saysOf_122 : decode cX11_saysOf 122 = .ok (.iload_n 2, 1) := by decide +kernel
theorem dX11_saysOf_123 : decode cX11_saysOf 123 = .ok (.iconst 1, 1) := by decide +kernel
theorem dX11_saysOf_124 : decode cX11_saysOf 124 = .ok (.isub, 1) := by decide +kernel
theorem dX11_saysOf_125 : decode cX11_saysOf 125 = .ok (.lconst 1, 1) := by decide +kernel
theorem dX11_saysOf_126 : decode cX11_saysOf 126 = .ok (.aload_n 0, 1) := by decide +kernel
theorem dX11_saysOf_127 : decode cX11_saysOf 127 = .ok (.getfield 81, 3) := by decide +kernel
theorem dX11_saysOf_130 : decode cX11_saysOf 130 = .ok (.iload_n 2, 1) := by decide +kernel
theorem dX11_saysOf_131 : decode cX11_saysOf 131 = .ok (.iconst 1, 1) := by decide +kernel
theorem dX11_saysOf_132 : decode cX11_saysOf 132 = .ok (.isub, 1) := by decide +kernel
theorem dX11_saysOf_133 : decode cX11_saysOf 133 = .ok (.laload, 1) := by decide +kernel
theorem dX11_saysOf_134 : decode cX11_saysOf 134 = .ok (.lsub, 1) := by decide +kernel
theorem dX11_saysOf_135 : decode cX11_saysOf 135 = .ok (.lastore, 1) := by decide +kernel
theorem dX11_saysOf_136 : decode cX11_saysOf 136 = .ok (.goto 33, 3) := by decide +kernel
theorem dX11_saysOf_139 : decode cX11_saysOf 139 = .ok (.iinc 2 (-1), 3) := by decide +kernel
theorem dX11_saysOf_142 : decode cX11_saysOf 142 = .ok (.aload_n 0, 1) := by decide +kernel
theorem dX11_saysOf_143 : decode cX11_saysOf 143 = .ok (.getfield 81, 3) := by decide +kernel
theorem dX11_saysOf_146 : decode cX11_saysOf 146 = .ok (.iload_n 2, 1) := by decide +kernel
theorem dX11_saysOf_147 : decode cX11_saysOf 147 = .ok (.iconst 1, 1) := by decide +kernel
theorem dX11_saysOf_148 : decode cX11_saysOf 148 = .ok (.isub, 1) := by decide +kernel
theorem dX11_saysOf_149 : decode cX11_saysOf 149 = .ok (.iload 4, 2) := by decide +kernel
theorem dX11_saysOf_151 : decode cX11_saysOf 151 = .ok (.aload_n 0, 1) := by decide +kernel
theorem dX11_saysOf_152 : decode cX11_saysOf 152 = .ok (.getfield 81, 3) := by decide +kernel
theorem dX11_saysOf_155 : decode cX11_saysOf 155 = .ok (.iload_n 2, 1) := by decide +kernel
theorem dX11_saysOf_156 : decode cX11_saysOf 156 = .ok (.iconst 1, 1) := by decide +kernel
theorem dX11_saysOf_157 : decode cX11_saysOf 157 = .ok (.isub, 1) := by decide +kernel
theorem dX11_saysOf_158 : decode cX11_saysOf 158 = .ok (.laload, 1) := by decide +kernel
theorem dX11_saysOf_159 : decode cX11_saysOf 159 = .ok (.aload_n 0, 1) := by decide +kernel
theorem dX11_saysOf_160 : decode cX11_saysOf 160 = .ok (.getfield 81, 3) := by decide +kernel
theorem dX11_saysOf_163 : decode cX11_saysOf 163 = .ok (.iload_n 2, 1) := by decide +kernel
theorem dX11_saysOf_164 : decode cX11_saysOf 164 = .ok (.laload, 1) := by decide +kernel
theorem dX11_saysOf_165 : decode cX11_saysOf 165 = .ok (.invokestatic 292, 3) := by decide +kernel
theorem dX11_saysOf_168 : decode cX11_saysOf 168 = .ok (.lastore, 1) := by decide +kernel
theorem dX11_saysOf_169 : decode cX11_saysOf 169 = .ok (.iinc 3 1, 3) := by decide +kernel
theorem dX11_saysOf_172 : decode cX11_saysOf 172 = .ok (.goto (-168), 3) := by decide +kernel
theorem dX11_saysOf_175 : decode cX11_saysOf 175 = .ok (.aload_n 0, 1) := by decide +kernel
theorem dX11_saysOf_176 : decode cX11_saysOf 176 = .ok (.getfield 81, 3) := by decide +kernel
theorem dX11_saysOf_179 : decode cX11_saysOf 179 = .ok (.iconst 0, 1) := by decide +kernel
theorem dX11_saysOf_180 : decode cX11_saysOf 180 = .ok (.laload, 1) := by decide +kernel
theorem dX11_saysOf_181 : decode cX11_saysOf 181 = .ok (.lreturn, 1) := by decide +kernel
theorem dX11_by_0 : decode cX11_by 0 = .ok (.iload_n 1, 1) := by decide +kernel
theorem dX11_by_1 : decode cX11_by 1 = .ok (.iconst (-1), 1) := by decide +kernel
theorem dX11_by_2 : decode cX11_by 2 = .ok (.if_icmp .eq 21, 3) := by decide +kernel
theorem dX11_by_5 : decode cX11_by 5 = .ok (.iload_n 1, 1) := by decide +kernel
theorem dX11_by_6 : decode cX11_by 6 = .ok (.iconst 0, 1) := by decide +kernel
theorem dX11_by_7 : decode cX11_by 7 = .ok (.aload_n 0, 1) := by decide +kernel
theorem dX11_by_8 : decode cX11_by 8 = .ok (.getfield 7, 3) := by decide +kernel
theorem dX11_by_11 : decode cX11_by 11 = .ok (.iconst 5, 1) := by decide +kernel
theorem dX11_by_12 : decode cX11_by 12 = .ok (.iaload, 1) := by decide +kernel
theorem dX11_by_13 : decode cX11_by 13 = .ok (.iconst 1, 1) := by decide +kernel
theorem dX11_by_14 : decode cX11_by 14 = .ok (.isub, 1) := by decide +kernel
theorem dX11_by_15 : decode cX11_by 15 = .ok (.invokestatic 115, 3) := by decide +kernel
theorem dX11_by_18 : decode cX11_by 18 = .ok (.ifCond .ne 5, 3) := by decide +kernel
theorem dX11_by_21 : decode cX11_by 21 = .ok (.iconst 0, 1) := by decide +kernel
theorem dX11_by_22 : decode cX11_by 22 = .ok (.ireturn, 1) := by decide +kernel
theorem dX11_by_23 : decode cX11_by 23 = .ok (.aload_n 0, 1) := by decide +kernel
theorem dX11_by_24 : decode cX11_by 24 = .ok (.getfield 7, 3) := by decide +kernel
theorem dX11_by_27 : decode cX11_by 27 = .ok (.bipush 6, 2) := by decide +kernel
theorem dX11_by_29 : decode cX11_by 29 = .ok (.iload_n 1, 1) := by decide +kernel
theorem dX11_by_30 : decode cX11_by 30 = .ok (.iastore, 1) := by decide +kernel
theorem dX11_by_31 : decode cX11_by 31 = .ok (.iconst 1, 1) := by decide +kernel
theorem dX11_by_32 : decode cX11_by 32 = .ok (.ireturn, 1) := by decide +kernel
theorem dX11_isMarket_0 : decode cX11_isMarket 0 = .ok (.aload_n 0, 1) := by decide +kernel
theorem dX11_isMarket_1 : decode cX11_isMarket 1 = .ok (.getfield 7, 3) := by decide +kernel
theorem dX11_isMarket_4 : decode cX11_isMarket 4 = .ok (.iconst 2, 1) := by decide +kernel
theorem dX11_isMarket_5 : decode cX11_isMarket 5 = .ok (.iaload, 1) := by decide +kernel
theorem dX11_isMarket_6 : decode cX11_isMarket 6 = .ok (.bipush 24, 2) := by decide +kernel
theorem dX11_isMarket_8 : decode cX11_isMarket 8 = .ok (.idiv, 1) := by decide +kernel
theorem dX11_isMarket_9 : decode cX11_isMarket 9 = .ok (.bipush 7, 2) := by decide +kernel
theorem dX11_isMarket_11 : decode cX11_isMarket 11 = .ok (.irem, 1) := by decide +kernel
theorem dX11_isMarket_12 : decode cX11_isMarket 12 = .ok (.aload_n 0, 1) := by decide +kernel
theorem dX11_isMarket_13 : decode cX11_isMarket 13 = .ok (.getfield 7, 3) := by decide +kernel
theorem dX11_isMarket_16 : decode cX11_isMarket 16 = .ok (.iconst 3, 1) := by decide +kernel
theorem dX11_isMarket_17 : decode cX11_isMarket 17 = .ok (.iaload, 1) := by decide +kernel
theorem dX11_isMarket_18 : decode cX11_isMarket 18 = .ok (.if_icmp .ne 7, 3) := by decide +kernel
theorem dX11_isMarket_21 : decode cX11_isMarket 21 = .ok (.iconst 1, 1) := by decide +kernel
theorem dX11_isMarket_22 : decode cX11_isMarket 22 = .ok (.goto 4, 3) := by decide +kernel
theorem dX11_isMarket_25 : decode cX11_isMarket 25 = .ok (.iconst 0, 1) := by decide +kernel
theorem dX11_isMarket_26 : decode cX11_isMarket 26 = .ok (.ireturn, 1) := by decide +kernel
theorem dX11_givesTo_0 : decode cX11_givesTo 0 = .ok (.aload_n 0, 1) := by decide +kernel
theorem dX11_givesTo_1 : decode cX11_givesTo 1 = .ok (.getfield 78, 3) := by decide +kernel
theorem dX11_givesTo_4 : decode cX11_givesTo 4 = .ok (.iconst 0, 1) := by decide +kernel
theorem dX11_givesTo_5 : decode cX11_givesTo 5 = .ok (.iload_n 1, 1) := by decide +kernel
theorem dX11_givesTo_6 : decode cX11_givesTo 6 = .ok (.iastore, 1) := by decide +kernel
theorem dX11_givesTo_7 : decode cX11_givesTo 7 = .ok (.aload_n 0, 1) := by decide +kernel
theorem dX11_givesTo_8 : decode cX11_givesTo 8 = .ok (.getfield 78, 3) := by decide +kernel
theorem dX11_givesTo_11 : decode cX11_givesTo 11 = .ok (.iconst 1, 1) := by decide +kernel
theorem dX11_givesTo_12 : decode cX11_givesTo 12 = .ok (.aload_n 0, 1) := by decide +kernel
theorem dX11_givesTo_13 : decode cX11_givesTo 13 = .ok (.getfield 7, 3) := by decide +kernel
theorem dX11_givesTo_16 : decode cX11_givesTo 16 = .ok (.bipush 10, 2) := by decide +kernel
theorem dX11_givesTo_18 : decode cX11_givesTo 18 = .ok (.iload_n 1, 1) := by decide +kernel
theorem dX11_givesTo_19 : decode cX11_givesTo 19 = .ok (.iadd, 1) := by decide +kernel
theorem dX11_givesTo_20 : decode cX11_givesTo 20 = .ok (.iaload, 1) := by decide +kernel
theorem dX11_givesTo_21 : decode cX11_givesTo 21 = .ok (.iastore, 1) := by decide +kernel
theorem dX11_givesTo_22 : decode cX11_givesTo 22 = .ok (.aload_n 0, 1) := by decide +kernel
theorem dX11_givesTo_23 : decode cX11_givesTo 23 = .ok (.getfield 78, 3) := by decide +kernel
theorem dX11_givesTo_26 : decode cX11_givesTo 26 = .ok (.iconst 2, 1) := by decide +kernel
theorem dX11_givesTo_27 : decode cX11_givesTo 27 = .ok (.aload_n 0, 1) := by decide +kernel
theorem dX11_givesTo_28 : decode cX11_givesTo 28 = .ok (.getfield 7, 3) := by decide +kernel
theorem dX11_givesTo_31 : decode cX11_givesTo 31 = .ok (.iconst 2, 1) := by decide +kernel
theorem dX11_givesTo_32 : decode cX11_givesTo 32 = .ok (.iaload, 1) := by decide +kernel
theorem dX11_givesTo_33 : decode cX11_givesTo 33 = .ok (.bipush 24, 2) := by decide +kernel
theorem dX11_givesTo_35 : decode cX11_givesTo 35 = .ok (.irem, 1) := by decide +kernel
theorem dX11_givesTo_36 : decode cX11_givesTo 36 = .ok (.iastore, 1) := by decide +kernel
theorem dX11_givesTo_37 : decode cX11_givesTo 37 = .ok (.aload_n 0, 1) := by decide +kernel
theorem dX11_givesTo_38 : decode cX11_givesTo 38 = .ok (.getfield 78, 3) := by decide +kernel
theorem dX11_givesTo_41 : decode cX11_givesTo 41 = .ok (.iconst 3, 1) := by decide +kernel
theorem dX11_givesTo_42 : decode cX11_givesTo 42 = .ok (.aload_n 0, 1) := by decide +kernel
theorem dX11_givesTo_43 : decode cX11_givesTo 43 = .ok (.invokevirtual 296, 3) := by decide +kernel
theorem dX11_givesTo_46 : decode cX11_givesTo 46 = .ok (.ifCond .eq 7, 3) := by decide +kernel
theorem dX11_givesTo_49 : decode cX11_givesTo 49 = .ok (.iconst 1, 1) := by decide +kernel
theorem dX11_givesTo_50 : decode cX11_givesTo 50 = .ok (.goto 4, 3) := by decide +kernel
theorem dX11_givesTo_53 : decode cX11_givesTo 53 = .ok (.iconst 0, 1) := by decide +kernel
theorem dX11_givesTo_54 : decode cX11_givesTo 54 = .ok (.iastore, 1) := by decide +kernel
theorem dX11_givesTo_55 : decode cX11_givesTo 55 = .ok (.aload_n 0, 1) := by decide +kernel
theorem dX11_givesTo_56 : decode cX11_givesTo 56 = .ok (.getfield 78, 3) := by decide +kernel
theorem dX11_givesTo_59 : decode cX11_givesTo 59 = .ok (.iconst 4, 1) := by decide +kernel
theorem dX11_givesTo_60 : decode cX11_givesTo 60 = .ok (.aload_n 0, 1) := by decide +kernel
theorem dX11_givesTo_61 : decode cX11_givesTo 61 = .ok (.iload_n 2, 1) := by decide +kernel
theorem dX11_givesTo_62 : decode cX11_givesTo 62 = .ok (.iconst 1, 1) := by decide +kernel
theorem dX11_givesTo_63 : decode cX11_givesTo 63 = .ok (.invokevirtual 300, 3) := by decide +kernel
theorem dX11_givesTo_66 : decode cX11_givesTo 66 = .ok (.iastore, 1) := by decide +kernel
theorem dX11_givesTo_67 : decode cX11_givesTo 67 = .ok (.aload_n 0, 1) := by decide +kernel
theorem dX11_givesTo_68 : decode cX11_givesTo 68 = .ok (.getfield 78, 3) := by decide +kernel
theorem dX11_givesTo_71 : decode cX11_givesTo 71 = .ok (.iconst 5, 1) := by decide +kernel
theorem dX11_givesTo_72 : decode cX11_givesTo 72 = .ok (.aload_n 0, 1) := by decide +kernel
theorem dX11_givesTo_73 : decode cX11_givesTo 73 = .ok (.iload_n 2, 1) := by decide +kernel
theorem dX11_givesTo_74 : decode cX11_givesTo 74 = .ok (.iconst 3, 1) := by decide +kernel
theorem dX11_givesTo_75 : decode cX11_givesTo 75 = .ok (.invokevirtual 300, 3) := by decide +kernel
theorem dX11_givesTo_78 : decode cX11_givesTo 78 = .ok (.iastore, 1) := by decide +kernel
theorem dX11_givesTo_79 : decode cX11_givesTo 79 = .ok (.aload_n 0, 1) := by decide +kernel
theorem dX11_givesTo_80 : decode cX11_givesTo 80 = .ok (.getfield 78, 3) := by decide +kernel
theorem dX11_givesTo_83 : decode cX11_givesTo 83 = .ok (.bipush 6, 2) := by decide +kernel
theorem dX11_givesTo_85 : decode cX11_givesTo 85 = .ok (.aload_n 0, 1) := by decide +kernel
theorem dX11_givesTo_86 : decode cX11_givesTo 86 = .ok (.iload_n 2, 1) := by decide +kernel
theorem dX11_givesTo_87 : decode cX11_givesTo 87 = .ok (.iconst 2, 1) := by decide +kernel
theorem dX11_givesTo_88 : decode cX11_givesTo 88 = .ok (.invokevirtual 300, 3) := by decide +kernel
theorem dX11_givesTo_91 : decode cX11_givesTo 91 = .ok (.iastore, 1) := by decide +kernel
theorem dX11_givesTo_92 : decode cX11_givesTo 92 = .ok (.aload_n 0, 1) := by decide +kernel
theorem dX11_givesTo_93 : decode cX11_givesTo 93 = .ok (.getfield 7, 3) := by decide +kernel
theorem dX11_givesTo_96 : decode cX11_givesTo 96 = .ok (.bipush 10, 2) := by decide +kernel
theorem dX11_givesTo_98 : decode cX11_givesTo 98 = .ok (.iload_n 1, 1) := by decide +kernel
theorem dX11_givesTo_99 : decode cX11_givesTo 99 = .ok (.iadd, 1) := by decide +kernel
theorem dX11_givesTo_100 : decode cX11_givesTo 100 = .ok (.iaload, 1) := by decide +kernel
theorem dX11_givesTo_101 : decode cX11_givesTo 101 = .ok (.i2l, 1) := by decide +kernel
theorem dX11_givesTo_102 : decode cX11_givesTo 102 = .ok (.lstore_n 3, 1) := by decide +kernel
theorem dX11_givesTo_103 : decode cX11_givesTo 103 = .ok (.iconst 0, 1) := by decide +kernel
theorem dX11_givesTo_104 : decode cX11_givesTo 104 = .ok (.istore 5, 2) := by decide +kernel
theorem dX11_givesTo_106 : decode cX11_givesTo 106 = .ok (.iconst 0, 1) := by decide +kernel
theorem dX11_givesTo_107 : decode cX11_givesTo 107 = .ok (.istore 6, 2) := by decide +kernel
theorem dX11_givesTo_109 : decode cX11_givesTo 109 = .ok (.aload_n 0, 1) := by decide +kernel
theorem dX11_givesTo_110 : decode cX11_givesTo 110 = .ok (.getfield 7, 3) := by decide +kernel
theorem dX11_givesTo_113 : decode cX11_givesTo 113 = .ok (.bipush 6, 2) := by decide +kernel
theorem dX11_givesTo_115 : decode cX11_givesTo 115 = .ok (.iaload, 1) := by decide +kernel
theorem dX11_givesTo_116 : decode cX11_givesTo 116 = .ok (.iconst (-1), 1) := by decide +kernel
theorem dX11_givesTo_117 : decode cX11_givesTo 117 = .ok (.if_icmp .eq 100, 3) := by decide +kernel
theorem dX11_givesTo_120 : decode cX11_givesTo 120 = .ok (.iload 6, 2) := by decide +kernel
theorem dX11_givesTo_122 : decode cX11_givesTo 122 = .ok (.aload_n 0, 1) := by decide +kernel
theorem dX11_givesTo_123 : decode cX11_givesTo 123 = .ok (.getfield 27, 3) := by decide +kernel
theorem dX11_givesTo_126 : decode cX11_givesTo 126 = .ok (.aload_n 0, 1) := by decide +kernel
theorem dX11_givesTo_127 : decode cX11_givesTo 127 = .ok (.getfield 7, 3) := by decide +kernel
theorem dX11_givesTo_130 : decode cX11_givesTo 130 = .ok (.bipush 6, 2) := by decide +kernel
theorem dX11_givesTo_132 : decode cX11_givesTo 132 = .ok (.iaload, 1) := by decide +kernel
theorem dX11_givesTo_133 : decode cX11_givesTo 133 = .ok (.iaload, 1) := by decide +kernel
theorem dX11_givesTo_134 : decode cX11_givesTo 134 = .ok (.if_icmp .ge 83, 3) := by decide +kernel
theorem dX11_givesTo_137 : decode cX11_givesTo 137 = .ok (.bipush 20, 2) := by decide +kernel
theorem dX11_givesTo_139 : decode cX11_givesTo 139 = .ok (.aload_n 0, 1) := by decide +kernel
theorem dX11_givesTo_140 : decode cX11_givesTo 140 = .ok (.getfield 7, 3) := by decide +kernel
theorem dX11_givesTo_143 : decode cX11_givesTo 143 = .ok (.bipush 6, 2) := by decide +kernel
theorem dX11_givesTo_145 : decode cX11_givesTo 145 = .ok (.iaload, 1) := by decide +kernel
theorem dX11_givesTo_146 : decode cX11_givesTo 146 = .ok (.imul, 1) := by decide +kernel
theorem dX11_givesTo_147 : decode cX11_givesTo 147 = .ok (.iload 6, 2) := by decide +kernel
theorem dX11_givesTo_149 : decode cX11_givesTo 149 = .ok (.iadd, 1) := by decide +kernel
theorem dX11_givesTo_150 : decode cX11_givesTo 150 = .ok (.istore 7, 2) := by decide +kernel
theorem dX11_givesTo_152 : decode cX11_givesTo 152 = .ok (.aload_n 0, 1) := by decide +kernel
theorem dX11_givesTo_153 : decode cX11_givesTo 153 = .ok (.getfield 30, 3) := by decide +kernel
theorem dX11_givesTo_156 : decode cX11_givesTo 156 = .ok (.iload 7, 2) := by decide +kernel
theorem dX11_givesTo_158 : decode cX11_givesTo 158 = .ok (.iaload, 1) := by decide +kernel
theorem dX11_givesTo_159 : decode cX11_givesTo 159 = .ok (.ifCond .ne 29, 3) := by decide +kernel
theorem dX11_givesTo_162 : decode cX11_givesTo 162 = .ok (.aload_n 0, 1) := by decide +kernel
theorem dX11_givesTo_163 : decode cX11_givesTo 163 = .ok (.aload_n 0, 1) := by decide +kernel
theorem dX11_givesTo_164 : decode cX11_givesTo 164 = .ok (.getfield 33, 3) := by decide +kernel
theorem dX11_givesTo_167 : decode cX11_givesTo 167 = .ok (.iload 7, 2) := by decide +kernel
theorem dX11_givesTo_169 : decode cX11_givesTo 169 = .ok (.iaload, 1) := by decide +kernel
theorem dX11_givesTo_170 : decode cX11_givesTo 170 = .ok (.invokevirtual 303, 3) := by decide +kernel
theorem dX11_givesTo_173 : decode cX11_givesTo 173 = .ok (.lconst 0, 1) := by decide +kernel
theorem dX11_givesTo_174 : decode cX11_givesTo 174 = .ok (.lcmp, 1) := by decide +kernel
theorem dX11_givesTo_175 : decode cX11_givesTo 175 = .ok (.ifCond .le 7, 3) := by decide +kernel
theorem dX11_givesTo_178 : decode cX11_givesTo 178 = .ok (.iconst 1, 1) := by decide +kernel
theorem dX11_givesTo_179 : decode cX11_givesTo 179 = .ok (.goto 4, 3) := by decide +kernel
theorem dX11_givesTo_182 : decode cX11_givesTo 182 = .ok (.iconst 0, 1) := by decide +kernel
theorem dX11_givesTo_183 : decode cX11_givesTo 183 = .ok (.istore 5, 2) := by decide +kernel
theorem dX11_givesTo_185 : decode cX11_givesTo 185 = .ok (.goto 26, 3) := by decide +kernel
theorem dX11_givesTo_188 : decode cX11_givesTo 188 = .ok (.aload_n 0, 1) := by decide +kernel
theorem dX11_givesTo_189 : decode cX11_givesTo 189 = .ok (.getfield 30, 3) := by decide +kernel
theorem dX11_givesTo_192 : decode cX11_givesTo 192 = .ok (.iload 7, 2) := by decide +kernel
theorem dX11_givesTo_194 : decode cX11_givesTo 194 = .ok (.iaload, 1) := by decide +kernel
theorem dX11_givesTo_195 : decode cX11_givesTo 195 = .ok (.iconst 1, 1) := by decide +kernel
theorem dX11_givesTo_196 : decode cX11_givesTo 196 = .ok (.if_icmp .ne 15, 3) := by decide +kernel
theorem dX11_givesTo_199 : decode cX11_givesTo 199 = .ok (.aload_n 0, 1) := by decide +kernel
theorem dX11_givesTo_200 : decode cX11_givesTo 200 = .ok (.aload_n 0, 1) := by decide +kernel
theorem dX11_givesTo_201 : decode cX11_givesTo 201 = .ok (.getfield 33, 3) := by decide +kernel
theorem dX11_givesTo_204 : decode cX11_givesTo 204 = .ok (.iload 7, 2) := by decide +kernel
theorem dX11_givesTo_206 : decode cX11_givesTo 206 = .ok (.iaload, 1) := by decide +kernel
theorem dX11_givesTo_207 : decode cX11_givesTo 207 = .ok (.invokevirtual 303, 3) := by decide +kernel
theorem dX11_givesTo_210 : decode cX11_givesTo 210 = .ok (.lstore_n 3, 1) := by decide +kernel
theorem dX11_givesTo_211 : decode cX11_givesTo 211 = .ok (.iinc 6 1, 3) := by decide +kernel
theorem dX11_givesTo_214 : decode cX11_givesTo 214 = .ok (.goto (-105), 3) := by decide +kernel
theorem dX11_givesTo_217 : decode cX11_givesTo 217 = .ok (.iload 5, 2) := by decide +kernel
theorem dX11_givesTo_219 : decode cX11_givesTo 219 = .ok (.ifCond .ne 9, 3) := by decide +kernel
theorem dX11_givesTo_222 : decode cX11_givesTo 222 = .ok (.lload_n 3, 1) := by decide +kernel
theorem dX11_givesTo_223 : decode cX11_givesTo 223 = .ok (.lconst 0, 1) := by decide +kernel
theorem dX11_givesTo_224 : decode cX11_givesTo 224 = .ok (.lcmp, 1) := by decide +kernel
theorem dX11_givesTo_225 : decode cX11_givesTo 225 = .ok (.ifCond .ge 7, 3) := by decide +kernel
theorem dX11_givesTo_228 : decode cX11_givesTo 228 = .ok (.iconst 0, 1) := by decide +kernel
theorem dX11_givesTo_229 : decode cX11_givesTo 229 = .ok (.goto 18, 3) := by decide +kernel
theorem dX11_givesTo_232 : decode cX11_givesTo 232 = .ok (.lload_n 3, 1) := by decide +kernel
theorem dX11_givesTo_233 : decode cX11_givesTo 233 = .ok (.ldc2_w 307, 3) := by decide +kernel
theorem dX11_givesTo_236 : decode cX11_givesTo 236 = .ok (.lcmp, 1) := by decide +kernel
theorem dX11_givesTo_237 : decode cX11_givesTo 237 = .ok (.ifCond .le 8, 3) := by decide +kernel
theorem dX11_givesTo_240 : decode cX11_givesTo 240 = .ok (.bipush 99, 2) := by decide +kernel
theorem dX11_givesTo_242 : decode cX11_givesTo 242 = .ok (.goto 5, 3) := by decide +kernel
theorem dX11_givesTo_245 : decode cX11_givesTo 245 = .ok (.lload_n 3, 1) := by decide +kernel
theorem dX11_givesTo_246 : decode cX11_givesTo 246 = .ok (.l2i, 1) := by decide +kernel
theorem dX11_givesTo_247 : decode cX11_givesTo 247 = .ok (.ireturn, 1) := by decide +kernel
theorem dX11_gives_0 : decode cX11_gives 0 = .ok (.aload_n 0, 1) := by decide +kernel
theorem dX11_gives_1 : decode cX11_gives 1 = .ok (.iload_n 1, 1) := by decide +kernel
theorem dX11_gives_2 : decode cX11_gives 2 = .ok (.invokevirtual 119, 3) := by decide +kernel
theorem dX11_gives_5 : decode cX11_gives 5 = .ok (.ifCond .eq 30, 3) := by decide +kernel
theorem dX11_gives_8 : decode cX11_gives 8 = .ok (.aload_n 0, 1) := by decide +kernel
theorem dX11_gives_9 : decode cX11_gives 9 = .ok (.iload_n 2, 1) := by decide +kernel
theorem dX11_gives_10 : decode cX11_gives 10 = .ok (.invokevirtual 309, 3) := by decide +kernel
theorem dX11_gives_13 : decode cX11_gives 13 = .ok (.ifCond .eq 22, 3) := by decide +kernel
theorem dX11_gives_16 : decode cX11_gives 16 = .ok (.aload_n 0, 1) := by decide +kernel
theorem dX11_gives_17 : decode cX11_gives 17 = .ok (.iload_n 2, 1) := by decide +kernel
theorem dX11_gives_18 : decode cX11_gives 18 = .ok (.iconst 2, 1) := by decide +kernel
theorem dX11_gives_19 : decode cX11_gives 19 = .ok (.invokevirtual 300, 3) := by decide +kernel
theorem dX11_gives_22 : decode cX11_gives 22 = .ok (.iload_n 1, 1) := by decide +kernel
theorem dX11_gives_23 : decode cX11_gives 23 = .ok (.if_icmp .eq 12, 3) := by decide +kernel
theorem dX11_gives_26 : decode cX11_gives 26 = .ok (.aload_n 0, 1) := by decide +kernel
theorem dX11_gives_27 : decode cX11_gives 27 = .ok (.iload_n 1, 1) := by decide +kernel
theorem dX11_gives_28 : decode cX11_gives 28 = .ok (.iload_n 2, 1) := by decide +kernel
theorem dX11_gives_29 : decode cX11_gives 29 = .ok (.invokevirtual 312, 3) := by decide +kernel
theorem dX11_gives_32 : decode cX11_gives 32 = .ok (.goto 4, 3) := by decide +kernel
theorem dX11_gives_35 : decode cX11_gives 35 = .ok (.iconst (-1), 1) := by decide +kernel
theorem dX11_gives_36 : decode cX11_gives 36 = .ok (.ireturn, 1) := by decide +kernel
theorem dX11_keepsStep_0 : decode cX11_keepsStep 0 = .ok (.aload_n 0, 1) := by decide +kernel
theorem dX11_keepsStep_1 : decode cX11_keepsStep 1 = .ok (.getfield 7, 3) := by decide +kernel
theorem dX11_keepsStep_4 : decode cX11_keepsStep 4 = .ok (.bipush 7, 2) := by decide +kernel
theorem dX11_keepsStep_6 : decode cX11_keepsStep 6 = .ok (.iaload, 1) := by decide +kernel
theorem dX11_keepsStep_7 : decode cX11_keepsStep 7 = .ok (.bipush 40, 2) := by decide +kernel
theorem dX11_keepsStep_9 : decode cX11_keepsStep 9 = .ok (.if_icmp .ne 42, 3) := by decide +kernel
theorem dX11_keepsStep_12 : decode cX11_keepsStep 12 = .ok (.bipush 120, 2) := by decide +kernel
theorem dX11_keepsStep_14 : decode cX11_keepsStep 14 = .ok (.istore_n 2, 1) := by decide +kernel
theorem dX11_keepsStep_15 : decode cX11_keepsStep 15 = .ok (.iload_n 2, 1) := by decide +kernel
theorem dX11_keepsStep_16 : decode cX11_keepsStep 16 = .ok (.sipush 276, 3) := by decide +kernel
theorem dX11_keepsStep_19 : decode cX11_keepsStep 19 = .ok (.if_icmp .ge 23, 3) := by decide +kernel
theorem dX11_keepsStep_22 : decode cX11_keepsStep 22 = .ok (.aload_n 0, 1) := by decide +kernel
theorem dX11_keepsStep_23 : decode cX11_keepsStep 23 = .ok (.getfield 7, 3) := by decide +kernel
theorem dX11_keepsStep_26 : decode cX11_keepsStep 26 = .ok (.iload_n 2, 1) := by decide +kernel
theorem dX11_keepsStep_27 : decode cX11_keepsStep 27 = .ok (.aload_n 0, 1) := by decide +kernel
theorem dX11_keepsStep_28 : decode cX11_keepsStep 28 = .ok (.getfield 7, 3) := by decide +kernel
theorem dX11_keepsStep_31 : decode cX11_keepsStep 31 = .ok (.iload_n 2, 1) := by decide +kernel
theorem dX11_keepsStep_32 : decode cX11_keepsStep 32 = .ok (.iconst 4, 1) := by decide +kernel
theorem dX11_keepsStep_33 : decode cX11_keepsStep 33 = .ok (.iadd, 1) := by decide +kernel
theorem dX11_keepsStep_34 : decode cX11_keepsStep 34 = .ok (.iaload, 1) := by decide +kernel
theorem dX11_keepsStep_35 : decode cX11_keepsStep 35 = .ok (.iastore, 1) := by decide +kernel
theorem dX11_keepsStep_36 : decode cX11_keepsStep 36 = .ok (.iinc 2 1, 3) := by decide +kernel
theorem dX11_keepsStep_39 : decode cX11_keepsStep 39 = .ok (.goto (-24), 3) := by decide +kernel
theorem dX11_keepsStep_42 : decode cX11_keepsStep 42 = .ok (.aload_n 0, 1) := by decide +kernel
theorem dX11_keepsStep_43 : decode cX11_keepsStep 43 = .ok (.getfield 7, 3) := by decide +kernel
theorem dX11_keepsStep_46 : decode cX11_keepsStep 46 = .ok (.bipush 7, 2) := by decide +kernel
theorem dX11_keepsStep_48 : decode cX11_keepsStep 48 = .ok (.bipush 39, 2) := by decide +kernel
theorem dX11_keepsStep_50 : decode cX11_keepsStep 50 = .ok (.iastore, 1) := by decide +kernel
theorem dX11_keepsStep_51 : decode cX11_keepsStep 51 = .ok (.bipush 120, 2) := by decide +kernel
theorem dX11_keepsStep_53 : decode cX11_keepsStep 53 = .ok (.iconst 4, 1) := by decide +kernel
theorem dX11_keepsStep_54 : decode cX11_keepsStep 54 = .ok (.aload_n 0, 1) := by decide +kernel
theorem dX11_keepsStep_55 : decode cX11_keepsStep 55 = .ok (.getfield 7, 3) := by decide +kernel
theorem dX11_keepsStep_58 : decode cX11_keepsStep 58 = .ok (.bipush 7, 2) := by decide +kernel
theorem dX11_keepsStep_60 : decode cX11_keepsStep 60 = .ok (.iaload, 1) := by decide +kernel
theorem dX11_keepsStep_61 : decode cX11_keepsStep 61 = .ok (.imul, 1) := by decide +kernel
theorem dX11_keepsStep_62 : decode cX11_keepsStep 62 = .ok (.iadd, 1) := by decide +kernel
theorem dX11_keepsStep_63 : decode cX11_keepsStep 63 = .ok (.istore_n 2, 1) := by decide +kernel
theorem dX11_keepsStep_64 : decode cX11_keepsStep 64 = .ok (.aload_n 0, 1) := by decide +kernel
theorem dX11_keepsStep_65 : decode cX11_keepsStep 65 = .ok (.getfield 7, 3) := by decide +kernel
theorem dX11_keepsStep_68 : decode cX11_keepsStep 68 = .ok (.iload_n 2, 1) := by decide +kernel
theorem dX11_keepsStep_69 : decode cX11_keepsStep 69 = .ok (.iload_n 1, 1) := by decide +kernel
theorem dX11_keepsStep_70 : decode cX11_keepsStep 70 = .ok (.iastore, 1) := by decide +kernel
theorem dX11_keepsStep_71 : decode cX11_keepsStep 71 = .ok (.aload_n 0, 1) := by decide +kernel
theorem dX11_keepsStep_72 : decode cX11_keepsStep 72 = .ok (.getfield 7, 3) := by decide +kernel
theorem dX11_keepsStep_75 : decode cX11_keepsStep 75 = .ok (.iload_n 2, 1) := by decide +kernel
theorem dX11_keepsStep_76 : decode cX11_keepsStep 76 = .ok (.iconst 1, 1) := by decide +kernel
theorem dX11_keepsStep_77 : decode cX11_keepsStep 77 = .ok (.iadd, 1) := by decide +kernel
theorem dX11_keepsStep_78 : decode cX11_keepsStep 78 = .ok (.aload_n 0, 1) := by decide +kernel
theorem dX11_keepsStep_79 : decode cX11_keepsStep 79 = .ok (.iload_n 1, 1) := by decide +kernel
theorem dX11_keepsStep_80 : decode cX11_keepsStep 80 = .ok (.iconst 1, 1) := by decide +kernel
theorem dX11_keepsStep_81 : decode cX11_keepsStep 81 = .ok (.invokevirtual 300, 3) := by decide +kernel
theorem dX11_keepsStep_84 : decode cX11_keepsStep 84 = .ok (.iastore, 1) := by decide +kernel
theorem dX11_keepsStep_85 : decode cX11_keepsStep 85 = .ok (.aload_n 0, 1) := by decide +kernel
theorem dX11_keepsStep_86 : decode cX11_keepsStep 86 = .ok (.getfield 7, 3) := by decide +kernel
theorem dX11_keepsStep_89 : decode cX11_keepsStep 89 = .ok (.iload_n 2, 1) := by decide +kernel
theorem dX11_keepsStep_90 : decode cX11_keepsStep 90 = .ok (.iconst 2, 1) := by decide +kernel
theorem dX11_keepsStep_91 : decode cX11_keepsStep 91 = .ok (.iadd, 1) := by decide +kernel
theorem dX11_keepsStep_92 : decode cX11_keepsStep 92 = .ok (.aload_n 0, 1) := by decide +kernel
theorem dX11_keepsStep_93 : decode cX11_keepsStep 93 = .ok (.iload_n 1, 1) := by decide +kernel
theorem dX11_keepsStep_94 : decode cX11_keepsStep 94 = .ok (.iconst 2, 1) := by decide +kernel
theorem dX11_keepsStep_95 : decode cX11_keepsStep 95 = .ok (.invokevirtual 300, 3) := by decide +kernel
theorem dX11_keepsStep_98 : decode cX11_keepsStep 98 = .ok (.iastore, 1) := by decide +kernel
theorem dX11_keepsStep_99 : decode cX11_keepsStep 99 = .ok (.aload_n 0, 1) := by decide +kernel
theorem dX11_keepsStep_100 : decode cX11_keepsStep 100 = .ok (.getfield 7, 3) := by decide +kernel
theorem dX11_keepsStep_103 : decode cX11_keepsStep 103 = .ok (.iload_n 2, 1) := by decide +kernel
theorem dX11_keepsStep_104 : decode cX11_keepsStep 104 = .ok (.iconst 3, 1) := by decide +kernel
theorem dX11_keepsStep_105 : decode cX11_keepsStep 105 = .ok (.iadd, 1) := by decide +kernel
theorem dX11_keepsStep_106 : decode cX11_keepsStep 106 = .ok (.aload_n 0, 1) := by decide +kernel
theorem dX11_keepsStep_107 : decode cX11_keepsStep 107 = .ok (.iload_n 1, 1) := by decide +kernel
theorem dX11_keepsStep_108 : decode cX11_keepsStep 108 = .ok (.iconst 3, 1) := by decide +kernel
theorem dX11_keepsStep_109 : decode cX11_keepsStep 109 = .ok (.invokevirtual 300, 3) := by decide +kernel
theorem dX11_keepsStep_112 : decode cX11_keepsStep 112 = .ok (.iastore, 1) := by decide +kernel
theorem dX11_keepsStep_113 : decode cX11_keepsStep 113 = .ok (.aload_n 0, 1) := by decide +kernel
theorem dX11_keepsStep_114 : decode cX11_keepsStep 114 = .ok (.getfield 7, 3) := by decide +kernel
theorem dX11_keepsStep_117 : decode cX11_keepsStep 117 = .ok (.bipush 7, 2) := by decide +kernel
theorem dX11_keepsStep_119 : decode cX11_keepsStep 119 = .ok (.dup2, 1) := by decide +kernel
theorem dX11_keepsStep_120 : decode cX11_keepsStep 120 = .ok (.iaload, 1) := by decide +kernel
theorem dX11_keepsStep_121 : decode cX11_keepsStep 121 = .ok (.iconst 1, 1) := by decide +kernel
theorem dX11_keepsStep_122 : decode cX11_keepsStep 122 = .ok (.iadd, 1) := by decide +kernel
theorem dX11_keepsStep_123 : decode cX11_keepsStep 123 = .ok (.iastore, 1) := by decide +kernel
theorem dX11_keepsStep_124 : decode cX11_keepsStep 124 = .ok (.return_, 1) := by decide +kernel
theorem dX11_canPay_0 : decode cX11_canPay 0 = .ok (.aload_n 0, 1) := by decide +kernel
theorem dX11_canPay_1 : decode cX11_canPay 1 = .ok (.iload_n 1, 1) := by decide +kernel
theorem dX11_canPay_2 : decode cX11_canPay 2 = .ok (.invokevirtual 309, 3) := by decide +kernel
theorem dX11_canPay_5 : decode cX11_canPay 5 = .ok (.ifCond .eq 25, 3) := by decide +kernel
theorem dX11_canPay_8 : decode cX11_canPay 8 = .ok (.aload_n 0, 1) := by decide +kernel
theorem dX11_canPay_9 : decode cX11_canPay 9 = .ok (.iload_n 2, 1) := by decide +kernel
theorem dX11_canPay_10 : decode cX11_canPay 10 = .ok (.invokevirtual 119, 3) := by decide +kernel
theorem dX11_canPay_13 : decode cX11_canPay 13 = .ok (.ifCond .eq 17, 3) := by decide +kernel
theorem dX11_canPay_16 : decode cX11_canPay 16 = .ok (.aload_n 0, 1) := by decide +kernel
theorem dX11_canPay_17 : decode cX11_canPay 17 = .ok (.iload_n 1, 1) := by decide +kernel
theorem dX11_canPay_18 : decode cX11_canPay 18 = .ok (.iconst 2, 1) := by decide +kernel
theorem dX11_canPay_19 : decode cX11_canPay 19 = .ok (.invokevirtual 300, 3) := by decide +kernel
theorem dX11_canPay_22 : decode cX11_canPay 22 = .ok (.iload_n 2, 1) := by decide +kernel
theorem dX11_canPay_23 : decode cX11_canPay 23 = .ok (.if_icmp .eq 7, 3) := by decide +kernel
theorem dX11_canPay_26 : decode cX11_canPay 26 = .ok (.iconst 1, 1) := by decide +kernel
theorem dX11_canPay_27 : decode cX11_canPay 27 = .ok (.goto 4, 3) := by decide +kernel
theorem dX11_canPay_30 : decode cX11_canPay 30 = .ok (.iconst 0, 1) := by decide +kernel
theorem dX11_canPay_31 : decode cX11_canPay 31 = .ok (.ireturn, 1) := by decide +kernel
theorem dX11_pays_0 : decode cX11_pays 0 = .ok (.aload_n 0, 1) := by decide +kernel
theorem dX11_pays_1 : decode cX11_pays 1 = .ok (.iload_n 2, 1) := by decide +kernel
theorem dX11_pays_2 : decode cX11_pays 2 = .ok (.iload_n 1, 1) := by decide +kernel
theorem dX11_pays_3 : decode cX11_pays 3 = .ok (.invokevirtual 312, 3) := by decide +kernel
theorem dX11_pays_6 : decode cX11_pays 6 = .ok (.istore_n 3, 1) := by decide +kernel
theorem dX11_pays_7 : decode cX11_pays 7 = .ok (.aload_n 0, 1) := by decide +kernel
theorem dX11_pays_8 : decode cX11_pays 8 = .ok (.iload_n 1, 1) := by decide +kernel
theorem dX11_pays_9 : decode cX11_pays 9 = .ok (.invokevirtual 315, 3) := by decide +kernel
theorem dX11_pays_12 : decode cX11_pays 12 = .ok (.bipush 20, 2) := by decide +kernel
theorem dX11_pays_14 : decode cX11_pays 14 = .ok (.iconst 5, 1) := by decide +kernel
theorem dX11_pays_15 : decode cX11_pays 15 = .ok (.iload_n 1, 1) := by decide +kernel
theorem dX11_pays_16 : decode cX11_pays 16 = .ok (.imul, 1) := by decide +kernel
theorem dX11_pays_17 : decode cX11_pays 17 = .ok (.iadd, 1) := by decide +kernel
theorem dX11_pays_18 : decode cX11_pays 18 = .ok (.istore 4, 2) := by decide +kernel
theorem dX11_pays_20 : decode cX11_pays 20 = .ok (.aload_n 0, 1) := by decide +kernel
theorem dX11_pays_21 : decode cX11_pays 21 = .ok (.getfield 7, 3) := by decide +kernel
theorem dX11_pays_24 : decode cX11_pays 24 = .ok (.iload 4, 2) := by decide +kernel
theorem dX11_pays_26 : decode cX11_pays 26 = .ok (.iconst 1, 1) := by decide +kernel
theorem dX11_pays_27 : decode cX11_pays 27 = .ok (.iadd, 1) := by decide +kernel
theorem dX11_pays_28 : decode cX11_pays 28 = .ok (.dup2, 1) := by decide +kernel
theorem dX11_pays_29 : decode cX11_pays 29 = .ok (.iaload, 1) := by decide +kernel
theorem dX11_pays_30 : decode cX11_pays 30 = .ok (.iload_n 3, 1) := by decide +kernel
theorem dX11_pays_31 : decode cX11_pays 31 = .ok (.iadd, 1) := by decide +kernel
theorem dX11_pays_32 : decode cX11_pays 32 = .ok (.iastore, 1) := by decide +kernel
theorem dX11_pays_33 : decode cX11_pays 33 = .ok (.aload_n 0, 1) := by decide +kernel
theorem dX11_pays_34 : decode cX11_pays 34 = .ok (.getfield 7, 3) := by decide +kernel
theorem dX11_pays_37 : decode cX11_pays 37 = .ok (.iload 4, 2) := by decide +kernel
theorem dX11_pays_39 : decode cX11_pays 39 = .ok (.iconst 2, 1) := by decide +kernel
theorem dX11_pays_40 : decode cX11_pays 40 = .ok (.iadd, 1) := by decide +kernel
theorem dX11_pays_41 : decode cX11_pays 41 = .ok (.iload_n 2, 1) := by decide +kernel
theorem dX11_pays_42 : decode cX11_pays 42 = .ok (.iastore, 1) := by decide +kernel
theorem dX11_pays_43 : decode cX11_pays 43 = .ok (.aload_n 0, 1) := by decide +kernel
theorem dX11_pays_44 : decode cX11_pays 44 = .ok (.getfield 7, 3) := by decide +kernel
theorem dX11_pays_47 : decode cX11_pays 47 = .ok (.iload 4, 2) := by decide +kernel
theorem dX11_pays_49 : decode cX11_pays 49 = .ok (.iconst 3, 1) := by decide +kernel
theorem dX11_pays_50 : decode cX11_pays 50 = .ok (.iadd, 1) := by decide +kernel
theorem dX11_pays_51 : decode cX11_pays 51 = .ok (.dup2, 1) := by decide +kernel
theorem dX11_pays_52 : decode cX11_pays 52 = .ok (.iaload, 1) := by decide +kernel
theorem dX11_pays_53 : decode cX11_pays 53 = .ok (.iconst 1, 1) := by decide +kernel
theorem dX11_pays_54 : decode cX11_pays 54 = .ok (.iadd, 1) := by decide +kernel
theorem dX11_pays_55 : decode cX11_pays 55 = .ok (.iastore, 1) := by decide +kernel
theorem dX11_pays_56 : decode cX11_pays 56 = .ok (.return_, 1) := by decide +kernel
theorem dX11_pay_0 : decode cX11_pay 0 = .ok (.aload_n 0, 1) := by decide +kernel
theorem dX11_pay_1 : decode cX11_pay 1 = .ok (.iload_n 1, 1) := by decide +kernel
theorem dX11_pay_2 : decode cX11_pay 2 = .ok (.iload_n 2, 1) := by decide +kernel
theorem dX11_pay_3 : decode cX11_pay 3 = .ok (.invokevirtual 318, 3) := by decide +kernel
theorem dX11_pay_6 : decode cX11_pay 6 = .ok (.ifCond .ne 5, 3) := by decide +kernel
theorem dX11_pay_9 : decode cX11_pay 9 = .ok (.iconst (-1), 1) := by decide +kernel
theorem dX11_pay_10 : decode cX11_pay 10 = .ok (.ireturn, 1) := by decide +kernel
theorem dX11_pay_11 : decode cX11_pay 11 = .ok (.aload_n 0, 1) := by decide +kernel
theorem dX11_pay_12 : decode cX11_pay 12 = .ok (.iload_n 1, 1) := by decide +kernel
theorem dX11_pay_13 : decode cX11_pay 13 = .ok (.iload_n 2, 1) := by decide +kernel
theorem dX11_pay_14 : decode cX11_pay 14 = .ok (.invokevirtual 322, 3) := by decide +kernel
theorem dX11_pay_17 : decode cX11_pay 17 = .ok (.aload_n 0, 1) := by decide +kernel
theorem dX11_pay_18 : decode cX11_pay 18 = .ok (.iload_n 1, 1) := by decide +kernel
theorem dX11_pay_19 : decode cX11_pay 19 = .ok (.iconst 1, 1) := by decide +kernel
theorem dX11_pay_20 : decode cX11_pay 20 = .ok (.invokevirtual 300, 3) := by decide +kernel
theorem dX11_pay_23 : decode cX11_pay 23 = .ok (.ireturn, 1) := by decide +kernel
theorem dX11_washes_0 : decode cX11_washes 0 = .ok (.aload_n 0, 1) := by decide +kernel
theorem dX11_washes_1 : decode cX11_washes 1 = .ok (.iload_n 1, 1) := by decide +kernel
theorem dX11_washes_2 : decode cX11_washes 2 = .ok (.invokevirtual 315, 3) := by decide +kernel
theorem dX11_washes_5 : decode cX11_washes 5 = .ok (.aload_n 0, 1) := by decide +kernel
theorem dX11_washes_6 : decode cX11_washes 6 = .ok (.iload_n 1, 1) := by decide +kernel
theorem dX11_washes_7 : decode cX11_washes 7 = .ok (.iconst 1, 1) := by decide +kernel
theorem dX11_washes_8 : decode cX11_washes 8 = .ok (.invokevirtual 300, 3) := by decide +kernel
theorem dX11_washes_11 : decode cX11_washes 11 = .ok (.aload_n 0, 1) := by decide +kernel
theorem dX11_washes_12 : decode cX11_washes 12 = .ok (.iload_n 1, 1) := by decide +kernel
theorem dX11_washes_13 : decode cX11_washes 13 = .ok (.iconst 0, 1) := by decide +kernel
theorem dX11_washes_14 : decode cX11_washes 14 = .ok (.invokevirtual 300, 3) := by decide +kernel
theorem dX11_washes_17 : decode cX11_washes 17 = .ok (.isub, 1) := by decide +kernel
theorem dX11_washes_18 : decode cX11_washes 18 = .ok (.istore_n 2, 1) := by decide +kernel
theorem dX11_washes_19 : decode cX11_washes 19 = .ok (.aload_n 0, 1) := by decide +kernel
theorem dX11_washes_20 : decode cX11_washes 20 = .ok (.getfield 7, 3) := by decide +kernel
theorem dX11_washes_23 : decode cX11_washes 23 = .ok (.bipush 20, 2) := by decide +kernel
theorem dX11_washes_25 : decode cX11_washes 25 = .ok (.iconst 5, 1) := by decide +kernel
theorem dX11_washes_26 : decode cX11_washes 26 = .ok (.iload_n 1, 1) := by decide +kernel
theorem dX11_washes_27 : decode cX11_washes 27 = .ok (.imul, 1) := by decide +kernel
theorem dX11_washes_28 : decode cX11_washes 28 = .ok (.iadd, 1) := by decide +kernel
theorem dX11_washes_29 : decode cX11_washes 29 = .ok (.iconst 1, 1) := by decide +kernel
theorem dX11_washes_30 : decode cX11_washes 30 = .ok (.iadd, 1) := by decide +kernel
theorem dX11_washes_31 : decode cX11_washes 31 = .ok (.aload_n 0, 1) := by decide +kernel
theorem dX11_washes_32 : decode cX11_washes 32 = .ok (.iload_n 1, 1) := by decide +kernel
theorem dX11_washes_33 : decode cX11_washes 33 = .ok (.iconst 0, 1) := by decide +kernel
theorem dX11_washes_34 : decode cX11_washes 34 = .ok (.invokevirtual 300, 3) := by decide +kernel
theorem dX11_washes_37 : decode cX11_washes 37 = .ok (.iastore, 1) := by decide +kernel
theorem dX11_washes_38 : decode cX11_washes 38 = .ok (.iload_n 2, 1) := by decide +kernel
theorem dX11_washes_39 : decode cX11_washes 39 = .ok (.ireturn, 1) := by decide +kernel
theorem dX11_wash_0 : decode cX11_wash 0 = .ok (.aload_n 0, 1) := by decide +kernel
theorem dX11_wash_1 : decode cX11_wash 1 = .ok (.iload_n 1, 1) := by decide +kernel
theorem dX11_wash_2 : decode cX11_wash 2 = .ok (.invokevirtual 309, 3) := by decide +kernel
theorem dX11_wash_5 : decode cX11_wash 5 = .ok (.ifCond .eq 11, 3) := by decide +kernel
theorem dX11_wash_8 : decode cX11_wash 8 = .ok (.aload_n 0, 1) := by decide +kernel
theorem dX11_wash_9 : decode cX11_wash 9 = .ok (.iload_n 1, 1) := by decide +kernel
theorem dX11_wash_10 : decode cX11_wash 10 = .ok (.invokevirtual 325, 3) := by decide +kernel
theorem dX11_wash_13 : decode cX11_wash 13 = .ok (.goto 4, 3) := by decide +kernel
theorem dX11_wash_16 : decode cX11_wash 16 = .ok (.iconst (-1), 1) := by decide +kernel
theorem dX11_wash_17 : decode cX11_wash 17 = .ok (.ireturn, 1) := by decide +kernel
theorem dX11_played_0 : decode cX11_played 0 = .ok (.iload_n 1, 1) := by decide +kernel
theorem dX11_played_1 : decode cX11_played 1 = .ok (.iconst 0, 1) := by decide +kernel
theorem dX11_played_2 : decode cX11_played 2 = .ok (.aload_n 0, 1) := by decide +kernel
theorem dX11_played_3 : decode cX11_played 3 = .ok (.getfield 7, 3) := by decide +kernel
theorem dX11_played_6 : decode cX11_played 6 = .ok (.iconst 5, 1) := by decide +kernel
theorem dX11_played_7 : decode cX11_played 7 = .ok (.iaload, 1) := by decide +kernel
theorem dX11_played_8 : decode cX11_played 8 = .ok (.iconst 1, 1) := by decide +kernel
theorem dX11_played_9 : decode cX11_played 9 = .ok (.isub, 1) := by decide +kernel
theorem dX11_played_10 : decode cX11_played 10 = .ok (.invokestatic 115, 3) := by decide +kernel
theorem dX11_played_13 : decode cX11_played 13 = .ok (.ifCond .ne 6, 3) := by decide +kernel
theorem dX11_played_16 : decode cX11_played 16 = .ok (.bipush (-2), 2) := by decide +kernel
theorem dX11_played_18 : decode cX11_played 18 = .ok (.ireturn, 1) := by decide +kernel
theorem dX11_played_19 : decode cX11_played 19 = .ok (.iconst 0, 1) := by decide +kernel
theorem dX11_played_20 : decode cX11_played 20 = .ok (.istore_n 2, 1) := by decide +kernel
theorem dX11_played_21 : decode cX11_played 21 = .ok (.iload_n 2, 1) := by decide +kernel
theorem dX11_played_22 : decode cX11_played 22 = .ok (.aload_n 0, 1) := by decide +kernel
theorem dX11_played_23 : decode cX11_played 23 = .ok (.getfield 27, 3) := by decide +kernel
theorem dX11_played_26 : decode cX11_played 26 = .ok (.iload_n 1, 1) := by decide +kernel
theorem dX11_played_27 : decode cX11_played 27 = .ok (.iaload, 1) := by decide +kernel
theorem dX11_played_28 : decode cX11_played 28 = .ok (.if_icmp .ge 147, 3) := by decide +kernel
theorem dX11_played_31 : decode cX11_played 31 = .ok (.bipush 20, 2) := by decide +kernel
theorem dX11_played_33 : decode cX11_played 33 = .ok (.iload_n 1, 1) := by decide +kernel
theorem dX11_played_34 : decode cX11_played 34 = .ok (.imul, 1) := by decide +kernel
theorem dX11_played_35 : decode cX11_played 35 = .ok (.iload_n 2, 1) := by decide +kernel
theorem dX11_played_36 : decode cX11_played 36 = .ok (.iadd, 1) := by decide +kernel
theorem dX11_played_37 : decode cX11_played 37 = .ok (.istore_n 3, 1) := by decide +kernel
theorem dX11_played_38 : decode cX11_played 38 = .ok (.aload_n 0, 1) := by decide +kernel
theorem dX11_played_39 : decode cX11_played 39 = .ok (.getfield 36, 3) := by decide +kernel
theorem dX11_played_42 : decode cX11_played 42 = .ok (.iload_n 3, 1) := by decide +kernel
theorem dX11_played_43 : decode cX11_played 43 = .ok (.iaload, 1) := by decide +kernel
theorem dX11_played_44 : decode cX11_played 44 = .ok (.istore 4, 2) := by decide +kernel
theorem dX11_played_46 : decode cX11_played 46 = .ok (.iconst 1, 1) := by decide +kernel
theorem dX11_played_47 : decode cX11_played 47 = .ok (.istore 5, 2) := by decide +kernel
theorem dX11_played_49 : decode cX11_played 49 = .ok (.aload_n 0, 1) := by decide +kernel
theorem dX11_played_50 : decode cX11_played 50 = .ok (.getfield 30, 3) := by decide +kernel
theorem dX11_played_53 : decode cX11_played 53 = .ok (.iload_n 3, 1) := by decide +kernel
theorem dX11_played_54 : decode cX11_played 54 = .ok (.iaload, 1) := by decide +kernel
theorem dX11_played_55 : decode cX11_played 55 = .ok (.tableswitch 107 2 4 #[25, 59, 87], 25) := by decide +kernel
theorem dX11_played_80 : decode cX11_played 80 = .ok (.aload_n 0, 1) := by decide +kernel
theorem dX11_played_81 : decode cX11_played 81 = .ok (.iload 4, 2) := by decide +kernel
theorem dX11_played_83 : decode cX11_played 83 = .ok (.aload_n 0, 1) := by decide +kernel
theorem dX11_played_84 : decode cX11_played 84 = .ok (.getfield 39, 3) := by decide +kernel
theorem dX11_played_87 : decode cX11_played 87 = .ok (.iload_n 3, 1) := by decide +kernel
theorem dX11_played_88 : decode cX11_played 88 = .ok (.iaload, 1) := by decide +kernel
theorem dX11_played_89 : decode cX11_played 89 = .ok (.invokevirtual 318, 3) := by decide +kernel
theorem dX11_played_92 : decode cX11_played 92 = .ok (.istore 5, 2) := by decide +kernel
theorem dX11_played_94 : decode cX11_played 94 = .ok (.iload 5, 2) := by decide +kernel
theorem dX11_played_96 : decode cX11_played 96 = .ok (.ifCond .eq 66, 3) := by decide +kernel
theorem dX11_played_99 : decode cX11_played 99 = .ok (.aload_n 0, 1) := by decide +kernel
theorem dX11_played_100 : decode cX11_played 100 = .ok (.iload 4, 2) := by decide +kernel
theorem dX11_played_102 : decode cX11_played 102 = .ok (.aload_n 0, 1) := by decide +kernel
theorem dX11_played_103 : decode cX11_played 103 = .ok (.getfield 39, 3) := by decide +kernel
theorem dX11_played_106 : decode cX11_played 106 = .ok (.iload_n 3, 1) := by decide +kernel
theorem dX11_played_107 : decode cX11_played 107 = .ok (.iaload, 1) := by decide +kernel
theorem dX11_played_108 : decode cX11_played 108 = .ok (.invokevirtual 322, 3) := by decide +kernel
theorem dX11_played_111 : decode cX11_played 111 = .ok (.goto 51, 3) := by decide +kernel
theorem dX11_played_114 : decode cX11_played 114 = .ok (.aload_n 0, 1) := by decide +kernel
theorem dX11_played_115 : decode cX11_played 115 = .ok (.iload 4, 2) := by decide +kernel
theorem dX11_played_117 : decode cX11_played 117 = .ok (.invokevirtual 309, 3) := by decide +kernel
theorem dX11_played_120 : decode cX11_played 120 = .ok (.ifCond .eq 16, 3) := by decide +kernel
theorem dX11_played_123 : decode cX11_played 123 = .ok (.aload_n 0, 1) := by decide +kernel
theorem dX11_played_124 : decode cX11_played 124 = .ok (.iload 4, 2) := by decide +kernel
theorem dX11_played_126 : decode cX11_played 126 = .ok (.invokevirtual 325, 3) := by decide +kernel
theorem dX11_played_129 : decode cX11_played 129 = .ok (.ifCond .lt 7, 3) := by decide +kernel
theorem dX11_played_132 : decode cX11_played 132 = .ok (.iconst 1, 1) := by decide +kernel
theorem dX11_played_133 : decode cX11_played 133 = .ok (.goto 4, 3) := by decide +kernel
theorem dX11_played_136 : decode cX11_played 136 = .ok (.iconst 0, 1) := by decide +kernel
theorem dX11_played_137 : decode cX11_played 137 = .ok (.istore 5, 2) := by decide +kernel
theorem dX11_played_139 : decode cX11_played 139 = .ok (.goto 23, 3) := by decide +kernel
theorem dX11_played_142 : decode cX11_played 142 = .ok (.aload_n 0, 1) := by decide +kernel
theorem dX11_played_143 : decode cX11_played 143 = .ok (.iload 4, 2) := by decide +kernel
theorem dX11_played_145 : decode cX11_played 145 = .ok (.invokevirtual 328, 3) := by decide +kernel
theorem dX11_played_148 : decode cX11_played 148 = .ok (.iconst (-1), 1) := by decide +kernel
theorem dX11_played_149 : decode cX11_played 149 = .ok (.if_icmp .eq 7, 3) := by decide +kernel
theorem dX11_played_152 : decode cX11_played 152 = .ok (.iconst 1, 1) := by decide +kernel
theorem dX11_played_153 : decode cX11_played 153 = .ok (.goto 4, 3) := by decide +kernel
theorem dX11_played_156 : decode cX11_played 156 = .ok (.iconst 0, 1) := by decide +kernel
theorem dX11_played_157 : decode cX11_played 157 = .ok (.istore 5, 2) := by decide +kernel
theorem dX11_played_159 : decode cX11_played 159 = .ok (.goto 3, 3) := by decide +kernel
theorem dX11_played_162 : decode cX11_played 162 = .ok (.iload 5, 2) := by decide +kernel
theorem dX11_played_164 : decode cX11_played 164 = .ok (.ifCond .ne 5, 3) := by decide +kernel
theorem dX11_played_167 : decode cX11_played 167 = .ok (.iload_n 2, 1) := by decide +kernel
theorem dX11_played_168 : decode cX11_played 168 = .ok (.ireturn, 1) := by decide +kernel
theorem dX11_played_169 : decode cX11_played 169 = .ok (.iinc 2 1, 3) := by decide +kernel
theorem dX11_played_172 : decode cX11_played 172 = .ok (.goto (-151), 3) := by decide +kernel
theorem dX11_played_175 : decode cX11_played 175 = .ok (.iconst (-1), 1) := by decide +kernel
theorem dX11_played_176 : decode cX11_played 176 = .ok (.ireturn, 1) := by decide +kernel
theorem dX11_undo_0 : decode cX11_undo 0 = .ok (.aload_n 0, 1) := by decide +kernel
theorem dX11_undo_1 : decode cX11_undo 1 = .ok (.getfield 7, 3) := by decide +kernel
theorem dX11_undo_4 : decode cX11_undo 4 = .ok (.bipush 7, 2) := by decide +kernel
theorem dX11_undo_6 : decode cX11_undo 6 = .ok (.iaload, 1) := by decide +kernel
theorem dX11_undo_7 : decode cX11_undo 7 = .ok (.ifCond .ne 5, 3) := by decide +kernel
theorem dX11_undo_10 : decode cX11_undo 10 = .ok (.iconst (-1), 1) := by decide +kernel
theorem dX11_undo_11 : decode cX11_undo 11 = .ok (.ireturn, 1) := by decide +kernel
theorem dX11_undo_12 : decode cX11_undo 12 = .ok (.aload_n 0, 1) := by decide +kernel
theorem dX11_undo_13 : decode cX11_undo 13 = .ok (.getfield 7, 3) := by decide +kernel
theorem dX11_undo_16 : decode cX11_undo 16 = .ok (.bipush 7, 2) := by decide +kernel
theorem dX11_undo_18 : decode cX11_undo 18 = .ok (.dup2, 1) := by decide +kernel
theorem dX11_undo_19 : decode cX11_undo 19 = .ok (.iaload, 1) := by decide +kernel
theorem dX11_undo_20 : decode cX11_undo 20 = .ok (.iconst 1, 1) := by decide +kernel
theorem dX11_undo_21 : decode cX11_undo 21 = .ok (.isub, 1) := by decide +kernel
theorem dX11_undo_22 : decode cX11_undo 22 = .ok (.iastore, 1) := by decide +kernel
theorem dX11_undo_23 : decode cX11_undo 23 = .ok (.bipush 120, 2) := by decide +kernel
theorem dX11_undo_25 : decode cX11_undo 25 = .ok (.iconst 4, 1) := by decide +kernel
theorem dX11_undo_26 : decode cX11_undo 26 = .ok (.aload_n 0, 1) := by decide +kernel
theorem dX11_undo_27 : decode cX11_undo 27 = .ok (.getfield 7, 3) := by decide +kernel
theorem dX11_undo_30 : decode cX11_undo 30 = .ok (.bipush 7, 2) := by decide +kernel
theorem dX11_undo_32 : decode cX11_undo 32 = .ok (.iaload, 1) := by decide +kernel
theorem dX11_undo_33 : decode cX11_undo 33 = .ok (.imul, 1) := by decide +kernel
theorem dX11_undo_34 : decode cX11_undo 34 = .ok (.iadd, 1) := by decide +kernel
theorem dX11_undo_35 : decode cX11_undo 35 = .ok (.istore_n 1, 1) := by decide +kernel
theorem dX11_undo_36 : decode cX11_undo 36 = .ok (.aload_n 0, 1) := by decide +kernel
theorem dX11_undo_37 : decode cX11_undo 37 = .ok (.getfield 7, 3) := by decide +kernel
theorem dX11_undo_40 : decode cX11_undo 40 = .ok (.iload_n 1, 1) := by decide +kernel
theorem dX11_undo_41 : decode cX11_undo 41 = .ok (.iaload, 1) := by decide +kernel
theorem dX11_undo_42 : decode cX11_undo 42 = .ok (.istore_n 2, 1) := by decide +kernel
theorem dX11_undo_43 : decode cX11_undo 43 = .ok (.aload_n 0, 1) := by decide +kernel
theorem dX11_undo_44 : decode cX11_undo 44 = .ok (.getfield 7, 3) := by decide +kernel
theorem dX11_undo_47 : decode cX11_undo 47 = .ok (.bipush 20, 2) := by decide +kernel
theorem dX11_undo_49 : decode cX11_undo 49 = .ok (.iconst 5, 1) := by decide +kernel
theorem dX11_undo_50 : decode cX11_undo 50 = .ok (.iload_n 2, 1) := by decide +kernel
theorem dX11_undo_51 : decode cX11_undo 51 = .ok (.imul, 1) := by decide +kernel
theorem dX11_undo_52 : decode cX11_undo 52 = .ok (.iadd, 1) := by decide +kernel
theorem dX11_undo_53 : decode cX11_undo 53 = .ok (.iconst 1, 1) := by decide +kernel
theorem dX11_undo_54 : decode cX11_undo 54 = .ok (.iadd, 1) := by decide +kernel
theorem dX11_undo_55 : decode cX11_undo 55 = .ok (.aload_n 0, 1) := by decide +kernel
theorem dX11_undo_56 : decode cX11_undo 56 = .ok (.getfield 7, 3) := by decide +kernel
theorem dX11_undo_59 : decode cX11_undo 59 = .ok (.iload_n 1, 1) := by decide +kernel
theorem dX11_undo_60 : decode cX11_undo 60 = .ok (.iconst 1, 1) := by decide +kernel
theorem dX11_undo_61 : decode cX11_undo 61 = .ok (.iadd, 1) := by decide +kernel
theorem dX11_undo_62 : decode cX11_undo 62 = .ok (.iaload, 1) := by decide +kernel
theorem dX11_undo_63 : decode cX11_undo 63 = .ok (.iastore, 1) := by decide +kernel
theorem dX11_undo_64 : decode cX11_undo 64 = .ok (.aload_n 0, 1) := by decide +kernel
theorem dX11_undo_65 : decode cX11_undo 65 = .ok (.getfield 7, 3) := by decide +kernel
theorem dX11_undo_68 : decode cX11_undo 68 = .ok (.bipush 20, 2) := by decide +kernel
theorem dX11_undo_70 : decode cX11_undo 70 = .ok (.iconst 5, 1) := by decide +kernel
theorem dX11_undo_71 : decode cX11_undo 71 = .ok (.iload_n 2, 1) := by decide +kernel
theorem dX11_undo_72 : decode cX11_undo 72 = .ok (.imul, 1) := by decide +kernel
theorem dX11_undo_73 : decode cX11_undo 73 = .ok (.iadd, 1) := by decide +kernel
theorem dX11_undo_74 : decode cX11_undo 74 = .ok (.iconst 2, 1) := by decide +kernel
theorem dX11_undo_75 : decode cX11_undo 75 = .ok (.iadd, 1) := by decide +kernel
theorem dX11_undo_76 : decode cX11_undo 76 = .ok (.aload_n 0, 1) := by decide +kernel
theorem dX11_undo_77 : decode cX11_undo 77 = .ok (.getfield 7, 3) := by decide +kernel
theorem dX11_undo_80 : decode cX11_undo 80 = .ok (.iload_n 1, 1) := by decide +kernel
theorem dX11_undo_81 : decode cX11_undo 81 = .ok (.iconst 2, 1) := by decide +kernel
theorem dX11_undo_82 : decode cX11_undo 82 = .ok (.iadd, 1) := by decide +kernel
theorem dX11_undo_83 : decode cX11_undo 83 = .ok (.iaload, 1) := by decide +kernel
theorem dX11_undo_84 : decode cX11_undo 84 = .ok (.iastore, 1) := by decide +kernel
theorem dX11_undo_85 : decode cX11_undo 85 = .ok (.aload_n 0, 1) := by decide +kernel
theorem dX11_undo_86 : decode cX11_undo 86 = .ok (.getfield 7, 3) := by decide +kernel
theorem dX11_undo_89 : decode cX11_undo 89 = .ok (.bipush 20, 2) := by decide +kernel
theorem dX11_undo_91 : decode cX11_undo 91 = .ok (.iconst 5, 1) := by decide +kernel
theorem dX11_undo_92 : decode cX11_undo 92 = .ok (.iload_n 2, 1) := by decide +kernel
theorem dX11_undo_93 : decode cX11_undo 93 = .ok (.imul, 1) := by decide +kernel
theorem dX11_undo_94 : decode cX11_undo 94 = .ok (.iadd, 1) := by decide +kernel
theorem dX11_undo_95 : decode cX11_undo 95 = .ok (.iconst 3, 1) := by decide +kernel
theorem dX11_undo_96 : decode cX11_undo 96 = .ok (.iadd, 1) := by decide +kernel
theorem dX11_undo_97 : decode cX11_undo 97 = .ok (.aload_n 0, 1) := by decide +kernel
theorem dX11_undo_98 : decode cX11_undo 98 = .ok (.getfield 7, 3) := by decide +kernel
theorem dX11_undo_101 : decode cX11_undo 101 = .ok (.iload_n 1, 1) := by decide +kernel
theorem dX11_undo_102 : decode cX11_undo 102 = .ok (.iconst 3, 1) := by decide +kernel
theorem dX11_undo_103 : decode cX11_undo 103 = .ok (.iadd, 1) := by decide +kernel
theorem dX11_undo_104 : decode cX11_undo 104 = .ok (.iaload, 1) := by decide +kernel
theorem dX11_undo_105 : decode cX11_undo 105 = .ok (.iastore, 1) := by decide +kernel
theorem dX11_undo_106 : decode cX11_undo 106 = .ok (.iload_n 2, 1) := by decide +kernel
theorem dX11_undo_107 : decode cX11_undo 107 = .ok (.ireturn, 1) := by decide +kernel
theorem dX11_cell_0 : decode cX11_cell 0 = .ok (.iload_n 0, 1) := by decide +kernel
theorem dX11_cell_1 : decode cX11_cell 1 = .ok (.bipush 11, 2) := by decide +kernel
theorem dX11_cell_3 : decode cX11_cell 3 = .ok (.imul, 1) := by decide +kernel
theorem dX11_cell_4 : decode cX11_cell 4 = .ok (.iload_n 1, 1) := by decide +kernel
theorem dX11_cell_5 : decode cX11_cell 5 = .ok (.iadd, 1) := by decide +kernel
theorem dX11_cell_6 : decode cX11_cell 6 = .ok (.sipush 361, 3) := by decide +kernel
theorem dX11_cell_9 : decode cX11_cell 9 = .ok (.imul, 1) := by decide +kernel
theorem dX11_cell_10 : decode cX11_cell 10 = .ok (.iload_n 2, 1) := by decide +kernel
theorem dX11_cell_11 : decode cX11_cell 11 = .ok (.iadd, 1) := by decide +kernel
theorem dX11_cell_12 : decode cX11_cell 12 = .ok (.ireturn, 1) := by decide +kernel
theorem dX11_laysRows_0 : decode cX11_laysRows 0 = .ok (.iconst 0, 1) := by decide +kernel
theorem dX11_laysRows_1 : decode cX11_laysRows 1 = .ok (.istore_n 3, 1) := by decide +kernel
theorem dX11_laysRows_2 : decode cX11_laysRows 2 = .ok (.iload_n 3, 1) := by decide +kernel
theorem dX11_laysRows_3 : decode cX11_laysRows 3 = .ok (.iload_n 1, 1) := by decide +kernel
theorem dX11_laysRows_4 : decode cX11_laysRows 4 = .ok (.if_icmp .gt 152, 3) := by decide +kernel
theorem dX11_laysRows_7 : decode cX11_laysRows 7 = .ok (.iconst 0, 1) := by decide +kernel
theorem dX11_laysRows_8 : decode cX11_laysRows 8 = .ok (.istore 4, 2) := by decide +kernel
theorem dX11_laysRows_10 : decode cX11_laysRows 10 = .ok (.iload 4, 2) := by decide +kernel
theorem dX11_laysRows_12 : decode cX11_laysRows 12 = .ok (.bipush 11, 2) := by decide +kernel
theorem dX11_laysRows_14 : decode cX11_laysRows 14 = .ok (.if_icmp .ge 136, 3) := by decide +kernel
theorem dX11_laysRows_17 : decode cX11_laysRows 17 = .ok (.iconst 0, 1) := by decide +kernel
theorem dX11_laysRows_18 : decode cX11_laysRows 18 = .ok (.istore 5, 2) := by decide +kernel
theorem dX11_laysRows_20 : decode cX11_laysRows 20 = .ok (.iload 5, 2) := by decide +kernel
theorem dX11_laysRows_22 : decode cX11_laysRows 22 = .ok (.sipush 361, 3) := by decide +kernel
theorem dX11_laysRows_25 : decode cX11_laysRows 25 = .ok (.if_icmp .ge 119, 3) := by decide +kernel
theorem dX11_laysRows_28 : decode cX11_laysRows 28 = .ok (.iload_n 3, 1) := by decide +kernel
theorem dX11_laysRows_29 : decode cX11_laysRows 29 = .ok (.ifCond .ne 12, 3) := by decide +kernel
theorem dX11_laysRows_32 : decode cX11_laysRows 32 = .ok (.iload 5, 2) := by decide +kernel
theorem dX11_laysRows_34 : decode cX11_laysRows 34 = .ok (.ifCond .ne 7, 3) := by decide +kernel
theorem dX11_laysRows_37 : decode cX11_laysRows 37 = .ok (.lconst 1, 1) := by decide +kernel
theorem dX11_laysRows_38 : decode cX11_laysRows 38 = .ok (.goto 4, 3) := by decide +kernel
theorem dX11_laysRows_41 : decode cX11_laysRows 41 = .ok (.lconst 0, 1) := by decide +kernel
theorem dX11_laysRows_42 : decode cX11_laysRows 42 = .ok (.lstore 6, 2) := by decide +kernel
theorem dX11_laysRows_44 : decode cX11_laysRows 44 = .ok (.iconst 0, 1) := by decide +kernel
theorem dX11_laysRows_45 : decode cX11_laysRows 45 = .ok (.istore 8, 2) := by decide +kernel
theorem dX11_laysRows_47 : decode cX11_laysRows 47 = .ok (.iload 8, 2) := by decide +kernel
theorem dX11_laysRows_49 : decode cX11_laysRows 49 = .ok (.aload_n 0, 1) := by decide +kernel
theorem dX11_laysRows_50 : decode cX11_laysRows 50 = .ok (.getfield 7, 3) := by decide +kernel
theorem dX11_laysRows_53 : decode cX11_laysRows 53 = .ok (.iconst 0, 1) := by decide +kernel
theorem dX11_laysRows_54 : decode cX11_laysRows 54 = .ok (.iaload, 1) := by decide +kernel
theorem dX11_laysRows_55 : decode cX11_laysRows 55 = .ok (.if_icmp .ge 68, 3) := by decide +kernel
theorem dX11_laysRows_58 : decode cX11_laysRows 58 = .ok (.iload_n 3, 1) := by decide +kernel
theorem dX11_laysRows_59 : decode cX11_laysRows 59 = .ok (.ifCond .le 64, 3) := by decide +kernel
theorem dX11_laysRows_62 : decode cX11_laysRows 62 = .ok (.aload_n 0, 1) := by decide +kernel
theorem dX11_laysRows_63 : decode cX11_laysRows 63 = .ok (.getfield 7, 3) := by decide +kernel
theorem dX11_laysRows_66 : decode cX11_laysRows 66 = .ok (.bipush 10, 2) := by decide +kernel
theorem dX11_laysRows_68 : decode cX11_laysRows 68 = .ok (.iload 8, 2) := by decide +kernel
theorem dX11_laysRows_70 : decode cX11_laysRows 70 = .ok (.iadd, 1) := by decide +kernel
theorem dX11_laysRows_71 : decode cX11_laysRows 71 = .ok (.iaload, 1) := by decide +kernel
theorem dX11_laysRows_72 : decode cX11_laysRows 72 = .ok (.istore 9, 2) := by decide +kernel
theorem dX11_laysRows_74 : decode cX11_laysRows 74 = .ok (.iload 8, 2) := by decide +kernel
theorem dX11_laysRows_76 : decode cX11_laysRows 76 = .ok (.iload 4, 2) := by decide +kernel
theorem dX11_laysRows_78 : decode cX11_laysRows 78 = .ok (.if_icmp .eq 39, 3) := by decide +kernel
theorem dX11_laysRows_81 : decode cX11_laysRows 81 = .ok (.iload 8, 2) := by decide +kernel
theorem dX11_laysRows_83 : decode cX11_laysRows 83 = .ok (.iload_n 2, 1) := by decide +kernel
theorem dX11_laysRows_84 : decode cX11_laysRows 84 = .ok (.if_icmp .eq 33, 3) := by decide +kernel
theorem dX11_laysRows_87 : decode cX11_laysRows 87 = .ok (.iload 5, 2) := by decide +kernel
theorem dX11_laysRows_89 : decode cX11_laysRows 89 = .ok (.iload 9, 2) := by decide +kernel
theorem dX11_laysRows_91 : decode cX11_laysRows 91 = .ok (.if_icmp .lt 26, 3) := by decide +kernel
theorem dX11_laysRows_94 : decode cX11_laysRows 94 = .ok (.lload 6, 2) := by decide +kernel
theorem dX11_laysRows_96 : decode cX11_laysRows 96 = .ok (.aload_n 0, 1) := by decide +kernel
theorem dX11_laysRows_97 : decode cX11_laysRows 97 = .ok (.getfield 86, 3) := by decide +kernel
theorem dX11_laysRows_100 : decode cX11_laysRows 100 = .ok (.iload_n 3, 1) := by decide +kernel
theorem dX11_laysRows_101 : decode cX11_laysRows 101 = .ok (.iconst 1, 1) := by decide +kernel
theorem dX11_laysRows_102 : decode cX11_laysRows 102 = .ok (.isub, 1) := by decide +kernel
theorem dX11_laysRows_103 : decode cX11_laysRows 103 = .ok (.iload 8, 2) := by decide +kernel
theorem dX11_laysRows_105 : decode cX11_laysRows 105 = .ok (.iload 5, 2) := by decide +kernel
theorem dX11_laysRows_107 : decode cX11_laysRows 107 = .ok (.iload 9, 2) := by decide +kernel
theorem dX11_laysRows_109 : decode cX11_laysRows 109 = .ok (.isub, 1) := by decide +kernel
theorem dX11_laysRows_110 : decode cX11_laysRows 110 = .ok (.invokestatic 331, 3) := by decide +kernel
theorem dX11_laysRows_113 : decode cX11_laysRows 113 = .ok (.laload, 1) := by decide +kernel
theorem dX11_laysRows_114 : decode cX11_laysRows 114 = .ok (.ladd, 1) := by decide +kernel
theorem dX11_laysRows_115 : decode cX11_laysRows 115 = .ok (.lstore 6, 2) := by decide +kernel
theorem dX11_laysRows_117 : decode cX11_laysRows 117 = .ok (.iinc 8 1, 3) := by decide +kernel
theorem dX11_laysRows_120 : decode cX11_laysRows 120 = .ok (.goto (-73), 3) := by decide +kernel
theorem dX11_laysRows_123 : decode cX11_laysRows 123 = .ok (.aload_n 0, 1) := by decide +kernel
theorem dX11_laysRows_124 : decode cX11_laysRows 124 = .ok (.getfield 86, 3) := by decide +kernel
theorem dX11_laysRows_127 : decode cX11_laysRows 127 = .ok (.iload_n 3, 1) := by decide +kernel
theorem dX11_laysRows_128 : decode cX11_laysRows 128 = .ok (.iload 4, 2) := by decide +kernel
theorem dX11_laysRows_130 : decode cX11_laysRows 130 = .ok (.iload 5, 2) := by decide +kernel
theorem dX11_laysRows_132 : decode cX11_laysRows 132 = .ok (.invokestatic 331, 3) := by decide +kernel
theorem dX11_laysRows_135 : decode cX11_laysRows 135 = .ok (.lload 6, 2) := by decide +kernel
theorem dX11_laysRows_137 : decode cX11_laysRows 137 = .ok (.lastore, 1) := by decide +kernel
theorem dX11_laysRows_138 : decode cX11_laysRows 138 = .ok (.iinc 5 1, 3) := by decide +kernel
theorem dX11_laysRows_141 : decode cX11_laysRows 141 = .ok (.goto (-121), 3) := by decide +kernel
theorem dX11_laysRows_144 : decode cX11_laysRows 144 = .ok (.iinc 4 1, 3) := by decide +kernel
theorem dX11_laysRows_147 : decode cX11_laysRows 147 = .ok (.goto (-137), 3) := by decide +kernel
theorem dX11_laysRows_150 : decode cX11_laysRows 150 = .ok (.iinc 3 1, 3) := by decide +kernel
theorem dX11_laysRows_153 : decode cX11_laysRows 153 = .ok (.goto (-151), 3) := by decide +kernel
theorem dX11_laysRows_156 : decode cX11_laysRows 156 = .ok (.return_, 1) := by decide +kernel
theorem dX11_rowsOf_0 : decode cX11_rowsOf 0 = .ok (.lconst 0, 1) := by decide +kernel
theorem dX11_rowsOf_1 : decode cX11_rowsOf 1 = .ok (.lstore 4, 2) := by decide +kernel
theorem dX11_rowsOf_3 : decode cX11_rowsOf 3 = .ok (.iload_n 3, 1) := by decide +kernel
theorem dX11_rowsOf_4 : decode cX11_rowsOf 4 = .ok (.aload_n 0, 1) := by decide +kernel
theorem dX11_rowsOf_5 : decode cX11_rowsOf 5 = .ok (.getfield 7, 3) := by decide +kernel
theorem dX11_rowsOf_8 : decode cX11_rowsOf 8 = .ok (.iconst 4, 1) := by decide +kernel
theorem dX11_rowsOf_9 : decode cX11_rowsOf 9 = .ok (.iaload, 1) := by decide +kernel
theorem dX11_rowsOf_10 : decode cX11_rowsOf 10 = .ok (.isub, 1) := by decide +kernel
theorem dX11_rowsOf_11 : decode cX11_rowsOf 11 = .ok (.istore 6, 2) := by decide +kernel
theorem dX11_rowsOf_13 : decode cX11_rowsOf 13 = .ok (.iload 6, 2) := by decide +kernel
theorem dX11_rowsOf_15 : decode cX11_rowsOf 15 = .ok (.iload_n 3, 1) := by decide +kernel
theorem dX11_rowsOf_16 : decode cX11_rowsOf 16 = .ok (.aload_n 0, 1) := by decide +kernel
theorem dX11_rowsOf_17 : decode cX11_rowsOf 17 = .ok (.getfield 7, 3) := by decide +kernel
theorem dX11_rowsOf_20 : decode cX11_rowsOf 20 = .ok (.iconst 4, 1) := by decide +kernel
theorem dX11_rowsOf_21 : decode cX11_rowsOf 21 = .ok (.iaload, 1) := by decide +kernel
theorem dX11_rowsOf_22 : decode cX11_rowsOf 22 = .ok (.iadd, 1) := by decide +kernel
theorem dX11_rowsOf_23 : decode cX11_rowsOf 23 = .ok (.if_icmp .gt 42, 3) := by decide +kernel
theorem dX11_rowsOf_26 : decode cX11_rowsOf 26 = .ok (.lload 4, 2) := by decide +kernel
theorem dX11_rowsOf_28 : decode cX11_rowsOf 28 = .ok (.iload 6, 2) := by decide +kernel
theorem dX11_rowsOf_30 : decode cX11_rowsOf 30 = .ok (.iconst 0, 1) := by decide +kernel
theorem dX11_rowsOf_31 : decode cX11_rowsOf 31 = .ok (.sipush 360, 3) := by decide +kernel
theorem dX11_rowsOf_34 : decode cX11_rowsOf 34 = .ok (.invokestatic 115, 3) := by decide +kernel
theorem dX11_rowsOf_37 : decode cX11_rowsOf 37 = .ok (.ifCond .eq 18, 3) := by decide +kernel
theorem dX11_rowsOf_40 : decode cX11_rowsOf 40 = .ok (.aload_n 0, 1) := by decide +kernel
theorem dX11_rowsOf_41 : decode cX11_rowsOf 41 = .ok (.getfield 86, 3) := by decide +kernel
theorem dX11_rowsOf_44 : decode cX11_rowsOf 44 = .ok (.iload_n 1, 1) := by decide +kernel
theorem dX11_rowsOf_45 : decode cX11_rowsOf 45 = .ok (.iload_n 2, 1) := by decide +kernel
theorem dX11_rowsOf_46 : decode cX11_rowsOf 46 = .ok (.iload 6, 2) := by decide +kernel
theorem dX11_rowsOf_48 : decode cX11_rowsOf 48 = .ok (.invokestatic 331, 3) := by decide +kernel
theorem dX11_rowsOf_51 : decode cX11_rowsOf 51 = .ok (.laload, 1) := by decide +kernel
theorem dX11_rowsOf_52 : decode cX11_rowsOf 52 = .ok (.goto 4, 3) := by decide +kernel
theorem dX11_rowsOf_55 : decode cX11_rowsOf 55 = .ok (.lconst 0, 1) := by decide +kernel
theorem dX11_rowsOf_56 : decode cX11_rowsOf 56 = .ok (.ladd, 1) := by decide +kernel
theorem dX11_rowsOf_57 : decode cX11_rowsOf 57 = .ok (.lstore 4, 2) := by decide +kernel
theorem dX11_rowsOf_59 : decode cX11_rowsOf 59 = .ok (.iinc 6 1, 3) := by decide +kernel
theorem dX11_rowsOf_62 : decode cX11_rowsOf 62 = .ok (.goto (-49), 3) := by decide +kernel
theorem dX11_rowsOf_65 : decode cX11_rowsOf 65 = .ok (.lload 4, 2) := by decide +kernel
theorem dX11_rowsOf_67 : decode cX11_rowsOf 67 = .ok (.lreturn, 1) := by decide +kernel
theorem dX11_rowsAll_0 : decode cX11_rowsAll 0 = .ok (.lconst 0, 1) := by decide +kernel
theorem dX11_rowsAll_1 : decode cX11_rowsAll 1 = .ok (.lstore 5, 2) := by decide +kernel
theorem dX11_rowsAll_3 : decode cX11_rowsAll 3 = .ok (.iload_n 3, 1) := by decide +kernel
theorem dX11_rowsAll_4 : decode cX11_rowsAll 4 = .ok (.istore 7, 2) := by decide +kernel
theorem dX11_rowsAll_6 : decode cX11_rowsAll 6 = .ok (.iload 7, 2) := by decide +kernel
theorem dX11_rowsAll_8 : decode cX11_rowsAll 8 = .ok (.iload 4, 2) := by decide +kernel
theorem dX11_rowsAll_10 : decode cX11_rowsAll 10 = .ok (.if_icmp .gt 22, 3) := by decide +kernel
theorem dX11_rowsAll_13 : decode cX11_rowsAll 13 = .ok (.lload 5, 2) := by decide +kernel
theorem dX11_rowsAll_15 : decode cX11_rowsAll 15 = .ok (.aload_n 0, 1) := by decide +kernel
theorem dX11_rowsAll_16 : decode cX11_rowsAll 16 = .ok (.iload 7, 2) := by decide +kernel
theorem dX11_rowsAll_18 : decode cX11_rowsAll 18 = .ok (.iload_n 1, 1) := by decide +kernel
theorem dX11_rowsAll_19 : decode cX11_rowsAll 19 = .ok (.iload_n 2, 1) := by decide +kernel
theorem dX11_rowsAll_20 : decode cX11_rowsAll 20 = .ok (.invokevirtual 335, 3) := by decide +kernel
theorem dX11_rowsAll_23 : decode cX11_rowsAll 23 = .ok (.ladd, 1) := by decide +kernel
theorem dX11_rowsAll_24 : decode cX11_rowsAll 24 = .ok (.lstore 5, 2) := by decide +kernel
theorem dX11_rowsAll_26 : decode cX11_rowsAll 26 = .ok (.iinc 7 1, 3) := by decide +kernel
theorem dX11_rowsAll_29 : decode cX11_rowsAll 29 = .ok (.goto (-23), 3) := by decide +kernel
theorem dX11_rowsAll_32 : decode cX11_rowsAll 32 = .ok (.lload 5, 2) := by decide +kernel
theorem dX11_rowsAll_34 : decode cX11_rowsAll 34 = .ok (.lreturn, 1) := by decide +kernel
theorem dX11_areRows_0 : decode cX11_areRows 0 = .ok (.aload_n 0, 1) := by decide +kernel
theorem dX11_areRows_1 : decode cX11_areRows 1 = .ok (.iload_n 1, 1) := by decide +kernel
theorem dX11_areRows_2 : decode cX11_areRows 2 = .ok (.invokevirtual 119, 3) := by decide +kernel
theorem dX11_areRows_5 : decode cX11_areRows 5 = .ok (.ifCond .eq 39, 3) := by decide +kernel
theorem dX11_areRows_8 : decode cX11_areRows 8 = .ok (.iload_n 2, 1) := by decide +kernel
theorem dX11_areRows_9 : decode cX11_areRows 9 = .ok (.iconst 0, 1) := by decide +kernel
theorem dX11_areRows_10 : decode cX11_areRows 10 = .ok (.sipush 999, 3) := by decide +kernel
theorem dX11_areRows_13 : decode cX11_areRows 13 = .ok (.invokestatic 115, 3) := by decide +kernel
theorem dX11_areRows_16 : decode cX11_areRows 16 = .ok (.ifCond .eq 28, 3) := by decide +kernel
theorem dX11_areRows_19 : decode cX11_areRows 19 = .ok (.iload_n 3, 1) := by decide +kernel
theorem dX11_areRows_20 : decode cX11_areRows 20 = .ok (.iconst 0, 1) := by decide +kernel
theorem dX11_areRows_21 : decode cX11_areRows 21 = .ok (.bipush 12, 2) := by decide +kernel
theorem dX11_areRows_23 : decode cX11_areRows 23 = .ok (.invokestatic 115, 3) := by decide +kernel
theorem dX11_areRows_26 : decode cX11_areRows 26 = .ok (.ifCond .eq 18, 3) := by decide +kernel
theorem dX11_areRows_29 : decode cX11_areRows 29 = .ok (.iload 4, 2) := by decide +kernel
theorem dX11_areRows_31 : decode cX11_areRows 31 = .ok (.iload_n 3, 1) := by decide +kernel
theorem dX11_areRows_32 : decode cX11_areRows 32 = .ok (.bipush 12, 2) := by decide +kernel
theorem dX11_areRows_34 : decode cX11_areRows 34 = .ok (.invokestatic 115, 3) := by decide +kernel
theorem dX11_areRows_37 : decode cX11_areRows 37 = .ok (.ifCond .eq 7, 3) := by decide +kernel
theorem dX11_areRows_40 : decode cX11_areRows 40 = .ok (.iconst 1, 1) := by decide +kernel
theorem dX11_areRows_41 : decode cX11_areRows 41 = .ok (.goto 4, 3) := by decide +kernel
theorem dX11_areRows_44 : decode cX11_areRows 44 = .ok (.iconst 0, 1) := by decide +kernel
theorem dX11_areRows_45 : decode cX11_areRows 45 = .ok (.ireturn, 1) := by decide +kernel
theorem dX11_rows_0 : decode cX11_rows 0 = .ok (.aload_n 0, 1) := by decide +kernel
theorem dX11_rows_1 : decode cX11_rows 1 = .ok (.iload_n 1, 1) := by decide +kernel
theorem dX11_rows_2 : decode cX11_rows 2 = .ok (.iload_n 2, 1) := by decide +kernel
theorem dX11_rows_3 : decode cX11_rows 3 = .ok (.iload_n 3, 1) := by decide +kernel
theorem dX11_rows_4 : decode cX11_rows 4 = .ok (.iload 4, 2) := by decide +kernel
theorem dX11_rows_6 : decode cX11_rows 6 = .ok (.invokevirtual 339, 3) := by decide +kernel
theorem dX11_rows_9 : decode cX11_rows 9 = .ok (.ifCond .ne 7, 3) := by decide +kernel
theorem dX11_rows_12 : decode cX11_rows 12 = .ok (.ldc2_w 343, 3) := by decide +kernel
theorem dX11_rows_15 : decode cX11_rows 15 = .ok (.lreturn, 1) := by decide +kernel
theorem dX11_rows_16 : decode cX11_rows 16 = .ok (.aload_n 0, 1) := by decide +kernel
theorem dX11_rows_17 : decode cX11_rows 17 = .ok (.iload 4, 2) := by decide +kernel
theorem dX11_rows_19 : decode cX11_rows 19 = .ok (.iconst (-1), 1) := by decide +kernel
theorem dX11_rows_20 : decode cX11_rows 20 = .ok (.invokevirtual 345, 3) := by decide +kernel
theorem dX11_rows_23 : decode cX11_rows 23 = .ok (.aload_n 0, 1) := by decide +kernel
theorem dX11_rows_24 : decode cX11_rows 24 = .ok (.iload_n 1, 1) := by decide +kernel
theorem dX11_rows_25 : decode cX11_rows 25 = .ok (.iload_n 2, 1) := by decide +kernel
theorem dX11_rows_26 : decode cX11_rows 26 = .ok (.iload_n 3, 1) := by decide +kernel
theorem dX11_rows_27 : decode cX11_rows 27 = .ok (.iload 4, 2) := by decide +kernel
theorem dX11_rows_29 : decode cX11_rows 29 = .ok (.invokevirtual 348, 3) := by decide +kernel
theorem dX11_rows_32 : decode cX11_rows 32 = .ok (.lreturn, 1) := by decide +kernel
theorem dX11_row_0 : decode cX11_row 0 = .ok (.aload_n 0, 1) := by decide +kernel
theorem dX11_row_1 : decode cX11_row 1 = .ok (.iload_n 1, 1) := by decide +kernel
theorem dX11_row_2 : decode cX11_row 2 = .ok (.iload_n 2, 1) := by decide +kernel
theorem dX11_row_3 : decode cX11_row 3 = .ok (.iload_n 3, 1) := by decide +kernel
theorem dX11_row_4 : decode cX11_row 4 = .ok (.iload 4, 2) := by decide +kernel
theorem dX11_row_6 : decode cX11_row 6 = .ok (.invokevirtual 339, 3) := by decide +kernel
theorem dX11_row_9 : decode cX11_row 9 = .ok (.ifCond .eq 9, 3) := by decide +kernel
theorem dX11_row_12 : decode cX11_row 12 = .ok (.iload 5, 2) := by decide +kernel
theorem dX11_row_14 : decode cX11_row 14 = .ok (.iconst (-1), 1) := by decide +kernel
theorem dX11_row_15 : decode cX11_row 15 = .ok (.if_icmp .ge 5, 3) := by decide +kernel
theorem dX11_row_18 : decode cX11_row 18 = .ok (.iconst (-1), 1) := by decide +kernel
theorem dX11_row_19 : decode cX11_row 19 = .ok (.ireturn, 1) := by decide +kernel
theorem dX11_row_20 : decode cX11_row 20 = .ok (.aload_n 0, 1) := by decide +kernel
theorem dX11_row_21 : decode cX11_row 21 = .ok (.iload 4, 2) := by decide +kernel
theorem dX11_row_23 : decode cX11_row 23 = .ok (.iconst (-1), 1) := by decide +kernel
theorem dX11_row_24 : decode cX11_row 24 = .ok (.invokevirtual 345, 3) := by decide +kernel
theorem dX11_row_27 : decode cX11_row 27 = .ok (.iload_n 3, 1) := by decide +kernel
theorem dX11_row_28 : decode cX11_row 28 = .ok (.istore 6, 2) := by decide +kernel
theorem dX11_row_30 : decode cX11_row 30 = .ok (.iload 6, 2) := by decide +kernel
theorem dX11_row_32 : decode cX11_row 32 = .ok (.iload 4, 2) := by decide +kernel
theorem dX11_row_34 : decode cX11_row 34 = .ok (.if_icmp .gt 22, 3) := by decide +kernel
theorem dX11_row_37 : decode cX11_row 37 = .ok (.aload_n 0, 1) := by decide +kernel
theorem dX11_row_38 : decode cX11_row 38 = .ok (.iload 6, 2) := by decide +kernel
theorem dX11_row_40 : decode cX11_row 40 = .ok (.iload_n 1, 1) := by decide +kernel
theorem dX11_row_41 : decode cX11_row 41 = .ok (.iload_n 2, 1) := by decide +kernel
theorem dX11_row_42 : decode cX11_row 42 = .ok (.invokevirtual 335, 3) := by decide +kernel
theorem dX11_row_45 : decode cX11_row 45 = .ok (.lconst 0, 1) := by decide +kernel
theorem dX11_row_46 : decode cX11_row 46 = .ok (.lcmp, 1) := by decide +kernel
theorem dX11_row_47 : decode cX11_row 47 = .ok (.ifCond .ne 9, 3) := by decide +kernel
theorem dX11_row_50 : decode cX11_row 50 = .ok (.iinc 6 1, 3) := by decide +kernel
theorem dX11_row_53 : decode cX11_row 53 = .ok (.goto (-23), 3) := by decide +kernel
theorem dX11_row_56 : decode cX11_row 56 = .ok (.iload 6, 2) := by decide +kernel
theorem dX11_row_58 : decode cX11_row 58 = .ok (.iload 4, 2) := by decide +kernel
theorem dX11_row_60 : decode cX11_row 60 = .ok (.if_icmp .gt 10, 3) := by decide +kernel
theorem dX11_row_63 : decode cX11_row 63 = .ok (.iload 5, 2) := by decide +kernel
theorem dX11_row_65 : decode cX11_row 65 = .ok (.iload 6, 2) := by decide +kernel
theorem dX11_row_67 : decode cX11_row 67 = .ok (.if_icmp .lt 5, 3) := by decide +kernel
theorem dX11_row_70 : decode cX11_row 70 = .ok (.iconst (-1), 1) := by decide +kernel
theorem dX11_row_71 : decode cX11_row 71 = .ok (.ireturn, 1) := by decide +kernel
theorem dX11_row_72 : decode cX11_row 72 = .ok (.iload_n 1, 1) := by decide +kernel
theorem dX11_row_73 : decode cX11_row 73 = .ok (.istore 7, 2) := by decide +kernel
theorem dX11_row_75 : decode cX11_row 75 = .ok (.iload_n 2, 1) := by decide +kernel
theorem dX11_row_76 : decode cX11_row 76 = .ok (.istore 8, 2) := by decide +kernel
theorem dX11_row_78 : decode cX11_row 78 = .ok (.iload 6, 2) := by decide +kernel
theorem dX11_row_80 : decode cX11_row 80 = .ok (.istore 9, 2) := by decide +kernel
theorem dX11_row_82 : decode cX11_row 82 = .ok (.iconst 0, 1) := by decide +kernel
theorem dX11_row_83 : decode cX11_row 83 = .ok (.istore 10, 2) := by decide +kernel
theorem dX11_row_85 : decode cX11_row 85 = .ok (.iload 10, 2) := by decide +kernel
theorem dX11_row_87 : decode cX11_row 87 = .ok (.iload 5, 2) := by decide +kernel
theorem dX11_row_89 : decode cX11_row 89 = .ok (.if_icmp .gt 79, 3) := by decide +kernel
theorem dX11_row_92 : decode cX11_row 92 = .ok (.iconst 0, 1) := by decide +kernel
theorem dX11_row_93 : decode cX11_row 93 = .ok (.istore 11, 2) := by decide +kernel
theorem dX11_row_95 : decode cX11_row 95 = .ok (.iload 11, 2) := by decide +kernel
theorem dX11_row_97 : decode cX11_row 97 = .ok (.iload 7, 2) := by decide +kernel
theorem dX11_row_99 : decode cX11_row 99 = .ok (.if_icmp .eq 34, 3) := by decide +kernel
theorem dX11_row_102 : decode cX11_row 102 = .ok (.aload_n 0, 1) := by decide +kernel
theorem dX11_row_103 : decode cX11_row 103 = .ok (.iload 6, 2) := by decide +kernel
theorem dX11_row_105 : decode cX11_row 105 = .ok (.iconst 1, 1) := by decide +kernel
theorem dX11_row_106 : decode cX11_row 106 = .ok (.isub, 1) := by decide +kernel
theorem dX11_row_107 : decode cX11_row 107 = .ok (.iload 10, 2) := by decide +kernel
theorem dX11_row_109 : decode cX11_row 109 = .ok (.isub, 1) := by decide +kernel
theorem dX11_row_110 : decode cX11_row 110 = .ok (.iload 11, 2) := by decide +kernel
theorem dX11_row_112 : decode cX11_row 112 = .ok (.iload 8, 2) := by decide +kernel
theorem dX11_row_114 : decode cX11_row 114 = .ok (.aload_n 0, 1) := by decide +kernel
theorem dX11_row_115 : decode cX11_row 115 = .ok (.getfield 7, 3) := by decide +kernel
theorem dX11_row_118 : decode cX11_row 118 = .ok (.bipush 10, 2) := by decide +kernel
theorem dX11_row_120 : decode cX11_row 120 = .ok (.iload 11, 2) := by decide +kernel
theorem dX11_row_122 : decode cX11_row 122 = .ok (.iadd, 1) := by decide +kernel
theorem dX11_row_123 : decode cX11_row 123 = .ok (.iaload, 1) := by decide +kernel
theorem dX11_row_124 : decode cX11_row 124 = .ok (.isub, 1) := by decide +kernel
theorem dX11_row_125 : decode cX11_row 125 = .ok (.invokevirtual 335, 3) := by decide +kernel
theorem dX11_row_128 : decode cX11_row 128 = .ok (.lconst 0, 1) := by decide +kernel
theorem dX11_row_129 : decode cX11_row 129 = .ok (.lcmp, 1) := by decide +kernel
theorem dX11_row_130 : decode cX11_row 130 = .ok (.ifCond .ne 9, 3) := by decide +kernel
theorem dX11_row_133 : decode cX11_row 133 = .ok (.iinc 11 1, 3) := by decide +kernel
theorem dX11_row_136 : decode cX11_row 136 = .ok (.goto (-41), 3) := by decide +kernel
theorem dX11_row_139 : decode cX11_row 139 = .ok (.iload 8, 2) := by decide +kernel
theorem dX11_row_141 : decode cX11_row 141 = .ok (.aload_n 0, 1) := by decide +kernel
theorem dX11_row_142 : decode cX11_row 142 = .ok (.getfield 7, 3) := by decide +kernel
theorem dX11_row_145 : decode cX11_row 145 = .ok (.bipush 10, 2) := by decide +kernel
theorem dX11_row_147 : decode cX11_row 147 = .ok (.iload 11, 2) := by decide +kernel
theorem dX11_row_149 : decode cX11_row 149 = .ok (.iadd, 1) := by decide +kernel
theorem dX11_row_150 : decode cX11_row 150 = .ok (.iaload, 1) := by decide +kernel
theorem dX11_row_151 : decode cX11_row 151 = .ok (.isub, 1) := by decide +kernel
theorem dX11_row_152 : decode cX11_row 152 = .ok (.istore 8, 2) := by decide +kernel
theorem dX11_row_154 : decode cX11_row 154 = .ok (.iload 11, 2) := by decide +kernel
theorem dX11_row_156 : decode cX11_row 156 = .ok (.istore 7, 2) := by decide +kernel
theorem dX11_row_158 : decode cX11_row 158 = .ok (.iload 11, 2) := by decide +kernel
theorem dX11_row_160 : decode cX11_row 160 = .ok (.istore 9, 2) := by decide +kernel
theorem dX11_row_162 : decode cX11_row 162 = .ok (.iinc 10 1, 3) := by decide +kernel
theorem dX11_row_165 : decode cX11_row 165 = .ok (.goto (-80), 3) := by decide +kernel
theorem dX11_row_168 : decode cX11_row 168 = .ok (.iload 9, 2) := by decide +kernel
theorem dX11_row_170 : decode cX11_row 170 = .ok (.ireturn, 1) := by decide +kernel
theorem dX11_among_0 : decode cX11_among 0 = .ok (.aload_n 0, 1) := by decide +kernel
theorem dX11_among_1 : decode cX11_among 1 = .ok (.iload_n 1, 1) := by decide +kernel
theorem dX11_among_2 : decode cX11_among 2 = .ok (.iload_n 2, 1) := by decide +kernel
theorem dX11_among_3 : decode cX11_among 3 = .ok (.iload_n 3, 1) := by decide +kernel
theorem dX11_among_4 : decode cX11_among 4 = .ok (.iload 4, 2) := by decide +kernel
theorem dX11_among_6 : decode cX11_among 6 = .ok (.invokevirtual 339, 3) := by decide +kernel
theorem dX11_among_9 : decode cX11_among 9 = .ok (.ifCond .ne 5, 3) := by decide +kernel
theorem dX11_among_12 : decode cX11_among 12 = .ok (.iconst (-1), 1) := by decide +kernel
theorem dX11_among_13 : decode cX11_among 13 = .ok (.ireturn, 1) := by decide +kernel
theorem dX11_among_14 : decode cX11_among 14 = .ok (.aload_n 0, 1) := by decide +kernel
theorem dX11_among_15 : decode cX11_among 15 = .ok (.iload 4, 2) := by decide +kernel
theorem dX11_among_17 : decode cX11_among 17 = .ok (.iconst (-1), 1) := by decide +kernel
theorem dX11_among_18 : decode cX11_among 18 = .ok (.invokevirtual 345, 3) := by decide +kernel
theorem dX11_among_21 : decode cX11_among 21 = .ok (.aload_n 0, 1) := by decide +kernel
theorem dX11_among_22 : decode cX11_among 22 = .ok (.iload_n 1, 1) := by decide +kernel
theorem dX11_among_23 : decode cX11_among 23 = .ok (.iload_n 2, 1) := by decide +kernel
theorem dX11_among_24 : decode cX11_among 24 = .ok (.iload_n 3, 1) := by decide +kernel
theorem dX11_among_25 : decode cX11_among 25 = .ok (.iload 4, 2) := by decide +kernel
theorem dX11_among_27 : decode cX11_among 27 = .ok (.invokevirtual 348, 3) := by decide +kernel
theorem dX11_among_30 : decode cX11_among 30 = .ok (.lstore 6, 2) := by decide +kernel
theorem dX11_among_32 : decode cX11_among 32 = .ok (.iconst 0, 1) := by decide +kernel
theorem dX11_among_33 : decode cX11_among 33 = .ok (.istore 8, 2) := by decide +kernel
theorem dX11_among_35 : decode cX11_among 35 = .ok (.iconst 0, 1) := by decide +kernel
theorem dX11_among_36 : decode cX11_among 36 = .ok (.istore 9, 2) := by decide +kernel
theorem dX11_among_38 : decode cX11_among 38 = .ok (.iload 9, 2) := by decide +kernel
theorem dX11_among_40 : decode cX11_among 40 = .ok (.aload_n 0, 1) := by decide +kernel
theorem dX11_among_41 : decode cX11_among 41 = .ok (.getfield 7, 3) := by decide +kernel
theorem dX11_among_44 : decode cX11_among 44 = .ok (.iconst 0, 1) := by decide +kernel
theorem dX11_among_45 : decode cX11_among 45 = .ok (.iaload, 1) := by decide +kernel
theorem dX11_among_46 : decode cX11_among 46 = .ok (.if_icmp .ge 89, 3) := by decide +kernel
theorem dX11_among_49 : decode cX11_among 49 = .ok (.aload_n 0, 1) := by decide +kernel
theorem dX11_among_50 : decode cX11_among 50 = .ok (.iload 4, 2) := by decide +kernel
theorem dX11_among_52 : decode cX11_among 52 = .ok (.iload 9, 2) := by decide +kernel
theorem dX11_among_54 : decode cX11_among 54 = .ok (.invokevirtual 345, 3) := by decide +kernel
theorem dX11_among_57 : decode cX11_among 57 = .ok (.aload_n 0, 1) := by decide +kernel
theorem dX11_among_58 : decode cX11_among 58 = .ok (.iload_n 1, 1) := by decide +kernel
theorem dX11_among_59 : decode cX11_among 59 = .ok (.iload_n 2, 1) := by decide +kernel
theorem dX11_among_60 : decode cX11_among 60 = .ok (.iload_n 3, 1) := by decide +kernel
theorem dX11_among_61 : decode cX11_among 61 = .ok (.iload 4, 2) := by decide +kernel
theorem dX11_among_63 : decode cX11_among 63 = .ok (.invokevirtual 348, 3) := by decide +kernel
theorem dX11_among_66 : decode cX11_among 66 = .ok (.lstore 10, 2) := by decide +kernel
theorem dX11_among_68 : decode cX11_among 68 = .ok (.iload 5, 2) := by decide +kernel
theorem dX11_among_70 : decode cX11_among 70 = .ok (.ifCond .eq 19, 3) := by decide +kernel
theorem dX11_among_73 : decode cX11_among 73 = .ok (.lload 10, 2) := by decide +kernel
theorem dX11_among_75 : decode cX11_among 75 = .ok (.lload 6, 2) := by decide +kernel
theorem dX11_among_77 : decode cX11_among 77 = .ok (.lcmp, 1) := by decide +kernel
theorem dX11_among_78 : decode cX11_among 78 = .ok (.ifCond .ge 7, 3) := by decide +kernel
theorem dX11_among_81 : decode cX11_among 81 = .ok (.iconst 1, 1) := by decide +kernel
theorem dX11_among_82 : decode cX11_among 82 = .ok (.goto 26, 3) := by decide +kernel
theorem dX11_among_85 : decode cX11_among 85 = .ok (.iconst 0, 1) := by decide +kernel
theorem dX11_among_86 : decode cX11_among 86 = .ok (.goto 22, 3) := by decide +kernel
theorem dX11_among_89 : decode cX11_among 89 = .ok (.lload 10, 2) := by decide +kernel
theorem dX11_among_91 : decode cX11_among 91 = .ok (.lconst 0, 1) := by decide +kernel
theorem dX11_among_92 : decode cX11_among 92 = .ok (.lcmp, 1) := by decide +kernel
theorem dX11_among_93 : decode cX11_among 93 = .ok (.ifCond .ne 14, 3) := by decide +kernel
theorem dX11_among_96 : decode cX11_among 96 = .ok (.lload 6, 2) := by decide +kernel
theorem dX11_among_98 : decode cX11_among 98 = .ok (.lconst 0, 1) := by decide +kernel
theorem dX11_among_99 : decode cX11_among 99 = .ok (.lcmp, 1) := by decide +kernel
theorem dX11_among_100 : decode cX11_among 100 = .ok (.ifCond .le 7, 3) := by decide +kernel
theorem dX11_among_103 : decode cX11_among 103 = .ok (.iconst 1, 1) := by decide +kernel
theorem dX11_among_104 : decode cX11_among 104 = .ok (.goto 4, 3) := by decide +kernel
theorem dX11_among_107 : decode cX11_among 107 = .ok (.iconst 0, 1) := by decide +kernel
theorem dX11_among_108 : decode cX11_among 108 = .ok (.istore 12, 2) := by decide +kernel
theorem dX11_among_110 : decode cX11_among 110 = .ok (.iload 12, 2) := by decide +kernel
theorem dX11_among_112 : decode cX11_among 112 = .ok (.ifCond .eq 13, 3) := by decide +kernel
theorem dX11_among_115 : decode cX11_among 115 = .ok (.iload 8, 2) := by decide +kernel
theorem dX11_among_117 : decode cX11_among 117 = .ok (.iconst 1, 1) := by decide +kernel
theorem dX11_among_118 : decode cX11_among 118 = .ok (.iload 9, 2) := by decide +kernel
theorem dX11_among_120 : decode cX11_among 120 = .ok (.ishl, 1) := by decide +kernel
theorem dX11_among_121 : decode cX11_among 121 = .ok (.ior, 1) := by decide +kernel
theorem dX11_among_122 : decode cX11_among 122 = .ok (.goto 5, 3) := by decide +kernel
theorem dX11_among_125 : decode cX11_among 125 = .ok (.iload 8, 2) := by decide +kernel
theorem dX11_among_127 : decode cX11_among 127 = .ok (.istore 8, 2) := by decide +kernel
theorem dX11_among_129 : decode cX11_among 129 = .ok (.iinc 9 1, 3) := by decide +kernel
theorem dX11_among_132 : decode cX11_among 132 = .ok (.goto (-94), 3) := by decide +kernel
theorem dX11_among_135 : decode cX11_among 135 = .ok (.iload 8, 2) := by decide +kernel
theorem dX11_among_137 : decode cX11_among 137 = .ok (.ireturn, 1) := by decide +kernel
theorem dX11_mustWash_0 : decode cX11_mustWash 0 = .ok (.aload_n 0, 1) := by decide +kernel
theorem dX11_mustWash_1 : decode cX11_mustWash 1 = .ok (.iload_n 1, 1) := by decide +kernel
theorem dX11_mustWash_2 : decode cX11_mustWash 2 = .ok (.iconst 3, 1) := by decide +kernel
theorem dX11_mustWash_3 : decode cX11_mustWash 3 = .ok (.invokevirtual 300, 3) := by decide +kernel
theorem dX11_mustWash_6 : decode cX11_mustWash 6 = .ok (.istore_n 2, 1) := by decide +kernel
theorem dX11_mustWash_7 : decode cX11_mustWash 7 = .ok (.iload_n 2, 1) := by decide +kernel
theorem dX11_mustWash_8 : decode cX11_mustWash 8 = .ok (.bipush 12, 2) := by decide +kernel
theorem dX11_mustWash_10 : decode cX11_mustWash 10 = .ok (.if_icmp .le 5, 3) := by decide +kernel
theorem dX11_mustWash_13 : decode cX11_mustWash 13 = .ok (.iconst (-1), 1) := by decide +kernel
theorem dX11_mustWash_14 : decode cX11_mustWash 14 = .ok (.ireturn, 1) := by decide +kernel
theorem dX11_mustWash_15 : decode cX11_mustWash 15 = .ok (.aload_n 0, 1) := by decide +kernel
theorem dX11_mustWash_16 : decode cX11_mustWash 16 = .ok (.iload_n 2, 1) := by decide +kernel
theorem dX11_mustWash_17 : decode cX11_mustWash 17 = .ok (.iconst (-1), 1) := by decide +kernel
theorem dX11_mustWash_18 : decode cX11_mustWash 18 = .ok (.invokevirtual 345, 3) := by decide +kernel
theorem dX11_mustWash_21 : decode cX11_mustWash 21 = .ok (.lconst 0, 1) := by decide +kernel
theorem dX11_mustWash_22 : decode cX11_mustWash 22 = .ok (.lstore_n 3, 1) := by decide +kernel
theorem dX11_mustWash_23 : decode cX11_mustWash 23 = .ok (.iconst 0, 1) := by decide +kernel
theorem dX11_mustWash_24 : decode cX11_mustWash 24 = .ok (.istore 5, 2) := by decide +kernel
theorem dX11_mustWash_26 : decode cX11_mustWash 26 = .ok (.iload 5, 2) := by decide +kernel
theorem dX11_mustWash_28 : decode cX11_mustWash 28 = .ok (.aload_n 0, 1) := by decide +kernel
theorem dX11_mustWash_29 : decode cX11_mustWash 29 = .ok (.getfield 7, 3) := by decide +kernel
theorem dX11_mustWash_32 : decode cX11_mustWash 32 = .ok (.iconst 0, 1) := by decide +kernel
theorem dX11_mustWash_33 : decode cX11_mustWash 33 = .ok (.iaload, 1) := by decide +kernel
theorem dX11_mustWash_34 : decode cX11_mustWash 34 = .ok (.if_icmp .ge 32, 3) := by decide +kernel
theorem dX11_mustWash_37 : decode cX11_mustWash 37 = .ok (.lload_n 3, 1) := by decide +kernel
theorem dX11_mustWash_38 : decode cX11_mustWash 38 = .ok (.aload_n 0, 1) := by decide +kernel
theorem dX11_mustWash_39 : decode cX11_mustWash 39 = .ok (.iload_n 2, 1) := by decide +kernel
theorem dX11_mustWash_40 : decode cX11_mustWash 40 = .ok (.iload 5, 2) := by decide +kernel
theorem dX11_mustWash_42 : decode cX11_mustWash 42 = .ok (.aload_n 0, 1) := by decide +kernel
theorem dX11_mustWash_43 : decode cX11_mustWash 43 = .ok (.iload_n 1, 1) := by decide +kernel
theorem dX11_mustWash_44 : decode cX11_mustWash 44 = .ok (.iconst 1, 1) := by decide +kernel
theorem dX11_mustWash_45 : decode cX11_mustWash 45 = .ok (.invokevirtual 300, 3) := by decide +kernel
theorem dX11_mustWash_48 : decode cX11_mustWash 48 = .ok (.aload_n 0, 1) := by decide +kernel
theorem dX11_mustWash_49 : decode cX11_mustWash 49 = .ok (.iload_n 1, 1) := by decide +kernel
theorem dX11_mustWash_50 : decode cX11_mustWash 50 = .ok (.iconst 0, 1) := by decide +kernel
theorem dX11_mustWash_51 : decode cX11_mustWash 51 = .ok (.invokevirtual 300, 3) := by decide +kernel
theorem dX11_mustWash_54 : decode cX11_mustWash 54 = .ok (.isub, 1) := by decide +kernel
theorem dX11_mustWash_55 : decode cX11_mustWash 55 = .ok (.invokevirtual 335, 3) := by decide +kernel
theorem dX11_mustWash_58 : decode cX11_mustWash 58 = .ok (.ladd, 1) := by decide +kernel
theorem dX11_mustWash_59 : decode cX11_mustWash 59 = .ok (.lstore_n 3, 1) := by decide +kernel
theorem dX11_mustWash_60 : decode cX11_mustWash 60 = .ok (.iinc 5 1, 3) := by decide +kernel
theorem dX11_mustWash_63 : decode cX11_mustWash 63 = .ok (.goto (-37), 3) := by decide +kernel
theorem dX11_mustWash_66 : decode cX11_mustWash 66 = .ok (.lload_n 3, 1) := by decide +kernel
theorem dX11_mustWash_67 : decode cX11_mustWash 67 = .ok (.lconst 0, 1) := by decide +kernel
theorem dX11_mustWash_68 : decode cX11_mustWash 68 = .ok (.lcmp, 1) := by decide +kernel
theorem dX11_mustWash_69 : decode cX11_mustWash 69 = .ok (.ifCond .le 7, 3) := by decide +kernel
theorem dX11_mustWash_72 : decode cX11_mustWash 72 = .ok (.iconst 0, 1) := by decide +kernel
theorem dX11_mustWash_73 : decode cX11_mustWash 73 = .ok (.goto 4, 3) := by decide +kernel
theorem dX11_mustWash_76 : decode cX11_mustWash 76 = .ok (.iconst 1, 1) := by decide +kernel
theorem dX11_mustWash_77 : decode cX11_mustWash 77 = .ok (.ireturn, 1) := by decide +kernel
theorem dX11_of_0 : decode cX11_of 0 = .ok (.aload_n 0, 1) := by decide +kernel
theorem dX11_of_1 : decode cX11_of 1 = .ok (.iload_n 1, 1) := by decide +kernel
theorem dX11_of_2 : decode cX11_of 2 = .ok (.invokevirtual 309, 3) := by decide +kernel
theorem dX11_of_5 : decode cX11_of 5 = .ok (.ifCond .eq 12, 3) := by decide +kernel
theorem dX11_of_8 : decode cX11_of 8 = .ok (.iload_n 2, 1) := by decide +kernel
theorem dX11_of_9 : decode cX11_of 9 = .ok (.iconst 0, 1) := by decide +kernel
theorem dX11_of_10 : decode cX11_of 10 = .ok (.iconst 5, 1) := by decide +kernel
theorem dX11_of_11 : decode cX11_of 11 = .ok (.invokestatic 115, 3) := by decide +kernel
theorem dX11_of_14 : decode cX11_of 14 = .ok (.ifCond .ne 5, 3) := by decide +kernel
theorem dX11_of_17 : decode cX11_of 17 = .ok (.iconst (-1), 1) := by decide +kernel
theorem dX11_of_18 : decode cX11_of 18 = .ok (.ireturn, 1) := by decide +kernel
theorem dX11_of_19 : decode cX11_of 19 = .ok (.iload_n 2, 1) := by decide +kernel
theorem dX11_of_20 : decode cX11_of 20 = .ok (.tableswitch 71 0 4 #[36, 43, 50, 57, 64], 36) := by decide +kernel
theorem dX11_of_56 : decode cX11_of 56 = .ok (.aload_n 0, 1) := by decide +kernel
theorem dX11_of_57 : decode cX11_of 57 = .ok (.iload_n 1, 1) := by decide +kernel
theorem dX11_of_58 : decode cX11_of 58 = .ok (.iconst 1, 1) := by decide +kernel
theorem dX11_of_59 : decode cX11_of 59 = .ok (.invokevirtual 300, 3) := by decide +kernel
theorem dX11_of_62 : decode cX11_of 62 = .ok (.ireturn, 1) := by decide +kernel
theorem dX11_of_63 : decode cX11_of 63 = .ok (.aload_n 0, 1) := by decide +kernel
theorem dX11_of_64 : decode cX11_of 64 = .ok (.iload_n 1, 1) := by decide +kernel
theorem dX11_of_65 : decode cX11_of 65 = .ok (.iconst 2, 1) := by decide +kernel
theorem dX11_of_66 : decode cX11_of 66 = .ok (.invokevirtual 300, 3) := by decide +kernel
theorem dX11_of_69 : decode cX11_of 69 = .ok (.ireturn, 1) := by decide +kernel
theorem dX11_of_70 : decode cX11_of 70 = .ok (.aload_n 0, 1) := by decide +kernel
theorem dX11_of_71 : decode cX11_of 71 = .ok (.iload_n 1, 1) := by decide +kernel
theorem dX11_of_72 : decode cX11_of 72 = .ok (.iconst 3, 1) := by decide +kernel
theorem dX11_of_73 : decode cX11_of 73 = .ok (.invokevirtual 300, 3) := by decide +kernel
theorem dX11_of_76 : decode cX11_of 76 = .ok (.ireturn, 1) := by decide +kernel
theorem dX11_of_77 : decode cX11_of 77 = .ok (.aload_n 0, 1) := by decide +kernel
theorem dX11_of_78 : decode cX11_of 78 = .ok (.iload_n 1, 1) := by decide +kernel
theorem dX11_of_79 : decode cX11_of 79 = .ok (.iconst 0, 1) := by decide +kernel
theorem dX11_of_80 : decode cX11_of 80 = .ok (.invokevirtual 300, 3) := by decide +kernel
theorem dX11_of_83 : decode cX11_of 83 = .ok (.ireturn, 1) := by decide +kernel
theorem dX11_of_84 : decode cX11_of 84 = .ok (.aload_n 0, 1) := by decide +kernel
theorem dX11_of_85 : decode cX11_of 85 = .ok (.iload_n 1, 1) := by decide +kernel
theorem dX11_of_86 : decode cX11_of 86 = .ok (.iconst 4, 1) := by decide +kernel
theorem dX11_of_87 : decode cX11_of 87 = .ok (.invokevirtual 300, 3) := by decide +kernel
theorem dX11_of_90 : decode cX11_of 90 = .ok (.ireturn, 1) := by decide +kernel
theorem dX11_of_91 : decode cX11_of 91 = .ok (.aload_n 0, 1) := by decide +kernel
theorem dX11_of_92 : decode cX11_of 92 = .ok (.iload_n 1, 1) := by decide +kernel
theorem dX11_of_93 : decode cX11_of 93 = .ok (.invokevirtual 352, 3) := by decide +kernel
theorem dX11_of_96 : decode cX11_of 96 = .ok (.ireturn, 1) := by decide +kernel
theorem dX11_purse_0 : decode cX11_purse 0 = .ok (.iload_n 1, 1) := by decide +kernel
theorem dX11_purse_1 : decode cX11_purse 1 = .ok (.iconst (-1), 1) := by decide +kernel
theorem dX11_purse_2 : decode cX11_purse 2 = .ok (.if_icmp .ne 13, 3) := by decide +kernel
theorem dX11_purse_5 : decode cX11_purse 5 = .ok (.aload_n 0, 1) := by decide +kernel
theorem dX11_purse_6 : decode cX11_purse 6 = .ok (.getfield 7, 3) := by decide +kernel
theorem dX11_purse_9 : decode cX11_purse 9 = .ok (.bipush 8, 2) := by decide +kernel
theorem dX11_purse_11 : decode cX11_purse 11 = .ok (.iconst 0, 1) := by decide +kernel
theorem dX11_purse_12 : decode cX11_purse 12 = .ok (.iastore, 1) := by decide +kernel
theorem dX11_purse_13 : decode cX11_purse 13 = .ok (.iconst 0, 1) := by decide +kernel
theorem dX11_purse_14 : decode cX11_purse 14 = .ok (.ireturn, 1) := by decide +kernel
theorem dX11_purse_15 : decode cX11_purse 15 = .ok (.aload_n 0, 1) := by decide +kernel
theorem dX11_purse_16 : decode cX11_purse 16 = .ok (.iload_n 1, 1) := by decide +kernel
theorem dX11_purse_17 : decode cX11_purse 17 = .ok (.invokevirtual 119, 3) := by decide +kernel
theorem dX11_purse_20 : decode cX11_purse 20 = .ok (.ifCond .eq 25, 3) := by decide +kernel
theorem dX11_purse_23 : decode cX11_purse 23 = .ok (.iload_n 2, 1) := by decide +kernel
theorem dX11_purse_24 : decode cX11_purse 24 = .ok (.iconst 0, 1) := by decide +kernel
theorem dX11_purse_25 : decode cX11_purse 25 = .ok (.sipush 999, 3) := by decide +kernel
theorem dX11_purse_28 : decode cX11_purse 28 = .ok (.invokestatic 115, 3) := by decide +kernel
theorem dX11_purse_31 : decode cX11_purse 31 = .ok (.ifCond .eq 14, 3) := by decide +kernel
theorem dX11_purse_34 : decode cX11_purse 34 = .ok (.aload_n 0, 1) := by decide +kernel
theorem dX11_purse_35 : decode cX11_purse 35 = .ok (.getfield 7, 3) := by decide +kernel
theorem dX11_purse_38 : decode cX11_purse 38 = .ok (.bipush 8, 2) := by decide +kernel
theorem dX11_purse_40 : decode cX11_purse 40 = .ok (.iaload, 1) := by decide +kernel
theorem dX11_purse_41 : decode cX11_purse 41 = .ok (.iconst 4, 1) := by decide +kernel
theorem dX11_purse_42 : decode cX11_purse 42 = .ok (.if_icmp .ne 5, 3) := by decide +kernel
theorem dX11_purse_45 : decode cX11_purse 45 = .ok (.iconst (-1), 1) := by decide +kernel
theorem dX11_purse_46 : decode cX11_purse 46 = .ok (.ireturn, 1) := by decide +kernel
theorem dX11_purse_47 : decode cX11_purse 47 = .ok (.aload_n 0, 1) := by decide +kernel
theorem dX11_purse_48 : decode cX11_purse 48 = .ok (.getfield 7, 3) := by decide +kernel
theorem dX11_purse_51 : decode cX11_purse 51 = .ok (.sipush 280, 3) := by decide +kernel
theorem dX11_purse_54 : decode cX11_purse 54 = .ok (.iconst 2, 1) := by decide +kernel
theorem dX11_purse_55 : decode cX11_purse 55 = .ok (.aload_n 0, 1) := by decide +kernel
theorem dX11_purse_56 : decode cX11_purse 56 = .ok (.getfield 7, 3) := by decide +kernel
theorem dX11_purse_59 : decode cX11_purse 59 = .ok (.bipush 8, 2) := by decide +kernel
theorem dX11_purse_61 : decode cX11_purse 61 = .ok (.iaload, 1) := by decide +kernel
theorem dX11_purse_62 : decode cX11_purse 62 = .ok (.imul, 1) := by decide +kernel
theorem dX11_purse_63 : decode cX11_purse 63 = .ok (.iadd, 1) := by decide +kernel
theorem dX11_purse_64 : decode cX11_purse 64 = .ok (.iload_n 1, 1) := by decide +kernel
theorem dX11_purse_65 : decode cX11_purse 65 = .ok (.iastore, 1) := by decide +kernel
theorem dX11_purse_66 : decode cX11_purse 66 = .ok (.aload_n 0, 1) := by decide +kernel
theorem dX11_purse_67 : decode cX11_purse 67 = .ok (.getfield 7, 3) := by decide +kernel
theorem dX11_purse_70 : decode cX11_purse 70 = .ok (.sipush 280, 3) := by decide +kernel
theorem dX11_purse_73 : decode cX11_purse 73 = .ok (.iconst 2, 1) := by decide +kernel
theorem dX11_purse_74 : decode cX11_purse 74 = .ok (.aload_n 0, 1) := by decide +kernel
theorem dX11_purse_75 : decode cX11_purse 75 = .ok (.getfield 7, 3) := by decide +kernel
theorem dX11_purse_78 : decode cX11_purse 78 = .ok (.bipush 8, 2) := by decide +kernel
theorem dX11_purse_80 : decode cX11_purse 80 = .ok (.iaload, 1) := by decide +kernel
theorem dX11_purse_81 : decode cX11_purse 81 = .ok (.imul, 1) := by decide +kernel
theorem dX11_purse_82 : decode cX11_purse 82 = .ok (.iadd, 1) := by decide +kernel
theorem dX11_purse_83 : decode cX11_purse 83 = .ok (.iconst 1, 1) := by decide +kernel
theorem dX11_purse_84 : decode cX11_purse 84 = .ok (.iadd, 1) := by decide +kernel
theorem dX11_purse_85 : decode cX11_purse 85 = .ok (.iload_n 2, 1) := by decide +kernel
theorem dX11_purse_86 : decode cX11_purse 86 = .ok (.iastore, 1) := by decide +kernel
theorem dX11_purse_87 : decode cX11_purse 87 = .ok (.aload_n 0, 1) := by decide +kernel
theorem dX11_purse_88 : decode cX11_purse 88 = .ok (.getfield 7, 3) := by decide +kernel
theorem dX11_purse_91 : decode cX11_purse 91 = .ok (.bipush 8, 2) := by decide +kernel
theorem dX11_purse_93 : decode cX11_purse 93 = .ok (.dup2, 1) := by decide +kernel
theorem dX11_purse_94 : decode cX11_purse 94 = .ok (.iaload, 1) := by decide +kernel
theorem dX11_purse_95 : decode cX11_purse 95 = .ok (.iconst 1, 1) := by decide +kernel
theorem dX11_purse_96 : decode cX11_purse 96 = .ok (.iadd, 1) := by decide +kernel
theorem dX11_purse_97 : decode cX11_purse 97 = .ok (.iastore, 1) := by decide +kernel
theorem dX11_purse_98 : decode cX11_purse 98 = .ok (.aload_n 0, 1) := by decide +kernel
theorem dX11_purse_99 : decode cX11_purse 99 = .ok (.getfield 7, 3) := by decide +kernel
theorem dX11_purse_102 : decode cX11_purse 102 = .ok (.bipush 8, 2) := by decide +kernel
theorem dX11_purse_104 : decode cX11_purse 104 = .ok (.iaload, 1) := by decide +kernel
theorem dX11_purse_105 : decode cX11_purse 105 = .ok (.ireturn, 1) := by decide +kernel
theorem dX11_laysWhole_0 : decode cX11_laysWhole 0 = .ok (.aload_n 0, 1) := by decide +kernel
theorem dX11_laysWhole_1 : decode cX11_laysWhole 1 = .ok (.iload_n 2, 1) := by decide +kernel
theorem dX11_laysWhole_2 : decode cX11_laysWhole 2 = .ok (.iconst (-1), 1) := by decide +kernel
theorem dX11_laysWhole_3 : decode cX11_laysWhole 3 = .ok (.invokevirtual 345, 3) := by decide +kernel
theorem dX11_laysWhole_6 : decode cX11_laysWhole 6 = .ok (.lconst 1, 1) := by decide +kernel
theorem dX11_laysWhole_7 : decode cX11_laysWhole 7 = .ok (.lstore_n 3, 1) := by decide +kernel
theorem dX11_laysWhole_8 : decode cX11_laysWhole 8 = .ok (.iconst 0, 1) := by decide +kernel
theorem dX11_laysWhole_9 : decode cX11_laysWhole 9 = .ok (.istore 5, 2) := by decide +kernel
theorem dX11_laysWhole_11 : decode cX11_laysWhole 11 = .ok (.iload 5, 2) := by decide +kernel
theorem dX11_laysWhole_13 : decode cX11_laysWhole 13 = .ok (.aload_n 0, 1) := by decide +kernel
theorem dX11_laysWhole_14 : decode cX11_laysWhole 14 = .ok (.getfield 7, 3) := by decide +kernel
theorem dX11_laysWhole_17 : decode cX11_laysWhole 17 = .ok (.bipush 8, 2) := by decide +kernel
theorem dX11_laysWhole_19 : decode cX11_laysWhole 19 = .ok (.iaload, 1) := by decide +kernel
theorem dX11_laysWhole_20 : decode cX11_laysWhole 20 = .ok (.if_icmp .ge 60, 3) := by decide +kernel
theorem dX11_laysWhole_23 : decode cX11_laysWhole 23 = .ok (.aload_n 0, 1) := by decide +kernel
theorem dX11_laysWhole_24 : decode cX11_laysWhole 24 = .ok (.getfield 89, 3) := by decide +kernel
theorem dX11_laysWhole_27 : decode cX11_laysWhole 27 = .ok (.iload 5, 2) := by decide +kernel
theorem dX11_laysWhole_29 : decode cX11_laysWhole 29 = .ok (.aload_n 0, 1) := by decide +kernel
theorem dX11_laysWhole_30 : decode cX11_laysWhole 30 = .ok (.aload_n 0, 1) := by decide +kernel
theorem dX11_laysWhole_31 : decode cX11_laysWhole 31 = .ok (.getfield 7, 3) := by decide +kernel
theorem dX11_laysWhole_34 : decode cX11_laysWhole 34 = .ok (.sipush 280, 3) := by decide +kernel
theorem dX11_laysWhole_37 : decode cX11_laysWhole 37 = .ok (.iconst 2, 1) := by decide +kernel
theorem dX11_laysWhole_38 : decode cX11_laysWhole 38 = .ok (.iload 5, 2) := by decide +kernel
theorem dX11_laysWhole_40 : decode cX11_laysWhole 40 = .ok (.imul, 1) := by decide +kernel
theorem dX11_laysWhole_41 : decode cX11_laysWhole 41 = .ok (.iadd, 1) := by decide +kernel
theorem dX11_laysWhole_42 : decode cX11_laysWhole 42 = .ok (.iaload, 1) := by decide +kernel
theorem dX11_laysWhole_43 : decode cX11_laysWhole 43 = .ok (.aload_n 0, 1) := by decide +kernel
theorem dX11_laysWhole_44 : decode cX11_laysWhole 44 = .ok (.getfield 7, 3) := by decide +kernel
theorem dX11_laysWhole_47 : decode cX11_laysWhole 47 = .ok (.sipush 280, 3) := by decide +kernel
theorem dX11_laysWhole_50 : decode cX11_laysWhole 50 = .ok (.iconst 2, 1) := by decide +kernel
theorem dX11_laysWhole_51 : decode cX11_laysWhole 51 = .ok (.iload 5, 2) := by decide +kernel
theorem dX11_laysWhole_53 : decode cX11_laysWhole 53 = .ok (.imul, 1) := by decide +kernel
theorem dX11_laysWhole_54 : decode cX11_laysWhole 54 = .ok (.iadd, 1) := by decide +kernel
theorem dX11_laysWhole_55 : decode cX11_laysWhole 55 = .ok (.iconst 1, 1) := by decide +kernel
theorem dX11_laysWhole_56 : decode cX11_laysWhole 56 = .ok (.iadd, 1) := by decide +kernel
theorem dX11_laysWhole_57 : decode cX11_laysWhole 57 = .ok (.iaload, 1) := by decide +kernel
theorem dX11_laysWhole_58 : decode cX11_laysWhole 58 = .ok (.iload_n 1, 1) := by decide +kernel
theorem dX11_laysWhole_59 : decode cX11_laysWhole 59 = .ok (.iload_n 2, 1) := by decide +kernel
theorem dX11_laysWhole_60 : decode cX11_laysWhole 60 = .ok (.invokevirtual 348, 3) := by decide +kernel
theorem dX11_laysWhole_63 : decode cX11_laysWhole 63 = .ok (.lastore, 1) := by decide +kernel
theorem dX11_laysWhole_64 : decode cX11_laysWhole 64 = .ok (.lload_n 3, 1) := by decide +kernel
theorem dX11_laysWhole_65 : decode cX11_laysWhole 65 = .ok (.aload_n 0, 1) := by decide +kernel
theorem dX11_laysWhole_66 : decode cX11_laysWhole 66 = .ok (.getfield 89, 3) := by decide +kernel
theorem dX11_laysWhole_69 : decode cX11_laysWhole 69 = .ok (.iload 5, 2) := by decide +kernel
