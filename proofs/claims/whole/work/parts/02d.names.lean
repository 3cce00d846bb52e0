theorem dX3_stepped_172 : decode cX3_stepped 172 = .ok (.lload 10, 2) := by decide +kernel
theorem dX3_stepped_174 : decode cX3_stepped 174 = .ok (.lconst 1, 1) := by decide +kernel
theorem dX3_stepped_175 : decode cX3_stepped 175 = .ok (.lsub, 1) := by decide +kernel
theorem dX3_stepped_176 : decode cX3_stepped 176 = .ok (.land, 1) := by decide +kernel
theorem dX3_stepped_177 : decode cX3_stepped 177 = .ok (.lstore 12, 2) := by decide +kernel
theorem dX3_stepped_179 : decode cX3_stepped 179 = .ok (.lload 12, 2) := by decide +kernel
theorem dX3_stepped_181 : decode cX3_stepped 181 = .ok (.lconst 0, 1) := by decide +kernel
theorem dX3_stepped_182 : decode cX3_stepped 182 = .ok (.lcmp, 1) := by decide +kernel
theorem dX3_stepped_183 : decode cX3_stepped 183 = .ok (.ifCond .ne 5, 3) := by decide +kernel
theorem dX3_stepped_186 : decode cX3_stepped 186 = .ok (.lload_n 1, 1) := by decide +kernel
theorem dX3_stepped_187 : decode cX3_stepped 187 = .ok (.lreturn, 1) := by decide +kernel
theorem dX3_stepped_188 : decode cX3_stepped 188 = .ok (.lload 6, 2) := by decide +kernel
theorem dX3_stepped_190 : decode cX3_stepped 190 = .ok (.lload 12, 2) := by decide +kernel
theorem dX3_stepped_192 : decode cX3_stepped 192 = .ok (.lsub, 1) := by decide +kernel
theorem dX3_stepped_193 : decode cX3_stepped 193 = .ok (.lstore 14, 2) := by decide +kernel
theorem dX3_stepped_195 : decode cX3_stepped 195 = .ok (.iload_n 3, 1) := by decide +kernel
theorem dX3_stepped_196 : decode cX3_stepped 196 = .ok (.iconst 2, 1) := by decide +kernel
theorem dX3_stepped_197 : decode cX3_stepped 197 = .ok (.if_icmp .ne 44, 3) := by decide +kernel
theorem dX3_stepped_200 : decode cX3_stepped 200 = .ok (.ldc2_w 66, 3) := by decide +kernel
theorem dX3_stepped_203 : decode cX3_stepped 203 = .ok (.lload 12, 2) := by decide +kernel
theorem dX3_stepped_205 : decode cX3_stepped 205 = .ok (.lmul, 1) := by decide +kernel
theorem dX3_stepped_206 : decode cX3_stepped 206 = .ok (.lstore 16, 2) := by decide +kernel
theorem dX3_stepped_208 : decode cX3_stepped 208 = .ok (.lload 16, 2) := by decide +kernel
theorem dX3_stepped_210 : decode cX3_stepped 210 = .ok (.lload 10, 2) := by decide +kernel
theorem dX3_stepped_212 : decode cX3_stepped 212 = .ok (.lcmp, 1) := by decide +kernel
theorem dX3_stepped_213 : decode cX3_stepped 213 = .ok (.ifCond .gt 21, 3) := by decide +kernel
theorem dX3_stepped_216 : decode cX3_stepped 216 = .ok (.lload 16, 2) := by decide +kernel
theorem dX3_stepped_218 : decode cX3_stepped 218 = .ok (.lload 10, 2) := by decide +kernel
theorem dX3_stepped_220 : decode cX3_stepped 220 = .ok (.lcmp, 1) := by decide +kernel
theorem dX3_stepped_221 : decode cX3_stepped 221 = .ok (.ifCond .ne 17, 3) := by decide +kernel
theorem dX3_stepped_224 : decode cX3_stepped 224 = .ok (.lload 14, 2) := by decide +kernel
theorem dX3_stepped_226 : decode cX3_stepped 226 = .ok (.lload 10, 2) := by decide +kernel
theorem dX3_stepped_228 : decode cX3_stepped 228 = .ok (.land, 1) := by decide +kernel
theorem dX3_stepped_229 : decode cX3_stepped 229 = .ok (.lconst 0, 1) := by decide +kernel
theorem dX3_stepped_230 : decode cX3_stepped 230 = .ok (.lcmp, 1) := by decide +kernel
theorem dX3_stepped_231 : decode cX3_stepped 231 = .ok (.ifCond .eq 7, 3) := by decide +kernel
theorem dX3_stepped_234 : decode cX3_stepped 234 = .ok (.iconst 1, 1) := by decide +kernel
theorem dX3_stepped_235 : decode cX3_stepped 235 = .ok (.goto 4, 3) := by decide +kernel
theorem dX3_stepped_238 : decode cX3_stepped 238 = .ok (.iconst 0, 1) := by decide +kernel
theorem dX3_stepped_239 : decode cX3_stepped 239 = .ok (.istore 9, 2) := by decide +kernel
theorem dX3_stepped_241 : decode cX3_stepped 241 = .ok (.iload_n 0, 1) := by decide +kernel
theorem dX3_stepped_242 : decode cX3_stepped 242 = .ok (.iload 9, 2) := by decide +kernel
theorem dX3_stepped_244 : decode cX3_stepped 244 = .ok (.ifCond .eq 11, 3) := by decide +kernel
theorem dX3_stepped_247 : decode cX3_stepped 247 = .ok (.lload 14, 2) := by decide +kernel
theorem dX3_stepped_249 : decode cX3_stepped 249 = .ok (.lload 10, 2) := by decide +kernel
theorem dX3_stepped_251 : decode cX3_stepped 251 = .ok (.ladd, 1) := by decide +kernel
theorem dX3_stepped_252 : decode cX3_stepped 252 = .ok (.goto 5, 3) := by decide +kernel
theorem dX3_stepped_255 : decode cX3_stepped 255 = .ok (.lload 14, 2) := by decide +kernel
theorem dX3_stepped_257 : decode cX3_stepped 257 = .ok (.lload_n 1, 1) := by decide +kernel
theorem dX3_stepped_258 : decode cX3_stepped 258 = .ok (.lconst 0, 1) := by decide +kernel
theorem dX3_stepped_259 : decode cX3_stepped 259 = .ok (.lcmp, 1) := by decide +kernel
theorem dX3_stepped_260 : decode cX3_stepped 260 = .ok (.ifCond .ge 7, 3) := by decide +kernel
theorem dX3_stepped_263 : decode cX3_stepped 263 = .ok (.iconst 1, 1) := by decide +kernel
theorem dX3_stepped_264 : decode cX3_stepped 264 = .ok (.goto 4, 3) := by decide +kernel
theorem dX3_stepped_267 : decode cX3_stepped 267 = .ok (.iconst 0, 1) := by decide +kernel
theorem dX3_stepped_268 : decode cX3_stepped 268 = .ok (.invokestatic 62, 3) := by decide +kernel
theorem dX3_stepped_271 : decode cX3_stepped 271 = .ok (.lreturn, 1) := by decide +kernel
set_option maxRecDepth 20000 in
theorem ggX3_nearest_X3_signed : GoodIn wsX3_nearest wsX3_signed := goodIn_r _ [4, 5, 6] (by decide +kernel) (by decide +kernel)
set_option maxRecDepth 20000 in
theorem gX3_nearest_X3_signed : GoodIn wsX3_nearest (va_wsS RX3 62 yX3_signed wsX3_signed) := goodIn_app (goodIn_of _ (by decide +kernel)) ggX3_nearest_X3_signed
set_option maxRecDepth 20000 in
theorem ggX3_nearest_X3_fractionOf : GoodIn wsX3_nearest wsX3_fractionOf := goodIn_r _ [9] (by decide +kernel) (by decide +kernel)
set_option maxRecDepth 20000 in
theorem gX3_nearest_X3_fractionOf : GoodIn wsX3_nearest (va_wsS RX3 54 yX3_fractionOf wsX3_fractionOf) := goodIn_app (goodIn_of _ (by decide +kernel)) ggX3_nearest_X3_fractionOf
set_option maxRecDepth 20000 in
theorem ggX3_nearest_X3_endless : GoodIn wsX3_nearest wsX3_endless := goodIn_r _ [12, 13, 14] (by decide +kernel) (by decide +kernel)
set_option maxRecDepth 20000 in
theorem gX3_nearest_X3_endless : GoodIn wsX3_nearest (va_wsS RX3 68 yX3_endless wsX3_endless) := goodIn_app (goodIn_of _ (by decide +kernel)) ggX3_nearest_X3_endless
theorem dX3_nearest_0 : decode cX3_nearest 0 = .ok (.lload_n 2, 1) := by decide +kernel
theorem dX3_nearest_1 : decode cX3_nearest 1 = .ok (.lconst 0, 1) := by decide +kernel
theorem dX3_nearest_2 : decode cX3_nearest 2 = .ok (.lcmp, 1) := by decide +kernel
theorem dX3_nearest_3 : decode cX3_nearest 3 = .ok (.ifCond .ne 10, 3) := by decide +kernel
theorem dX3_nearest_6 : decode cX3_nearest 6 = .ok (.iload_n 0, 1) := by decide +kernel
theorem dX3_nearest_7 : decode cX3_nearest 7 = .ok (.lconst 0, 1) := by decide +kernel
theorem dX3_nearest_8 : decode cX3_nearest 8 = .ok (.iload_n 1, 1) := by decide +kernel
theorem dX3_nearest_9 : decode cX3_nearest 9 = .ok (.invokestatic 62, 3) := by decide +kernel
theorem dX3_nearest_12 : decode cX3_nearest 12 = .ok (.lreturn, 1) := by decide +kernel
theorem dX3_nearest_13 : decode cX3_nearest 13 = .ok (.iload_n 0, 1) := by decide +kernel
theorem dX3_nearest_14 : decode cX3_nearest 14 = .ok (.invokestatic 54, 3) := by decide +kernel
theorem dX3_nearest_17 : decode cX3_nearest 17 = .ok (.istore 5, 2) := by decide +kernel
theorem dX3_nearest_19 : decode cX3_nearest 19 = .ok (.iload_n 0, 1) := by decide +kernel
theorem dX3_nearest_20 : decode cX3_nearest 20 = .ok (.iconst 2, 1) := by decide +kernel
theorem dX3_nearest_21 : decode cX3_nearest 21 = .ok (.if_icmp .ne 8, 3) := by decide +kernel
theorem dX3_nearest_24 : decode cX3_nearest 24 = .ok (.bipush 127, 2) := by decide +kernel
theorem dX3_nearest_26 : decode cX3_nearest 26 = .ok (.goto 6, 3) := by decide +kernel
theorem dX3_nearest_29 : decode cX3_nearest 29 = .ok (.sipush 1023, 3) := by decide +kernel
theorem dX3_nearest_32 : decode cX3_nearest 32 = .ok (.istore 6, 2) := by decide +kernel
theorem dX3_nearest_34 : decode cX3_nearest 34 = .ok (.bipush 63, 2) := by decide +kernel
theorem dX3_nearest_36 : decode cX3_nearest 36 = .ok (.istore 7, 2) := by decide +kernel
theorem dX3_nearest_38 : decode cX3_nearest 38 = .ok (.lload_n 2, 1) := by decide +kernel
theorem dX3_nearest_39 : decode cX3_nearest 39 = .ok (.iload 7, 2) := by decide +kernel
theorem dX3_nearest_41 : decode cX3_nearest 41 = .ok (.lushr, 1) := by decide +kernel
theorem dX3_nearest_42 : decode cX3_nearest 42 = .ok (.lconst 1, 1) := by decide +kernel
theorem dX3_nearest_43 : decode cX3_nearest 43 = .ok (.land, 1) := by decide +kernel
theorem dX3_nearest_44 : decode cX3_nearest 44 = .ok (.lconst 0, 1) := by decide +kernel
theorem dX3_nearest_45 : decode cX3_nearest 45 = .ok (.lcmp, 1) := by decide +kernel
theorem dX3_nearest_46 : decode cX3_nearest 46 = .ok (.ifCond .ne 9, 3) := by decide +kernel
theorem dX3_nearest_49 : decode cX3_nearest 49 = .ok (.iinc 7 (-1), 3) := by decide +kernel
theorem dX3_nearest_52 : decode cX3_nearest 52 = .ok (.goto (-14), 3) := by decide +kernel
theorem dX3_nearest_55 : decode cX3_nearest 55 = .ok (.iload 7, 2) := by decide +kernel
theorem dX3_nearest_57 : decode cX3_nearest 57 = .ok (.iload 4, 2) := by decide +kernel
theorem dX3_nearest_59 : decode cX3_nearest 59 = .ok (.iadd, 1) := by decide +kernel
theorem dX3_nearest_60 : decode cX3_nearest 60 = .ok (.iload 5, 2) := by decide +kernel
theorem dX3_nearest_62 : decode cX3_nearest 62 = .ok (.isub, 1) := by decide +kernel
theorem dX3_nearest_63 : decode cX3_nearest 63 = .ok (.istore 8, 2) := by decide +kernel
theorem dX3_nearest_65 : decode cX3_nearest 65 = .ok (.iload 8, 2) := by decide +kernel
theorem dX3_nearest_67 : decode cX3_nearest 67 = .ok (.iconst 1, 1) := by decide +kernel
theorem dX3_nearest_68 : decode cX3_nearest 68 = .ok (.iload 6, 2) := by decide +kernel
theorem dX3_nearest_70 : decode cX3_nearest 70 = .ok (.isub, 1) := by decide +kernel
theorem dX3_nearest_71 : decode cX3_nearest 71 = .ok (.iload 5, 2) := by decide +kernel
theorem dX3_nearest_73 : decode cX3_nearest 73 = .ok (.isub, 1) := by decide +kernel
theorem dX3_nearest_74 : decode cX3_nearest 74 = .ok (.if_icmp .ge 12, 3) := by decide +kernel
theorem dX3_nearest_77 : decode cX3_nearest 77 = .ok (.iconst 1, 1) := by decide +kernel
theorem dX3_nearest_78 : decode cX3_nearest 78 = .ok (.iload 6, 2) := by decide +kernel
theorem dX3_nearest_80 : decode cX3_nearest 80 = .ok (.isub, 1) := by decide +kernel
theorem dX3_nearest_81 : decode cX3_nearest 81 = .ok (.iload 5, 2) := by decide +kernel
theorem dX3_nearest_83 : decode cX3_nearest 83 = .ok (.isub, 1) := by decide +kernel
theorem dX3_nearest_84 : decode cX3_nearest 84 = .ok (.istore 8, 2) := by decide +kernel
theorem dX3_nearest_86 : decode cX3_nearest 86 = .ok (.lload_n 2, 1) := by decide +kernel
theorem dX3_nearest_87 : decode cX3_nearest 87 = .ok (.lstore 9, 2) := by decide +kernel
theorem dX3_nearest_89 : decode cX3_nearest 89 = .ok (.iload 4, 2) := by decide +kernel
theorem dX3_nearest_91 : decode cX3_nearest 91 = .ok (.iload 8, 2) := by decide +kernel
theorem dX3_nearest_93 : decode cX3_nearest 93 = .ok (.if_icmp .lt 15, 3) := by decide +kernel
theorem dX3_nearest_96 : decode cX3_nearest 96 = .ok (.lload_n 2, 1) := by decide +kernel
theorem dX3_nearest_97 : decode cX3_nearest 97 = .ok (.iload 4, 2) := by decide +kernel
theorem dX3_nearest_99 : decode cX3_nearest 99 = .ok (.iload 8, 2) := by decide +kernel
theorem dX3_nearest_101 : decode cX3_nearest 101 = .ok (.isub, 1) := by decide +kernel
theorem dX3_nearest_102 : decode cX3_nearest 102 = .ok (.lshl, 1) := by decide +kernel
theorem dX3_nearest_103 : decode cX3_nearest 103 = .ok (.lstore 9, 2) := by decide +kernel
theorem dX3_nearest_105 : decode cX3_nearest 105 = .ok (.goto 80, 3) := by decide +kernel
theorem dX3_nearest_108 : decode cX3_nearest 108 = .ok (.iload 8, 2) := by decide +kernel
theorem dX3_nearest_110 : decode cX3_nearest 110 = .ok (.iload 4, 2) := by decide +kernel
theorem dX3_nearest_112 : decode cX3_nearest 112 = .ok (.isub, 1) := by decide +kernel
theorem dX3_nearest_113 : decode cX3_nearest 113 = .ok (.bipush 63, 2) := by decide +kernel
theorem dX3_nearest_115 : decode cX3_nearest 115 = .ok (.if_icmp .le 9, 3) := by decide +kernel
theorem dX3_nearest_118 : decode cX3_nearest 118 = .ok (.lconst 0, 1) := by decide +kernel
theorem dX3_nearest_119 : decode cX3_nearest 119 = .ok (.lstore 9, 2) := by decide +kernel
theorem dX3_nearest_121 : decode cX3_nearest 121 = .ok (.goto 64, 3) := by decide +kernel
theorem dX3_nearest_124 : decode cX3_nearest 124 = .ok (.iload 8, 2) := by decide +kernel
theorem dX3_nearest_126 : decode cX3_nearest 126 = .ok (.iload 4, 2) := by decide +kernel
theorem dX3_nearest_128 : decode cX3_nearest 128 = .ok (.isub, 1) := by decide +kernel
theorem dX3_nearest_129 : decode cX3_nearest 129 = .ok (.istore 11, 2) := by decide +kernel
theorem dX3_nearest_131 : decode cX3_nearest 131 = .ok (.lload_n 2, 1) := by decide +kernel
theorem dX3_nearest_132 : decode cX3_nearest 132 = .ok (.iload 11, 2) := by decide +kernel
theorem dX3_nearest_134 : decode cX3_nearest 134 = .ok (.lushr, 1) := by decide +kernel
theorem dX3_nearest_135 : decode cX3_nearest 135 = .ok (.lstore 9, 2) := by decide +kernel
theorem dX3_nearest_137 : decode cX3_nearest 137 = .ok (.lload_n 2, 1) := by decide +kernel
theorem dX3_nearest_138 : decode cX3_nearest 138 = .ok (.lload 9, 2) := by decide +kernel
theorem dX3_nearest_140 : decode cX3_nearest 140 = .ok (.iload 11, 2) := by decide +kernel
theorem dX3_nearest_142 : decode cX3_nearest 142 = .ok (.lshl, 1) := by decide +kernel
theorem dX3_nearest_143 : decode cX3_nearest 143 = .ok (.lsub, 1) := by decide +kernel
theorem dX3_nearest_144 : decode cX3_nearest 144 = .ok (.lstore 12, 2) := by decide +kernel
theorem dX3_nearest_146 : decode cX3_nearest 146 = .ok (.lconst 1, 1) := by decide +kernel
theorem dX3_nearest_147 : decode cX3_nearest 147 = .ok (.iload 11, 2) := by decide +kernel
theorem dX3_nearest_149 : decode cX3_nearest 149 = .ok (.iconst 1, 1) := by decide +kernel
theorem dX3_nearest_150 : decode cX3_nearest 150 = .ok (.isub, 1) := by decide +kernel
theorem dX3_nearest_151 : decode cX3_nearest 151 = .ok (.lshl, 1) := by decide +kernel
theorem dX3_nearest_152 : decode cX3_nearest 152 = .ok (.lstore 14, 2) := by decide +kernel
theorem dX3_nearest_154 : decode cX3_nearest 154 = .ok (.lload 12, 2) := by decide +kernel
theorem dX3_nearest_156 : decode cX3_nearest 156 = .ok (.lload 14, 2) := by decide +kernel
theorem dX3_nearest_158 : decode cX3_nearest 158 = .ok (.lcmp, 1) := by decide +kernel
theorem dX3_nearest_159 : decode cX3_nearest 159 = .ok (.ifCond .gt 20, 3) := by decide +kernel
theorem dX3_nearest_162 : decode cX3_nearest 162 = .ok (.lload 12, 2) := by decide +kernel
theorem dX3_nearest_164 : decode cX3_nearest 164 = .ok (.lload 14, 2) := by decide +kernel
theorem dX3_nearest_166 : decode cX3_nearest 166 = .ok (.lcmp, 1) := by decide +kernel
theorem dX3_nearest_167 : decode cX3_nearest 167 = .ok (.ifCond .ne 18, 3) := by decide +kernel
theorem dX3_nearest_170 : decode cX3_nearest 170 = .ok (.lload 9, 2) := by decide +kernel
theorem dX3_nearest_172 : decode cX3_nearest 172 = .ok (.lconst 1, 1) := by decide +kernel
theorem dX3_nearest_173 : decode cX3_nearest 173 = .ok (.land, 1) := by decide +kernel
theorem dX3_nearest_174 : decode cX3_nearest 174 = .ok (.lconst 1, 1) := by decide +kernel
theorem dX3_nearest_175 : decode cX3_nearest 175 = .ok (.lcmp, 1) := by decide +kernel
theorem dX3_nearest_176 : decode cX3_nearest 176 = .ok (.ifCond .ne 9, 3) := by decide +kernel
theorem dX3_nearest_179 : decode cX3_nearest 179 = .ok (.lload 9, 2) := by decide +kernel
theorem dX3_nearest_181 : decode cX3_nearest 181 = .ok (.lconst 1, 1) := by decide +kernel
theorem dX3_nearest_182 : decode cX3_nearest 182 = .ok (.ladd, 1) := by decide +kernel
theorem dX3_nearest_183 : decode cX3_nearest 183 = .ok (.lstore 9, 2) := by decide +kernel
theorem dX3_nearest_185 : decode cX3_nearest 185 = .ok (.lconst 1, 1) := by decide +kernel
theorem dX3_nearest_186 : decode cX3_nearest 186 = .ok (.iload 5, 2) := by decide +kernel
theorem dX3_nearest_188 : decode cX3_nearest 188 = .ok (.lshl, 1) := by decide +kernel
theorem dX3_nearest_189 : decode cX3_nearest 189 = .ok (.lstore 11, 2) := by decide +kernel
theorem dX3_nearest_191 : decode cX3_nearest 191 = .ok (.lload 9, 2) := by decide +kernel
theorem dX3_nearest_193 : decode cX3_nearest 193 = .ok (.lload 11, 2) := by decide +kernel
theorem dX3_nearest_195 : decode cX3_nearest 195 = .ok (.lcmp, 1) := by decide +kernel
theorem dX3_nearest_196 : decode cX3_nearest 196 = .ok (.ifCond .ge 8, 3) := by decide +kernel
theorem dX3_nearest_199 : decode cX3_nearest 199 = .ok (.lload 9, 2) := by decide +kernel
theorem dX3_nearest_201 : decode cX3_nearest 201 = .ok (.goto 21, 3) := by decide +kernel
theorem dX3_nearest_204 : decode cX3_nearest 204 = .ok (.iload 8, 2) := by decide +kernel
theorem dX3_nearest_206 : decode cX3_nearest 206 = .ok (.iload 5, 2) := by decide +kernel
theorem dX3_nearest_208 : decode cX3_nearest 208 = .ok (.iadd, 1) := by decide +kernel
theorem dX3_nearest_209 : decode cX3_nearest 209 = .ok (.iload 6, 2) := by decide +kernel
theorem dX3_nearest_211 : decode cX3_nearest 211 = .ok (.iadd, 1) := by decide +kernel
theorem dX3_nearest_212 : decode cX3_nearest 212 = .ok (.i2l, 1) := by decide +kernel
theorem dX3_nearest_213 : decode cX3_nearest 213 = .ok (.iload 5, 2) := by decide +kernel
theorem dX3_nearest_215 : decode cX3_nearest 215 = .ok (.lshl, 1) := by decide +kernel
theorem dX3_nearest_216 : decode cX3_nearest 216 = .ok (.lload 9, 2) := by decide +kernel
theorem dX3_nearest_218 : decode cX3_nearest 218 = .ok (.lload 11, 2) := by decide +kernel
theorem dX3_nearest_220 : decode cX3_nearest 220 = .ok (.lsub, 1) := by decide +kernel
theorem dX3_nearest_221 : decode cX3_nearest 221 = .ok (.ladd, 1) := by decide +kernel
theorem dX3_nearest_222 : decode cX3_nearest 222 = .ok (.lstore 13, 2) := by decide +kernel
theorem dX3_nearest_224 : decode cX3_nearest 224 = .ok (.lload 13, 2) := by decide +kernel
theorem dX3_nearest_226 : decode cX3_nearest 226 = .ok (.iload_n 0, 1) := by decide +kernel
theorem dX3_nearest_227 : decode cX3_nearest 227 = .ok (.invokestatic 68, 3) := by decide +kernel
theorem dX3_nearest_230 : decode cX3_nearest 230 = .ok (.lcmp, 1) := by decide +kernel
theorem dX3_nearest_231 : decode cX3_nearest 231 = .ok (.ifCond .le 9, 3) := by decide +kernel
theorem dX3_nearest_234 : decode cX3_nearest 234 = .ok (.iload_n 0, 1) := by decide +kernel
theorem dX3_nearest_235 : decode cX3_nearest 235 = .ok (.invokestatic 68, 3) := by decide +kernel
theorem dX3_nearest_238 : decode cX3_nearest 238 = .ok (.lstore 13, 2) := by decide +kernel
theorem dX3_nearest_240 : decode cX3_nearest 240 = .ok (.iload_n 0, 1) := by decide +kernel
theorem dX3_nearest_241 : decode cX3_nearest 241 = .ok (.lload 13, 2) := by decide +kernel
theorem dX3_nearest_243 : decode cX3_nearest 243 = .ok (.iload_n 1, 1) := by decide +kernel
theorem dX3_nearest_244 : decode cX3_nearest 244 = .ok (.invokestatic 62, 3) := by decide +kernel
theorem dX3_nearest_247 : decode cX3_nearest 247 = .ok (.lreturn, 1) := by decide +kernel
set_option maxRecDepth 20000 in
theorem ggX3_cut_X3_fractionOf : GoodIn wsX3_cut wsX3_fractionOf := goodIn_r _ [8] (by decide +kernel) (by decide +kernel)
set_option maxRecDepth 20000 in
theorem gX3_cut_X3_fractionOf : GoodIn wsX3_cut (va_wsS RX3 54 yX3_fractionOf wsX3_fractionOf) := goodIn_app (goodIn_of _ (by decide +kernel)) ggX3_cut_X3_fractionOf
set_option maxRecDepth 20000 in
theorem ggX3_cut_X3_size : GoodIn wsX3_cut wsX3_size := goodIn_r _ [11, 3, 4] (by decide +kernel) (by decide +kernel)
set_option maxRecDepth 20000 in
theorem gX3_cut_X3_size : GoodIn wsX3_cut (va_wsS RX3 43 yX3_size wsX3_size) := goodIn_app (goodIn_of _ (by decide +kernel)) ggX3_cut_X3_size
theorem dX3_cut_0 : decode cX3_cut 0 = .ok (.iload_n 1, 1) := by decide +kernel
theorem dX3_cut_1 : decode cX3_cut 1 = .ok (.invokestatic 54, 3) := by decide +kernel
theorem dX3_cut_4 : decode cX3_cut 4 = .ok (.istore 4, 2) := by decide +kernel
theorem dX3_cut_6 : decode cX3_cut 6 = .ok (.iload_n 1, 1) := by decide +kernel
theorem dX3_cut_7 : decode cX3_cut 7 = .ok (.iconst 2, 1) := by decide +kernel
theorem dX3_cut_8 : decode cX3_cut 8 = .ok (.if_icmp .ne 8, 3) := by decide +kernel
theorem dX3_cut_11 : decode cX3_cut 11 = .ok (.bipush 127, 2) := by decide +kernel
theorem dX3_cut_13 : decode cX3_cut 13 = .ok (.goto 6, 3) := by decide +kernel
theorem dX3_cut_16 : decode cX3_cut 16 = .ok (.sipush 1023, 3) := by decide +kernel
theorem dX3_cut_19 : decode cX3_cut 19 = .ok (.istore 5, 2) := by decide +kernel
theorem dX3_cut_21 : decode cX3_cut 21 = .ok (.iload_n 1, 1) := by decide +kernel
theorem dX3_cut_22 : decode cX3_cut 22 = .ok (.lload_n 2, 1) := by decide +kernel
theorem dX3_cut_23 : decode cX3_cut 23 = .ok (.invokestatic 43, 3) := by decide +kernel
theorem dX3_cut_26 : decode cX3_cut 26 = .ok (.lstore 6, 2) := by decide +kernel
theorem dX3_cut_28 : decode cX3_cut 28 = .ok (.lload 6, 2) := by decide +kernel
theorem dX3_cut_30 : decode cX3_cut 30 = .ok (.iload 4, 2) := by decide +kernel
theorem dX3_cut_32 : decode cX3_cut 32 = .ok (.lushr, 1) := by decide +kernel
theorem dX3_cut_33 : decode cX3_cut 33 = .ok (.l2i, 1) := by decide +kernel
theorem dX3_cut_34 : decode cX3_cut 34 = .ok (.iload 5, 2) := by decide +kernel
theorem dX3_cut_36 : decode cX3_cut 36 = .ok (.isub, 1) := by decide +kernel
theorem dX3_cut_37 : decode cX3_cut 37 = .ok (.istore 8, 2) := by decide +kernel
theorem dX3_cut_39 : decode cX3_cut 39 = .ok (.iload 8, 2) := by decide +kernel
theorem dX3_cut_41 : decode cX3_cut 41 = .ok (.ifCond .ge 5, 3) := by decide +kernel
theorem dX3_cut_44 : decode cX3_cut 44 = .ok (.lconst 0, 1) := by decide +kernel
theorem dX3_cut_45 : decode cX3_cut 45 = .ok (.lreturn, 1) := by decide +kernel
theorem dX3_cut_46 : decode cX3_cut 46 = .ok (.iload_n 0, 1) := by decide +kernel
theorem dX3_cut_47 : decode cX3_cut 47 = .ok (.ifCond .ne 8, 3) := by decide +kernel
theorem dX3_cut_50 : decode cX3_cut 50 = .ok (.bipush 31, 2) := by decide +kernel
theorem dX3_cut_52 : decode cX3_cut 52 = .ok (.goto 5, 3) := by decide +kernel
theorem dX3_cut_55 : decode cX3_cut 55 = .ok (.bipush 63, 2) := by decide +kernel
theorem dX3_cut_57 : decode cX3_cut 57 = .ok (.istore 9, 2) := by decide +kernel
theorem dX3_cut_59 : decode cX3_cut 59 = .ok (.iload 8, 2) := by decide +kernel
theorem dX3_cut_61 : decode cX3_cut 61 = .ok (.iload 9, 2) := by decide +kernel
theorem dX3_cut_63 : decode cX3_cut 63 = .ok (.if_icmp .lt 37, 3) := by decide +kernel
theorem dX3_cut_66 : decode cX3_cut 66 = .ok (.lload_n 2, 1) := by decide +kernel
theorem dX3_cut_67 : decode cX3_cut 67 = .ok (.lconst 0, 1) := by decide +kernel
theorem dX3_cut_68 : decode cX3_cut 68 = .ok (.lcmp, 1) := by decide +kernel
theorem dX3_cut_69 : decode cX3_cut 69 = .ok (.ifCond .ge 17, 3) := by decide +kernel
theorem dX3_cut_72 : decode cX3_cut 72 = .ok (.iload_n 0, 1) := by decide +kernel
theorem dX3_cut_73 : decode cX3_cut 73 = .ok (.ifCond .ne 9, 3) := by decide +kernel
theorem dX3_cut_76 : decode cX3_cut 76 = .ok (.ldc2_w 71, 3) := by decide +kernel
theorem dX3_cut_79 : decode cX3_cut 79 = .ok (.goto 6, 3) := by decide +kernel
theorem dX3_cut_82 : decode cX3_cut 82 = .ok (.ldc2_w 31, 3) := by decide +kernel
theorem dX3_cut_85 : decode cX3_cut 85 = .ok (.lreturn, 1) := by decide +kernel
theorem dX3_cut_86 : decode cX3_cut 86 = .ok (.iload_n 0, 1) := by decide +kernel
theorem dX3_cut_87 : decode cX3_cut 87 = .ok (.ifCond .ne 9, 3) := by decide +kernel
theorem dX3_cut_90 : decode cX3_cut 90 = .ok (.ldc2_w 25, 3) := by decide +kernel
theorem dX3_cut_93 : decode cX3_cut 93 = .ok (.goto 6, 3) := by decide +kernel
theorem dX3_cut_96 : decode cX3_cut 96 = .ok (.ldc2_w 27, 3) := by decide +kernel
theorem dX3_cut_99 : decode cX3_cut 99 = .ok (.lreturn, 1) := by decide +kernel
theorem dX3_cut_100 : decode cX3_cut 100 = .ok (.lload 6, 2) := by decide +kernel
theorem dX3_cut_102 : decode cX3_cut 102 = .ok (.lconst 1, 1) := by decide +kernel
theorem dX3_cut_103 : decode cX3_cut 103 = .ok (.iload 4, 2) := by decide +kernel
theorem dX3_cut_105 : decode cX3_cut 105 = .ok (.lshl, 1) := by decide +kernel
theorem dX3_cut_106 : decode cX3_cut 106 = .ok (.lconst 1, 1) := by decide +kernel
theorem dX3_cut_107 : decode cX3_cut 107 = .ok (.lsub, 1) := by decide +kernel
theorem dX3_cut_108 : decode cX3_cut 108 = .ok (.land, 1) := by decide +kernel
theorem dX3_cut_109 : decode cX3_cut 109 = .ok (.lconst 1, 1) := by decide +kernel
theorem dX3_cut_110 : decode cX3_cut 110 = .ok (.iload 4, 2) := by decide +kernel
theorem dX3_cut_112 : decode cX3_cut 112 = .ok (.lshl, 1) := by decide +kernel
theorem dX3_cut_113 : decode cX3_cut 113 = .ok (.lor, 1) := by decide +kernel
theorem dX3_cut_114 : decode cX3_cut 114 = .ok (.lstore 10, 2) := by decide +kernel
theorem dX3_cut_116 : decode cX3_cut 116 = .ok (.iload 8, 2) := by decide +kernel
theorem dX3_cut_118 : decode cX3_cut 118 = .ok (.iload 4, 2) := by decide +kernel
theorem dX3_cut_120 : decode cX3_cut 120 = .ok (.if_icmp .lt 14, 3) := by decide +kernel
theorem dX3_cut_123 : decode cX3_cut 123 = .ok (.lload 10, 2) := by decide +kernel
theorem dX3_cut_125 : decode cX3_cut 125 = .ok (.iload 8, 2) := by decide +kernel
theorem dX3_cut_127 : decode cX3_cut 127 = .ok (.iload 4, 2) := by decide +kernel
theorem dX3_cut_129 : decode cX3_cut 129 = .ok (.isub, 1) := by decide +kernel
theorem dX3_cut_130 : decode cX3_cut 130 = .ok (.lshl, 1) := by decide +kernel
theorem dX3_cut_131 : decode cX3_cut 131 = .ok (.goto 11, 3) := by decide +kernel
theorem dX3_cut_134 : decode cX3_cut 134 = .ok (.lload 10, 2) := by decide +kernel
theorem dX3_cut_136 : decode cX3_cut 136 = .ok (.iload 4, 2) := by decide +kernel
theorem dX3_cut_138 : decode cX3_cut 138 = .ok (.iload 8, 2) := by decide +kernel
theorem dX3_cut_140 : decode cX3_cut 140 = .ok (.isub, 1) := by decide +kernel
theorem dX3_cut_141 : decode cX3_cut 141 = .ok (.lushr, 1) := by decide +kernel
theorem dX3_cut_142 : decode cX3_cut 142 = .ok (.lstore 12, 2) := by decide +kernel
theorem dX3_cut_144 : decode cX3_cut 144 = .ok (.lload_n 2, 1) := by decide +kernel
theorem dX3_cut_145 : decode cX3_cut 145 = .ok (.lconst 0, 1) := by decide +kernel
theorem dX3_cut_146 : decode cX3_cut 146 = .ok (.lcmp, 1) := by decide +kernel
theorem dX3_cut_147 : decode cX3_cut 147 = .ok (.ifCond .ge 9, 3) := by decide +kernel
theorem dX3_cut_150 : decode cX3_cut 150 = .ok (.lload 12, 2) := by decide +kernel
theorem dX3_cut_152 : decode cX3_cut 152 = .ok (.lneg, 1) := by decide +kernel
theorem dX3_cut_153 : decode cX3_cut 153 = .ok (.goto 5, 3) := by decide +kernel
theorem dX3_cut_156 : decode cX3_cut 156 = .ok (.lload 12, 2) := by decide +kernel
theorem dX3_cut_158 : decode cX3_cut 158 = .ok (.lreturn, 1) := by decide +kernel
set_option maxRecDepth 20000 in
theorem ggX3_turnedInto_X3_isFloating : GoodIn wsX3_turnedInto wsX3_isFloating := goodIn_r _ [4] (by decide +kernel) (by decide +kernel)
set_option maxRecDepth 20000 in
theorem gX3_turnedInto_X3_isFloating : GoodIn wsX3_turnedInto (va_wsS RX3 37 yX3_isFloating wsX3_isFloating) := goodIn_app (goodIn_of _ (by decide +kernel)) ggX3_turnedInto_X3_isFloating
set_option maxRecDepth 20000 in
theorem ggX3_turnedInto_X3_nearest : GoodIn wsX3_turnedInto wsX3_nearest := goodIn_r _ [7, 8, 9, 3, 10, 11, 12, 13, 14, 15, 16, 17, 18, 19, 20] (by decide +kernel) (by decide +kernel)
set_option maxRecDepth 20000 in
theorem gX3_turnedInto_X3_nearest : GoodIn wsX3_turnedInto (va_wsS RX3 73 yX3_nearest wsX3_nearest) := goodIn_app (goodIn_of _ (by decide +kernel)) ggX3_turnedInto_X3_nearest
set_option maxRecDepth 20000 in
theorem ggX3_turnedInto_X3_cut : GoodIn wsX3_turnedInto wsX3_cut := goodIn_r _ [23, 24, 12, 25, 26, 13, 14, 3, 15, 27, 28, 29] (by decide +kernel) (by decide +kernel)
set_option maxRecDepth 20000 in
theorem gX3_turnedInto_X3_cut : GoodIn wsX3_turnedInto (va_wsS RX3 77 yX3_cut wsX3_cut) := goodIn_app (goodIn_of _ (by decide +kernel)) ggX3_turnedInto_X3_cut
set_option maxRecDepth 20000 in
theorem ggX3_turnedInto_X3_size : GoodIn wsX3_turnedInto wsX3_size := goodIn_r _ [29, 25, 26] (by decide +kernel) (by decide +kernel)
set_option maxRecDepth 20000 in
theorem gX3_turnedInto_X3_size : GoodIn wsX3_turnedInto (va_wsS RX3 43 yX3_size wsX3_size) := goodIn_app (goodIn_of _ (by decide +kernel)) ggX3_turnedInto_X3_size
set_option maxRecDepth 20000 in
theorem ggX3_turnedInto_X3_endless : GoodIn wsX3_turnedInto wsX3_endless := goodIn_r _ [18, 19, 20] (by decide +kernel) (by decide +kernel)
set_option maxRecDepth 20000 in
theorem gX3_turnedInto_X3_endless : GoodIn wsX3_turnedInto (va_wsS RX3 68 yX3_endless wsX3_endless) := goodIn_app (goodIn_of _ (by decide +kernel)) ggX3_turnedInto_X3_endless
set_option maxRecDepth 20000 in
theorem ggX3_turnedInto_X3_signed : GoodIn wsX3_turnedInto wsX3_signed := goodIn_r _ [10, 11, 12] (by decide +kernel) (by decide +kernel)
set_option maxRecDepth 20000 in
theorem gX3_turnedInto_X3_signed : GoodIn wsX3_turnedInto (va_wsS RX3 62 yX3_signed wsX3_signed) := goodIn_app (goodIn_of _ (by decide +kernel)) ggX3_turnedInto_X3_signed
set_option maxRecDepth 20000 in
theorem ggX3_turnedInto_X3_fractionOf : GoodIn wsX3_turnedInto wsX3_fractionOf := goodIn_r _ [15] (by decide +kernel) (by decide +kernel)
set_option maxRecDepth 20000 in
theorem gX3_turnedInto_X3_fractionOf : GoodIn wsX3_turnedInto (va_wsS RX3 54 yX3_fractionOf wsX3_fractionOf) := goodIn_app (goodIn_of _ (by decide +kernel)) ggX3_turnedInto_X3_fractionOf
theorem dX3_turnedInto_0 : decode cX3_turnedInto 0 = .ok (.iload_n 0, 1) := by decide +kernel
theorem dX3_turnedInto_1 : decode cX3_turnedInto 1 = .ok (.iload_n 1, 1) := by decide +kernel
theorem dX3_turnedInto_2 : decode cX3_turnedInto 2 = .ok (.if_icmp .ne 5, 3) := by decide +kernel
theorem dX3_turnedInto_5 : decode cX3_turnedInto 5 = .ok (.lload_n 2, 1) := by decide +kernel
theorem dX3_turnedInto_6 : decode cX3_turnedInto 6 = .ok (.lreturn, 1) := by decide +kernel
theorem dX3_turnedInto_7 : decode cX3_turnedInto 7 = .ok (.iload_n 1, 1) := by decide +kernel
theorem dX3_turnedInto_8 : decode cX3_turnedInto 8 = .ok (.invokestatic 37, 3) := by decide +kernel
theorem dX3_turnedInto_11 : decode cX3_turnedInto 11 = .ok (.ifCond .ne 47, 3) := by decide +kernel
theorem dX3_turnedInto_14 : decode cX3_turnedInto 14 = .ok (.iload_n 0, 1) := by decide +kernel
theorem dX3_turnedInto_15 : decode cX3_turnedInto 15 = .ok (.iconst 1, 1) := by decide +kernel
theorem dX3_turnedInto_16 : decode cX3_turnedInto 16 = .ok (.if_icmp .ne 5, 3) := by decide +kernel
theorem dX3_turnedInto_19 : decode cX3_turnedInto 19 = .ok (.lload_n 2, 1) := by decide +kernel
theorem dX3_turnedInto_20 : decode cX3_turnedInto 20 = .ok (.lreturn, 1) := by decide +kernel
theorem dX3_turnedInto_21 : decode cX3_turnedInto 21 = .ok (.iload_n 0, 1) := by decide +kernel
theorem dX3_turnedInto_22 : decode cX3_turnedInto 22 = .ok (.ifCond .ne 7, 3) := by decide +kernel
theorem dX3_turnedInto_25 : decode cX3_turnedInto 25 = .ok (.lload_n 2, 1) := by decide +kernel
theorem dX3_turnedInto_26 : decode cX3_turnedInto 26 = .ok (.l2i, 1) := by decide +kernel
theorem dX3_turnedInto_27 : decode cX3_turnedInto 27 = .ok (.i2l, 1) := by decide +kernel
theorem dX3_turnedInto_28 : decode cX3_turnedInto 28 = .ok (.lreturn, 1) := by decide +kernel
theorem dX3_turnedInto_29 : decode cX3_turnedInto 29 = .ok (.iload_n 0, 1) := by decide +kernel
theorem dX3_turnedInto_30 : decode cX3_turnedInto 30 = .ok (.lload_n 2, 1) := by decide +kernel
theorem dX3_turnedInto_31 : decode cX3_turnedInto 31 = .ok (.lconst 0, 1) := by decide +kernel
theorem dX3_turnedInto_32 : decode cX3_turnedInto 32 = .ok (.lcmp, 1) := by decide +kernel
theorem dX3_turnedInto_33 : decode cX3_turnedInto 33 = .ok (.ifCond .ge 7, 3) := by decide +kernel
theorem dX3_turnedInto_36 : decode cX3_turnedInto 36 = .ok (.iconst 1, 1) := by decide +kernel
theorem dX3_turnedInto_37 : decode cX3_turnedInto 37 = .ok (.goto 4, 3) := by decide +kernel
theorem dX3_turnedInto_40 : decode cX3_turnedInto 40 = .ok (.iconst 0, 1) := by decide +kernel
theorem dX3_turnedInto_41 : decode cX3_turnedInto 41 = .ok (.lload_n 2, 1) := by decide +kernel
theorem dX3_turnedInto_42 : decode cX3_turnedInto 42 = .ok (.lconst 0, 1) := by decide +kernel
theorem dX3_turnedInto_43 : decode cX3_turnedInto 43 = .ok (.lcmp, 1) := by decide +kernel
theorem dX3_turnedInto_44 : decode cX3_turnedInto 44 = .ok (.ifCond .ge 8, 3) := by decide +kernel
theorem dX3_turnedInto_47 : decode cX3_turnedInto 47 = .ok (.lload_n 2, 1) := by decide +kernel
theorem dX3_turnedInto_48 : decode cX3_turnedInto 48 = .ok (.lneg, 1) := by decide +kernel
theorem dX3_turnedInto_49 : decode cX3_turnedInto 49 = .ok (.goto 4, 3) := by decide +kernel
theorem dX3_turnedInto_52 : decode cX3_turnedInto 52 = .ok (.lload_n 2, 1) := by decide +kernel
theorem dX3_turnedInto_53 : decode cX3_turnedInto 53 = .ok (.iconst 0, 1) := by decide +kernel
theorem dX3_turnedInto_54 : decode cX3_turnedInto 54 = .ok (.invokestatic 73, 3) := by decide +kernel
theorem dX3_turnedInto_57 : decode cX3_turnedInto 57 = .ok (.lreturn, 1) := by decide +kernel
theorem dX3_turnedInto_58 : decode cX3_turnedInto 58 = .ok (.iload_n 0, 1) := by decide +kernel
theorem dX3_turnedInto_59 : decode cX3_turnedInto 59 = .ok (.invokestatic 37, 3) := by decide +kernel
theorem dX3_turnedInto_62 : decode cX3_turnedInto 62 = .ok (.ifCond .ne 10, 3) := by decide +kernel
theorem dX3_turnedInto_65 : decode cX3_turnedInto 65 = .ok (.iload_n 0, 1) := by decide +kernel
theorem dX3_turnedInto_66 : decode cX3_turnedInto 66 = .ok (.iload_n 1, 1) := by decide +kernel
theorem dX3_turnedInto_67 : decode cX3_turnedInto 67 = .ok (.lload_n 2, 1) := by decide +kernel
theorem dX3_turnedInto_68 : decode cX3_turnedInto 68 = .ok (.invokestatic 77, 3) := by decide +kernel
theorem dX3_turnedInto_71 : decode cX3_turnedInto 71 = .ok (.lreturn, 1) := by decide +kernel
theorem dX3_turnedInto_72 : decode cX3_turnedInto 72 = .ok (.iload_n 1, 1) := by decide +kernel
theorem dX3_turnedInto_73 : decode cX3_turnedInto 73 = .ok (.lload_n 2, 1) := by decide +kernel
theorem dX3_turnedInto_74 : decode cX3_turnedInto 74 = .ok (.invokestatic 43, 3) := by decide +kernel
theorem dX3_turnedInto_77 : decode cX3_turnedInto 77 = .ok (.lstore 4, 2) := by decide +kernel
theorem dX3_turnedInto_79 : decode cX3_turnedInto 79 = .ok (.lload 4, 2) := by decide +kernel
theorem dX3_turnedInto_81 : decode cX3_turnedInto 81 = .ok (.iload_n 1, 1) := by decide +kernel
theorem dX3_turnedInto_82 : decode cX3_turnedInto 82 = .ok (.invokestatic 68, 3) := by decide +kernel
theorem dX3_turnedInto_85 : decode cX3_turnedInto 85 = .ok (.lcmp, 1) := by decide +kernel
theorem dX3_turnedInto_86 : decode cX3_turnedInto 86 = .ok (.ifCond .ne 23, 3) := by decide +kernel
theorem dX3_turnedInto_89 : decode cX3_turnedInto 89 = .ok (.iload_n 0, 1) := by decide +kernel
theorem dX3_turnedInto_90 : decode cX3_turnedInto 90 = .ok (.iload_n 0, 1) := by decide +kernel
theorem dX3_turnedInto_91 : decode cX3_turnedInto 91 = .ok (.invokestatic 68, 3) := by decide +kernel
theorem dX3_turnedInto_94 : decode cX3_turnedInto 94 = .ok (.lload_n 2, 1) := by decide +kernel
theorem dX3_turnedInto_95 : decode cX3_turnedInto 95 = .ok (.lconst 0, 1) := by decide +kernel
theorem dX3_turnedInto_96 : decode cX3_turnedInto 96 = .ok (.lcmp, 1) := by decide +kernel
theorem dX3_turnedInto_97 : decode cX3_turnedInto 97 = .ok (.ifCond .ge 7, 3) := by decide +kernel
theorem dX3_turnedInto_100 : decode cX3_turnedInto 100 = .ok (.iconst 1, 1) := by decide +kernel
theorem dX3_turnedInto_101 : decode cX3_turnedInto 101 = .ok (.goto 4, 3) := by decide +kernel
theorem dX3_turnedInto_104 : decode cX3_turnedInto 104 = .ok (.iconst 0, 1) := by decide +kernel
theorem dX3_turnedInto_105 : decode cX3_turnedInto 105 = .ok (.invokestatic 62, 3) := by decide +kernel
theorem dX3_turnedInto_108 : decode cX3_turnedInto 108 = .ok (.lreturn, 1) := by decide +kernel
theorem dX3_turnedInto_109 : decode cX3_turnedInto 109 = .ok (.iload_n 1, 1) := by decide +kernel
theorem dX3_turnedInto_110 : decode cX3_turnedInto 110 = .ok (.invokestatic 54, 3) := by decide +kernel
theorem dX3_turnedInto_113 : decode cX3_turnedInto 113 = .ok (.istore 6, 2) := by decide +kernel
theorem dX3_turnedInto_115 : decode cX3_turnedInto 115 = .ok (.iload_n 1, 1) := by decide +kernel
theorem dX3_turnedInto_116 : decode cX3_turnedInto 116 = .ok (.iconst 2, 1) := by decide +kernel
theorem dX3_turnedInto_117 : decode cX3_turnedInto 117 = .ok (.if_icmp .ne 8, 3) := by decide +kernel
theorem dX3_turnedInto_120 : decode cX3_turnedInto 120 = .ok (.bipush 127, 2) := by decide +kernel
theorem dX3_turnedInto_122 : decode cX3_turnedInto 122 = .ok (.goto 6, 3) := by decide +kernel
theorem dX3_turnedInto_125 : decode cX3_turnedInto 125 = .ok (.sipush 1023, 3) := by decide +kernel
theorem dX3_turnedInto_128 : decode cX3_turnedInto 128 = .ok (.istore 7, 2) := by decide +kernel
theorem dX3_turnedInto_130 : decode cX3_turnedInto 130 = .ok (.lload 4, 2) := by decide +kernel
theorem dX3_turnedInto_132 : decode cX3_turnedInto 132 = .ok (.iload 6, 2) := by decide +kernel
theorem dX3_turnedInto_134 : decode cX3_turnedInto 134 = .ok (.lushr, 1) := by decide +kernel
theorem dX3_turnedInto_135 : decode cX3_turnedInto 135 = .ok (.l2i, 1) := by decide +kernel
theorem dX3_turnedInto_136 : decode cX3_turnedInto 136 = .ok (.istore 8, 2) := by decide +kernel
theorem dX3_turnedInto_138 : decode cX3_turnedInto 138 = .ok (.lload 4, 2) := by decide +kernel
theorem dX3_turnedInto_140 : decode cX3_turnedInto 140 = .ok (.lconst 1, 1) := by decide +kernel
theorem dX3_turnedInto_141 : decode cX3_turnedInto 141 = .ok (.iload 6, 2) := by decide +kernel
theorem dX3_turnedInto_143 : decode cX3_turnedInto 143 = .ok (.lshl, 1) := by decide +kernel
theorem dX3_turnedInto_144 : decode cX3_turnedInto 144 = .ok (.lconst 1, 1) := by decide +kernel
theorem dX3_turnedInto_145 : decode cX3_turnedInto 145 = .ok (.lsub, 1) := by decide +kernel
theorem dX3_turnedInto_146 : decode cX3_turnedInto 146 = .ok (.land, 1) := by decide +kernel
theorem dX3_turnedInto_147 : decode cX3_turnedInto 147 = .ok (.lstore 9, 2) := by decide +kernel
theorem dX3_turnedInto_149 : decode cX3_turnedInto 149 = .ok (.iload 8, 2) := by decide +kernel
theorem dX3_turnedInto_151 : decode cX3_turnedInto 151 = .ok (.ifCond .ne 30, 3) := by decide +kernel
theorem dX3_turnedInto_154 : decode cX3_turnedInto 154 = .ok (.iload_n 0, 1) := by decide +kernel
theorem dX3_turnedInto_155 : decode cX3_turnedInto 155 = .ok (.lload_n 2, 1) := by decide +kernel
theorem dX3_turnedInto_156 : decode cX3_turnedInto 156 = .ok (.lconst 0, 1) := by decide +kernel
theorem dX3_turnedInto_157 : decode cX3_turnedInto 157 = .ok (.lcmp, 1) := by decide +kernel
theorem dX3_turnedInto_158 : decode cX3_turnedInto 158 = .ok (.ifCond .ge 7, 3) := by decide +kernel
theorem dX3_turnedInto_161 : decode cX3_turnedInto 161 = .ok (.iconst 1, 1) := by decide +kernel
theorem dX3_turnedInto_162 : decode cX3_turnedInto 162 = .ok (.goto 4, 3) := by decide +kernel
theorem dX3_turnedInto_165 : decode cX3_turnedInto 165 = .ok (.iconst 0, 1) := by decide +kernel
theorem dX3_turnedInto_166 : decode cX3_turnedInto 166 = .ok (.lload 9, 2) := by decide +kernel
theorem dX3_turnedInto_168 : decode cX3_turnedInto 168 = .ok (.iconst 1, 1) := by decide +kernel
theorem dX3_turnedInto_169 : decode cX3_turnedInto 169 = .ok (.iload 7, 2) := by decide +kernel
theorem dX3_turnedInto_171 : decode cX3_turnedInto 171 = .ok (.isub, 1) := by decide +kernel
theorem dX3_turnedInto_172 : decode cX3_turnedInto 172 = .ok (.iload 6, 2) := by decide +kernel
theorem dX3_turnedInto_174 : decode cX3_turnedInto 174 = .ok (.isub, 1) := by decide +kernel
theorem dX3_turnedInto_175 : decode cX3_turnedInto 175 = .ok (.invokestatic 73, 3) := by decide +kernel
theorem dX3_turnedInto_178 : decode cX3_turnedInto 178 = .ok (.goto 33, 3) := by decide +kernel
theorem dX3_turnedInto_181 : decode cX3_turnedInto 181 = .ok (.iload_n 0, 1) := by decide +kernel
theorem dX3_turnedInto_182 : decode cX3_turnedInto 182 = .ok (.lload_n 2, 1) := by decide +kernel
theorem dX3_turnedInto_183 : decode cX3_turnedInto 183 = .ok (.lconst 0, 1) := by decide +kernel
theorem dX3_turnedInto_184 : decode cX3_turnedInto 184 = .ok (.lcmp, 1) := by decide +kernel
theorem dX3_turnedInto_185 : decode cX3_turnedInto 185 = .ok (.ifCond .ge 7, 3) := by decide +kernel
theorem dX3_turnedInto_188 : decode cX3_turnedInto 188 = .ok (.iconst 1, 1) := by decide +kernel
theorem dX3_turnedInto_189 : decode cX3_turnedInto 189 = .ok (.goto 4, 3) := by decide +kernel
theorem dX3_turnedInto_192 : decode cX3_turnedInto 192 = .ok (.iconst 0, 1) := by decide +kernel
theorem dX3_turnedInto_193 : decode cX3_turnedInto 193 = .ok (.lload 9, 2) := by decide +kernel
theorem dX3_turnedInto_195 : decode cX3_turnedInto 195 = .ok (.lconst 1, 1) := by decide +kernel
theorem dX3_turnedInto_196 : decode cX3_turnedInto 196 = .ok (.iload 6, 2) := by decide +kernel
theorem dX3_turnedInto_198 : decode cX3_turnedInto 198 = .ok (.lshl, 1) := by decide +kernel
theorem dX3_turnedInto_199 : decode cX3_turnedInto 199 = .ok (.lor, 1) := by decide +kernel
theorem dX3_turnedInto_200 : decode cX3_turnedInto 200 = .ok (.iload 8, 2) := by decide +kernel
theorem dX3_turnedInto_202 : decode cX3_turnedInto 202 = .ok (.iload 7, 2) := by decide +kernel
theorem dX3_turnedInto_204 : decode cX3_turnedInto 204 = .ok (.isub, 1) := by decide +kernel
theorem dX3_turnedInto_205 : decode cX3_turnedInto 205 = .ok (.iload 6, 2) := by decide +kernel
theorem dX3_turnedInto_207 : decode cX3_turnedInto 207 = .ok (.isub, 1) := by decide +kernel
theorem dX3_turnedInto_208 : decode cX3_turnedInto 208 = .ok (.invokestatic 73, 3) := by decide +kernel
theorem dX3_turnedInto_211 : decode cX3_turnedInto 211 = .ok (.lreturn, 1) := by decide +kernel
set_option maxRecDepth 20000 in
theorem ggX3_axis_X3_endless : GoodIn wsX3_axis wsX3_endless := goodIn_r _ [11, 12, 13] (by decide +kernel) (by decide +kernel)
set_option maxRecDepth 20000 in
theorem gX3_axis_X3_endless : GoodIn wsX3_axis (va_wsS RX3 68 yX3_endless wsX3_endless) := goodIn_app (goodIn_of _ (by decide +kernel)) ggX3_axis_X3_endless
set_option maxRecDepth 20000 in
theorem ggX3_axis_X3_signed : GoodIn wsX3_axis wsX3_signed := goodIn_r _ [16, 17, 5] (by decide +kernel) (by decide +kernel)
set_option maxRecDepth 20000 in
theorem gX3_axis_X3_signed : GoodIn wsX3_axis (va_wsS RX3 62 yX3_signed wsX3_signed) := goodIn_app (goodIn_of _ (by decide +kernel)) ggX3_axis_X3_signed
theorem dX3_axis_0 : decode cX3_axis 0 = .ok (.iload_n 1, 1) := by decide +kernel
theorem dX3_axis_1 : decode cX3_axis 1 = .ok (.ifCond .lt 17, 3) := by decide +kernel
theorem dX3_axis_4 : decode cX3_axis 4 = .ok (.iload_n 1, 1) := by decide +kernel
theorem dX3_axis_5 : decode cX3_axis 5 = .ok (.iconst 3, 1) := by decide +kernel
theorem dX3_axis_6 : decode cX3_axis 6 = .ok (.if_icmp .gt 12, 3) := by decide +kernel
theorem dX3_axis_9 : decode cX3_axis 9 = .ok (.aload_n 0, 1) := by decide +kernel
theorem dX3_axis_10 : decode cX3_axis 10 = .ok (.getfield 17, 3) := by decide +kernel
theorem dX3_axis_13 : decode cX3_axis 13 = .ok (.bipush 8, 2) := by decide +kernel
theorem dX3_axis_15 : decode cX3_axis 15 = .ok (.if_icmp .ne 5, 3) := by decide +kernel
theorem dX3_axis_18 : decode cX3_axis 18 = .ok (.iconst (-1), 1) := by decide +kernel
theorem dX3_axis_19 : decode cX3_axis 19 = .ok (.ireturn, 1) := by decide +kernel
theorem dX3_axis_20 : decode cX3_axis 20 = .ok (.iconst 5, 1) := by decide +kernel
theorem dX3_axis_21 : decode cX3_axis 21 = .ok (.aload_n 0, 1) := by decide +kernel
theorem dX3_axis_22 : decode cX3_axis 22 = .ok (.getfield 17, 3) := by decide +kernel
theorem dX3_axis_25 : decode cX3_axis 25 = .ok (.imul, 1) := by decide +kernel
theorem dX3_axis_26 : decode cX3_axis 26 = .ok (.istore_n 2, 1) := by decide +kernel
theorem dX3_axis_27 : decode cX3_axis 27 = .ok (.aload_n 0, 1) := by decide +kernel
theorem dX3_axis_28 : decode cX3_axis 28 = .ok (.getfield 7, 3) := by decide +kernel
theorem dX3_axis_31 : decode cX3_axis 31 = .ok (.aload_n 0, 1) := by decide +kernel
theorem dX3_axis_32 : decode cX3_axis 32 = .ok (.getfield 17, 3) := by decide +kernel
theorem dX3_axis_35 : decode cX3_axis 35 = .ok (.iload_n 1, 1) := by decide +kernel
theorem dX3_axis_36 : decode cX3_axis 36 = .ok (.iastore, 1) := by decide +kernel
theorem dX3_axis_37 : decode cX3_axis 37 = .ok (.aload_n 0, 1) := by decide +kernel
theorem dX3_axis_38 : decode cX3_axis 38 = .ok (.getfield 13, 3) := by decide +kernel
theorem dX3_axis_41 : decode cX3_axis 41 = .ok (.iload_n 2, 1) := by decide +kernel
theorem dX3_axis_42 : decode cX3_axis 42 = .ok (.iconst 0, 1) := by decide +kernel
theorem dX3_axis_43 : decode cX3_axis 43 = .ok (.iadd, 1) := by decide +kernel
theorem dX3_axis_44 : decode cX3_axis 44 = .ok (.lconst 0, 1) := by decide +kernel
theorem dX3_axis_45 : decode cX3_axis 45 = .ok (.lastore, 1) := by decide +kernel
theorem dX3_axis_46 : decode cX3_axis 46 = .ok (.aload_n 0, 1) := by decide +kernel
theorem dX3_axis_47 : decode cX3_axis 47 = .ok (.getfield 13, 3) := by decide +kernel
theorem dX3_axis_50 : decode cX3_axis 50 = .ok (.iload_n 2, 1) := by decide +kernel
theorem dX3_axis_51 : decode cX3_axis 51 = .ok (.iconst 3, 1) := by decide +kernel
theorem dX3_axis_52 : decode cX3_axis 52 = .ok (.iadd, 1) := by decide +kernel
theorem dX3_axis_53 : decode cX3_axis 53 = .ok (.lconst 0, 1) := by decide +kernel
theorem dX3_axis_54 : decode cX3_axis 54 = .ok (.lastore, 1) := by decide +kernel
theorem dX3_axis_55 : decode cX3_axis 55 = .ok (.aload_n 0, 1) := by decide +kernel
theorem dX3_axis_56 : decode cX3_axis 56 = .ok (.getfield 13, 3) := by decide +kernel
theorem dX3_axis_59 : decode cX3_axis 59 = .ok (.iload_n 2, 1) := by decide +kernel
theorem dX3_axis_60 : decode cX3_axis 60 = .ok (.iconst 4, 1) := by decide +kernel
theorem dX3_axis_61 : decode cX3_axis 61 = .ok (.iadd, 1) := by decide +kernel
theorem dX3_axis_62 : decode cX3_axis 62 = .ok (.lconst 0, 1) := by decide +kernel
theorem dX3_axis_63 : decode cX3_axis 63 = .ok (.lastore, 1) := by decide +kernel
theorem dX3_axis_64 : decode cX3_axis 64 = .ok (.aload_n 0, 1) := by decide +kernel
theorem dX3_axis_65 : decode cX3_axis 65 = .ok (.getfield 13, 3) := by decide +kernel
theorem dX3_axis_68 : decode cX3_axis 68 = .ok (.iload_n 2, 1) := by decide +kernel
theorem dX3_axis_69 : decode cX3_axis 69 = .ok (.iconst 1, 1) := by decide +kernel
theorem dX3_axis_70 : decode cX3_axis 70 = .ok (.iadd, 1) := by decide +kernel
theorem dX3_axis_71 : decode cX3_axis 71 = .ok (.iload_n 1, 1) := by decide +kernel
theorem dX3_axis_72 : decode cX3_axis 72 = .ok (.ifCond .ne 9, 3) := by decide +kernel
theorem dX3_axis_75 : decode cX3_axis 75 = .ok (.ldc2_w 71, 3) := by decide +kernel
theorem dX3_axis_78 : decode cX3_axis 78 = .ok (.goto 23, 3) := by decide +kernel
theorem dX3_axis_81 : decode cX3_axis 81 = .ok (.iload_n 1, 1) := by decide +kernel
theorem dX3_axis_82 : decode cX3_axis 82 = .ok (.iconst 1, 1) := by decide +kernel
theorem dX3_axis_83 : decode cX3_axis 83 = .ok (.if_icmp .ne 9, 3) := by decide +kernel
theorem dX3_axis_86 : decode cX3_axis 86 = .ok (.ldc2_w 31, 3) := by decide +kernel
theorem dX3_axis_89 : decode cX3_axis 89 = .ok (.goto 12, 3) := by decide +kernel
theorem dX3_axis_92 : decode cX3_axis 92 = .ok (.iload_n 1, 1) := by decide +kernel
theorem dX3_axis_93 : decode cX3_axis 93 = .ok (.iload_n 1, 1) := by decide +kernel
theorem dX3_axis_94 : decode cX3_axis 94 = .ok (.invokestatic 68, 3) := by decide +kernel
theorem dX3_axis_97 : decode cX3_axis 97 = .ok (.iconst 1, 1) := by decide +kernel
theorem dX3_axis_98 : decode cX3_axis 98 = .ok (.invokestatic 62, 3) := by decide +kernel
theorem dX3_axis_101 : decode cX3_axis 101 = .ok (.lastore, 1) := by decide +kernel
theorem dX3_axis_102 : decode cX3_axis 102 = .ok (.aload_n 0, 1) := by decide +kernel
theorem dX3_axis_103 : decode cX3_axis 103 = .ok (.getfield 13, 3) := by decide +kernel
theorem dX3_axis_106 : decode cX3_axis 106 = .ok (.iload_n 2, 1) := by decide +kernel
theorem dX3_axis_107 : decode cX3_axis 107 = .ok (.iconst 2, 1) := by decide +kernel
theorem dX3_axis_108 : decode cX3_axis 108 = .ok (.iadd, 1) := by decide +kernel
theorem dX3_axis_109 : decode cX3_axis 109 = .ok (.iload_n 1, 1) := by decide +kernel
theorem dX3_axis_110 : decode cX3_axis 110 = .ok (.ifCond .ne 9, 3) := by decide +kernel
theorem dX3_axis_113 : decode cX3_axis 113 = .ok (.ldc2_w 25, 3) := by decide +kernel
theorem dX3_axis_116 : decode cX3_axis 116 = .ok (.goto 18, 3) := by decide +kernel
theorem dX3_axis_119 : decode cX3_axis 119 = .ok (.iload_n 1, 1) := by decide +kernel
theorem dX3_axis_120 : decode cX3_axis 120 = .ok (.iconst 1, 1) := by decide +kernel
theorem dX3_axis_121 : decode cX3_axis 121 = .ok (.if_icmp .ne 9, 3) := by decide +kernel
theorem dX3_axis_124 : decode cX3_axis 124 = .ok (.ldc2_w 27, 3) := by decide +kernel
theorem dX3_axis_127 : decode cX3_axis 127 = .ok (.goto 7, 3) := by decide +kernel
theorem dX3_axis_130 : decode cX3_axis 130 = .ok (.iload_n 1, 1) := by decide +kernel
theorem dX3_axis_131 : decode cX3_axis 131 = .ok (.invokestatic 68, 3) := by decide +kernel
theorem dX3_axis_134 : decode cX3_axis 134 = .ok (.lastore, 1) := by decide +kernel
theorem dX3_axis_135 : decode cX3_axis 135 = .ok (.aload_n 0, 1) := by decide +kernel
theorem dX3_axis_136 : decode cX3_axis 136 = .ok (.dup, 1) := by decide +kernel
theorem dX3_axis_137 : decode cX3_axis 137 = .ok (.getfield 17, 3) := by decide +kernel
theorem dX3_axis_140 : decode cX3_axis 140 = .ok (.iconst 1, 1) := by decide +kernel
theorem dX3_axis_141 : decode cX3_axis 141 = .ok (.iadd, 1) := by decide +kernel
theorem dX3_axis_142 : decode cX3_axis 142 = .ok (.putfield 17, 3) := by decide +kernel
theorem dX3_axis_145 : decode cX3_axis 145 = .ok (.aload_n 0, 1) := by decide +kernel
theorem dX3_axis_146 : decode cX3_axis 146 = .ok (.getfield 17, 3) := by decide +kernel
theorem dX3_axis_149 : decode cX3_axis 149 = .ok (.iconst 1, 1) := by decide +kernel
theorem dX3_axis_150 : decode cX3_axis 150 = .ok (.isub, 1) := by decide +kernel
theorem dX3_axis_151 : decode cX3_axis 151 = .ok (.ireturn, 1) := by decide +kernel
set_option maxRecDepth 20000 in
theorem ggX3_set_X3_isAxis : GoodIn wsX3_set wsX3_isAxis := goodIn_r _ [7, 8, 22, 23, 24] (by decide +kernel) (by decide +kernel)
set_option maxRecDepth 20000 in
theorem gX3_set_X3_isAxis : GoodIn wsX3_set (wsV RX3 81 RX3 yX3_isAxis wsX3_isAxis) := goodIn_app (goodIn_of _ (by decide +kernel)) ggX3_set_X3_isAxis
set_option maxRecDepth 20000 in
theorem ggX3_set_X3_isFloating : GoodIn wsX3_set wsX3_isFloating := goodIn_r _ [11] (by decide +kernel) (by decide +kernel)
set_option maxRecDepth 20000 in
theorem gX3_set_X3_isFloating : GoodIn wsX3_set (va_wsS RX3 37 yX3_isFloating wsX3_isFloating) := goodIn_app (goodIn_of _ (by decide +kernel)) ggX3_set_X3_isFloating
set_option maxRecDepth 20000 in
theorem ggX3_set_X3_size : GoodIn wsX3_set wsX3_size := goodIn_r _ [14, 15, 16] (by decide +kernel) (by decide +kernel)
set_option maxRecDepth 20000 in
theorem gX3_set_X3_size : GoodIn wsX3_set (va_wsS RX3 43 yX3_size wsX3_size) := goodIn_app (goodIn_of _ (by decide +kernel)) ggX3_set_X3_size
set_option maxRecDepth 20000 in
theorem ggX3_set_X3_endless : GoodIn wsX3_set wsX3_endless := goodIn_r _ [19, 20, 21] (by decide +kernel) (by decide +kernel)
set_option maxRecDepth 20000 in
theorem gX3_set_X3_endless : GoodIn wsX3_set (va_wsS RX3 68 yX3_endless wsX3_endless) := goodIn_app (goodIn_of _ (by decide +kernel)) ggX3_set_X3_endless
theorem dX3_set_0 : decode cX3_set 0 = .ok (.aload_n 0, 1) := by decide +kernel
theorem dX3_set_1 : decode cX3_set 1 = .ok (.iload_n 1, 1) := by decide +kernel
theorem dX3_set_2 : decode cX3_set 2 = .ok (.invokevirtual 81, 3) := by decide +kernel
theorem dX3_set_5 : decode cX3_set 5 = .ok (.ifCond .eq 12, 3) := by decide +kernel
theorem dX3_set_8 : decode cX3_set 8 = .ok (.iload_n 2, 1) := by decide +kernel
theorem dX3_set_9 : decode cX3_set 9 = .ok (.ifCond .lt 8, 3) := by decide +kernel
theorem dX3_set_12 : decode cX3_set 12 = .ok (.iload_n 2, 1) := by decide +kernel
theorem dX3_set_13 : decode cX3_set 13 = .ok (.iconst 4, 1) := by decide +kernel
theorem dX3_set_14 : decode cX3_set 14 = .ok (.if_icmp .le 5, 3) := by decide +kernel
theorem dX3_set_17 : decode cX3_set 17 = .ok (.iconst 0, 1) := by decide +kernel
theorem dX3_set_18 : decode cX3_set 18 = .ok (.ireturn, 1) := by decide +kernel
theorem dX3_set_19 : decode cX3_set 19 = .ok (.aload_n 0, 1) := by decide +kernel
theorem dX3_set_20 : decode cX3_set 20 = .ok (.getfield 7, 3) := by decide +kernel
theorem dX3_set_23 : decode cX3_set 23 = .ok (.iload_n 1, 1) := by decide +kernel
theorem dX3_set_24 : decode cX3_set 24 = .ok (.iaload, 1) := by decide +kernel
theorem dX3_set_25 : decode cX3_set 25 = .ok (.istore 5, 2) := by decide +kernel
theorem dX3_set_27 : decode cX3_set 27 = .ok (.iload 5, 2) := by decide +kernel
theorem dX3_set_29 : decode cX3_set 29 = .ok (.ifCond .eq 9, 3) := by decide +kernel
theorem dX3_set_32 : decode cX3_set 32 = .ok (.iload 5, 2) := by decide +kernel
theorem dX3_set_34 : decode cX3_set 34 = .ok (.iconst 2, 1) := by decide +kernel
theorem dX3_set_35 : decode cX3_set 35 = .ok (.if_icmp .ne 9, 3) := by decide +kernel
theorem dX3_set_38 : decode cX3_set 38 = .ok (.lload_n 3, 1) := by decide +kernel
theorem dX3_set_39 : decode cX3_set 39 = .ok (.l2i, 1) := by decide +kernel
theorem dX3_set_40 : decode cX3_set 40 = .ok (.i2l, 1) := by decide +kernel
theorem dX3_set_41 : decode cX3_set 41 = .ok (.goto 4, 3) := by decide +kernel
theorem dX3_set_44 : decode cX3_set 44 = .ok (.lload_n 3, 1) := by decide +kernel
theorem dX3_set_45 : decode cX3_set 45 = .ok (.lstore 6, 2) := by decide +kernel
theorem dX3_set_47 : decode cX3_set 47 = .ok (.iload 5, 2) := by decide +kernel
theorem dX3_set_49 : decode cX3_set 49 = .ok (.invokestatic 37, 3) := by decide +kernel
theorem dX3_set_52 : decode cX3_set 52 = .ok (.ifCond .eq 21, 3) := by decide +kernel
theorem dX3_set_55 : decode cX3_set 55 = .ok (.iload 5, 2) := by decide +kernel
theorem dX3_set_57 : decode cX3_set 57 = .ok (.lload 6, 2) := by decide +kernel
theorem dX3_set_59 : decode cX3_set 59 = .ok (.invokestatic 43, 3) := by decide +kernel
theorem dX3_set_62 : decode cX3_set 62 = .ok (.iload 5, 2) := by decide +kernel
theorem dX3_set_64 : decode cX3_set 64 = .ok (.invokestatic 68, 3) := by decide +kernel
theorem dX3_set_67 : decode cX3_set 67 = .ok (.lcmp, 1) := by decide +kernel
theorem dX3_set_68 : decode cX3_set 68 = .ok (.ifCond .le 5, 3) := by decide +kernel
theorem dX3_set_71 : decode cX3_set 71 = .ok (.iconst 0, 1) := by decide +kernel
theorem dX3_set_72 : decode cX3_set 72 = .ok (.ireturn, 1) := by decide +kernel
theorem dX3_set_73 : decode cX3_set 73 = .ok (.aload_n 0, 1) := by decide +kernel
theorem dX3_set_74 : decode cX3_set 74 = .ok (.getfield 13, 3) := by decide +kernel
theorem dX3_set_77 : decode cX3_set 77 = .ok (.iconst 5, 1) := by decide +kernel
theorem dX3_set_78 : decode cX3_set 78 = .ok (.iload_n 1, 1) := by decide +kernel
theorem dX3_set_79 : decode cX3_set 79 = .ok (.imul, 1) := by decide +kernel
theorem dX3_set_80 : decode cX3_set 80 = .ok (.iload_n 2, 1) := by decide +kernel
theorem dX3_set_81 : decode cX3_set 81 = .ok (.iadd, 1) := by decide +kernel
theorem dX3_set_82 : decode cX3_set 82 = .ok (.lload 6, 2) := by decide +kernel
theorem dX3_set_84 : decode cX3_set 84 = .ok (.lastore, 1) := by decide +kernel
theorem dX3_set_85 : decode cX3_set 85 = .ok (.iconst 1, 1) := by decide +kernel
theorem dX3_set_86 : decode cX3_set 86 = .ok (.ireturn, 1) := by decide +kernel
set_option maxRecDepth 20000 in
theorem ggX3_bits_X3_isAxis : GoodIn wsX3_bits wsX3_isAxis := goodIn_r _ [6, 7, 8, 9, 10] (by decide +kernel) (by decide +kernel)
set_option maxRecDepth 20000 in
theorem gX3_bits_X3_isAxis : GoodIn wsX3_bits (wsV RX3 81 RX3 yX3_isAxis wsX3_isAxis) := goodIn_app (goodIn_of _ (by decide +kernel)) ggX3_bits_X3_isAxis
theorem dX3_bits_0 : decode cX3_bits 0 = .ok (.aload_n 0, 1) := by decide +kernel
theorem dX3_bits_1 : decode cX3_bits 1 = .ok (.iload_n 1, 1) := by decide +kernel
theorem dX3_bits_2 : decode cX3_bits 2 = .ok (.invokevirtual 81, 3) := by decide +kernel
theorem dX3_bits_5 : decode cX3_bits 5 = .ok (.ifCond .eq 25, 3) := by decide +kernel
theorem dX3_bits_8 : decode cX3_bits 8 = .ok (.iload_n 2, 1) := by decide +kernel
theorem dX3_bits_9 : decode cX3_bits 9 = .ok (.ifCond .lt 21, 3) := by decide +kernel
theorem dX3_bits_12 : decode cX3_bits 12 = .ok (.iload_n 2, 1) := by decide +kernel
theorem dX3_bits_13 : decode cX3_bits 13 = .ok (.iconst 4, 1) := by decide +kernel
theorem dX3_bits_14 : decode cX3_bits 14 = .ok (.if_icmp .gt 16, 3) := by decide +kernel
theorem dX3_bits_17 : decode cX3_bits 17 = .ok (.aload_n 0, 1) := by decide +kernel
theorem dX3_bits_18 : decode cX3_bits 18 = .ok (.getfield 13, 3) := by decide +kernel
theorem dX3_bits_21 : decode cX3_bits 21 = .ok (.iconst 5, 1) := by decide +kernel
theorem dX3_bits_22 : decode cX3_bits 22 = .ok (.iload_n 1, 1) := by decide +kernel
theorem dX3_bits_23 : decode cX3_bits 23 = .ok (.imul, 1) := by decide +kernel
theorem dX3_bits_24 : decode cX3_bits 24 = .ok (.iload_n 2, 1) := by decide +kernel
theorem dX3_bits_25 : decode cX3_bits 25 = .ok (.iadd, 1) := by decide +kernel
theorem dX3_bits_26 : decode cX3_bits 26 = .ok (.laload, 1) := by decide +kernel
theorem dX3_bits_27 : decode cX3_bits 27 = .ok (.goto 4, 3) := by decide +kernel
theorem dX3_bits_30 : decode cX3_bits 30 = .ok (.lconst 0, 1) := by decide +kernel
theorem dX3_bits_31 : decode cX3_bits 31 = .ok (.lreturn, 1) := by decide +kernel
set_option maxRecDepth 20000 in
theorem ggX3_orders_X3_isAxis : GoodIn wsX3_orders wsX3_isAxis := goodIn_r _ [6, 7, 60, 61, 62] (by decide +kernel) (by decide +kernel)
set_option maxRecDepth 20000 in
theorem gX3_orders_X3_isAxis : GoodIn wsX3_orders (wsV RX3 81 RX3 yX3_isAxis wsX3_isAxis) := goodIn_app (goodIn_of _ (by decide +kernel)) ggX3_orders_X3_isAxis
set_option maxRecDepth 20000 in
theorem ggX3_orders_X3_does : GoodIn wsX3_orders wsX3_does := goodIn_r _ [11, 12, 13, 14, 5, 15, 16, 17, 18, 19, 20, 21, 22, 23, 24, 25, 26, 27, 28, 29, 30, 31, 32, 33, 34, 35, 36, 37, 38, 39, 40, 41, 42, 43, 44, 45, 46, 47, 48, 49, 50, 51, 52, 53, 54, 55, 56, 57, 58, 59, 60, 61, 62] (by decide +kernel) (by decide +kernel)
set_option maxRecDepth 20000 in
theorem gX3_orders_X3_does : GoodIn wsX3_orders (wsV RX3 84 RX3 yX3_does wsX3_does) := goodIn_app (goodIn_of _ (by decide +kernel)) ggX3_orders_X3_does
theorem dX3_orders_0 : decode cX3_orders 0 = .ok (.aload_n 0, 1) := by decide +kernel
theorem dX3_orders_1 : decode cX3_orders 1 = .ok (.iload_n 1, 1) := by decide +kernel
theorem dX3_orders_2 : decode cX3_orders 2 = .ok (.invokevirtual 81, 3) := by decide +kernel
theorem dX3_orders_5 : decode cX3_orders 5 = .ok (.ifCond .ne 5, 3) := by decide +kernel
theorem dX3_orders_8 : decode cX3_orders 8 = .ok (.iconst (-1), 1) := by decide +kernel
theorem dX3_orders_9 : decode cX3_orders 9 = .ok (.ireturn, 1) := by decide +kernel
theorem dX3_orders_10 : decode cX3_orders 10 = .ok (.iconst 0, 1) := by decide +kernel
theorem dX3_orders_11 : decode cX3_orders 11 = .ok (.istore_n 3, 1) := by decide +kernel
theorem dX3_orders_12 : decode cX3_orders 12 = .ok (.iload_n 3, 1) := by decide +kernel
theorem dX3_orders_13 : decode cX3_orders 13 = .ok (.bipush 8, 2) := by decide +kernel
theorem dX3_orders_15 : decode cX3_orders 15 = .ok (.if_icmp .ge 35, 3) := by decide +kernel
theorem dX3_orders_18 : decode cX3_orders 18 = .ok (.iload_n 2, 1) := by decide +kernel
theorem dX3_orders_19 : decode cX3_orders 19 = .ok (.iconst 4, 1) := by decide +kernel
theorem dX3_orders_20 : decode cX3_orders 20 = .ok (.iload_n 3, 1) := by decide +kernel
theorem dX3_orders_21 : decode cX3_orders 21 = .ok (.imul, 1) := by decide +kernel
theorem dX3_orders_22 : decode cX3_orders 22 = .ok (.iushr, 1) := by decide +kernel
theorem dX3_orders_23 : decode cX3_orders 23 = .ok (.bipush 15, 2) := by decide +kernel
theorem dX3_orders_25 : decode cX3_orders 25 = .ok (.iand, 1) := by decide +kernel
theorem dX3_orders_26 : decode cX3_orders 26 = .ok (.ifCond .eq 24, 3) := by decide +kernel
theorem dX3_orders_29 : decode cX3_orders 29 = .ok (.iload_n 2, 1) := by decide +kernel
theorem dX3_orders_30 : decode cX3_orders 30 = .ok (.iconst 4, 1) := by decide +kernel
theorem dX3_orders_31 : decode cX3_orders 31 = .ok (.iload_n 3, 1) := by decide +kernel
theorem dX3_orders_32 : decode cX3_orders 32 = .ok (.imul, 1) := by decide +kernel
theorem dX3_orders_33 : decode cX3_orders 33 = .ok (.iushr, 1) := by decide +kernel
theorem dX3_orders_34 : decode cX3_orders 34 = .ok (.bipush 15, 2) := by decide +kernel
theorem dX3_orders_36 : decode cX3_orders 36 = .ok (.iand, 1) := by decide +kernel
theorem dX3_orders_37 : decode cX3_orders 37 = .ok (.bipush 13, 2) := by decide +kernel
theorem dX3_orders_39 : decode cX3_orders 39 = .ok (.if_icmp .le 5, 3) := by decide +kernel
theorem dX3_orders_42 : decode cX3_orders 42 = .ok (.iconst (-1), 1) := by decide +kernel
theorem dX3_orders_43 : decode cX3_orders 43 = .ok (.ireturn, 1) := by decide +kernel
theorem dX3_orders_44 : decode cX3_orders 44 = .ok (.iinc 3 1, 3) := by decide +kernel
theorem dX3_orders_47 : decode cX3_orders 47 = .ok (.goto (-35), 3) := by decide +kernel
theorem dX3_orders_50 : decode cX3_orders 50 = .ok (.iconst 0, 1) := by decide +kernel
theorem dX3_orders_51 : decode cX3_orders 51 = .ok (.istore 4, 2) := by decide +kernel
theorem dX3_orders_53 : decode cX3_orders 53 = .ok (.iload 4, 2) := by decide +kernel
theorem dX3_orders_55 : decode cX3_orders 55 = .ok (.iload_n 3, 1) := by decide +kernel
theorem dX3_orders_56 : decode cX3_orders 56 = .ok (.if_icmp .ge 31, 3) := by decide +kernel
theorem dX3_orders_59 : decode cX3_orders 59 = .ok (.aload_n 0, 1) := by decide +kernel
theorem dX3_orders_60 : decode cX3_orders 60 = .ok (.aload_n 0, 1) := by decide +kernel
theorem dX3_orders_61 : decode cX3_orders 61 = .ok (.getfield 7, 3) := by decide +kernel
theorem dX3_orders_64 : decode cX3_orders 64 = .ok (.iload_n 1, 1) := by decide +kernel
theorem dX3_orders_65 : decode cX3_orders 65 = .ok (.iaload, 1) := by decide +kernel
theorem dX3_orders_66 : decode cX3_orders 66 = .ok (.iconst 5, 1) := by decide +kernel
theorem dX3_orders_67 : decode cX3_orders 67 = .ok (.iload_n 1, 1) := by decide +kernel
theorem dX3_orders_68 : decode cX3_orders 68 = .ok (.imul, 1) := by decide +kernel
theorem dX3_orders_69 : decode cX3_orders 69 = .ok (.iload_n 2, 1) := by decide +kernel
theorem dX3_orders_70 : decode cX3_orders 70 = .ok (.iconst 4, 1) := by decide +kernel
theorem dX3_orders_71 : decode cX3_orders 71 = .ok (.iload 4, 2) := by decide +kernel
theorem dX3_orders_73 : decode cX3_orders 73 = .ok (.imul, 1) := by decide +kernel
theorem dX3_orders_74 : decode cX3_orders 74 = .ok (.iushr, 1) := by decide +kernel
theorem dX3_orders_75 : decode cX3_orders 75 = .ok (.bipush 15, 2) := by decide +kernel
theorem dX3_orders_77 : decode cX3_orders 77 = .ok (.iand, 1) := by decide +kernel
theorem dX3_orders_78 : decode cX3_orders 78 = .ok (.invokevirtual 84, 3) := by decide +kernel
theorem dX3_orders_81 : decode cX3_orders 81 = .ok (.iinc 4 1, 3) := by decide +kernel
theorem dX3_orders_84 : decode cX3_orders 84 = .ok (.goto (-31), 3) := by decide +kernel
theorem dX3_orders_87 : decode cX3_orders 87 = .ok (.iload_n 3, 1) := by decide +kernel
theorem dX3_orders_88 : decode cX3_orders 88 = .ok (.ireturn, 1) := by decide +kernel
set_option maxRecDepth 20000 in
theorem ggX3_does_X3_lesser : GoodIn wsX3_does wsX3_lesser := goodIn_r _ [5, 6, 7, 4, 8, 9, 10, 11, 12, 13, 14, 15, 16, 17, 18, 19, 20] (by decide +kernel) (by decide +kernel)
set_option maxRecDepth 20000 in
theorem gX3_does_X3_lesser : GoodIn wsX3_does (va_wsS RX3 88 yX3_lesser wsX3_lesser) := goodIn_app (goodIn_of _ (by decide +kernel)) ggX3_does_X3_lesser
set_option maxRecDepth 20000 in
theorem ggX3_does_X3_greater : GoodIn wsX3_does wsX3_greater := goodIn_r _ [23, 6, 7, 4, 8, 9, 10, 11, 12, 13, 14, 15, 16, 17, 18, 19, 20] (by decide +kernel) (by decide +kernel)
set_option maxRecDepth 20000 in
theorem gX3_does_X3_greater : GoodIn wsX3_does (va_wsS RX3 92 yX3_greater wsX3_greater) := goodIn_app (goodIn_of _ (by decide +kernel)) ggX3_does_X3_greater
set_option maxRecDepth 20000 in
theorem ggX3_does_X3_sized : GoodIn wsX3_does wsX3_sized := goodIn_r _ [26, 13, 14, 4, 15, 16, 17, 18, 19, 20] (by decide +kernel) (by decide +kernel)
set_option maxRecDepth 20000 in
theorem gX3_does_X3_sized : GoodIn wsX3_does (va_wsS RX3 95 yX3_sized wsX3_sized) := goodIn_app (goodIn_of _ (by decide +kernel)) ggX3_does_X3_sized
set_option maxRecDepth 20000 in
theorem ggX3_does_X3_stepped : GoodIn wsX3_does wsX3_stepped := goodIn_r _ [29, 30, 13, 14, 4, 15, 31, 32, 33, 16, 17, 18, 19, 20, 34, 35, 36, 37, 38, 39, 40, 41, 42, 43] (by decide +kernel) (by decide +kernel)
set_option maxRecDepth 20000 in
theorem gX3_does_X3_stepped : GoodIn wsX3_does (va_wsS RX3 98 yX3_stepped wsX3_stepped) := goodIn_app (goodIn_of _ (by decide +kernel)) ggX3_does_X3_stepped
set_option maxRecDepth 20000 in
theorem ggX3_does_X3_wayOf : GoodIn wsX3_does wsX3_wayOf := goodIn_r _ [46, 12, 13, 14, 4, 15, 16, 17, 18, 19, 20, 34, 35, 36, 37, 38, 39, 40, 41, 42, 43] (by decide +kernel) (by decide +kernel)
set_option maxRecDepth 20000 in
theorem gX3_does_X3_wayOf : GoodIn wsX3_does (va_wsS RX3 102 yX3_wayOf wsX3_wayOf) := goodIn_app (goodIn_of _ (by decide +kernel)) ggX3_does_X3_wayOf
set_option maxRecDepth 20000 in
theorem ggX3_does_X3_turned : GoodIn wsX3_does wsX3_turned := goodIn_r _ [49, 13, 14, 4, 15, 16, 17, 18, 19, 20, 39, 40, 41, 42, 43, 24, 25, 26] (by decide +kernel) (by decide +kernel)
set_option maxRecDepth 20000 in
theorem gX3_does_X3_turned : GoodIn wsX3_does (va_wsS RX3 105 yX3_turned wsX3_turned) := goodIn_app (goodIn_of _ (by decide +kernel)) ggX3_does_X3_turned
set_option maxRecDepth 20000 in
theorem ggX3_does_X3_isFloating : GoodIn wsX3_does wsX3_isFloating := goodIn_r _ [15] (by decide +kernel) (by decide +kernel)
set_option maxRecDepth 20000 in
theorem gX3_does_X3_isFloating : GoodIn wsX3_does (va_wsS RX3 37 yX3_isFloating wsX3_isFloating) := goodIn_app (goodIn_of _ (by decide +kernel)) ggX3_does_X3_isFloating
set_option maxRecDepth 20000 in
theorem ggX3_does_X3_signed : GoodIn wsX3_does wsX3_signed := goodIn_r _ [41, 42, 43] (by decide +kernel) (by decide +kernel)
set_option maxRecDepth 20000 in
theorem gX3_does_X3_signed : GoodIn wsX3_does (va_wsS RX3 62 yX3_signed wsX3_signed) := goodIn_app (goodIn_of _ (by decide +kernel)) ggX3_does_X3_signed
theorem dX3_does_0 : decode cX3_does 0 = .ok (.aload_n 0, 1) := by decide +kernel
theorem dX3_does_1 : decode cX3_does 1 = .ok (.getfield 13, 3) := by decide +kernel
theorem dX3_does_4 : decode cX3_does 4 = .ok (.iload_n 2, 1) := by decide +kernel
theorem dX3_does_5 : decode cX3_does 5 = .ok (.iconst 0, 1) := by decide +kernel
theorem dX3_does_6 : decode cX3_does 6 = .ok (.iadd, 1) := by decide +kernel
theorem dX3_does_7 : decode cX3_does 7 = .ok (.laload, 1) := by decide +kernel
theorem dX3_does_8 : decode cX3_does 8 = .ok (.lstore 4, 2) := by decide +kernel
theorem dX3_does_10 : decode cX3_does 10 = .ok (.aload_n 0, 1) := by decide +kernel
theorem dX3_does_11 : decode cX3_does 11 = .ok (.getfield 13, 3) := by decide +kernel
theorem dX3_does_14 : decode cX3_does 14 = .ok (.iload_n 2, 1) := by decide +kernel
theorem dX3_does_15 : decode cX3_does 15 = .ok (.iconst 1, 1) := by decide +kernel
theorem dX3_does_16 : decode cX3_does 16 = .ok (.iadd, 1) := by decide +kernel
theorem dX3_does_17 : decode cX3_does 17 = .ok (.laload, 1) := by decide +kernel
theorem dX3_does_18 : decode cX3_does 18 = .ok (.lstore 6, 2) := by decide +kernel
theorem dX3_does_20 : decode cX3_does 20 = .ok (.aload_n 0, 1) := by decide +kernel
theorem dX3_does_21 : decode cX3_does 21 = .ok (.getfield 13, 3) := by decide +kernel
theorem dX3_does_24 : decode cX3_does 24 = .ok (.iload_n 2, 1) := by decide +kernel
theorem dX3_does_25 : decode cX3_does 25 = .ok (.iconst 2, 1) := by decide +kernel
theorem dX3_does_26 : decode cX3_does 26 = .ok (.iadd, 1) := by decide +kernel
theorem dX3_does_27 : decode cX3_does 27 = .ok (.laload, 1) := by decide +kernel
theorem dX3_does_28 : decode cX3_does 28 = .ok (.lstore 8, 2) := by decide +kernel
theorem dX3_does_30 : decode cX3_does 30 = .ok (.iload_n 3, 1) := by decide +kernel
theorem dX3_does_31 : decode cX3_does 31 = .ok (.tableswitch 364 1 12 #[61, 86, 103, 121, 139, 157, 174, 199, 234, 295, 328, 351], 61) := by decide +kernel
theorem dX3_does_92 : decode cX3_does 92 = .ok (.aload_n 0, 1) := by decide +kernel
theorem dX3_does_93 : decode cX3_does 93 = .ok (.getfield 13, 3) := by decide +kernel
theorem dX3_does_96 : decode cX3_does 96 = .ok (.iload_n 2, 1) := by decide +kernel
theorem dX3_does_97 : decode cX3_does 97 = .ok (.iconst 0, 1) := by decide +kernel
theorem dX3_does_98 : decode cX3_does 98 = .ok (.iadd, 1) := by decide +kernel
theorem dX3_does_99 : decode cX3_does 99 = .ok (.iload_n 1, 1) := by decide +kernel
theorem dX3_does_100 : decode cX3_does 100 = .ok (.lload 6, 2) := by decide +kernel
theorem dX3_does_102 : decode cX3_does 102 = .ok (.iload_n 1, 1) := by decide +kernel
theorem dX3_does_103 : decode cX3_does 103 = .ok (.lload 8, 2) := by decide +kernel
theorem dX3_does_105 : decode cX3_does 105 = .ok (.lload 4, 2) := by decide +kernel
theorem dX3_does_107 : decode cX3_does 107 = .ok (.invokestatic 88, 3) := by decide +kernel
theorem dX3_does_110 : decode cX3_does 110 = .ok (.invokestatic 92, 3) := by decide +kernel
theorem dX3_does_113 : decode cX3_does 113 = .ok (.lastore, 1) := by decide +kernel
theorem dX3_does_114 : decode cX3_does 114 = .ok (.goto 291, 3) := by decide +kernel
theorem dX3_does_117 : decode cX3_does 117 = .ok (.aload_n 0, 1) := by decide +kernel
theorem dX3_does_118 : decode cX3_does 118 = .ok (.getfield 13, 3) := by decide +kernel
