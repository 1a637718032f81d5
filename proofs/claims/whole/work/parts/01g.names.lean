theorem dX3_join_77 : decode cX3_join 77 = .ok (.ireturn, 1) := by decide +kernel
theorem dX3_join_78 : decode cX3_join 78 = .ok (.aload_n 0, 1) := by decide +kernel
theorem dX3_join_79 : decode cX3_join 79 = .ok (.getfield 13, 3) := by decide +kernel
theorem dX3_join_82 : decode cX3_join 82 = .ok (.iload_n 1, 1) := by decide +kernel
theorem dX3_join_83 : decode cX3_join 83 = .ok (.iaload, 1) := by decide +kernel
theorem dX3_join_84 : decode cX3_join 84 = .ok (.istore 4, 2) := by decide +kernel
theorem dX3_join_86 : decode cX3_join 86 = .ok (.aload_n 0, 1) := by decide +kernel
theorem dX3_join_87 : decode cX3_join 87 = .ok (.getfield 13, 3) := by decide +kernel
theorem dX3_join_90 : decode cX3_join 90 = .ok (.iload_n 2, 1) := by decide +kernel
theorem dX3_join_91 : decode cX3_join 91 = .ok (.iaload, 1) := by decide +kernel
theorem dX3_join_92 : decode cX3_join 92 = .ok (.istore 5, 2) := by decide +kernel
theorem dX3_join_94 : decode cX3_join 94 = .ok (.iload 4, 2) := by decide +kernel
theorem dX3_join_96 : decode cX3_join 96 = .ok (.iload 5, 2) := by decide +kernel
theorem dX3_join_98 : decode cX3_join 98 = .ok (.iadd, 1) := by decide +kernel
theorem dX3_join_99 : decode cX3_join 99 = .ok (.bipush 8, 2) := by decide +kernel
theorem dX3_join_101 : decode cX3_join 101 = .ok (.if_icmp .le 8, 3) := by decide +kernel
theorem dX3_join_104 : decode cX3_join 104 = .ok (.iconst 5, 1) := by decide +kernel
theorem dX3_join_105 : decode cX3_join 105 = .ok (.invokestatic 75, 3) := by decide +kernel
theorem dX3_join_108 : decode cX3_join 108 = .ok (.ireturn, 1) := by decide +kernel
theorem dX3_join_109 : decode cX3_join 109 = .ok (.iconst 0, 1) := by decide +kernel
theorem dX3_join_110 : decode cX3_join 110 = .ok (.istore 6, 2) := by decide +kernel
theorem dX3_join_112 : decode cX3_join 112 = .ok (.iload 6, 2) := by decide +kernel
theorem dX3_join_114 : decode cX3_join 114 = .ok (.iload 5, 2) := by decide +kernel
theorem dX3_join_116 : decode cX3_join 116 = .ok (.if_icmp .ge 48, 3) := by decide +kernel
theorem dX3_join_119 : decode cX3_join 119 = .ok (.iload_n 3, 1) := by decide +kernel
theorem dX3_join_120 : decode cX3_join 120 = .ok (.ifCond .eq 44, 3) := by decide +kernel
theorem dX3_join_123 : decode cX3_join 123 = .ok (.aload_n 0, 1) := by decide +kernel
theorem dX3_join_124 : decode cX3_join 124 = .ok (.getfield 23, 3) := by decide +kernel
theorem dX3_join_127 : decode cX3_join 127 = .ok (.bipush 8, 2) := by decide +kernel
theorem dX3_join_129 : decode cX3_join 129 = .ok (.iload_n 2, 1) := by decide +kernel
theorem dX3_join_130 : decode cX3_join 130 = .ok (.imul, 1) := by decide +kernel
theorem dX3_join_131 : decode cX3_join 131 = .ok (.iload 6, 2) := by decide +kernel
theorem dX3_join_133 : decode cX3_join 133 = .ok (.iadd, 1) := by decide +kernel
theorem dX3_join_134 : decode cX3_join 134 = .ok (.iaload, 1) := by decide +kernel
theorem dX3_join_135 : decode cX3_join 135 = .ok (.istore 7, 2) := by decide +kernel
theorem dX3_join_137 : decode cX3_join 137 = .ok (.iload 7, 2) := by decide +kernel
theorem dX3_join_139 : decode cX3_join 139 = .ok (.iconst (-1), 1) := by decide +kernel
theorem dX3_join_140 : decode cX3_join 140 = .ok (.if_icmp .eq 18, 3) := by decide +kernel
theorem dX3_join_143 : decode cX3_join 143 = .ok (.aload_n 0, 1) := by decide +kernel
theorem dX3_join_144 : decode cX3_join 144 = .ok (.iload_n 1, 1) := by decide +kernel
theorem dX3_join_145 : decode cX3_join 145 = .ok (.iload 7, 2) := by decide +kernel
theorem dX3_join_147 : decode cX3_join 147 = .ok (.invokevirtual 82, 3) := by decide +kernel
theorem dX3_join_150 : decode cX3_join 150 = .ok (.ifCond .ne 8, 3) := by decide +kernel
theorem dX3_join_153 : decode cX3_join 153 = .ok (.iconst 4, 1) := by decide +kernel
theorem dX3_join_154 : decode cX3_join 154 = .ok (.invokestatic 75, 3) := by decide +kernel
theorem dX3_join_157 : decode cX3_join 157 = .ok (.ireturn, 1) := by decide +kernel
theorem dX3_join_158 : decode cX3_join 158 = .ok (.iinc 6 1, 3) := by decide +kernel
theorem dX3_join_161 : decode cX3_join 161 = .ok (.goto (-49), 3) := by decide +kernel
theorem dX3_join_164 : decode cX3_join 164 = .ok (.aload_n 0, 1) := by decide +kernel
theorem dX3_join_165 : decode cX3_join 165 = .ok (.aload_n 0, 1) := by decide +kernel
theorem dX3_join_166 : decode cX3_join 166 = .ok (.getfield 7, 3) := by decide +kernel
theorem dX3_join_169 : decode cX3_join 169 = .ok (.iload_n 1, 1) := by decide +kernel
theorem dX3_join_170 : decode cX3_join 170 = .ok (.iaload, 1) := by decide +kernel
theorem dX3_join_171 : decode cX3_join 171 = .ok (.iload 4, 2) := by decide +kernel
theorem dX3_join_173 : decode cX3_join 173 = .ok (.iload 5, 2) := by decide +kernel
theorem dX3_join_175 : decode cX3_join 175 = .ok (.iadd, 1) := by decide +kernel
theorem dX3_join_176 : decode cX3_join 176 = .ok (.invokevirtual 53, 3) := by decide +kernel
theorem dX3_join_179 : decode cX3_join 179 = .ok (.istore 6, 2) := by decide +kernel
theorem dX3_join_181 : decode cX3_join 181 = .ok (.iconst 0, 1) := by decide +kernel
theorem dX3_join_182 : decode cX3_join 182 = .ok (.istore 7, 2) := by decide +kernel
theorem dX3_join_184 : decode cX3_join 184 = .ok (.iload 7, 2) := by decide +kernel
theorem dX3_join_186 : decode cX3_join 186 = .ok (.iload 4, 2) := by decide +kernel
theorem dX3_join_188 : decode cX3_join 188 = .ok (.iload 5, 2) := by decide +kernel
theorem dX3_join_190 : decode cX3_join 190 = .ok (.iadd, 1) := by decide +kernel
theorem dX3_join_191 : decode cX3_join 191 = .ok (.if_icmp .ge 78, 3) := by decide +kernel
theorem dX3_join_194 : decode cX3_join 194 = .ok (.iload 7, 2) := by decide +kernel
theorem dX3_join_196 : decode cX3_join 196 = .ok (.iload 4, 2) := by decide +kernel
theorem dX3_join_198 : decode cX3_join 198 = .ok (.if_icmp .ge 13, 3) := by decide +kernel
theorem dX3_join_201 : decode cX3_join 201 = .ok (.bipush 8, 2) := by decide +kernel
theorem dX3_join_203 : decode cX3_join 203 = .ok (.iload_n 1, 1) := by decide +kernel
theorem dX3_join_204 : decode cX3_join 204 = .ok (.imul, 1) := by decide +kernel
theorem dX3_join_205 : decode cX3_join 205 = .ok (.iload 7, 2) := by decide +kernel
theorem dX3_join_207 : decode cX3_join 207 = .ok (.iadd, 1) := by decide +kernel
theorem dX3_join_208 : decode cX3_join 208 = .ok (.goto 13, 3) := by decide +kernel
theorem dX3_join_211 : decode cX3_join 211 = .ok (.bipush 8, 2) := by decide +kernel
theorem dX3_join_213 : decode cX3_join 213 = .ok (.iload_n 2, 1) := by decide +kernel
theorem dX3_join_214 : decode cX3_join 214 = .ok (.imul, 1) := by decide +kernel
theorem dX3_join_215 : decode cX3_join 215 = .ok (.iload 7, 2) := by decide +kernel
theorem dX3_join_217 : decode cX3_join 217 = .ok (.iadd, 1) := by decide +kernel
theorem dX3_join_218 : decode cX3_join 218 = .ok (.iload 4, 2) := by decide +kernel
theorem dX3_join_220 : decode cX3_join 220 = .ok (.isub, 1) := by decide +kernel
theorem dX3_join_221 : decode cX3_join 221 = .ok (.istore 8, 2) := by decide +kernel
theorem dX3_join_223 : decode cX3_join 223 = .ok (.aload_n 0, 1) := by decide +kernel
theorem dX3_join_224 : decode cX3_join 224 = .ok (.getfield 19, 3) := by decide +kernel
theorem dX3_join_227 : decode cX3_join 227 = .ok (.bipush 8, 2) := by decide +kernel
theorem dX3_join_229 : decode cX3_join 229 = .ok (.iload 6, 2) := by decide +kernel
theorem dX3_join_231 : decode cX3_join 231 = .ok (.imul, 1) := by decide +kernel
theorem dX3_join_232 : decode cX3_join 232 = .ok (.iload 7, 2) := by decide +kernel
theorem dX3_join_234 : decode cX3_join 234 = .ok (.iadd, 1) := by decide +kernel
theorem dX3_join_235 : decode cX3_join 235 = .ok (.aload_n 0, 1) := by decide +kernel
theorem dX3_join_236 : decode cX3_join 236 = .ok (.getfield 19, 3) := by decide +kernel
theorem dX3_join_239 : decode cX3_join 239 = .ok (.iload 8, 2) := by decide +kernel
theorem dX3_join_241 : decode cX3_join 241 = .ok (.laload, 1) := by decide +kernel
theorem dX3_join_242 : decode cX3_join 242 = .ok (.lastore, 1) := by decide +kernel
theorem dX3_join_243 : decode cX3_join 243 = .ok (.aload_n 0, 1) := by decide +kernel
theorem dX3_join_244 : decode cX3_join 244 = .ok (.getfield 23, 3) := by decide +kernel
theorem dX3_join_247 : decode cX3_join 247 = .ok (.bipush 8, 2) := by decide +kernel
theorem dX3_join_249 : decode cX3_join 249 = .ok (.iload 6, 2) := by decide +kernel
theorem dX3_join_251 : decode cX3_join 251 = .ok (.imul, 1) := by decide +kernel
theorem dX3_join_252 : decode cX3_join 252 = .ok (.iload 7, 2) := by decide +kernel
theorem dX3_join_254 : decode cX3_join 254 = .ok (.iadd, 1) := by decide +kernel
theorem dX3_join_255 : decode cX3_join 255 = .ok (.aload_n 0, 1) := by decide +kernel
theorem dX3_join_256 : decode cX3_join 256 = .ok (.getfield 23, 3) := by decide +kernel
theorem dX3_join_259 : decode cX3_join 259 = .ok (.iload 8, 2) := by decide +kernel
theorem dX3_join_261 : decode cX3_join 261 = .ok (.iaload, 1) := by decide +kernel
theorem dX3_join_262 : decode cX3_join 262 = .ok (.iastore, 1) := by decide +kernel
theorem dX3_join_263 : decode cX3_join 263 = .ok (.iinc 7 1, 3) := by decide +kernel
theorem dX3_join_266 : decode cX3_join 266 = .ok (.goto (-82), 3) := by decide +kernel
theorem dX3_join_269 : decode cX3_join 269 = .ok (.iload 6, 2) := by decide +kernel
theorem dX3_join_271 : decode cX3_join 271 = .ok (.ireturn, 1) := by decide +kernel
set_option maxRecDepth 20000 in
theorem ggX3_copy_X3_isOf : GoodIn wsX3_copy wsX3_isOf := goodIn_r _ [9, 1, 10, 11, 8, 12, 22, 23, 24, 25, 26, 27, 28, 29, 30, 31, 32, 33, 34] (by decide +kernel) (by decide +kernel)
set_option maxRecDepth 20000 in
theorem gX3_copy_X3_isOf : GoodIn wsX3_copy (wsV RX3 68 RX3 yX3_isOf wsX3_isOf) := goodIn_app (goodIn_of _ (by decide +kernel)) ggX3_copy_X3_isOf
set_option maxRecDepth 20000 in
theorem ggX3_copy_X3_with : GoodIn wsX3_copy wsX3_with := goodIn_r _ [15] (by decide +kernel) (by decide +kernel)
set_option maxRecDepth 20000 in
theorem gX3_copy_X3_with : GoodIn wsX3_copy (va_wsS RX3 75 yX3_with wsX3_with) := goodIn_app (goodIn_of _ (by decide +kernel)) ggX3_copy_X3_with
set_option maxRecDepth 20000 in
theorem ggX3_copy_X3_make : GoodIn wsX3_copy wsX3_make := goodIn_r _ [19, 20, 1, 2, 21, 3, 4, 22, 23, 24, 25, 26, 27, 28, 29, 30, 31, 32, 33, 34] (by decide +kernel) (by decide +kernel)
set_option maxRecDepth 20000 in
theorem gX3_copy_X3_make : GoodIn wsX3_copy (wsV RX3 53 RX3 yX3_make wsX3_make) := goodIn_app (goodIn_of _ (by decide +kernel)) ggX3_copy_X3_make
theorem dX3_copy_0 : decode cX3_copy 0 = .ok (.aload_n 0, 1) := by decide +kernel
theorem dX3_copy_1 : decode cX3_copy 1 = .ok (.iload_n 1, 1) := by decide +kernel
theorem dX3_copy_2 : decode cX3_copy 2 = .ok (.iconst 4, 1) := by decide +kernel
theorem dX3_copy_3 : decode cX3_copy 3 = .ok (.invokevirtual 68, 3) := by decide +kernel
theorem dX3_copy_6 : decode cX3_copy 6 = .ok (.ifCond .eq 8, 3) := by decide +kernel
theorem dX3_copy_9 : decode cX3_copy 9 = .ok (.iconst 1, 1) := by decide +kernel
theorem dX3_copy_10 : decode cX3_copy 10 = .ok (.invokestatic 75, 3) := by decide +kernel
theorem dX3_copy_13 : decode cX3_copy 13 = .ok (.ireturn, 1) := by decide +kernel
theorem dX3_copy_14 : decode cX3_copy 14 = .ok (.aload_n 0, 1) := by decide +kernel
theorem dX3_copy_15 : decode cX3_copy 15 = .ok (.aload_n 0, 1) := by decide +kernel
theorem dX3_copy_16 : decode cX3_copy 16 = .ok (.getfield 7, 3) := by decide +kernel
theorem dX3_copy_19 : decode cX3_copy 19 = .ok (.iload_n 1, 1) := by decide +kernel
theorem dX3_copy_20 : decode cX3_copy 20 = .ok (.iaload, 1) := by decide +kernel
theorem dX3_copy_21 : decode cX3_copy 21 = .ok (.aload_n 0, 1) := by decide +kernel
theorem dX3_copy_22 : decode cX3_copy 22 = .ok (.getfield 13, 3) := by decide +kernel
theorem dX3_copy_25 : decode cX3_copy 25 = .ok (.iload_n 1, 1) := by decide +kernel
theorem dX3_copy_26 : decode cX3_copy 26 = .ok (.iaload, 1) := by decide +kernel
theorem dX3_copy_27 : decode cX3_copy 27 = .ok (.invokevirtual 53, 3) := by decide +kernel
theorem dX3_copy_30 : decode cX3_copy 30 = .ok (.istore_n 2, 1) := by decide +kernel
theorem dX3_copy_31 : decode cX3_copy 31 = .ok (.iconst 0, 1) := by decide +kernel
theorem dX3_copy_32 : decode cX3_copy 32 = .ok (.istore_n 3, 1) := by decide +kernel
theorem dX3_copy_33 : decode cX3_copy 33 = .ok (.iload_n 3, 1) := by decide +kernel
theorem dX3_copy_34 : decode cX3_copy 34 = .ok (.bipush 8, 2) := by decide +kernel
theorem dX3_copy_36 : decode cX3_copy 36 = .ok (.if_icmp .ge 53, 3) := by decide +kernel
theorem dX3_copy_39 : decode cX3_copy 39 = .ok (.aload_n 0, 1) := by decide +kernel
theorem dX3_copy_40 : decode cX3_copy 40 = .ok (.getfield 19, 3) := by decide +kernel
theorem dX3_copy_43 : decode cX3_copy 43 = .ok (.bipush 8, 2) := by decide +kernel
theorem dX3_copy_45 : decode cX3_copy 45 = .ok (.iload_n 2, 1) := by decide +kernel
theorem dX3_copy_46 : decode cX3_copy 46 = .ok (.imul, 1) := by decide +kernel
theorem dX3_copy_47 : decode cX3_copy 47 = .ok (.iload_n 3, 1) := by decide +kernel
theorem dX3_copy_48 : decode cX3_copy 48 = .ok (.iadd, 1) := by decide +kernel
theorem dX3_copy_49 : decode cX3_copy 49 = .ok (.aload_n 0, 1) := by decide +kernel
theorem dX3_copy_50 : decode cX3_copy 50 = .ok (.getfield 19, 3) := by decide +kernel
theorem dX3_copy_53 : decode cX3_copy 53 = .ok (.bipush 8, 2) := by decide +kernel
theorem dX3_copy_55 : decode cX3_copy 55 = .ok (.iload_n 1, 1) := by decide +kernel
theorem dX3_copy_56 : decode cX3_copy 56 = .ok (.imul, 1) := by decide +kernel
theorem dX3_copy_57 : decode cX3_copy 57 = .ok (.iload_n 3, 1) := by decide +kernel
theorem dX3_copy_58 : decode cX3_copy 58 = .ok (.iadd, 1) := by decide +kernel
theorem dX3_copy_59 : decode cX3_copy 59 = .ok (.laload, 1) := by decide +kernel
theorem dX3_copy_60 : decode cX3_copy 60 = .ok (.lastore, 1) := by decide +kernel
theorem dX3_copy_61 : decode cX3_copy 61 = .ok (.aload_n 0, 1) := by decide +kernel
theorem dX3_copy_62 : decode cX3_copy 62 = .ok (.getfield 23, 3) := by decide +kernel
theorem dX3_copy_65 : decode cX3_copy 65 = .ok (.bipush 8, 2) := by decide +kernel
theorem dX3_copy_67 : decode cX3_copy 67 = .ok (.iload_n 2, 1) := by decide +kernel
theorem dX3_copy_68 : decode cX3_copy 68 = .ok (.imul, 1) := by decide +kernel
theorem dX3_copy_69 : decode cX3_copy 69 = .ok (.iload_n 3, 1) := by decide +kernel
theorem dX3_copy_70 : decode cX3_copy 70 = .ok (.iadd, 1) := by decide +kernel
theorem dX3_copy_71 : decode cX3_copy 71 = .ok (.aload_n 0, 1) := by decide +kernel
theorem dX3_copy_72 : decode cX3_copy 72 = .ok (.getfield 23, 3) := by decide +kernel
theorem dX3_copy_75 : decode cX3_copy 75 = .ok (.bipush 8, 2) := by decide +kernel
theorem dX3_copy_77 : decode cX3_copy 77 = .ok (.iload_n 1, 1) := by decide +kernel
theorem dX3_copy_78 : decode cX3_copy 78 = .ok (.imul, 1) := by decide +kernel
theorem dX3_copy_79 : decode cX3_copy 79 = .ok (.iload_n 3, 1) := by decide +kernel
theorem dX3_copy_80 : decode cX3_copy 80 = .ok (.iadd, 1) := by decide +kernel
theorem dX3_copy_81 : decode cX3_copy 81 = .ok (.iaload, 1) := by decide +kernel
theorem dX3_copy_82 : decode cX3_copy 82 = .ok (.iastore, 1) := by decide +kernel
theorem dX3_copy_83 : decode cX3_copy 83 = .ok (.iinc 3 1, 3) := by decide +kernel
theorem dX3_copy_86 : decode cX3_copy 86 = .ok (.goto (-53), 3) := by decide +kernel
theorem dX3_copy_89 : decode cX3_copy 89 = .ok (.iload_n 2, 1) := by decide +kernel
theorem dX3_copy_90 : decode cX3_copy 90 = .ok (.ireturn, 1) := by decide +kernel
set_option maxRecDepth 20000 in
theorem ggX3_makes_X3_isIn : GoodIn wsX3_makes wsX3_isIn := goodIn_r _ [5] (by decide +kernel) (by decide +kernel)
set_option maxRecDepth 20000 in
theorem gX3_makes_X3_isIn : GoodIn wsX3_makes (va_wsS RX3 45 yX3_isIn wsX3_isIn) := goodIn_app (goodIn_of _ (by decide +kernel)) ggX3_makes_X3_isIn
set_option maxRecDepth 20000 in
theorem ggX3_makes_X3_isOf : GoodIn wsX3_makes wsX3_isOf := goodIn_r _ [9, 10, 11, 12, 4, 13, 14, 15, 16, 17, 18, 19, 20, 21, 22, 23, 24, 25, 26] (by decide +kernel) (by decide +kernel)
set_option maxRecDepth 20000 in
theorem gX3_makes_X3_isOf : GoodIn wsX3_makes (wsV RX3 68 RX3 yX3_isOf wsX3_isOf) := goodIn_app (goodIn_of _ (by decide +kernel)) ggX3_makes_X3_isOf
theorem dX3_makes_0 : decode cX3_makes 0 = .ok (.iload_n 1, 1) := by decide +kernel
theorem dX3_makes_1 : decode cX3_makes 1 = .ok (.iconst 0, 1) := by decide +kernel
theorem dX3_makes_2 : decode cX3_makes 2 = .ok (.iconst 2, 1) := by decide +kernel
theorem dX3_makes_3 : decode cX3_makes 3 = .ok (.invokestatic 45, 3) := by decide +kernel
theorem dX3_makes_6 : decode cX3_makes 6 = .ok (.ifCond .ne 13, 3) := by decide +kernel
theorem dX3_makes_9 : decode cX3_makes 9 = .ok (.iload_n 1, 1) := by decide +kernel
theorem dX3_makes_10 : decode cX3_makes 10 = .ok (.iconst 5, 1) := by decide +kernel
theorem dX3_makes_11 : decode cX3_makes 11 = .ok (.bipush 11, 2) := by decide +kernel
theorem dX3_makes_13 : decode cX3_makes 13 = .ok (.invokestatic 45, 3) := by decide +kernel
theorem dX3_makes_16 : decode cX3_makes 16 = .ok (.ifCond .eq 7, 3) := by decide +kernel
theorem dX3_makes_19 : decode cX3_makes 19 = .ok (.iconst 1, 1) := by decide +kernel
theorem dX3_makes_20 : decode cX3_makes 20 = .ok (.goto 4, 3) := by decide +kernel
theorem dX3_makes_23 : decode cX3_makes 23 = .ok (.iconst 0, 1) := by decide +kernel
theorem dX3_makes_24 : decode cX3_makes 24 = .ok (.istore_n 3, 1) := by decide +kernel
theorem dX3_makes_25 : decode cX3_makes 25 = .ok (.iload_n 3, 1) := by decide +kernel
theorem dX3_makes_26 : decode cX3_makes 26 = .ok (.ifCond .ne 7, 3) := by decide +kernel
theorem dX3_makes_29 : decode cX3_makes 29 = .ok (.iconst 0, 1) := by decide +kernel
theorem dX3_makes_30 : decode cX3_makes 30 = .ok (.goto 30, 3) := by decide +kernel
theorem dX3_makes_33 : decode cX3_makes 33 = .ok (.iload_n 1, 1) := by decide +kernel
theorem dX3_makes_34 : decode cX3_makes 34 = .ok (.bipush 6, 2) := by decide +kernel
theorem dX3_makes_36 : decode cX3_makes 36 = .ok (.if_icmp .ne 23, 3) := by decide +kernel
theorem dX3_makes_39 : decode cX3_makes 39 = .ok (.aload_n 0, 1) := by decide +kernel
theorem dX3_makes_40 : decode cX3_makes 40 = .ok (.iload_n 2, 1) := by decide +kernel
theorem dX3_makes_41 : decode cX3_makes 41 = .ok (.iconst 1, 1) := by decide +kernel
theorem dX3_makes_42 : decode cX3_makes 42 = .ok (.invokevirtual 68, 3) := by decide +kernel
theorem dX3_makes_45 : decode cX3_makes 45 = .ok (.ifCond .eq 14, 3) := by decide +kernel
theorem dX3_makes_48 : decode cX3_makes 48 = .ok (.aload_n 0, 1) := by decide +kernel
theorem dX3_makes_49 : decode cX3_makes 49 = .ok (.getfield 13, 3) := by decide +kernel
theorem dX3_makes_52 : decode cX3_makes 52 = .ok (.iload_n 2, 1) := by decide +kernel
theorem dX3_makes_53 : decode cX3_makes 53 = .ok (.iaload, 1) := by decide +kernel
theorem dX3_makes_54 : decode cX3_makes 54 = .ok (.iconst 1, 1) := by decide +kernel
theorem dX3_makes_55 : decode cX3_makes 55 = .ok (.iadd, 1) := by decide +kernel
theorem dX3_makes_56 : decode cX3_makes 56 = .ok (.goto 4, 3) := by decide +kernel
theorem dX3_makes_59 : decode cX3_makes 59 = .ok (.iconst 1, 1) := by decide +kernel
theorem dX3_makes_60 : decode cX3_makes 60 = .ok (.ireturn, 1) := by decide +kernel
set_option maxRecDepth 20000 in
theorem ggX3_work_X3_makes : GoodIn wsX3_work wsX3_makes := goodIn_r _ [6, 7, 8, 9, 5, 10, 11, 12, 13, 14, 15, 16, 17, 18, 88, 89, 90, 91, 92, 93, 94, 95, 96, 97, 98, 99, 100] (by decide +kernel) (by decide +kernel)
set_option maxRecDepth 20000 in
theorem gX3_work_X3_makes : GoodIn wsX3_work (wsV RX3 88 RX3 yX3_makes wsX3_makes) := goodIn_app (goodIn_of _ (by decide +kernel)) ggX3_work_X3_makes
set_option maxRecDepth 20000 in
theorem ggX3_work_X3_with : GoodIn wsX3_work wsX3_with := goodIn_r _ [21] (by decide +kernel) (by decide +kernel)
set_option maxRecDepth 20000 in
theorem gX3_work_X3_with : GoodIn wsX3_work (va_wsS RX3 75 yX3_with wsX3_with) := goodIn_app (goodIn_of _ (by decide +kernel)) ggX3_work_X3_with
set_option maxRecDepth 20000 in
theorem ggX3_work_X3_tap : GoodIn wsX3_work wsX3_tap := goodIn_r _ [25, 7, 26, 19, 20, 5, 21, 27, 28, 29, 30, 15, 8, 9, 10, 88, 89, 90, 91, 92, 93, 94, 95, 96, 97, 98, 99, 100] (by decide +kernel) (by decide +kernel)
set_option maxRecDepth 20000 in
theorem gX3_work_X3_tap : GoodIn wsX3_work (wsV RX3 91 RX3 yX3_tap wsX3_tap) := goodIn_app (goodIn_of _ (by decide +kernel)) ggX3_work_X3_tap
set_option maxRecDepth 20000 in
theorem ggX3_work_X3_lay : GoodIn wsX3_work wsX3_lay := goodIn_r _ [34, 15, 7, 26, 11, 12, 13, 5, 14, 16, 17, 18, 19, 20, 21, 27, 28, 29, 30, 8, 9, 10, 35, 36, 37, 38, 88, 89, 90, 91, 92, 93, 94, 95, 96, 97, 98, 99, 100] (by decide +kernel) (by decide +kernel)
set_option maxRecDepth 20000 in
theorem gX3_work_X3_lay : GoodIn wsX3_work (wsV RX3 94 RX3 yX3_lay wsX3_lay) := goodIn_app (goodIn_of _ (by decide +kernel)) ggX3_work_X3_lay
set_option maxRecDepth 20000 in
theorem ggX3_work_X3_isIn : GoodIn wsX3_work wsX3_isIn := goodIn_r _ [10] (by decide +kernel) (by decide +kernel)
set_option maxRecDepth 20000 in
theorem gX3_work_X3_isIn : GoodIn wsX3_work (va_wsS RX3 45 yX3_isIn wsX3_isIn) := goodIn_app (goodIn_of _ (by decide +kernel)) ggX3_work_X3_isIn
set_option maxRecDepth 20000 in
theorem ggX3_work_X3_make : GoodIn wsX3_work wsX3_make := goodIn_r _ [42, 1, 15, 7, 43, 44, 26, 88, 89, 90, 91, 92, 93, 94, 95, 96, 97, 98, 99, 100] (by decide +kernel) (by decide +kernel)
set_option maxRecDepth 20000 in
theorem gX3_work_X3_make : GoodIn wsX3_work (wsV RX3 53 RX3 yX3_make wsX3_make) := goodIn_app (goodIn_of _ (by decide +kernel)) ggX3_work_X3_make
set_option maxRecDepth 20000 in
theorem ggX3_work_X3_isOf : GoodIn wsX3_work wsX3_isOf := goodIn_r _ [14, 15, 16, 17, 5, 18, 88, 89, 90, 91, 92, 93, 94, 95, 96, 97, 98, 99, 100] (by decide +kernel) (by decide +kernel)
set_option maxRecDepth 20000 in
theorem gX3_work_X3_isOf : GoodIn wsX3_work (wsV RX3 68 RX3 yX3_isOf wsX3_isOf) := goodIn_app (goodIn_of _ (by decide +kernel)) ggX3_work_X3_isOf
set_option maxRecDepth 20000 in
theorem ggX3_work_X3_sum : GoodIn wsX3_work wsX3_sum := goodIn_r _ [48, 44, 15, 7, 26, 49, 50, 51, 5, 52, 39, 40, 41, 42, 1, 43, 53, 54, 55, 56, 19, 20, 21, 88, 89, 90, 91, 92, 93, 94, 95, 96, 97, 98, 99, 100] (by decide +kernel) (by decide +kernel)
set_option maxRecDepth 20000 in
theorem gX3_work_X3_sum : GoodIn wsX3_work (wsV RX3 98 RX3 yX3_sum wsX3_sum) := goodIn_app (goodIn_of _ (by decide +kernel)) ggX3_work_X3_sum
set_option maxRecDepth 20000 in
theorem ggX3_work_X3_turned : GoodIn wsX3_work wsX3_turned := goodIn_r _ [60, 15, 7, 44, 49, 50, 51, 5, 52, 8, 9, 10, 19, 20, 21, 39, 40, 41, 42, 1, 43, 26, 61, 62, 63, 88, 89, 90, 91, 92, 93, 94, 95, 96, 97, 98, 99, 100] (by decide +kernel) (by decide +kernel)
set_option maxRecDepth 20000 in
theorem gX3_work_X3_turned : GoodIn wsX3_work (wsV RX3 101 RX3 yX3_turned wsX3_turned) := goodIn_app (goodIn_of _ (by decide +kernel)) ggX3_work_X3_turned
set_option maxRecDepth 20000 in
theorem ggX3_work_X3_levelsOf : GoodIn wsX3_work wsX3_levelsOf := goodIn_r _ [67, 7, 26, 44, 43, 39, 40, 41, 5, 42, 1, 15, 88, 89, 90, 91, 92, 93, 94, 95, 96, 97, 98, 99, 100] (by decide +kernel) (by decide +kernel)
set_option maxRecDepth 20000 in
theorem gX3_work_X3_levelsOf : GoodIn wsX3_work (wsV RX3 85 RX3 yX3_levelsOf wsX3_levelsOf) := goodIn_app (goodIn_of _ (by decide +kernel)) ggX3_work_X3_levelsOf
set_option maxRecDepth 20000 in
theorem ggX3_work_X3_drive : GoodIn wsX3_work wsX3_drive := goodIn_r _ [71, 15, 1, 7, 43, 44, 26, 19, 20, 5, 21, 39, 40, 41, 42, 88, 89, 90, 91, 92, 93, 94, 95, 96, 97, 98, 99, 100] (by decide +kernel) (by decide +kernel)
set_option maxRecDepth 20000 in
theorem gX3_work_X3_drive : GoodIn wsX3_work (wsV RX3 104 RX3 yX3_drive wsX3_drive) := goodIn_app (goodIn_of _ (by decide +kernel)) ggX3_work_X3_drive
set_option maxRecDepth 20000 in
theorem ggX3_work_X3_pair : GoodIn wsX3_work wsX3_pair := goodIn_r _ [75, 26, 11, 12, 13, 5, 14, 15, 16, 17, 18, 19, 20, 21, 39, 40, 41, 42, 1, 7, 43, 44, 88, 89, 90, 91, 92, 93, 94, 95, 96, 97, 98, 99, 100] (by decide +kernel) (by decide +kernel)
set_option maxRecDepth 20000 in
theorem gX3_work_X3_pair : GoodIn wsX3_work (wsV RX3 107 RX3 yX3_pair wsX3_pair) := goodIn_app (goodIn_of _ (by decide +kernel)) ggX3_work_X3_pair
set_option maxRecDepth 20000 in
theorem ggX3_work_X3_power : GoodIn wsX3_work wsX3_power := goodIn_r _ [79, 15, 44, 43, 39, 40, 41, 5, 42, 1, 7, 26, 11, 12, 13, 14, 16, 17, 18, 64, 65, 66, 67, 19, 20, 21, 88, 89, 90, 91, 92, 93, 94, 95, 96, 97, 98, 99, 100] (by decide +kernel) (by decide +kernel)
set_option maxRecDepth 20000 in
theorem gX3_work_X3_power : GoodIn wsX3_work (wsV RX3 110 RX3 yX3_power wsX3_power) := goodIn_app (goodIn_of _ (by decide +kernel)) ggX3_work_X3_power
set_option maxRecDepth 20000 in
theorem ggX3_work_X3_join : GoodIn wsX3_work wsX3_join := goodIn_r _ [83, 15, 7, 26, 44, 11, 12, 13, 5, 14, 16, 17, 18, 49, 50, 51, 52, 19, 20, 21, 35, 36, 37, 38, 39, 40, 41, 42, 1, 43, 88, 89, 90, 91, 92, 93, 94, 95, 96, 97, 98, 99, 100] (by decide +kernel) (by decide +kernel)
set_option maxRecDepth 20000 in
theorem gX3_work_X3_join : GoodIn wsX3_work (wsV RX3 113 RX3 yX3_join wsX3_join) := goodIn_app (goodIn_of _ (by decide +kernel)) ggX3_work_X3_join
set_option maxRecDepth 20000 in
theorem ggX3_work_X3_copy : GoodIn wsX3_work wsX3_copy := goodIn_r _ [87, 15, 7, 44, 26, 11, 12, 13, 5, 14, 16, 17, 18, 19, 20, 21, 39, 40, 41, 42, 1, 43, 88, 89, 90, 91, 92, 93, 94, 95, 96, 97, 98, 99, 100] (by decide +kernel) (by decide +kernel)
set_option maxRecDepth 20000 in
theorem gX3_work_X3_copy : GoodIn wsX3_work (wsV RX3 116 RX3 yX3_copy wsX3_copy) := goodIn_app (goodIn_of _ (by decide +kernel)) ggX3_work_X3_copy
theorem dX3_work_0 : decode cX3_work 0 = .ok (.aload_n 0, 1) := by decide +kernel
theorem dX3_work_1 : decode cX3_work 1 = .ok (.getfield 42, 3) := by decide +kernel
theorem dX3_work_4 : decode cX3_work 4 = .ok (.aload_n 0, 1) := by decide +kernel
theorem dX3_work_5 : decode cX3_work 5 = .ok (.iload_n 1, 1) := by decide +kernel
theorem dX3_work_6 : decode cX3_work 6 = .ok (.iload_n 2, 1) := by decide +kernel
theorem dX3_work_7 : decode cX3_work 7 = .ok (.invokevirtual 88, 3) := by decide +kernel
theorem dX3_work_10 : decode cX3_work 10 = .ok (.iadd, 1) := by decide +kernel
theorem dX3_work_11 : decode cX3_work 11 = .ok (.bipush 60, 2) := by decide +kernel
theorem dX3_work_13 : decode cX3_work 13 = .ok (.if_icmp .le 9, 3) := by decide +kernel
theorem dX3_work_16 : decode cX3_work 16 = .ok (.bipush 6, 2) := by decide +kernel
theorem dX3_work_18 : decode cX3_work 18 = .ok (.invokestatic 75, 3) := by decide +kernel
theorem dX3_work_21 : decode cX3_work 21 = .ok (.ireturn, 1) := by decide +kernel
theorem dX3_work_22 : decode cX3_work 22 = .ok (.iload_n 1, 1) := by decide +kernel
theorem dX3_work_23 : decode cX3_work 23 = .ok (.iconst 3, 1) := by decide +kernel
theorem dX3_work_24 : decode cX3_work 24 = .ok (.if_icmp .ne 11, 3) := by decide +kernel
theorem dX3_work_27 : decode cX3_work 27 = .ok (.aload_n 0, 1) := by decide +kernel
theorem dX3_work_28 : decode cX3_work 28 = .ok (.iload_n 2, 1) := by decide +kernel
theorem dX3_work_29 : decode cX3_work 29 = .ok (.iload 4, 2) := by decide +kernel
theorem dX3_work_31 : decode cX3_work 31 = .ok (.invokevirtual 91, 3) := by decide +kernel
theorem dX3_work_34 : decode cX3_work 34 = .ok (.ireturn, 1) := by decide +kernel
theorem dX3_work_35 : decode cX3_work 35 = .ok (.iload_n 1, 1) := by decide +kernel
theorem dX3_work_36 : decode cX3_work 36 = .ok (.iconst 4, 1) := by decide +kernel
theorem dX3_work_37 : decode cX3_work 37 = .ok (.if_icmp .ne 12, 3) := by decide +kernel
theorem dX3_work_40 : decode cX3_work 40 = .ok (.aload_n 0, 1) := by decide +kernel
theorem dX3_work_41 : decode cX3_work 41 = .ok (.iload_n 2, 1) := by decide +kernel
theorem dX3_work_42 : decode cX3_work 42 = .ok (.iload_n 3, 1) := by decide +kernel
theorem dX3_work_43 : decode cX3_work 43 = .ok (.iload 4, 2) := by decide +kernel
theorem dX3_work_45 : decode cX3_work 45 = .ok (.invokevirtual 94, 3) := by decide +kernel
theorem dX3_work_48 : decode cX3_work 48 = .ok (.ireturn, 1) := by decide +kernel
theorem dX3_work_49 : decode cX3_work 49 = .ok (.iload_n 1, 1) := by decide +kernel
theorem dX3_work_50 : decode cX3_work 50 = .ok (.bipush 11, 2) := by decide +kernel
theorem dX3_work_52 : decode cX3_work 52 = .ok (.if_icmp .ne 30, 3) := by decide +kernel
theorem dX3_work_55 : decode cX3_work 55 = .ok (.iload 4, 2) := by decide +kernel
theorem dX3_work_57 : decode cX3_work 57 = .ok (.iconst 0, 1) := by decide +kernel
theorem dX3_work_58 : decode cX3_work 58 = .ok (.bipush 8, 2) := by decide +kernel
theorem dX3_work_60 : decode cX3_work 60 = .ok (.invokestatic 45, 3) := by decide +kernel
theorem dX3_work_63 : decode cX3_work 63 = .ok (.ifCond .eq 14, 3) := by decide +kernel
theorem dX3_work_66 : decode cX3_work 66 = .ok (.aload_n 0, 1) := by decide +kernel
theorem dX3_work_67 : decode cX3_work 67 = .ok (.bipush 6, 2) := by decide +kernel
theorem dX3_work_69 : decode cX3_work 69 = .ok (.iload 4, 2) := by decide +kernel
theorem dX3_work_71 : decode cX3_work 71 = .ok (.invokevirtual 53, 3) := by decide +kernel
theorem dX3_work_74 : decode cX3_work 74 = .ok (.goto 7, 3) := by decide +kernel
theorem dX3_work_77 : decode cX3_work 77 = .ok (.iconst 5, 1) := by decide +kernel
theorem dX3_work_78 : decode cX3_work 78 = .ok (.invokestatic 75, 3) := by decide +kernel
theorem dX3_work_81 : decode cX3_work 81 = .ok (.ireturn, 1) := by decide +kernel
theorem dX3_work_82 : decode cX3_work 82 = .ok (.iload_n 1, 1) := by decide +kernel
theorem dX3_work_83 : decode cX3_work 83 = .ok (.bipush 12, 2) := by decide +kernel
theorem dX3_work_85 : decode cX3_work 85 = .ok (.if_icmp .ne 38, 3) := by decide +kernel
theorem dX3_work_88 : decode cX3_work 88 = .ok (.iload 4, 2) := by decide +kernel
theorem dX3_work_90 : decode cX3_work 90 = .ok (.iconst 0, 1) := by decide +kernel
theorem dX3_work_91 : decode cX3_work 91 = .ok (.bipush 11, 2) := by decide +kernel
theorem dX3_work_93 : decode cX3_work 93 = .ok (.invokestatic 45, 3) := by decide +kernel
theorem dX3_work_96 : decode cX3_work 96 = .ok (.ifCond .eq 22, 3) := by decide +kernel
theorem dX3_work_99 : decode cX3_work 99 = .ok (.iload_n 2, 1) := by decide +kernel
theorem dX3_work_100 : decode cX3_work 100 = .ok (.iconst (-1), 1) := by decide +kernel
theorem dX3_work_101 : decode cX3_work 101 = .ok (.if_icmp .eq 13, 3) := by decide +kernel
theorem dX3_work_104 : decode cX3_work 104 = .ok (.aload_n 0, 1) := by decide +kernel
theorem dX3_work_105 : decode cX3_work 105 = .ok (.iload_n 2, 1) := by decide +kernel
theorem dX3_work_106 : decode cX3_work 106 = .ok (.iload 4, 2) := by decide +kernel
theorem dX3_work_108 : decode cX3_work 108 = .ok (.invokevirtual 68, 3) := by decide +kernel
theorem dX3_work_111 : decode cX3_work 111 = .ok (.ifCond .eq 7, 3) := by decide +kernel
theorem dX3_work_114 : decode cX3_work 114 = .ok (.iload_n 2, 1) := by decide +kernel
theorem dX3_work_115 : decode cX3_work 115 = .ok (.goto 7, 3) := by decide +kernel
theorem dX3_work_118 : decode cX3_work 118 = .ok (.iconst 1, 1) := by decide +kernel
theorem dX3_work_119 : decode cX3_work 119 = .ok (.invokestatic 75, 3) := by decide +kernel
theorem dX3_work_122 : decode cX3_work 122 = .ok (.ireturn, 1) := by decide +kernel
theorem dX3_work_123 : decode cX3_work 123 = .ok (.iload_n 2, 1) := by decide +kernel
theorem dX3_work_124 : decode cX3_work 124 = .ok (.iconst (-1), 1) := by decide +kernel
theorem dX3_work_125 : decode cX3_work 125 = .ok (.if_icmp .ne 20, 3) := by decide +kernel
theorem dX3_work_128 : decode cX3_work 128 = .ok (.iload_n 1, 1) := by decide +kernel
theorem dX3_work_129 : decode cX3_work 129 = .ok (.bipush 7, 2) := by decide +kernel
theorem dX3_work_131 : decode cX3_work 131 = .ok (.if_icmp .eq 14, 3) := by decide +kernel
theorem dX3_work_134 : decode cX3_work 134 = .ok (.iload_n 1, 1) := by decide +kernel
theorem dX3_work_135 : decode cX3_work 135 = .ok (.bipush 9, 2) := by decide +kernel
theorem dX3_work_137 : decode cX3_work 137 = .ok (.if_icmp .eq 8, 3) := by decide +kernel
theorem dX3_work_140 : decode cX3_work 140 = .ok (.iconst 2, 1) := by decide +kernel
theorem dX3_work_141 : decode cX3_work 141 = .ok (.invokestatic 75, 3) := by decide +kernel
theorem dX3_work_144 : decode cX3_work 144 = .ok (.ireturn, 1) := by decide +kernel
theorem dX3_work_145 : decode cX3_work 145 = .ok (.iload_n 1, 1) := by decide +kernel
theorem dX3_work_146 : decode cX3_work 146 = .ok (.tableswitch 138 0 9 #[54, 60, 67, 138, 138, 74, 108, 116, 125, 131], 54) := by decide +kernel
theorem dX3_work_200 : decode cX3_work 200 = .ok (.aload_n 0, 1) := by decide +kernel
theorem dX3_work_201 : decode cX3_work 201 = .ok (.iload_n 2, 1) := by decide +kernel
theorem dX3_work_202 : decode cX3_work 202 = .ok (.invokevirtual 98, 3) := by decide +kernel
theorem dX3_work_205 : decode cX3_work 205 = .ok (.ireturn, 1) := by decide +kernel
theorem dX3_work_206 : decode cX3_work 206 = .ok (.aload_n 0, 1) := by decide +kernel
theorem dX3_work_207 : decode cX3_work 207 = .ok (.iload_n 2, 1) := by decide +kernel
theorem dX3_work_208 : decode cX3_work 208 = .ok (.iconst 1, 1) := by decide +kernel
theorem dX3_work_209 : decode cX3_work 209 = .ok (.invokevirtual 101, 3) := by decide +kernel
theorem dX3_work_212 : decode cX3_work 212 = .ok (.ireturn, 1) := by decide +kernel
theorem dX3_work_213 : decode cX3_work 213 = .ok (.aload_n 0, 1) := by decide +kernel
theorem dX3_work_214 : decode cX3_work 214 = .ok (.iload_n 2, 1) := by decide +kernel
theorem dX3_work_215 : decode cX3_work 215 = .ok (.iconst (-1), 1) := by decide +kernel
theorem dX3_work_216 : decode cX3_work 216 = .ok (.invokevirtual 101, 3) := by decide +kernel
theorem dX3_work_219 : decode cX3_work 219 = .ok (.ireturn, 1) := by decide +kernel
theorem dX3_work_220 : decode cX3_work 220 = .ok (.aload_n 0, 1) := by decide +kernel
theorem dX3_work_221 : decode cX3_work 221 = .ok (.iload_n 2, 1) := by decide +kernel
theorem dX3_work_222 : decode cX3_work 222 = .ok (.bipush 6, 2) := by decide +kernel
theorem dX3_work_224 : decode cX3_work 224 = .ok (.invokevirtual 68, 3) := by decide +kernel
theorem dX3_work_227 : decode cX3_work 227 = .ok (.ifCond .ne 13, 3) := by decide +kernel
theorem dX3_work_230 : decode cX3_work 230 = .ok (.aload_n 0, 1) := by decide +kernel
theorem dX3_work_231 : decode cX3_work 231 = .ok (.iload_n 2, 1) := by decide +kernel
theorem dX3_work_232 : decode cX3_work 232 = .ok (.bipush 8, 2) := by decide +kernel
theorem dX3_work_234 : decode cX3_work 234 = .ok (.invokevirtual 68, 3) := by decide +kernel
theorem dX3_work_237 : decode cX3_work 237 = .ok (.ifCond .eq 12, 3) := by decide +kernel
theorem dX3_work_240 : decode cX3_work 240 = .ok (.aload_n 0, 1) := by decide +kernel
theorem dX3_work_241 : decode cX3_work 241 = .ok (.iload_n 2, 1) := by decide +kernel
theorem dX3_work_242 : decode cX3_work 242 = .ok (.iconst 1, 1) := by decide +kernel
theorem dX3_work_243 : decode cX3_work 243 = .ok (.invokevirtual 85, 3) := by decide +kernel
theorem dX3_work_246 : decode cX3_work 246 = .ok (.goto 7, 3) := by decide +kernel
theorem dX3_work_249 : decode cX3_work 249 = .ok (.iconst 1, 1) := by decide +kernel
theorem dX3_work_250 : decode cX3_work 250 = .ok (.invokestatic 75, 3) := by decide +kernel
theorem dX3_work_253 : decode cX3_work 253 = .ok (.ireturn, 1) := by decide +kernel
theorem dX3_work_254 : decode cX3_work 254 = .ok (.aload_n 0, 1) := by decide +kernel
theorem dX3_work_255 : decode cX3_work 255 = .ok (.iload_n 2, 1) := by decide +kernel
theorem dX3_work_256 : decode cX3_work 256 = .ok (.iload 4, 2) := by decide +kernel
theorem dX3_work_258 : decode cX3_work 258 = .ok (.invokevirtual 104, 3) := by decide +kernel
theorem dX3_work_261 : decode cX3_work 261 = .ok (.ireturn, 1) := by decide +kernel
theorem dX3_work_262 : decode cX3_work 262 = .ok (.aload_n 0, 1) := by decide +kernel
theorem dX3_work_263 : decode cX3_work 263 = .ok (.iload_n 2, 1) := by decide +kernel
theorem dX3_work_264 : decode cX3_work 264 = .ok (.iload_n 3, 1) := by decide +kernel
theorem dX3_work_265 : decode cX3_work 265 = .ok (.iload 4, 2) := by decide +kernel
theorem dX3_work_267 : decode cX3_work 267 = .ok (.invokevirtual 107, 3) := by decide +kernel
theorem dX3_work_270 : decode cX3_work 270 = .ok (.ireturn, 1) := by decide +kernel
theorem dX3_work_271 : decode cX3_work 271 = .ok (.aload_n 0, 1) := by decide +kernel
theorem dX3_work_272 : decode cX3_work 272 = .ok (.iload_n 2, 1) := by decide +kernel
theorem dX3_work_273 : decode cX3_work 273 = .ok (.invokevirtual 110, 3) := by decide +kernel
theorem dX3_work_276 : decode cX3_work 276 = .ok (.ireturn, 1) := by decide +kernel
theorem dX3_work_277 : decode cX3_work 277 = .ok (.aload_n 0, 1) := by decide +kernel
theorem dX3_work_278 : decode cX3_work 278 = .ok (.iload_n 2, 1) := by decide +kernel
theorem dX3_work_279 : decode cX3_work 279 = .ok (.iload_n 3, 1) := by decide +kernel
theorem dX3_work_280 : decode cX3_work 280 = .ok (.invokevirtual 113, 3) := by decide +kernel
theorem dX3_work_283 : decode cX3_work 283 = .ok (.ireturn, 1) := by decide +kernel
theorem dX3_work_284 : decode cX3_work 284 = .ok (.aload_n 0, 1) := by decide +kernel
theorem dX3_work_285 : decode cX3_work 285 = .ok (.iload_n 2, 1) := by decide +kernel
theorem dX3_work_286 : decode cX3_work 286 = .ok (.invokevirtual 116, 3) := by decide +kernel
theorem dX3_work_289 : decode cX3_work 289 = .ok (.ireturn, 1) := by decide +kernel
theorem dX3_noted_0 : decode cX3_noted 0 = .ok (.iload_n 1, 1) := by decide +kernel
theorem dX3_noted_1 : decode cX3_noted 1 = .ok (.bipush (-10), 2) := by decide +kernel
theorem dX3_noted_3 : decode cX3_noted 3 = .ok (.if_icmp .ge 21, 3) := by decide +kernel
theorem dX3_noted_6 : decode cX3_noted 6 = .ok (.aload_n 0, 1) := by decide +kernel
theorem dX3_noted_7 : decode cX3_noted 7 = .ok (.dup, 1) := by decide +kernel
theorem dX3_noted_8 : decode cX3_noted 8 = .ok (.getfield 119, 3) := by decide +kernel
theorem dX3_noted_11 : decode cX3_noted 11 = .ok (.iconst 1, 1) := by decide +kernel
theorem dX3_noted_12 : decode cX3_noted 12 = .ok (.iadd, 1) := by decide +kernel
theorem dX3_noted_13 : decode cX3_noted 13 = .ok (.putfield 119, 3) := by decide +kernel
theorem dX3_noted_16 : decode cX3_noted 16 = .ok (.aload_n 0, 1) := by decide +kernel
theorem dX3_noted_17 : decode cX3_noted 17 = .ok (.bipush (-10), 2) := by decide +kernel
theorem dX3_noted_19 : decode cX3_noted 19 = .ok (.iload_n 1, 1) := by decide +kernel
theorem dX3_noted_20 : decode cX3_noted 20 = .ok (.isub, 1) := by decide +kernel
theorem dX3_noted_21 : decode cX3_noted 21 = .ok (.putfield 122, 3) := by decide +kernel
theorem dX3_noted_24 : decode cX3_noted 24 = .ok (.iload_n 1, 1) := by decide +kernel
theorem dX3_noted_25 : decode cX3_noted 25 = .ok (.ireturn, 1) := by decide +kernel
set_option maxRecDepth 20000 in
theorem ggX3_act_X3_isIn : GoodIn wsX3_act wsX3_isIn := goodIn_r _ [4] (by decide +kernel) (by decide +kernel)
set_option maxRecDepth 20000 in
theorem gX3_act_X3_isIn : GoodIn wsX3_act (va_wsS RX3 45 yX3_isIn wsX3_isIn) := goodIn_app (goodIn_of _ (by decide +kernel)) ggX3_act_X3_isIn
set_option maxRecDepth 20000 in
theorem ggX3_act_X3_mayBe : GoodIn wsX3_act wsX3_mayBe := goodIn_r _ [8, 9, 1, 2, 3, 4, 102, 103, 104, 105, 106, 107, 108, 109, 110, 111, 112, 113, 114] (by decide +kernel) (by decide +kernel)
set_option maxRecDepth 20000 in
theorem gX3_act_X3_mayBe : GoodIn wsX3_act (wsV RX3 125 RX3 yX3_mayBe wsX3_mayBe) := goodIn_app (goodIn_of _ (by decide +kernel)) ggX3_act_X3_mayBe
set_option maxRecDepth 20000 in
theorem ggX3_act_X3_work : GoodIn wsX3_act wsX3_work := goodIn_r _ [13, 9, 14, 15, 16, 3, 17, 18, 1, 2, 4, 19, 20, 21, 22, 23, 24, 25, 26, 27, 28, 29, 30, 31, 32, 33, 34, 35, 36, 37, 38, 39, 40, 41, 42, 43, 44, 45, 46, 47, 48, 49, 50, 51, 52, 53, 54, 55, 56, 57, 58, 59, 60, 61, 62, 63, 64, 65, 66, 67, 68, 69, 70, 71, 72, 73, 74, 75, 76, 77, 78, 79, 80, 81, 82, 83, 84, 85, 86, 87, 88, 89, 90, 91, 92, 93, 94, 95, 102, 103, 104, 105, 106, 107, 108, 109, 110, 111, 112, 113, 114] (by decide +kernel) (by decide +kernel)
set_option maxRecDepth 20000 in
theorem gX3_act_X3_work : GoodIn wsX3_act (wsV RX3 128 RX3 yX3_work wsX3_work) := goodIn_app (goodIn_of _ (by decide +kernel)) ggX3_act_X3_work
set_option maxRecDepth 20000 in
theorem ggX3_act_X3_noted : GoodIn wsX3_act wsX3_noted := goodIn_r _ [99, 100, 101, 102, 103, 104, 105, 106, 107, 108, 109, 110, 111, 112, 113, 114] (by decide +kernel) (by decide +kernel)
set_option maxRecDepth 20000 in
theorem gX3_act_X3_noted : GoodIn wsX3_act (wsV RX3 132 RX3 yX3_noted wsX3_noted) := goodIn_app (goodIn_of _ (by decide +kernel)) ggX3_act_X3_noted
theorem dX3_act_0 : decode cX3_act 0 = .ok (.iload_n 1, 1) := by decide +kernel
theorem dX3_act_1 : decode cX3_act 1 = .ok (.iconst 0, 1) := by decide +kernel
theorem dX3_act_2 : decode cX3_act 2 = .ok (.bipush 12, 2) := by decide +kernel
theorem dX3_act_4 : decode cX3_act 4 = .ok (.invokestatic 45, 3) := by decide +kernel
theorem dX3_act_7 : decode cX3_act 7 = .ok (.ifCond .eq 19, 3) := by decide +kernel
theorem dX3_act_10 : decode cX3_act 10 = .ok (.aload_n 0, 1) := by decide +kernel
theorem dX3_act_11 : decode cX3_act 11 = .ok (.iload_n 2, 1) := by decide +kernel
theorem dX3_act_12 : decode cX3_act 12 = .ok (.invokevirtual 125, 3) := by decide +kernel
theorem dX3_act_15 : decode cX3_act 15 = .ok (.ifCond .eq 11, 3) := by decide +kernel
theorem dX3_act_18 : decode cX3_act 18 = .ok (.aload_n 0, 1) := by decide +kernel
theorem dX3_act_19 : decode cX3_act 19 = .ok (.iload_n 3, 1) := by decide +kernel
theorem dX3_act_20 : decode cX3_act 20 = .ok (.invokevirtual 125, 3) := by decide +kernel
theorem dX3_act_23 : decode cX3_act 23 = .ok (.ifCond .ne 6, 3) := by decide +kernel
theorem dX3_act_26 : decode cX3_act 26 = .ok (.bipush (-3), 2) := by decide +kernel
theorem dX3_act_28 : decode cX3_act 28 = .ok (.ireturn, 1) := by decide +kernel
theorem dX3_act_29 : decode cX3_act 29 = .ok (.aload_n 0, 1) := by decide +kernel
theorem dX3_act_30 : decode cX3_act 30 = .ok (.aload_n 0, 1) := by decide +kernel
theorem dX3_act_31 : decode cX3_act 31 = .ok (.iload_n 1, 1) := by decide +kernel
theorem dX3_act_32 : decode cX3_act 32 = .ok (.iload_n 2, 1) := by decide +kernel
theorem dX3_act_33 : decode cX3_act 33 = .ok (.iload_n 3, 1) := by decide +kernel
theorem dX3_act_34 : decode cX3_act 34 = .ok (.iload 4, 2) := by decide +kernel
theorem dX3_act_36 : decode cX3_act 36 = .ok (.invokevirtual 128, 3) := by decide +kernel
theorem dX3_act_39 : decode cX3_act 39 = .ok (.invokevirtual 132, 3) := by decide +kernel
theorem dX3_act_42 : decode cX3_act 42 = .ok (.ireturn, 1) := by decide +kernel
set_option maxRecDepth 20000 in
theorem ggX3_step_X3_isIn : GoodIn wsX3_step wsX3_isIn := goodIn_r _ [8] (by decide +kernel) (by decide +kernel)
set_option maxRecDepth 20000 in
theorem gX3_step_X3_isIn : GoodIn wsX3_step (va_wsS RX3 45 yX3_isIn wsX3_isIn) := goodIn_app (goodIn_of _ (by decide +kernel)) ggX3_step_X3_isIn
set_option maxRecDepth 20000 in
theorem ggX3_step_X3_mayBe : GoodIn wsX3_step wsX3_mayBe := goodIn_r _ [12, 13, 5, 6, 7, 8, 14, 15, 16, 17, 18, 19, 20, 21, 22, 23, 24, 25, 26] (by decide +kernel) (by decide +kernel)
set_option maxRecDepth 20000 in
theorem gX3_step_X3_mayBe : GoodIn wsX3_step (wsV RX3 125 RX3 yX3_mayBe wsX3_mayBe) := goodIn_app (goodIn_of _ (by decide +kernel)) ggX3_step_X3_mayBe
theorem dX3_step_0 : decode cX3_step 0 = .ok (.iload_n 1, 1) := by decide +kernel
theorem dX3_step_1 : decode cX3_step 1 = .ok (.iconst 0, 1) := by decide +kernel
theorem dX3_step_2 : decode cX3_step 2 = .ok (.iconst 5, 1) := by decide +kernel
theorem dX3_step_3 : decode cX3_step 3 = .ok (.invokestatic 45, 3) := by decide +kernel
theorem dX3_step_6 : decode cX3_step 6 = .ok (.ifCond .eq 27, 3) := by decide +kernel
theorem dX3_step_9 : decode cX3_step 9 = .ok (.iload_n 2, 1) := by decide +kernel
theorem dX3_step_10 : decode cX3_step 10 = .ok (.iconst 0, 1) := by decide +kernel
theorem dX3_step_11 : decode cX3_step 11 = .ok (.bipush 12, 2) := by decide +kernel
theorem dX3_step_13 : decode cX3_step 13 = .ok (.invokestatic 45, 3) := by decide +kernel
theorem dX3_step_16 : decode cX3_step 16 = .ok (.ifCond .eq 17, 3) := by decide +kernel
theorem dX3_step_19 : decode cX3_step 19 = .ok (.iload_n 3, 1) := by decide +kernel
theorem dX3_step_20 : decode cX3_step 20 = .ok (.bipush (-2), 2) := by decide +kernel
theorem dX3_step_22 : decode cX3_step 22 = .ok (.if_icmp .eq 14, 3) := by decide +kernel
theorem dX3_step_25 : decode cX3_step 25 = .ok (.aload_n 0, 1) := by decide +kernel
theorem dX3_step_26 : decode cX3_step 26 = .ok (.iload_n 3, 1) := by decide +kernel
theorem dX3_step_27 : decode cX3_step 27 = .ok (.invokevirtual 125, 3) := by decide +kernel
theorem dX3_step_30 : decode cX3_step 30 = .ok (.ifCond .ne 6, 3) := by decide +kernel
theorem dX3_step_33 : decode cX3_step 33 = .ok (.bipush (-3), 2) := by decide +kernel
theorem dX3_step_35 : decode cX3_step 35 = .ok (.ireturn, 1) := by decide +kernel
theorem dX3_step_36 : decode cX3_step 36 = .ok (.aload_n 0, 1) := by decide +kernel
theorem dX3_step_37 : decode cX3_step 37 = .ok (.getfield 26, 3) := by decide +kernel
theorem dX3_step_40 : decode cX3_step 40 = .ok (.iload_n 1, 1) := by decide +kernel
theorem dX3_step_41 : decode cX3_step 41 = .ok (.iaload, 1) := by decide +kernel
theorem dX3_step_42 : decode cX3_step 42 = .ok (.bipush 12, 2) := by decide +kernel
theorem dX3_step_44 : decode cX3_step 44 = .ok (.if_icmp .ne 6, 3) := by decide +kernel
theorem dX3_step_47 : decode cX3_step 47 = .ok (.bipush (-4), 2) := by decide +kernel
theorem dX3_step_49 : decode cX3_step 49 = .ok (.ireturn, 1) := by decide +kernel
theorem dX3_step_50 : decode cX3_step 50 = .ok (.bipush 12, 2) := by decide +kernel
theorem dX3_step_52 : decode cX3_step 52 = .ok (.iload_n 1, 1) := by decide +kernel
theorem dX3_step_53 : decode cX3_step 53 = .ok (.imul, 1) := by decide +kernel
theorem dX3_step_54 : decode cX3_step 54 = .ok (.aload_n 0, 1) := by decide +kernel
theorem dX3_step_55 : decode cX3_step 55 = .ok (.getfield 26, 3) := by decide +kernel
theorem dX3_step_58 : decode cX3_step 58 = .ok (.iload_n 1, 1) := by decide +kernel
theorem dX3_step_59 : decode cX3_step 59 = .ok (.iaload, 1) := by decide +kernel
theorem dX3_step_60 : decode cX3_step 60 = .ok (.iadd, 1) := by decide +kernel
theorem dX3_step_61 : decode cX3_step 61 = .ok (.istore 5, 2) := by decide +kernel
theorem dX3_step_63 : decode cX3_step 63 = .ok (.aload_n 0, 1) := by decide +kernel
theorem dX3_step_64 : decode cX3_step 64 = .ok (.getfield 29, 3) := by decide +kernel
theorem dX3_step_67 : decode cX3_step 67 = .ok (.iload 5, 2) := by decide +kernel
theorem dX3_step_69 : decode cX3_step 69 = .ok (.iload_n 2, 1) := by decide +kernel
theorem dX3_step_70 : decode cX3_step 70 = .ok (.iastore, 1) := by decide +kernel
theorem dX3_step_71 : decode cX3_step 71 = .ok (.aload_n 0, 1) := by decide +kernel
theorem dX3_step_72 : decode cX3_step 72 = .ok (.getfield 32, 3) := by decide +kernel
theorem dX3_step_75 : decode cX3_step 75 = .ok (.iload 5, 2) := by decide +kernel
theorem dX3_step_77 : decode cX3_step 77 = .ok (.iload_n 3, 1) := by decide +kernel
theorem dX3_step_78 : decode cX3_step 78 = .ok (.iastore, 1) := by decide +kernel
theorem dX3_step_79 : decode cX3_step 79 = .ok (.aload_n 0, 1) := by decide +kernel
theorem dX3_step_80 : decode cX3_step 80 = .ok (.getfield 35, 3) := by decide +kernel
theorem dX3_step_83 : decode cX3_step 83 = .ok (.iload 5, 2) := by decide +kernel
theorem dX3_step_85 : decode cX3_step 85 = .ok (.iload 4, 2) := by decide +kernel
theorem dX3_step_87 : decode cX3_step 87 = .ok (.iastore, 1) := by decide +kernel
theorem dX3_step_88 : decode cX3_step 88 = .ok (.aload_n 0, 1) := by decide +kernel
theorem dX3_step_89 : decode cX3_step 89 = .ok (.getfield 26, 3) := by decide +kernel
theorem dX3_step_92 : decode cX3_step 92 = .ok (.iload_n 1, 1) := by decide +kernel
theorem dX3_step_93 : decode cX3_step 93 = .ok (.dup2, 1) := by decide +kernel
theorem dX3_step_94 : decode cX3_step 94 = .ok (.iaload, 1) := by decide +kernel
theorem dX3_step_95 : decode cX3_step 95 = .ok (.iconst 1, 1) := by decide +kernel
theorem dX3_step_96 : decode cX3_step 96 = .ok (.iadd, 1) := by decide +kernel
theorem dX3_step_97 : decode cX3_step 97 = .ok (.iastore, 1) := by decide +kernel
theorem dX3_step_98 : decode cX3_step 98 = .ok (.aload_n 0, 1) := by decide +kernel
theorem dX3_step_99 : decode cX3_step 99 = .ok (.getfield 26, 3) := by decide +kernel
theorem dX3_step_102 : decode cX3_step 102 = .ok (.iload_n 1, 1) := by decide +kernel
theorem dX3_step_103 : decode cX3_step 103 = .ok (.iaload, 1) := by decide +kernel
theorem dX3_step_104 : decode cX3_step 104 = .ok (.ireturn, 1) := by decide +kernel
set_option maxRecDepth 20000 in
theorem ggX3_play_X3_isIn : GoodIn wsX3_play wsX3_isIn := goodIn_r _ [9] (by decide +kernel) (by decide +kernel)
set_option maxRecDepth 20000 in
theorem gX3_play_X3_isIn : GoodIn wsX3_play (va_wsS RX3 45 yX3_isIn wsX3_isIn) := goodIn_app (goodIn_of _ (by decide +kernel)) ggX3_play_X3_isIn
set_option maxRecDepth 20000 in
theorem ggX3_play_X3_mayBe : GoodIn wsX3_play wsX3_mayBe := goodIn_r _ [13, 14, 6, 7, 8, 9, 107, 108, 109, 110, 111, 112, 113, 114, 115, 116, 117, 118, 119] (by decide +kernel) (by decide +kernel)
set_option maxRecDepth 20000 in
theorem gX3_play_X3_mayBe : GoodIn wsX3_play (wsV RX3 125 RX3 yX3_mayBe wsX3_mayBe) := goodIn_app (goodIn_of _ (by decide +kernel)) ggX3_play_X3_mayBe
set_option maxRecDepth 20000 in
theorem ggX3_play_X3_work : GoodIn wsX3_play wsX3_work := goodIn_r _ [18, 14, 19, 20, 21, 8, 22, 23, 6, 7, 9, 24, 25, 26, 27, 28, 29, 30, 31, 32, 33, 34, 35, 36, 37, 38, 39, 40, 41, 42, 43, 44, 45, 46, 47, 48, 49, 50, 51, 52, 53, 54, 55, 56, 57, 58, 59, 60, 61, 62, 63, 64, 65, 66, 67, 68, 69, 70, 71, 72, 73, 74, 75, 76, 77, 78, 79, 80, 81, 82, 83, 84, 85, 86, 87, 88, 89, 90, 91, 92, 93, 94, 95, 96, 97, 98, 99, 100, 107, 108, 109, 110, 111, 112, 113, 114, 115, 116, 117, 118, 119] (by decide +kernel) (by decide +kernel)
set_option maxRecDepth 20000 in
theorem gX3_play_X3_work : GoodIn wsX3_play (wsV RX3 128 RX3 yX3_work wsX3_work) := goodIn_app (goodIn_of _ (by decide +kernel)) ggX3_play_X3_work
set_option maxRecDepth 20000 in
theorem ggX3_play_X3_noted : GoodIn wsX3_play wsX3_noted := goodIn_r _ [104, 105, 106, 107, 108, 109, 110, 111, 112, 113, 114, 115, 116, 117, 118, 119] (by decide +kernel) (by decide +kernel)
set_option maxRecDepth 20000 in
theorem gX3_play_X3_noted : GoodIn wsX3_play (wsV RX3 132 RX3 yX3_noted wsX3_noted) := goodIn_app (goodIn_of _ (by decide +kernel)) ggX3_play_X3_noted
theorem dX3_play_0 : decode cX3_play 0 = .ok (.iload_n 1, 1) := by decide +kernel
theorem dX3_play_1 : decode cX3_play 1 = .ok (.iconst 0, 1) := by decide +kernel
theorem dX3_play_2 : decode cX3_play 2 = .ok (.iconst 5, 1) := by decide +kernel
theorem dX3_play_3 : decode cX3_play 3 = .ok (.invokestatic 45, 3) := by decide +kernel
theorem dX3_play_6 : decode cX3_play 6 = .ok (.ifCond .eq 11, 3) := by decide +kernel
theorem dX3_play_9 : decode cX3_play 9 = .ok (.aload_n 0, 1) := by decide +kernel
theorem dX3_play_10 : decode cX3_play 10 = .ok (.iload_n 2, 1) := by decide +kernel
theorem dX3_play_11 : decode cX3_play 11 = .ok (.invokevirtual 125, 3) := by decide +kernel
theorem dX3_play_14 : decode cX3_play 14 = .ok (.ifCond .ne 6, 3) := by decide +kernel
theorem dX3_play_17 : decode cX3_play 17 = .ok (.bipush (-3), 2) := by decide +kernel
theorem dX3_play_19 : decode cX3_play 19 = .ok (.ireturn, 1) := by decide +kernel
theorem dX3_play_20 : decode cX3_play 20 = .ok (.aload_n 0, 1) := by decide +kernel
theorem dX3_play_21 : decode cX3_play 21 = .ok (.iconst (-1), 1) := by decide +kernel
theorem dX3_play_22 : decode cX3_play 22 = .ok (.putfield 38, 3) := by decide +kernel
theorem dX3_play_25 : decode cX3_play 25 = .ok (.iload_n 2, 1) := by decide +kernel
theorem dX3_play_26 : decode cX3_play 26 = .ok (.istore_n 3, 1) := by decide +kernel
theorem dX3_play_27 : decode cX3_play 27 = .ok (.iconst 0, 1) := by decide +kernel
theorem dX3_play_28 : decode cX3_play 28 = .ok (.istore 4, 2) := by decide +kernel
theorem dX3_play_30 : decode cX3_play 30 = .ok (.iload 4, 2) := by decide +kernel
theorem dX3_play_32 : decode cX3_play 32 = .ok (.aload_n 0, 1) := by decide +kernel
theorem dX3_play_33 : decode cX3_play 33 = .ok (.getfield 26, 3) := by decide +kernel
theorem dX3_play_36 : decode cX3_play 36 = .ok (.iload_n 1, 1) := by decide +kernel
theorem dX3_play_37 : decode cX3_play 37 = .ok (.iaload, 1) := by decide +kernel
theorem dX3_play_38 : decode cX3_play 38 = .ok (.if_icmp .ge 93, 3) := by decide +kernel
theorem dX3_play_41 : decode cX3_play 41 = .ok (.aload_n 0, 1) := by decide +kernel
theorem dX3_play_42 : decode cX3_play 42 = .ok (.getfield 38, 3) := by decide +kernel
theorem dX3_play_45 : decode cX3_play 45 = .ok (.iconst (-1), 1) := by decide +kernel
theorem dX3_play_46 : decode cX3_play 46 = .ok (.if_icmp .ne 85, 3) := by decide +kernel
theorem dX3_play_49 : decode cX3_play 49 = .ok (.bipush 12, 2) := by decide +kernel
theorem dX3_play_51 : decode cX3_play 51 = .ok (.iload_n 1, 1) := by decide +kernel
theorem dX3_play_52 : decode cX3_play 52 = .ok (.imul, 1) := by decide +kernel
theorem dX3_play_53 : decode cX3_play 53 = .ok (.iload 4, 2) := by decide +kernel
theorem dX3_play_55 : decode cX3_play 55 = .ok (.iadd, 1) := by decide +kernel
theorem dX3_play_56 : decode cX3_play 56 = .ok (.istore 5, 2) := by decide +kernel
theorem dX3_play_58 : decode cX3_play 58 = .ok (.aload_n 0, 1) := by decide +kernel
theorem dX3_play_59 : decode cX3_play 59 = .ok (.getfield 32, 3) := by decide +kernel
theorem dX3_play_62 : decode cX3_play 62 = .ok (.iload 5, 2) := by decide +kernel
theorem dX3_play_64 : decode cX3_play 64 = .ok (.iaload, 1) := by decide +kernel
theorem dX3_play_65 : decode cX3_play 65 = .ok (.bipush (-2), 2) := by decide +kernel
theorem dX3_play_67 : decode cX3_play 67 = .ok (.if_icmp .ne 7, 3) := by decide +kernel
theorem dX3_play_70 : decode cX3_play 70 = .ok (.iload_n 2, 1) := by decide +kernel
theorem dX3_play_71 : decode cX3_play 71 = .ok (.goto 10, 3) := by decide +kernel
theorem dX3_play_74 : decode cX3_play 74 = .ok (.aload_n 0, 1) := by decide +kernel
theorem dX3_play_75 : decode cX3_play 75 = .ok (.getfield 32, 3) := by decide +kernel
theorem dX3_play_78 : decode cX3_play 78 = .ok (.iload 5, 2) := by decide +kernel
theorem dX3_play_80 : decode cX3_play 80 = .ok (.iaload, 1) := by decide +kernel
theorem dX3_play_81 : decode cX3_play 81 = .ok (.istore 6, 2) := by decide +kernel
theorem dX3_play_83 : decode cX3_play 83 = .ok (.aload_n 0, 1) := by decide +kernel
theorem dX3_play_84 : decode cX3_play 84 = .ok (.aload_n 0, 1) := by decide +kernel
theorem dX3_play_85 : decode cX3_play 85 = .ok (.aload_n 0, 1) := by decide +kernel
theorem dX3_play_86 : decode cX3_play 86 = .ok (.getfield 29, 3) := by decide +kernel
theorem dX3_play_89 : decode cX3_play 89 = .ok (.iload 5, 2) := by decide +kernel
theorem dX3_play_91 : decode cX3_play 91 = .ok (.iaload, 1) := by decide +kernel
theorem dX3_play_92 : decode cX3_play 92 = .ok (.iload_n 3, 1) := by decide +kernel
theorem dX3_play_93 : decode cX3_play 93 = .ok (.iload 6, 2) := by decide +kernel
theorem dX3_play_95 : decode cX3_play 95 = .ok (.aload_n 0, 1) := by decide +kernel
theorem dX3_play_96 : decode cX3_play 96 = .ok (.getfield 35, 3) := by decide +kernel
theorem dX3_play_99 : decode cX3_play 99 = .ok (.iload 5, 2) := by decide +kernel
theorem dX3_play_101 : decode cX3_play 101 = .ok (.iaload, 1) := by decide +kernel
theorem dX3_play_102 : decode cX3_play 102 = .ok (.invokevirtual 128, 3) := by decide +kernel
theorem dX3_play_105 : decode cX3_play 105 = .ok (.invokevirtual 132, 3) := by decide +kernel
theorem dX3_play_108 : decode cX3_play 108 = .ok (.istore_n 3, 1) := by decide +kernel
theorem dX3_play_109 : decode cX3_play 109 = .ok (.aload_n 0, 1) := by decide +kernel
theorem dX3_play_110 : decode cX3_play 110 = .ok (.iload_n 3, 1) := by decide +kernel
theorem dX3_play_111 : decode cX3_play 111 = .ok (.bipush (-10), 2) := by decide +kernel
theorem dX3_play_113 : decode cX3_play 113 = .ok (.if_icmp .ge 8, 3) := by decide +kernel
theorem dX3_play_116 : decode cX3_play 116 = .ok (.iload 4, 2) := by decide +kernel
theorem dX3_play_118 : decode cX3_play 118 = .ok (.goto 4, 3) := by decide +kernel
theorem dX3_play_121 : decode cX3_play 121 = .ok (.iconst (-1), 1) := by decide +kernel
theorem dX3_play_122 : decode cX3_play 122 = .ok (.putfield 38, 3) := by decide +kernel
theorem dX3_play_125 : decode cX3_play 125 = .ok (.iinc 4 1, 3) := by decide +kernel
theorem dX3_play_128 : decode cX3_play 128 = .ok (.goto (-98), 3) := by decide +kernel
theorem dX3_play_131 : decode cX3_play 131 = .ok (.iload_n 3, 1) := by decide +kernel
theorem dX3_play_132 : decode cX3_play 132 = .ok (.ireturn, 1) := by decide +kernel
theorem dX3_stopped_0 : decode cX3_stopped 0 = .ok (.aload_n 0, 1) := by decide +kernel
theorem dX3_stopped_1 : decode cX3_stopped 1 = .ok (.getfield 38, 3) := by decide +kernel
theorem dX3_stopped_4 : decode cX3_stopped 4 = .ok (.ireturn, 1) := by decide +kernel
set_option maxRecDepth 20000 in
theorem ggX3_empty_X3_isIn : GoodIn wsX3_empty wsX3_isIn := goodIn_r _ [5] (by decide +kernel) (by decide +kernel)
set_option maxRecDepth 20000 in
theorem gX3_empty_X3_isIn : GoodIn wsX3_empty (va_wsS RX3 45 yX3_isIn wsX3_isIn) := goodIn_app (goodIn_of _ (by decide +kernel)) ggX3_empty_X3_isIn
theorem dX3_empty_0 : decode cX3_empty 0 = .ok (.iload_n 1, 1) := by decide +kernel
theorem dX3_empty_1 : decode cX3_empty 1 = .ok (.iconst 0, 1) := by decide +kernel
theorem dX3_empty_2 : decode cX3_empty 2 = .ok (.iconst 5, 1) := by decide +kernel
theorem dX3_empty_3 : decode cX3_empty 3 = .ok (.invokestatic 45, 3) := by decide +kernel
theorem dX3_empty_6 : decode cX3_empty 6 = .ok (.ifCond .ne 6, 3) := by decide +kernel
theorem dX3_empty_9 : decode cX3_empty 9 = .ok (.bipush (-3), 2) := by decide +kernel
theorem dX3_empty_11 : decode cX3_empty 11 = .ok (.ireturn, 1) := by decide +kernel
theorem dX3_empty_12 : decode cX3_empty 12 = .ok (.aload_n 0, 1) := by decide +kernel
theorem dX3_empty_13 : decode cX3_empty 13 = .ok (.getfield 26, 3) := by decide +kernel
theorem dX3_empty_16 : decode cX3_empty 16 = .ok (.iload_n 1, 1) := by decide +kernel
theorem dX3_empty_17 : decode cX3_empty 17 = .ok (.iaload, 1) := by decide +kernel
theorem dX3_empty_18 : decode cX3_empty 18 = .ok (.istore_n 2, 1) := by decide +kernel
theorem dX3_empty_19 : decode cX3_empty 19 = .ok (.aload_n 0, 1) := by decide +kernel
theorem dX3_empty_20 : decode cX3_empty 20 = .ok (.getfield 26, 3) := by decide +kernel
theorem dX3_empty_23 : decode cX3_empty 23 = .ok (.iload_n 1, 1) := by decide +kernel
theorem dX3_empty_24 : decode cX3_empty 24 = .ok (.iconst 0, 1) := by decide +kernel
theorem dX3_empty_25 : decode cX3_empty 25 = .ok (.iastore, 1) := by decide +kernel
theorem dX3_empty_26 : decode cX3_empty 26 = .ok (.iload_n 2, 1) := by decide +kernel
theorem dX3_empty_27 : decode cX3_empty 27 = .ok (.ireturn, 1) := by decide +kernel
set_option maxRecDepth 20000 in
theorem ggX3_is_X3_isValue : GoodIn wsX3_is wsX3_isValue := goodIn_r _ [5, 6, 7, 8, 4, 9, 18, 19, 20, 21, 22, 23, 24, 25, 26, 27, 28, 29, 30] (by decide +kernel) (by decide +kernel)
set_option maxRecDepth 20000 in
theorem gX3_is_X3_isValue : GoodIn wsX3_is (wsV RX3 57 RX3 yX3_isValue wsX3_isValue) := goodIn_app (goodIn_of _ (by decide +kernel)) ggX3_is_X3_isValue
set_option maxRecDepth 20000 in
theorem ggX3_is_X3_isIn : GoodIn wsX3_is wsX3_isIn := goodIn_r _ [9] (by decide +kernel) (by decide +kernel)
set_option maxRecDepth 20000 in
theorem gX3_is_X3_isIn : GoodIn wsX3_is (va_wsS RX3 45 yX3_isIn wsX3_isIn) := goodIn_app (goodIn_of _ (by decide +kernel)) ggX3_is_X3_isIn
set_option maxRecDepth 20000 in
theorem ggX3_is_X3_isOf : GoodIn wsX3_is wsX3_isOf := goodIn_r _ [13, 14, 15, 16, 4, 17, 18, 19, 20, 21, 22, 23, 24, 25, 26, 27, 28, 29, 30] (by decide +kernel) (by decide +kernel)
set_option maxRecDepth 20000 in
theorem gX3_is_X3_isOf : GoodIn wsX3_is (wsV RX3 68 RX3 yX3_isOf wsX3_isOf) := goodIn_app (goodIn_of _ (by decide +kernel)) ggX3_is_X3_isOf
theorem dX3_is_0 : decode cX3_is 0 = .ok (.aload_n 0, 1) := by decide +kernel
theorem dX3_is_1 : decode cX3_is 1 = .ok (.iload_n 1, 1) := by decide +kernel
theorem dX3_is_2 : decode cX3_is 2 = .ok (.invokevirtual 57, 3) := by decide +kernel
theorem dX3_is_5 : decode cX3_is 5 = .ok (.ifCond .eq 13, 3) := by decide +kernel
theorem dX3_is_8 : decode cX3_is 8 = .ok (.iload_n 2, 1) := by decide +kernel
theorem dX3_is_9 : decode cX3_is 9 = .ok (.iconst 0, 1) := by decide +kernel
theorem dX3_is_10 : decode cX3_is 10 = .ok (.bipush 11, 2) := by decide +kernel
theorem dX3_is_12 : decode cX3_is 12 = .ok (.invokestatic 45, 3) := by decide +kernel
theorem dX3_is_15 : decode cX3_is 15 = .ok (.ifCond .ne 6, 3) := by decide +kernel
theorem dX3_is_18 : decode cX3_is 18 = .ok (.bipush (-3), 2) := by decide +kernel
theorem dX3_is_20 : decode cX3_is 20 = .ok (.ireturn, 1) := by decide +kernel
theorem dX3_is_21 : decode cX3_is 21 = .ok (.aload_n 0, 1) := by decide +kernel
theorem dX3_is_22 : decode cX3_is 22 = .ok (.iload_n 1, 1) := by decide +kernel
theorem dX3_is_23 : decode cX3_is 23 = .ok (.iload_n 2, 1) := by decide +kernel
theorem dX3_is_24 : decode cX3_is 24 = .ok (.invokevirtual 68, 3) := by decide +kernel
theorem dX3_is_27 : decode cX3_is 27 = .ok (.ifCond .eq 7, 3) := by decide +kernel
theorem dX3_is_30 : decode cX3_is 30 = .ok (.iconst 1, 1) := by decide +kernel
theorem dX3_is_31 : decode cX3_is 31 = .ok (.goto 4, 3) := by decide +kernel
theorem dX3_is_34 : decode cX3_is 34 = .ok (.iconst 0, 1) := by decide +kernel
theorem dX3_is_35 : decode cX3_is 35 = .ok (.ireturn, 1) := by decide +kernel
set_option maxRecDepth 20000 in
theorem ggX3_views_X3_isValue : GoodIn wsX3_views wsX3_isValue := goodIn_r _ [5, 6, 7, 8, 4, 9, 18, 19, 20, 21, 22, 23, 24, 25, 26, 27, 28, 29, 30] (by decide +kernel) (by decide +kernel)
set_option maxRecDepth 20000 in
theorem gX3_views_X3_isValue : GoodIn wsX3_views (wsV RX3 57 RX3 yX3_isValue wsX3_isValue) := goodIn_app (goodIn_of _ (by decide +kernel)) ggX3_views_X3_isValue
set_option maxRecDepth 20000 in
theorem ggX3_views_X3_isOf : GoodIn wsX3_views wsX3_isOf := goodIn_r _ [13, 14, 15, 16, 4, 17, 18, 19, 20, 21, 22, 23, 24, 25, 26, 27, 28, 29, 30] (by decide +kernel) (by decide +kernel)
set_option maxRecDepth 20000 in
theorem gX3_views_X3_isOf : GoodIn wsX3_views (wsV RX3 68 RX3 yX3_isOf wsX3_isOf) := goodIn_app (goodIn_of _ (by decide +kernel)) ggX3_views_X3_isOf
theorem dX3_views_0 : decode cX3_views 0 = .ok (.aload_n 0, 1) := by decide +kernel
